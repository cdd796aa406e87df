set_option maxHeartbeats 4000000 in
set_option maxRecDepth 100000 in
/-- Reader.endOfDigits(q) -/
theorem c_Rd_endOfDigits {l : Launch} {D : va_G} {dA : Nat → ClassId} {zz : (Nat → Nat) × (Nat → Nat)} (o tp pp nn ob nb : Nat) (dp ub pl : Int32) (i : Nat) (tb N : Nat) (f : Nat → Int32) (t : List Nat) (q : Nat) (hl : t.length ≤ N) (hN : N < 2 ^ 30) (ht : js_tx f t) (hq : q ≤ t.length) : jv_M l D dA zz y_Rd_endOfDigits b_Rd_endOfDigits 3 (some (FieldType.int)) 2 [.ref o, .int (nI q)] [(o, .inr (2, [.ref tp, .ref pp, .ref nn, .ref ob, .ref nb, .int dp, .int (nI i), .int ub, .int pl])), (tp, .inr (0, [.ref tb, .int (nI t.length)])), (tb, .inl (dA 0, N, .inl f))] (jv_pi fun r (_ : Unit) => r = nI (js_dg t (t.length - q) q)) (fun _ => [(o, .inr (2, [.ref tp, .ref pp, .ref nn, .ref ob, .ref nb, .int dp, .int (nI i), .int ub, .int pl])), (tp, .inr (0, [.ref tb, .int (nI t.length)])), (tb, .inl (dA 0, N, .inl f))]) 0 0 := by
  refine jv_M.of [(0, .ref o), (1, .int (nI q))] (by decide) (Nat.le_of_ble_eq_true rfl) rfl ?_
  intro pR eR sR mR belowR methR cR AR C hr hin
  obtain ⟨QR, hQ⟩ : ∃ QR, QR = jv_E D (jv_pi fun r (_ : Unit) => r = nI (js_dg t (t.length - q) q)) (fun _ => [(o, .inr (2, [.ref tp, .ref pp, .ref nn, .ref ob, .ref nb, .int dp, .int (nI i), .int ub, .int pl])), (tp, .inr (0, [.ref tb, .int (nI t.length)])), (tb, .inl (dA 0, N, .inl f))]) belowR ([.ref o, .int (nI q)] : List Value).toArray sR AR 0 0 := ⟨_, rfl⟩
  rw [← hQ]
  refine jv_iload_n C (jd D_Rd_endOfDigits 0 rfl) rfl 1 rfl ?_
  refine jv_istore_n C [(2, .int (nI q)), (0, .ref o), (1, .int (nI q))] (jd D_Rd_endOfDigits 1 rfl) rfl (by decide) rfl ?_
  have hL2 : ∀ (n : Nat) (j : Nat), q ≤ j → j ≤ t.length → t.length + 1 ≤ j + n → js_dg t (t.length - j) j = js_dg t (t.length - q) q → jv_V pR l eR (jv_rm 2 0 0) sR mR ([.ref o, .int (nI q)] : List Value).toArray belowR methR cR 0 0 QR D AR 3 [(o, .inr (2, [.ref tp, .ref pp, .ref nn, .ref ob, .ref nb, .int dp, .int (nI i), .int ub, .int pl])), (tp, .inr (0, [.ref tb, .int (nI t.length)])), (tb, .inl (dA 0, N, .inl f))] [(0, .ref o), (1, .int (nI q)), (2, .int (nI j))] 2 [] := by
    intro n
    induction n with
    | zero =>
      intro j h0 h1 h2
      exact absurd h2 (by omega)
    | succ n ih =>
      intro j hqj hj hm he
      refine jv_iload_n C (jd D_Rd_endOfDigits 2 rfl) rfl 2 rfl ?_
      refine jv_aload_n C (jd D_Rd_endOfDigits 3 rfl) rfl 0 rfl ?_
      refine jv_get C fl_Rd_9 0 rfl rfl (jd D_Rd_endOfDigits 4 rfl) ?_
      refine jv_callV (wr := [(o, .inr (2, [.ref tp, .ref pp, .ref nn, .ref ob, .ref nb, .int dp, .int (nI i), .int ub, .int pl]))]) C cl_Rd_78 (c_Tx_length tp tb N f t) [1, 2] [0] rfl rfl rfl rfl (by decide) rfl rfl 0 rfl ⟨Nat.le_of_ble_eq_true rfl, Nat.le_of_ble_eq_true rfl⟩ ⟨Nat.le_of_ble_eq_true rfl, Nat.le_of_ble_eq_true rfl⟩ rfl rfl (Nat.le_of_ble_eq_true rfl) (jd D_Rd_endOfDigits 5 rfl) (fun v1 _ k1 => ?_)
      obtain ⟨r1, rfl, k1⟩ := k1
      refine jv_fix [0, 1, 2] [(o, .inr (2, [.ref tp, .ref pp, .ref nn, .ref ob, .ref nb, .int dp, .int (nI i), .int ub, .int pl])), (tp, .inr (0, [.ref tb, .int (nI t.length)])), (tb, .inl (dA 0, N, .inl f))] [.int r1, .int (nI j)] 0 0 rfl rfl rfl (Nat.le_refl _) (Nat.le_refl _) ?_
      subst k1
      refine jv_icmp_ge (tgt := 33) C (jd D_Rd_endOfDigits 6 rfl) (by decide) (fun c10 => ?_) (fun c10 => ?_)
      · refine jv_iload_n C (jd D_Rd_endOfDigits 15 rfl) rfl 2 rfl ?_
        rw [hQ]
        exact jv_iret C hr () (by rw [← he, show t.length - j = 0 from (by have := (nI_leI (a := t.length) (b := j) (by omega) (by omega)).mp c10; omega), js_dg]) rfl [0, 1, 2] rfl rfl (Nat.le_of_ble_eq_true rfl) (Nat.le_of_ble_eq_true rfl) (jd D_Rd_endOfDigits 16 rfl)
      · have hlt : j < t.length := by
          rcases Nat.lt_or_ge j t.length with y | y
          · exact y
          · exact absurd (nI_le y (by omega)) c10
        refine jv_aload_n C (jd D_Rd_endOfDigits 7 rfl) rfl 0 rfl ?_
        refine jv_get C fl_Rd_9 0 rfl rfl (jd D_Rd_endOfDigits 8 rfl) ?_
        refine jv_iload_n C (jd D_Rd_endOfDigits 9 rfl) rfl 2 rfl ?_
        refine jv_callV (wr := [(o, .inr (2, [.ref tp, .ref pp, .ref nn, .ref ob, .ref nb, .int dp, .int (nI i), .int ub, .int pl]))]) C cl_Rd_50 (c_Tx_at tp tb N f t (nI j) hl (by omega) ht) [1, 2] [0] rfl rfl rfl rfl (by decide) rfl rfl 0 rfl ⟨Nat.le_of_ble_eq_true rfl, Nat.le_of_ble_eq_true rfl⟩ ⟨Nat.le_of_ble_eq_true rfl, Nat.le_of_ble_eq_true rfl⟩ rfl rfl (Nat.le_of_ble_eq_true rfl) (jd D_Rd_endOfDigits 10 rfl) (fun v2 _ k2 => ?_)
        obtain ⟨r2, rfl, k2⟩ := k2
        refine jv_fix [0, 1, 2] [(o, .inr (2, [.ref tp, .ref pp, .ref nn, .ref ob, .ref nb, .int dp, .int (nI i), .int ub, .int pl])), (tp, .inr (0, [.ref tb, .int (nI t.length)])), (tb, .inl (dA 0, N, .inl f))] [.int r2] 0 0 rfl rfl rfl (Nat.le_refl _) (Nat.le_refl _) ?_
        rw [js_at_nat (by omega) (by omega)] at k2
        subst k2
        refine jv_callS (wr := [(o, .inr (2, [.ref tp, .ref pp, .ref nn, .ref ob, .ref nb, .int dp, .int (nI i), .int ub, .int pl])), (tp, .inr (0, [.ref tb, .int (nI t.length)])), (tb, .inl (dA 0, N, .inl f))]) C cl_Rd_125 (c_Rd_isDigit (js_b t j)) [] [0, 1, 2] rfl rfl rfl rfl (by decide) ⟨Nat.le_of_ble_eq_true rfl, Nat.le_of_ble_eq_true rfl⟩ ⟨Nat.le_of_ble_eq_true rfl, Nat.le_of_ble_eq_true rfl⟩ rfl rfl (Nat.le_of_ble_eq_true rfl) (jd D_Rd_endOfDigits 11 rfl) (fun v3 _ k3 => ?_)
        obtain ⟨r3, rfl, k3⟩ := k3
        refine jv_fix [0, 1, 2] [(o, .inr (2, [.ref tp, .ref pp, .ref nn, .ref ob, .ref nb, .int dp, .int (nI i), .int ub, .int pl])), (tp, .inr (0, [.ref tb, .int (nI t.length)])), (tb, .inl (dA 0, N, .inl f))] [.int r3] 0 0 rfl rfl rfl (Nat.le_refl _) (Nat.le_refl _) ?_
        subst k3
        refine jv_if_eq (tgt := 33) C (jd D_Rd_endOfDigits 12 rfl) (by decide) (fun c24 => ?_) (fun c24 => ?_)
        · refine jv_iload_n C (jd D_Rd_endOfDigits 15 rfl) rfl 2 rfl ?_
          rw [hQ]
          exact jv_iret C hr () (by rw [← he, show t.length - j = (t.length - (j + 1)) + 1 by omega, js_dg, if_pos c24]) rfl [0, 1, 2] rfl rfl (Nat.le_of_ble_eq_true rfl) (Nat.le_of_ble_eq_true rfl) (jd D_Rd_endOfDigits 16 rfl)
        · refine jv_iinc (v := nI (j + 1)) C [(2, .int (nI (j + 1))), (0, .ref o), (1, .int (nI q))] (jd D_Rd_endOfDigits 13 rfl) 2 rfl (nI_1 j) (by decide) rfl ?_
          refine jv_goto (tgt := 2) C (jd D_Rd_endOfDigits 14 rfl) (by decide) ?_
          refine jv_lvsub [1, 2, 0] rfl ?_
          exact ih (j + 1) (by omega) (by omega) (by omega) (by rw [← he, show t.length - j = (t.length - (j + 1)) + 1 by omega, js_dg, if_neg c24])
  refine jv_lvsub [1, 2, 0] rfl ?_
  exact hL2 (t.length + 1 - q) q (Nat.le_refl _) hq (by omega) rfl

set_option maxHeartbeats 4000000 in
set_option maxRecDepth 100000 in
/-- Reader.isTooGreat(q, z) -/
theorem c_Rd_isTooGreat {l : Launch} {D : va_G} {dA : Nat → ClassId} {zz : (Nat → Nat) × (Nat → Nat)} (o tp pp nn ob nb : Nat) (dp ub pl : Int32) (i : Nat) (tb N : Nat) (f : Nat → Int32) (t : List Nat) (q z : Nat) (hl : t.length ≤ N) (hN : N < 2 ^ 30) (ht : js_tx f t) (hq : q ≤ z) (hz : z ≤ t.length) : jv_M l D dA zz y_Rd_isTooGreat b_Rd_isTooGreat 6 (some (FieldType.boolean)) 2 [.ref o, .int (nI q), .int (nI z)] [(o, .inr (2, [.ref tp, .ref pp, .ref nn, .ref ob, .ref nb, .int dp, .int (nI i), .int ub, .int pl])), (tp, .inr (0, [.ref tb, .int (nI t.length)])), (tb, .inl (dA 0, N, .inl f))] (jv_pi fun r (_ : Unit) => js_bool (9007199254740991 < js_tg t (z - q) q 0) r) (fun _ => [(o, .inr (2, [.ref tp, .ref pp, .ref nn, .ref ob, .ref nb, .int dp, .int (nI i), .int ub, .int pl])), (tp, .inr (0, [.ref tb, .int (nI t.length)])), (tb, .inl (dA 0, N, .inl f))]) 0 0 := by
  refine jv_M.of [(0, .ref o), (1, .int (nI q)), (2, .int (nI z))] (by decide) (Nat.le_of_ble_eq_true rfl) rfl ?_
  intro pR eR sR mR belowR methR cR AR C hr hin
  obtain ⟨QR, hQ⟩ : ∃ QR, QR = jv_E D (jv_pi fun r (_ : Unit) => js_bool (9007199254740991 < js_tg t (z - q) q 0) r) (fun _ => [(o, .inr (2, [.ref tp, .ref pp, .ref nn, .ref ob, .ref nb, .int dp, .int (nI i), .int ub, .int pl])), (tp, .inr (0, [.ref tb, .int (nI t.length)])), (tb, .inl (dA 0, N, .inl f))]) belowR ([.ref o, .int (nI q), .int (nI z)] : List Value).toArray sR AR 0 0 := ⟨_, rfl⟩
  rw [← hQ]
  refine jv_lconst (v := 0) C (jd D_Rd_isTooGreat 0 rfl) (by decide) ?_
  refine jv_lstore_n C [(3, .long 0), (0, .ref o), (1, .int (nI q)), (2, .int (nI z))] (jd D_Rd_isTooGreat 1 rfl) rfl (by decide) rfl ?_
  refine jv_iload_n C (jd D_Rd_isTooGreat 2 rfl) rfl 2 rfl ?_
  refine jv_istore C [(5, .int (nI q)), (3, .long 0), (0, .ref o), (1, .int (nI q)), (2, .int (nI z))] (jd D_Rd_isTooGreat 3 rfl) (by decide) rfl ?_
  have hL5 : ∀ (n : Nat) (j : Nat) (sz : Int64), q ≤ j → j ≤ z → z + 1 ≤ j + n → js_tg t (z - j) j sz = js_tg t (z - q) q 0 → jv_V pR l eR (jv_rm 2 0 0) sR mR ([.ref o, .int (nI q), .int (nI z)] : List Value).toArray belowR methR cR 0 0 QR D AR 6 [(o, .inr (2, [.ref tp, .ref pp, .ref nn, .ref ob, .ref nb, .int dp, .int (nI i), .int ub, .int pl])), (tp, .inr (0, [.ref tb, .int (nI t.length)])), (tb, .inl (dA 0, N, .inl f))] [(0, .ref o), (1, .int (nI q)), (2, .int (nI z)), (3, .long sz), (5, .int (nI j))] 5 [] := by
    intro n
    induction n with
    | zero =>
      intro j sz h0 h1 h2
      exact absurd h2 (by omega)
    | succ n ih =>
      intro j sz hqj hj hm he
      refine jv_iload C (jd D_Rd_isTooGreat 4 rfl) 4 rfl ?_
      refine jv_iload_n C (jd D_Rd_isTooGreat 5 rfl) rfl 2 rfl ?_
      refine jv_icmp_ge (tgt := 45) C (jd D_Rd_isTooGreat 6 rfl) (by decide) (fun c8 => ?_) (fun c8 => ?_)
      · have hfin : sz = js_tg t (z - q) q 0 := by
          rw [← he]
          rw [show z - j = 0 from (by have := (nI_leI (a := z) (b := j) (by omega) (by omega)).mp c8; omega), js_tg]
        refine jv_lload_n C (jd D_Rd_isTooGreat 25 rfl) rfl 3 rfl ?_
        refine jv_ldc2_w (v := 9007199254740991) C (jm2 (List.mem_of_getElem? (i := 222) rfl)) (jd D_Rd_isTooGreat 26 rfl) ?_
        refine jv_lcmp C (jd D_Rd_isTooGreat 27 rfl) ?_
        refine jv_if_le (tgt := 57) C (jd D_Rd_isTooGreat 28 rfl) (by decide) (fun c50 => ?_) (fun c50 => ?_)
        · refine jv_iconst (v := 0) C (jd D_Rd_isTooGreat 31 rfl) (by decide) ?_
          rw [hQ]
          exact jv_iret C hr () (Or.inr ⟨rfl, fun y => (Int64.not_lt.mpr ((lg_cmp_le _ _).mp c50)) (by rw [hfin]; exact y)⟩) rfl [0, 1, 2] rfl rfl (Nat.le_of_ble_eq_true rfl) (Nat.le_of_ble_eq_true rfl) (jd D_Rd_isTooGreat 32 rfl)
        · refine jv_iconst (v := 1) C (jd D_Rd_isTooGreat 29 rfl) (by decide) ?_
          refine jv_goto (tgt := 58) C (jd D_Rd_isTooGreat 30 rfl) (by decide) ?_
          rw [hQ]
          exact jv_iret C hr () (Or.inl ⟨rfl, by rw [← hfin]; exact (Int64.not_le.mp (fun y => c50 ((lg_cmp_le _ _).mpr y)))⟩) rfl [0, 1, 2] rfl rfl (Nat.le_of_ble_eq_true rfl) (Nat.le_of_ble_eq_true rfl) (jd D_Rd_isTooGreat 32 rfl)
      · have hlt : j < z := by
          rcases Nat.lt_or_ge j z with y | y
          · exact y
          · exact absurd (nI_le y (by omega)) c8
        refine jv_lload_n C (jd D_Rd_isTooGreat 7 rfl) rfl 3 rfl ?_
        refine jv_ldc2_w (v := 9007199254740991) C (jm2 (List.mem_of_getElem? (i := 222) rfl)) (jd D_Rd_isTooGreat 8 rfl) ?_
        refine jv_lcmp C (jd D_Rd_isTooGreat 9 rfl) ?_
        refine jv_if_gt (tgt := 45) C (jd D_Rd_isTooGreat 10 rfl) (by decide) (fun c16 => ?_) (fun c16 => ?_)
        · have hfin : sz = js_tg t (z - q) q 0 := by
            rw [← he]
            rw [show z - j = (z - (j + 1)) + 1 by omega, js_tg, if_pos ((lg_cmp_gt _ _).mp c16)]
          refine jv_lload_n C (jd D_Rd_isTooGreat 25 rfl) rfl 3 rfl ?_
          refine jv_ldc2_w (v := 9007199254740991) C (jm2 (List.mem_of_getElem? (i := 222) rfl)) (jd D_Rd_isTooGreat 26 rfl) ?_
          refine jv_lcmp C (jd D_Rd_isTooGreat 27 rfl) ?_
          refine jv_if_le (tgt := 57) C (jd D_Rd_isTooGreat 28 rfl) (by decide) (fun c50 => ?_) (fun c50 => ?_)
          · refine jv_iconst (v := 0) C (jd D_Rd_isTooGreat 31 rfl) (by decide) ?_
            rw [hQ]
            exact jv_iret C hr () (Or.inr ⟨rfl, fun y => (Int64.not_lt.mpr ((lg_cmp_le _ _).mp c50)) (by rw [hfin]; exact y)⟩) rfl [0, 1, 2] rfl rfl (Nat.le_of_ble_eq_true rfl) (Nat.le_of_ble_eq_true rfl) (jd D_Rd_isTooGreat 32 rfl)
          · refine jv_iconst (v := 1) C (jd D_Rd_isTooGreat 29 rfl) (by decide) ?_
            refine jv_goto (tgt := 58) C (jd D_Rd_isTooGreat 30 rfl) (by decide) ?_
            rw [hQ]
            exact jv_iret C hr () (Or.inl ⟨rfl, by rw [← hfin]; exact (Int64.not_le.mp (fun y => c50 ((lg_cmp_le _ _).mpr y)))⟩) rfl [0, 1, 2] rfl rfl (Nat.le_of_ble_eq_true rfl) (Nat.le_of_ble_eq_true rfl) (jd D_Rd_isTooGreat 32 rfl)
        · refine jv_lload_n C (jd D_Rd_isTooGreat 11 rfl) rfl 3 rfl ?_
          refine jv_ldc2_w (v := 10) C (jm2 (List.mem_of_getElem? (i := 223) rfl)) (jd D_Rd_isTooGreat 12 rfl) ?_
          refine jv_lmul C (jd D_Rd_isTooGreat 13 rfl) ?_
          refine jv_aload_n C (jd D_Rd_isTooGreat 14 rfl) rfl 0 rfl ?_
          refine jv_get C fl_Rd_9 0 rfl rfl (jd D_Rd_isTooGreat 15 rfl) ?_
          refine jv_iload C (jd D_Rd_isTooGreat 16 rfl) 4 rfl ?_
          refine jv_callV (wr := [(o, .inr (2, [.ref tp, .ref pp, .ref nn, .ref ob, .ref nb, .int dp, .int (nI i), .int ub, .int pl]))]) C cl_Rd_50 (c_Tx_at tp tb N f t (nI j) hl (by omega) ht) [1, 2] [0] rfl rfl rfl rfl (by decide) rfl rfl 0 rfl ⟨Nat.le_of_ble_eq_true rfl, Nat.le_of_ble_eq_true rfl⟩ ⟨Nat.le_of_ble_eq_true rfl, Nat.le_of_ble_eq_true rfl⟩ rfl rfl (Nat.le_of_ble_eq_true rfl) (jd D_Rd_isTooGreat 17 rfl) (fun v1 _ k2 => ?_)
          obtain ⟨r2, rfl, k2⟩ := k2
          refine jv_fix [0, 1, 2] [(o, .inr (2, [.ref tp, .ref pp, .ref nn, .ref ob, .ref nb, .int dp, .int (nI i), .int ub, .int pl])), (tp, .inr (0, [.ref tb, .int (nI t.length)])), (tb, .inl (dA 0, N, .inl f))] [.int r2, .long (sz * 10)] 0 0 rfl rfl rfl (Nat.le_refl _) (Nat.le_refl _) ?_
          rw [js_at_nat (by omega) (by omega)] at k2
          subst k2
          refine jv_bipush (v := 48) C (jd D_Rd_isTooGreat 18 rfl) (by decide) ?_
          refine jv_isub C (jd D_Rd_isTooGreat 19 rfl) ?_
          refine jv_i2l C (jd D_Rd_isTooGreat 20 rfl) ?_
          refine jv_ladd C (jd D_Rd_isTooGreat 21 rfl) ?_
          refine jv_lstore_n C [(3, .long ((sz * 10) + (((js_b t j) - 48).toInt64))), (0, .ref o), (1, .int (nI q)), (2, .int (nI z)), (5, .int (nI j))] (jd D_Rd_isTooGreat 22 rfl) rfl (by decide) rfl ?_
          refine jv_iinc (v := nI (j + 1)) C [(5, .int (nI (j + 1))), (3, .long ((sz * 10) + (((js_b t j) - 48).toInt64))), (0, .ref o), (1, .int (nI q)), (2, .int (nI z))] (jd D_Rd_isTooGreat 23 rfl) 4 rfl (nI_1 j) (by decide) rfl ?_
          refine jv_goto (tgt := 5) C (jd D_Rd_isTooGreat 24 rfl) (by decide) ?_
          refine jv_lvsub [2, 3, 4, 1, 0] rfl ?_
          exact ih (j + 1) _ (by omega) (by omega) (by omega) (by rw [← he, show z - j = (z - (j + 1)) + 1 by omega, js_tg, if_neg (fun y => c16 ((lg_cmp_gt _ _).mpr y))])
  refine jv_lvsub [2, 3, 4, 1, 0] rfl ?_
  exact hL5 (z + 1 - q) q 0 (Nat.le_refl _) hq (by omega) rfl

set_option maxHeartbeats 4000000 in
set_option maxRecDepth 100000 in
/-- Reader.number(b), where it is one -/
theorem c_Rd_number_ok {l : Launch} {D : va_G} {dA : Nat → ClassId} {zz : (Nat → Nat) × (Nat → Nat)} (o tp pp nn ob nb : Nat) (dp ub pl : Int32) (i : Nat) (tb N : Nat) (f : Nat → Int32) (t : List Nat) (pb M : Nat) (g : Nat → Int32) (pr : List Nat) (z : Nat) (hl : t.length ≤ N) (hN : N < 2 ^ 30) (ht : js_tx f t) (hM : M < 2 ^ 30) (htp : js_tx g pr) (hi : i ≤ t.length) (hpi : pr.length ≤ i) (hNM : N ≤ M) (hN4 : N < 2 ^ 29) (hnu : js_nu t i = .inr z) : jv_M l D dA zz y_Rd_number b_Rd_number 6 (some (FieldType.int)) 4 [.ref o, .int (js_b t i)] [(o, .inr (2, [.ref tp, .ref pp, .ref nn, .ref ob, .ref nb, .int dp, .int (nI i), .int ub, .int pl])), (tp, .inr (0, [.ref tb, .int (nI t.length)])), (tb, .inl (dA 0, N, .inl f)), (pp, .inr (0, [.ref pb, .int (nI pr.length)])), (pb, .inl (dA 0, M, .inl g))] (jv_pi fun r (g2 : Nat → Int32) => r = 5 ∧ js_tx g2 (pr ++ js_sl t (js_ns t i) (z - js_ns t i))) (fun g2 => [(o, .inr (2, [.ref tp, .ref pp, .ref nn, .ref ob, .ref nb, .int dp, .int (nI z), .int ub, .int pl])), (tp, .inr (0, [.ref tb, .int (nI t.length)])), (tb, .inl (dA 0, N, .inl f)), (pp, .inr (0, [.ref pb, .int (nI (pr ++ js_sl t (js_ns t i) (z - js_ns t i)).length)])), (pb, .inl (dA 0, M, .inl g2))]) 0 0 := by
  refine jv_M.of [(0, .ref o), (1, .int (js_b t i))] (by decide) (Nat.le_of_ble_eq_true rfl) rfl ?_
  intro pR eR sR mR belowR methR cR AR C hr hin
  obtain ⟨QR, hQ⟩ : ∃ QR, QR = jv_E D (jv_pi fun r (g2 : Nat → Int32) => r = 5 ∧ js_tx g2 (pr ++ js_sl t (js_ns t i) (z - js_ns t i))) (fun g2 => [(o, .inr (2, [.ref tp, .ref pp, .ref nn, .ref ob, .ref nb, .int dp, .int (nI z), .int ub, .int pl])), (tp, .inr (0, [.ref tb, .int (nI t.length)])), (tb, .inl (dA 0, N, .inl f)), (pp, .inr (0, [.ref pb, .int (nI (pr ++ js_sl t (js_ns t i) (z - js_ns t i)).length)])), (pb, .inl (dA 0, M, .inl g2))]) belowR ([.ref o, .int (js_b t i)] : List Value).toArray sR AR 0 0 := ⟨_, rfl⟩
  rw [← hQ]
  refine jv_iload_n C (jd D_Rd_number 0 rfl) rfl 1 rfl ?_
  refine jv_bipush (v := 45) C (jd D_Rd_number 1 rfl) (by decide) ?_
  refine jv_icmp_ne (tgt := 15) C (jd D_Rd_number 2 rfl) (by decide) (fun c3 => ?_) (fun c3 => ?_)
  · refine jv_aload_n C (jd D_Rd_number 8 rfl) rfl 0 rfl ?_
    refine jv_get C fl_Rd_46 0 rfl rfl (jd D_Rd_number 9 rfl) ?_
    refine jv_ati (y := nI (js_nd t i)) (by rw [js_nd, if_neg c3]) ?_
    refine jv_istore_n C [(2, .int (nI (js_nd t i))), (0, .ref o), (1, .int (js_b t i))] (jd D_Rd_number 10 rfl) rfl (by decide) rfl ?_
    have hd0 := js_nd_ge t i
    refine jv_aload_n C (jd D_Rd_number 11 rfl) rfl 1 rfl ?_
    refine jv_get C fl_Rd_9 0 rfl rfl (jd D_Rd_number 12 rfl) ?_
    refine jv_iload_n C (jd D_Rd_number 13 rfl) rfl 0 rfl ?_
    refine jv_callV (wr := [(o, .inr (2, [.ref tp, .ref pp, .ref nn, .ref ob, .ref nb, .int dp, .int (nI i), .int ub, .int pl])), (pp, .inr (0, [.ref pb, .int (nI pr.length)])), (pb, .inl (dA 0, M, .inl g))]) C cl_Rd_50 (c_Tx_at tp tb N f t (nI (js_nd t i)) hl (by omega) ht) [1, 2] [0, 3, 4] rfl rfl rfl rfl (by decide) rfl rfl 0 rfl ⟨Nat.le_of_ble_eq_true rfl, Nat.le_of_ble_eq_true rfl⟩ ⟨Nat.le_of_ble_eq_true rfl, Nat.le_of_ble_eq_true rfl⟩ rfl rfl (Nat.le_of_ble_eq_true rfl) (jd D_Rd_number 14 rfl) (fun v1 _ k1 => ?_)
    obtain ⟨r1, rfl, k1⟩ := k1
    refine jv_fix [0, 3, 4, 1, 2] [(o, .inr (2, [.ref tp, .ref pp, .ref nn, .ref ob, .ref nb, .int dp, .int (nI i), .int ub, .int pl])), (tp, .inr (0, [.ref tb, .int (nI t.length)])), (tb, .inl (dA 0, N, .inl f)), (pp, .inr (0, [.ref pb, .int (nI pr.length)])), (pb, .inl (dA 0, M, .inl g))] [.int r1] 0 0 rfl rfl rfl (Nat.le_refl _) (Nat.le_refl _) ?_
    rw [js_at_nat (by omega) (by omega)] at k1
    subst k1
    refine jv_callS (wr := [(o, .inr (2, [.ref tp, .ref pp, .ref nn, .ref ob, .ref nb, .int dp, .int (nI i), .int ub, .int pl])), (tp, .inr (0, [.ref tb, .int (nI t.length)])), (tb, .inl (dA 0, N, .inl f)), (pp, .inr (0, [.ref pb, .int (nI pr.length)])), (pb, .inl (dA 0, M, .inl g))]) C cl_Rd_125 (c_Rd_isDigit (js_b t (js_nd t i))) [] [0, 1, 2, 3, 4] rfl rfl rfl rfl (by decide) ⟨Nat.le_of_ble_eq_true rfl, Nat.le_of_ble_eq_true rfl⟩ ⟨Nat.le_of_ble_eq_true rfl, Nat.le_of_ble_eq_true rfl⟩ rfl rfl (Nat.le_of_ble_eq_true rfl) (jd D_Rd_number 15 rfl) (fun v2 _ k2 => ?_)
    obtain ⟨r2, rfl, k2⟩ := k2
    refine jv_fix [0, 1, 2, 3, 4] [(o, .inr (2, [.ref tp, .ref pp, .ref nn, .ref ob, .ref nb, .int dp, .int (nI i), .int ub, .int pl])), (tp, .inr (0, [.ref tb, .int (nI t.length)])), (tb, .inl (dA 0, N, .inl f)), (pp, .inr (0, [.ref pb, .int (nI pr.length)])), (pb, .inl (dA 0, M, .inl g))] [.int r2] 0 0 rfl rfl rfl (Nat.le_refl _) (Nat.le_refl _) ?_
    subst k2
    refine jv_if_ne (tgt := 40) C (jd D_Rd_number 16 rfl) (by decide) (fun c31 => ?_) (fun c31 => ?_)
    · have hd1 := js_dig_lt c31
      have hd2 := js_ne_le c31
      have hd3 := js_nd_ge t i
      have hd4 := js_ns_ge t i
      refine jv_iload_n C (jd D_Rd_number 21 rfl) rfl 0 rfl ?_
      refine jv_iconst (v := 1) C (jd D_Rd_number 22 rfl) (by decide) ?_
      refine jv_iadd C (jd D_Rd_number 23 rfl) ?_
      refine jv_ati (y := nI (js_nd t i + 1)) (nI_1 _) ?_
      refine jv_istore_n C [(3, .int (nI (js_nd t i + 1))), (2, .int (nI (js_nd t i))), (0, .ref o), (1, .int (js_b t i))] (jd D_Rd_number 24 rfl) rfl (by decide) rfl ?_
      refine jv_aload_n C (jd D_Rd_number 25 rfl) rfl 2 rfl ?_
      refine jv_get C fl_Rd_9 0 rfl rfl (jd D_Rd_number 26 rfl) ?_
      refine jv_iload_n C (jd D_Rd_number 27 rfl) rfl 1 rfl ?_
      refine jv_callV (wr := [(o, .inr (2, [.ref tp, .ref pp, .ref nn, .ref ob, .ref nb, .int dp, .int (nI i), .int ub, .int pl])), (pp, .inr (0, [.ref pb, .int (nI pr.length)])), (pb, .inl (dA 0, M, .inl g))]) C cl_Rd_50 (c_Tx_at tp tb N f t (nI (js_nd t i)) hl (by omega) ht) [1, 2] [0, 3, 4] rfl rfl rfl rfl (by decide) rfl rfl 0 rfl ⟨Nat.le_of_ble_eq_true rfl, Nat.le_of_ble_eq_true rfl⟩ ⟨Nat.le_of_ble_eq_true rfl, Nat.le_of_ble_eq_true rfl⟩ rfl rfl (Nat.le_of_ble_eq_true rfl) (jd D_Rd_number 28 rfl) (fun v3 _ k3 => ?_)
      obtain ⟨r3, rfl, k3⟩ := k3
      refine jv_fix [0, 3, 4, 1, 2] [(o, .inr (2, [.ref tp, .ref pp, .ref nn, .ref ob, .ref nb, .int dp, .int (nI i), .int ub, .int pl])), (tp, .inr (0, [.ref tb, .int (nI t.length)])), (tb, .inl (dA 0, N, .inl f)), (pp, .inr (0, [.ref pb, .int (nI pr.length)])), (pb, .inl (dA 0, M, .inl g))] [.int r3] 0 0 rfl rfl rfl (Nat.le_refl _) (Nat.le_refl _) ?_
      rw [js_at_nat (by omega) (by omega)] at k3
      subst k3
      refine jv_bipush (v := 48) C (jd D_Rd_number 29 rfl) (by decide) ?_
      refine jv_icmp_eq (tgt := 63) C (jd D_Rd_number 30 rfl) (by decide) (fun c54 => ?_) (fun c54 => ?_)
      · refine jv_lveq (lv' := [(3, .int (nI (js_ne t i))), (2, .int (nI (js_nd t i))), (0, .ref o), (1, .int (js_b t i))]) (by rw [js_ne, if_pos c54]) ?_
        refine jv_aload_n C (jd D_Rd_number 35 rfl) rfl 2 rfl ?_
        refine jv_iload_n C (jd D_Rd_number 36 rfl) rfl 1 rfl ?_
        refine jv_iload_n C (jd D_Rd_number 37 rfl) rfl 0 rfl ?_
        refine jv_callV (wr := [(pp, .inr (0, [.ref pb, .int (nI pr.length)])), (pb, .inl (dA 0, M, .inl g))]) C cl_Rd_131 (c_Rd_isTooGreat o tp pp nn ob nb dp ub pl i tb N f t (js_nd t i) (js_ne t i) hl hN ht (by omega) (by omega)) [0, 1, 2] [3, 4] rfl rfl rfl rfl (by decide) rfl rfl 0 rfl ⟨Nat.le_of_ble_eq_true rfl, Nat.le_of_ble_eq_true rfl⟩ ⟨Nat.le_of_ble_eq_true rfl, Nat.le_of_ble_eq_true rfl⟩ rfl rfl (Nat.le_of_ble_eq_true rfl) (jd D_Rd_number 38 rfl) (fun v4 _ k5 => ?_)
        obtain ⟨r5, rfl, k5⟩ := k5
        refine jv_fix [2, 3, 4, 0, 1] [(o, .inr (2, [.ref tp, .ref pp, .ref nn, .ref ob, .ref nb, .int dp, .int (nI i), .int ub, .int pl])), (tp, .inr (0, [.ref tb, .int (nI t.length)])), (tb, .inl (dA 0, N, .inl f)), (pp, .inr (0, [.ref pb, .int (nI pr.length)])), (pb, .inl (dA 0, M, .inl g))] [.int r5] 0 0 rfl rfl rfl (Nat.le_refl _) (Nat.le_refl _) ?_
        refine jv_if_ne (tgt := 86) C (jd D_Rd_number 39 rfl) (by decide) (fun c69 => ?_) (fun c69 => ?_)
        · rw [js_nu, if_neg c31, if_pos (by rcases k5 with y | y; exact y.2; exact absurd y.1 c69)] at hnu
          cases hnu
        · have hsm : ¬ 9007199254740991 < js_tg t (js_ne t i - js_nd t i) (js_nd t i) 0 := by
            rcases k5 with y | y
            · exact absurd (y.1.symm.trans c69) (by decide)
            · exact y.2
          refine jv_aload_n C (jd D_Rd_number 40 rfl) rfl 2 rfl ?_
          refine jv_get C fl_Rd_9 0 rfl rfl (jd D_Rd_number 41 rfl) ?_
          refine jv_iload_n C (jd D_Rd_number 42 rfl) rfl 0 rfl ?_
          refine jv_callV (wr := [(o, .inr (2, [.ref tp, .ref pp, .ref nn, .ref ob, .ref nb, .int dp, .int (nI i), .int ub, .int pl])), (pp, .inr (0, [.ref pb, .int (nI pr.length)])), (pb, .inl (dA 0, M, .inl g))]) C cl_Rd_50 (c_Tx_at tp tb N f t (nI (js_ne t i)) hl (by omega) ht) [1, 2] [0, 3, 4] rfl rfl rfl rfl (by decide) rfl rfl 0 rfl ⟨Nat.le_of_ble_eq_true rfl, Nat.le_of_ble_eq_true rfl⟩ ⟨Nat.le_of_ble_eq_true rfl, Nat.le_of_ble_eq_true rfl⟩ rfl rfl (Nat.le_of_ble_eq_true rfl) (jd D_Rd_number 43 rfl) (fun v5 _ k6 => ?_)
          obtain ⟨r6, rfl, k6⟩ := k6
          refine jv_fix [0, 3, 4, 1, 2] [(o, .inr (2, [.ref tp, .ref pp, .ref nn, .ref ob, .ref nb, .int dp, .int (nI i), .int ub, .int pl])), (tp, .inr (0, [.ref tb, .int (nI t.length)])), (tb, .inl (dA 0, N, .inl f)), (pp, .inr (0, [.ref pb, .int (nI pr.length)])), (pb, .inl (dA 0, M, .inl g))] [.int r6] 0 0 rfl rfl rfl (Nat.le_refl _) (Nat.le_refl _) ?_
          rw [js_at_nat (by omega) (by omega)] at k6
          subst k6
          refine jv_callS (wr := [(o, .inr (2, [.ref tp, .ref pp, .ref nn, .ref ob, .ref nb, .int dp, .int (nI i), .int ub, .int pl])), (tp, .inr (0, [.ref tb, .int (nI t.length)])), (tb, .inl (dA 0, N, .inl f)), (pp, .inr (0, [.ref pb, .int (nI pr.length)])), (pb, .inl (dA 0, M, .inl g))]) C cl_Rd_135 (c_Rd_isFraction (js_b t (js_ne t i))) [] [0, 1, 2, 3, 4] rfl rfl rfl rfl (by decide) ⟨Nat.le_of_ble_eq_true rfl, Nat.le_of_ble_eq_true rfl⟩ ⟨Nat.le_of_ble_eq_true rfl, Nat.le_of_ble_eq_true rfl⟩ rfl rfl (Nat.le_of_ble_eq_true rfl) (jd D_Rd_number 44 rfl) (fun v6 _ k7 => ?_)
          obtain ⟨r7, rfl, k7⟩ := k7
          refine jv_fix [0, 1, 2, 3, 4] [(o, .inr (2, [.ref tp, .ref pp, .ref nn, .ref ob, .ref nb, .int dp, .int (nI i), .int ub, .int pl])), (tp, .inr (0, [.ref tb, .int (nI t.length)])), (tb, .inl (dA 0, N, .inl f)), (pp, .inr (0, [.ref pb, .int (nI pr.length)])), (pb, .inl (dA 0, M, .inl g))] [.int r7] 0 0 rfl rfl rfl (Nat.le_refl _) (Nat.le_refl _) ?_
          subst k7
          refine jv_if_eq (tgt := 95) C (jd D_Rd_number 45 rfl) (by decide) (fun c83 => ?_) (fun c83 => ?_)
          · rw [js_nu, if_neg c31, if_neg hsm, if_pos c83] at hnu
            cases hnu
            refine jv_aload_n C (jd D_Rd_number 51 rfl) rfl 2 rfl ?_
            refine jv_get C fl_Rd_9 0 rfl rfl (jd D_Rd_number 52 rfl) ?_
            refine jv_iload_n C (jd D_Rd_number 53 rfl) rfl 1 rfl ?_
            refine jv_callV (wr := [(o, .inr (2, [.ref tp, .ref pp, .ref nn, .ref ob, .ref nb, .int dp, .int (nI i), .int ub, .int pl])), (pp, .inr (0, [.ref pb, .int (nI pr.length)])), (pb, .inl (dA 0, M, .inl g))]) C cl_Rd_50 (c_Tx_at tp tb N f t (nI (js_nd t i)) hl (by omega) ht) [1, 2] [0, 3, 4] rfl rfl rfl rfl (by decide) rfl rfl 0 rfl ⟨Nat.le_of_ble_eq_true rfl, Nat.le_of_ble_eq_true rfl⟩ ⟨Nat.le_of_ble_eq_true rfl, Nat.le_of_ble_eq_true rfl⟩ rfl rfl (Nat.le_of_ble_eq_true rfl) (jd D_Rd_number 54 rfl) (fun v7 _ k8 => ?_)
            obtain ⟨r8, rfl, k8⟩ := k8
            refine jv_fix [0, 3, 4, 1, 2] [(o, .inr (2, [.ref tp, .ref pp, .ref nn, .ref ob, .ref nb, .int dp, .int (nI i), .int ub, .int pl])), (tp, .inr (0, [.ref tb, .int (nI t.length)])), (tb, .inl (dA 0, N, .inl f)), (pp, .inr (0, [.ref pb, .int (nI pr.length)])), (pb, .inl (dA 0, M, .inl g))] [.int r8] 0 0 rfl rfl rfl (Nat.le_refl _) (Nat.le_refl _) ?_
            rw [js_at_nat (by omega) (by omega)] at k8
            subst k8
            refine jv_bipush (v := 48) C (jd D_Rd_number 55 rfl) (by decide) ?_
            refine jv_icmp_ne (tgt := 112) C (jd D_Rd_number 56 rfl) (by decide) (fun c105 => absurd c105 (fun y => y c54)) (fun c105 => ?_)
            refine jv_iload_n C (jd D_Rd_number 57 rfl) rfl 1 rfl ?_
            refine jv_goto (tgt := 116) C (jd D_Rd_number 58 rfl) (by decide) ?_
            refine jv_ati (y := nI (js_ns t i)) (by rw [js_ns, if_pos c54]) ?_
            refine jv_istore C [(4, .int (nI (js_ns t i))), (3, .int (nI (js_ne t i))), (2, .int (nI (js_nd t i))), (0, .ref o), (1, .int (js_b t i))] (jd D_Rd_number 61 rfl) (by decide) rfl ?_
            refine jv_weq (ws' := [(o, .inr (2, [.ref tp, .ref pp, .ref nn, .ref ob, .ref nb, .int dp, .int (nI i), .int ub, .int pl])), (tp, .inr (0, [.ref tb, .int (nI t.length)])), (tb, .inl (dA 0, N, .inl f)), (pp, .inr (0, [.ref pb, .int (nI (pr ++ js_sl t (js_ns t i) 0).length)])), (pb, .inl (dA 0, M, .inl g))]) (by rw [js_sl_0, List.append_nil]) ?_
            refine jv_iload C (jd D_Rd_number 62 rfl) 0 rfl ?_
            refine jv_istore C [(5, .int (nI (js_ns t i))), (4, .int (nI (js_ns t i))), (3, .int (nI (js_ne t i))), (2, .int (nI (js_nd t i))), (0, .ref o), (1, .int (js_b t i))] (jd D_Rd_number 63 rfl) (by decide) rfl ?_
            have hL122 : ∀ (n : Nat) (k : Nat) (g2 : Nat → Int32), js_ns t i + k ≤ js_ne t i → js_ne t i + 1 ≤ js_ns t i + k + n → js_tx g2 (pr ++ js_sl t (js_ns t i) k) → jv_V pR l eR (jv_rm 4 0 0) sR mR ([.ref o, .int (js_b t i)] : List Value).toArray belowR methR cR 0 0 QR D AR 6 [(o, .inr (2, [.ref tp, .ref pp, .ref nn, .ref ob, .ref nb, .int dp, .int (nI i), .int ub, .int pl])), (tp, .inr (0, [.ref tb, .int (nI t.length)])), (tb, .inl (dA 0, N, .inl f)), (pp, .inr (0, [.ref pb, .int (nI (pr ++ js_sl t (js_ns t i) k).length)])), (pb, .inl (dA 0, M, .inl g2))] [(0, .ref o), (1, .int (js_b t i)), (2, .int (nI (js_nd t i))), (3, .int (nI (js_ne t i))), (4, .int (nI (js_ns t i))), (5, .int (nI (js_ns t i + k)))] 122 [] := by
              intro n
              induction n with
              | zero =>
                intro k g2 h1 h2
                exact absurd h2 (by omega)
              | succ n ih =>
                intro k g2 hk hm htx
                refine jv_iload C (jd D_Rd_number 64 rfl) 5 rfl ?_
                refine jv_iload_n C (jd D_Rd_number 65 rfl) rfl 3 rfl ?_
                refine jv_icmp_ge (tgt := 150) C (jd D_Rd_number 66 rfl) (by decide) (fun c125 => ?_) (fun c125 => ?_)
                · refine jv_aload_n C (jd D_Rd_number 76 rfl) rfl 0 rfl ?_
                  refine jv_iload_n C (jd D_Rd_number 77 rfl) rfl 3 rfl ?_
                  refine jv_put C fl_Rd_46 Y_Rd rfl 0 [(o, .inr (2, [.ref tp, .ref pp, .ref nn, .ref ob, .ref nb, .int dp, .int (nI (js_ne t i)), .int ub, .int pl])), (tp, .inr (0, [.ref tb, .int (nI t.length)])), (tb, .inl (dA 0, N, .inl f)), (pp, .inr (0, [.ref pb, .int (nI (pr ++ js_sl t (js_ns t i) k).length)])), (pb, .inl (dA 0, M, .inl g2))] rfl rfl rfl (Nat.le_of_ble_eq_true rfl) rfl rfl (jd D_Rd_number 78 rfl) ?_
                  refine jv_iconst (v := 5) C (jd D_Rd_number 79 rfl) (by decide) ?_
                  have hk9 : k = js_ne t i - js_ns t i := by have := (nI_leI (a := js_ne t i) (b := js_ns t i + k) (by omega) (by omega)).mp c125; omega
                  subst hk9
                  refine jv_weq (ws' := [(o, .inr (2, [.ref tp, .ref pp, .ref nn, .ref ob, .ref nb, .int dp, .int (nI (js_ne t i)), .int ub, .int pl])), (tp, .inr (0, [.ref tb, .int (nI t.length)])), (tb, .inl (dA 0, N, .inl f)), (pp, .inr (0, [.ref pb, .int (nI (pr ++ js_sl t (js_ns t i) (js_ne t i - js_ns t i)).length)])), (pb, .inl (dA 0, M, .inl g2))]) rfl ?_
                  rw [hQ]
                  exact jv_iret C hr g2 (⟨rfl, htx⟩) rfl [0, 1, 2, 3, 4] rfl rfl (Nat.le_of_ble_eq_true rfl) (Nat.le_of_ble_eq_true rfl) (jd D_Rd_number 80 rfl)
                · have hlt : js_ns t i + k < js_ne t i := by
                    rcases Nat.lt_or_ge (js_ns t i + k) (js_ne t i) with y | y
                    · exact y
                    · exact absurd (nI_le y (by omega)) c125
                  have hln : (pr ++ js_sl t (js_ns t i) k).length = pr.length + k := by rw [List.length_append, js_sl_len (by omega)]
                  refine jv_aload_n C (jd D_Rd_number 67 rfl) rfl 0 rfl ?_
                  refine jv_get C fl_Rd_20 0 rfl rfl (jd D_Rd_number 68 rfl) ?_
                  refine jv_aload_n C (jd D_Rd_number 69 rfl) rfl 0 rfl ?_
                  refine jv_get C fl_Rd_9 0 rfl rfl (jd D_Rd_number 70 rfl) ?_
                  refine jv_iload C (jd D_Rd_number 71 rfl) 5 rfl ?_
                  refine jv_callV (wr := [(o, .inr (2, [.ref tp, .ref pp, .ref nn, .ref ob, .ref nb, .int dp, .int (nI i), .int ub, .int pl])), (pp, .inr (0, [.ref pb, .int (nI (pr ++ js_sl t (js_ns t i) k).length)])), (pb, .inl (dA 0, M, .inl g2))]) C cl_Rd_50 (c_Tx_at tp tb N f t (nI (js_ns t i + k)) hl (by omega) ht) [1, 2] [0, 3, 4] rfl rfl rfl rfl (by decide) rfl rfl 0 rfl ⟨Nat.le_of_ble_eq_true rfl, Nat.le_of_ble_eq_true rfl⟩ ⟨Nat.le_of_ble_eq_true rfl, Nat.le_of_ble_eq_true rfl⟩ rfl rfl (Nat.le_of_ble_eq_true rfl) (jd D_Rd_number 72 rfl) (fun v8 _ k9 => ?_)
                  obtain ⟨r9, rfl, k9⟩ := k9
                  refine jv_fix [0, 3, 4, 1, 2] [(o, .inr (2, [.ref tp, .ref pp, .ref nn, .ref ob, .ref nb, .int dp, .int (nI i), .int ub, .int pl])), (tp, .inr (0, [.ref tb, .int (nI t.length)])), (tb, .inl (dA 0, N, .inl f)), (pp, .inr (0, [.ref pb, .int (nI (pr ++ js_sl t (js_ns t i) k).length)])), (pb, .inl (dA 0, M, .inl g2))] [.int r9, .ref pp] 0 0 rfl rfl rfl (Nat.le_refl _) (Nat.le_refl _) ?_
                  rw [js_at_nat (by omega) (by omega)] at k9
                  subst k9
                  refine jv_callV (wr := [(o, .inr (2, [.ref tp, .ref pp, .ref nn, .ref ob, .ref nb, .int dp, .int (nI i), .int ub, .int pl])), (tp, .inr (0, [.ref tb, .int (nI t.length)])), (tb, .inl (dA 0, N, .inl f))]) C cl_Rd_86 (c_Tx_add pp pb M g2 (pr ++ js_sl t (js_ns t i) k) (js_b t (js_ns t i + k)) (by rw [hln]; omega) (by omega) htx) [3, 4] [0, 1, 2] rfl rfl rfl rfl (by decide) rfl rfl 0 rfl ⟨Nat.le_of_ble_eq_true rfl, Nat.le_of_ble_eq_true rfl⟩ ⟨Nat.le_of_ble_eq_true rfl, Nat.le_of_ble_eq_true rfl⟩ rfl rfl (Nat.le_of_ble_eq_true rfl) (jd D_Rd_number 73 rfl) (fun v9 g9 k9 => ?_)
                  obtain ⟨rfl, k9⟩ := k9
                  refine jv_fix [0, 1, 2, 3, 4] [(o, .inr (2, [.ref tp, .ref pp, .ref nn, .ref ob, .ref nb, .int dp, .int (nI i), .int ub, .int pl])), (tp, .inr (0, [.ref tb, .int (nI t.length)])), (tb, .inl (dA 0, N, .inl f)), (pp, .inr (0, [.ref pb, .int (nI (pr ++ js_sl t (js_ns t i) k ++ [(js_b t (js_ns t i + k)).toBitVec.toNat % 256]).length)])), (pb, .inl (dA 0, M, .inl g9))] [] 0 0 rfl rfl rfl (Nat.le_refl _) (Nat.le_refl _) ?_
                  have hnx : pr ++ js_sl t (js_ns t i) k ++ [(js_b t (js_ns t i + k)).toBitVec.toNat % 256] = pr ++ js_sl t (js_ns t i) (k + 1) := by
                    rcases js_b_cases ht.by (js_ns t i + k) with ⟨y, -⟩ | ⟨b9, hb9, hg9, he9⟩
                    · omega
                    · rw [he9, js_tn hb9, js_sl_s hg9, List.append_assoc]
                  rw [hnx] at k9
                  refine jv_weq (ws' := [(o, .inr (2, [.ref tp, .ref pp, .ref nn, .ref ob, .ref nb, .int dp, .int (nI i), .int ub, .int pl])), (tp, .inr (0, [.ref tb, .int (nI t.length)])), (tb, .inl (dA 0, N, .inl f)), (pp, .inr (0, [.ref pb, .int (nI (pr ++ js_sl t (js_ns t i) (k + 1)).length)])), (pb, .inl (dA 0, M, .inl g9))]) (by rw [hnx]) ?_
                  refine jv_iinc (v := nI (js_ns t i + (k + 1))) C [(5, .int (nI (js_ns t i + (k + 1)))), (0, .ref o), (1, .int (js_b t i)), (2, .int (nI (js_nd t i))), (3, .int (nI (js_ne t i))), (4, .int (nI (js_ns t i)))] (jd D_Rd_number 74 rfl) 5 rfl (nI_1 _) (by decide) rfl ?_
                  refine jv_goto (tgt := 122) C (jd D_Rd_number 75 rfl) (by decide) ?_
                  refine jv_lvsub [1, 2, 3, 4, 5, 0] rfl ?_
                  exact ih (k + 1) g9 (by omega) (by omega) k9
            refine jv_lvsub [4, 5, 3, 2, 1, 0] rfl ?_
            exact hL122 (js_ne t i + 1 - js_ns t i) 0 g (by omega) (by omega) (by rw [js_sl_0, List.append_nil]; exact htp)
          · rw [js_nu, if_neg c31, if_neg hsm, if_neg c83] at hnu
            cases hnu
      · refine jv_aload_n C (jd D_Rd_number 31 rfl) rfl 2 rfl ?_
        refine jv_iload_n C (jd D_Rd_number 32 rfl) rfl 1 rfl ?_
        refine jv_callV (wr := [(pp, .inr (0, [.ref pb, .int (nI pr.length)])), (pb, .inl (dA 0, M, .inl g))]) C cl_Rd_128 (c_Rd_endOfDigits o tp pp nn ob nb dp ub pl i tb N f t (js_nd t i) hl hN ht (by omega)) [0, 1, 2] [3, 4] rfl rfl rfl rfl (by decide) rfl rfl 0 rfl ⟨Nat.le_of_ble_eq_true rfl, Nat.le_of_ble_eq_true rfl⟩ ⟨Nat.le_of_ble_eq_true rfl, Nat.le_of_ble_eq_true rfl⟩ rfl rfl (Nat.le_of_ble_eq_true rfl) (jd D_Rd_number 33 rfl) (fun v10 _ k4 => ?_)
        obtain ⟨r4, rfl, k4⟩ := k4
        refine jv_fix [2, 3, 4, 0, 1] [(o, .inr (2, [.ref tp, .ref pp, .ref nn, .ref ob, .ref nb, .int dp, .int (nI i), .int ub, .int pl])), (tp, .inr (0, [.ref tb, .int (nI t.length)])), (tb, .inl (dA 0, N, .inl f)), (pp, .inr (0, [.ref pb, .int (nI pr.length)])), (pb, .inl (dA 0, M, .inl g))] [.int r4] 0 0 rfl rfl rfl (Nat.le_refl _) (Nat.le_refl _) ?_
        subst k4
        refine jv_istore_n C [(3, .int (nI (js_dg t (t.length - js_nd t i) (js_nd t i)))), (2, .int (nI (js_nd t i))), (0, .ref o), (1, .int (js_b t i))] (jd D_Rd_number 34 rfl) rfl (by decide) rfl ?_
        refine jv_lveq (lv' := [(3, .int (nI (js_ne t i))), (2, .int (nI (js_nd t i))), (0, .ref o), (1, .int (js_b t i))]) (by rw [js_ne, if_neg c54]) ?_
        refine jv_aload_n C (jd D_Rd_number 35 rfl) rfl 2 rfl ?_
        refine jv_iload_n C (jd D_Rd_number 36 rfl) rfl 1 rfl ?_
        refine jv_iload_n C (jd D_Rd_number 37 rfl) rfl 0 rfl ?_
        refine jv_callV (wr := [(pp, .inr (0, [.ref pb, .int (nI pr.length)])), (pb, .inl (dA 0, M, .inl g))]) C cl_Rd_131 (c_Rd_isTooGreat o tp pp nn ob nb dp ub pl i tb N f t (js_nd t i) (js_ne t i) hl hN ht (by omega) (by omega)) [0, 1, 2] [3, 4] rfl rfl rfl rfl (by decide) rfl rfl 0 rfl ⟨Nat.le_of_ble_eq_true rfl, Nat.le_of_ble_eq_true rfl⟩ ⟨Nat.le_of_ble_eq_true rfl, Nat.le_of_ble_eq_true rfl⟩ rfl rfl (Nat.le_of_ble_eq_true rfl) (jd D_Rd_number 38 rfl) (fun v11 _ k5 => ?_)
        obtain ⟨r5, rfl, k5⟩ := k5
        refine jv_fix [2, 3, 4, 0, 1] [(o, .inr (2, [.ref tp, .ref pp, .ref nn, .ref ob, .ref nb, .int dp, .int (nI i), .int ub, .int pl])), (tp, .inr (0, [.ref tb, .int (nI t.length)])), (tb, .inl (dA 0, N, .inl f)), (pp, .inr (0, [.ref pb, .int (nI pr.length)])), (pb, .inl (dA 0, M, .inl g))] [.int r5] 0 0 rfl rfl rfl (Nat.le_refl _) (Nat.le_refl _) ?_
        refine jv_if_ne (tgt := 86) C (jd D_Rd_number 39 rfl) (by decide) (fun c69 => ?_) (fun c69 => ?_)
        · rw [js_nu, if_neg c31, if_pos (by rcases k5 with y | y; exact y.2; exact absurd y.1 c69)] at hnu
          cases hnu
        · have hsm : ¬ 9007199254740991 < js_tg t (js_ne t i - js_nd t i) (js_nd t i) 0 := by
            rcases k5 with y | y
            · exact absurd (y.1.symm.trans c69) (by decide)
            · exact y.2
          refine jv_aload_n C (jd D_Rd_number 40 rfl) rfl 2 rfl ?_
          refine jv_get C fl_Rd_9 0 rfl rfl (jd D_Rd_number 41 rfl) ?_
          refine jv_iload_n C (jd D_Rd_number 42 rfl) rfl 0 rfl ?_
          refine jv_callV (wr := [(o, .inr (2, [.ref tp, .ref pp, .ref nn, .ref ob, .ref nb, .int dp, .int (nI i), .int ub, .int pl])), (pp, .inr (0, [.ref pb, .int (nI pr.length)])), (pb, .inl (dA 0, M, .inl g))]) C cl_Rd_50 (c_Tx_at tp tb N f t (nI (js_ne t i)) hl (by omega) ht) [1, 2] [0, 3, 4] rfl rfl rfl rfl (by decide) rfl rfl 0 rfl ⟨Nat.le_of_ble_eq_true rfl, Nat.le_of_ble_eq_true rfl⟩ ⟨Nat.le_of_ble_eq_true rfl, Nat.le_of_ble_eq_true rfl⟩ rfl rfl (Nat.le_of_ble_eq_true rfl) (jd D_Rd_number 43 rfl) (fun v12 _ k6 => ?_)
          obtain ⟨r6, rfl, k6⟩ := k6
          refine jv_fix [0, 3, 4, 1, 2] [(o, .inr (2, [.ref tp, .ref pp, .ref nn, .ref ob, .ref nb, .int dp, .int (nI i), .int ub, .int pl])), (tp, .inr (0, [.ref tb, .int (nI t.length)])), (tb, .inl (dA 0, N, .inl f)), (pp, .inr (0, [.ref pb, .int (nI pr.length)])), (pb, .inl (dA 0, M, .inl g))] [.int r6] 0 0 rfl rfl rfl (Nat.le_refl _) (Nat.le_refl _) ?_
          rw [js_at_nat (by omega) (by omega)] at k6
          subst k6
          refine jv_callS (wr := [(o, .inr (2, [.ref tp, .ref pp, .ref nn, .ref ob, .ref nb, .int dp, .int (nI i), .int ub, .int pl])), (tp, .inr (0, [.ref tb, .int (nI t.length)])), (tb, .inl (dA 0, N, .inl f)), (pp, .inr (0, [.ref pb, .int (nI pr.length)])), (pb, .inl (dA 0, M, .inl g))]) C cl_Rd_135 (c_Rd_isFraction (js_b t (js_ne t i))) [] [0, 1, 2, 3, 4] rfl rfl rfl rfl (by decide) ⟨Nat.le_of_ble_eq_true rfl, Nat.le_of_ble_eq_true rfl⟩ ⟨Nat.le_of_ble_eq_true rfl, Nat.le_of_ble_eq_true rfl⟩ rfl rfl (Nat.le_of_ble_eq_true rfl) (jd D_Rd_number 44 rfl) (fun v13 _ k7 => ?_)
          obtain ⟨r7, rfl, k7⟩ := k7
          refine jv_fix [0, 1, 2, 3, 4] [(o, .inr (2, [.ref tp, .ref pp, .ref nn, .ref ob, .ref nb, .int dp, .int (nI i), .int ub, .int pl])), (tp, .inr (0, [.ref tb, .int (nI t.length)])), (tb, .inl (dA 0, N, .inl f)), (pp, .inr (0, [.ref pb, .int (nI pr.length)])), (pb, .inl (dA 0, M, .inl g))] [.int r7] 0 0 rfl rfl rfl (Nat.le_refl _) (Nat.le_refl _) ?_
          subst k7
          refine jv_if_eq (tgt := 95) C (jd D_Rd_number 45 rfl) (by decide) (fun c83 => ?_) (fun c83 => ?_)
          · rw [js_nu, if_neg c31, if_neg hsm, if_pos c83] at hnu
            cases hnu
            refine jv_aload_n C (jd D_Rd_number 51 rfl) rfl 2 rfl ?_
            refine jv_get C fl_Rd_9 0 rfl rfl (jd D_Rd_number 52 rfl) ?_
            refine jv_iload_n C (jd D_Rd_number 53 rfl) rfl 1 rfl ?_
            refine jv_callV (wr := [(o, .inr (2, [.ref tp, .ref pp, .ref nn, .ref ob, .ref nb, .int dp, .int (nI i), .int ub, .int pl])), (pp, .inr (0, [.ref pb, .int (nI pr.length)])), (pb, .inl (dA 0, M, .inl g))]) C cl_Rd_50 (c_Tx_at tp tb N f t (nI (js_nd t i)) hl (by omega) ht) [1, 2] [0, 3, 4] rfl rfl rfl rfl (by decide) rfl rfl 0 rfl ⟨Nat.le_of_ble_eq_true rfl, Nat.le_of_ble_eq_true rfl⟩ ⟨Nat.le_of_ble_eq_true rfl, Nat.le_of_ble_eq_true rfl⟩ rfl rfl (Nat.le_of_ble_eq_true rfl) (jd D_Rd_number 54 rfl) (fun v14 _ k8 => ?_)
            obtain ⟨r8, rfl, k8⟩ := k8
            refine jv_fix [0, 3, 4, 1, 2] [(o, .inr (2, [.ref tp, .ref pp, .ref nn, .ref ob, .ref nb, .int dp, .int (nI i), .int ub, .int pl])), (tp, .inr (0, [.ref tb, .int (nI t.length)])), (tb, .inl (dA 0, N, .inl f)), (pp, .inr (0, [.ref pb, .int (nI pr.length)])), (pb, .inl (dA 0, M, .inl g))] [.int r8] 0 0 rfl rfl rfl (Nat.le_refl _) (Nat.le_refl _) ?_
            rw [js_at_nat (by omega) (by omega)] at k8
            subst k8
            refine jv_bipush (v := 48) C (jd D_Rd_number 55 rfl) (by decide) ?_
            refine jv_icmp_ne (tgt := 112) C (jd D_Rd_number 56 rfl) (by decide) (fun c105 => ?_) (fun c105 => absurd c105 (c54))
            refine jv_aload_n C (jd D_Rd_number 59 rfl) rfl 2 rfl ?_
            refine jv_get C fl_Rd_46 0 rfl rfl (jd D_Rd_number 60 rfl) ?_
            refine jv_ati (y := nI (js_ns t i)) (by rw [js_ns, if_neg c54]) ?_
            refine jv_istore C [(4, .int (nI (js_ns t i))), (3, .int (nI (js_ne t i))), (2, .int (nI (js_nd t i))), (0, .ref o), (1, .int (js_b t i))] (jd D_Rd_number 61 rfl) (by decide) rfl ?_
            refine jv_weq (ws' := [(o, .inr (2, [.ref tp, .ref pp, .ref nn, .ref ob, .ref nb, .int dp, .int (nI i), .int ub, .int pl])), (tp, .inr (0, [.ref tb, .int (nI t.length)])), (tb, .inl (dA 0, N, .inl f)), (pp, .inr (0, [.ref pb, .int (nI (pr ++ js_sl t (js_ns t i) 0).length)])), (pb, .inl (dA 0, M, .inl g))]) (by rw [js_sl_0, List.append_nil]) ?_
            refine jv_iload C (jd D_Rd_number 62 rfl) 0 rfl ?_
            refine jv_istore C [(5, .int (nI (js_ns t i))), (4, .int (nI (js_ns t i))), (3, .int (nI (js_ne t i))), (2, .int (nI (js_nd t i))), (0, .ref o), (1, .int (js_b t i))] (jd D_Rd_number 63 rfl) (by decide) rfl ?_
            have hL122 : ∀ (n : Nat) (k : Nat) (g2 : Nat → Int32), js_ns t i + k ≤ js_ne t i → js_ne t i + 1 ≤ js_ns t i + k + n → js_tx g2 (pr ++ js_sl t (js_ns t i) k) → jv_V pR l eR (jv_rm 4 0 0) sR mR ([.ref o, .int (js_b t i)] : List Value).toArray belowR methR cR 0 0 QR D AR 6 [(o, .inr (2, [.ref tp, .ref pp, .ref nn, .ref ob, .ref nb, .int dp, .int (nI i), .int ub, .int pl])), (tp, .inr (0, [.ref tb, .int (nI t.length)])), (tb, .inl (dA 0, N, .inl f)), (pp, .inr (0, [.ref pb, .int (nI (pr ++ js_sl t (js_ns t i) k).length)])), (pb, .inl (dA 0, M, .inl g2))] [(0, .ref o), (1, .int (js_b t i)), (2, .int (nI (js_nd t i))), (3, .int (nI (js_ne t i))), (4, .int (nI (js_ns t i))), (5, .int (nI (js_ns t i + k)))] 122 [] := by
              intro n
              induction n with
              | zero =>
                intro k g2 h1 h2
                exact absurd h2 (by omega)
              | succ n ih =>
                intro k g2 hk hm htx
                refine jv_iload C (jd D_Rd_number 64 rfl) 5 rfl ?_
                refine jv_iload_n C (jd D_Rd_number 65 rfl) rfl 3 rfl ?_
                refine jv_icmp_ge (tgt := 150) C (jd D_Rd_number 66 rfl) (by decide) (fun c125 => ?_) (fun c125 => ?_)
                · refine jv_aload_n C (jd D_Rd_number 76 rfl) rfl 0 rfl ?_
                  refine jv_iload_n C (jd D_Rd_number 77 rfl) rfl 3 rfl ?_
                  refine jv_put C fl_Rd_46 Y_Rd rfl 0 [(o, .inr (2, [.ref tp, .ref pp, .ref nn, .ref ob, .ref nb, .int dp, .int (nI (js_ne t i)), .int ub, .int pl])), (tp, .inr (0, [.ref tb, .int (nI t.length)])), (tb, .inl (dA 0, N, .inl f)), (pp, .inr (0, [.ref pb, .int (nI (pr ++ js_sl t (js_ns t i) k).length)])), (pb, .inl (dA 0, M, .inl g2))] rfl rfl rfl (Nat.le_of_ble_eq_true rfl) rfl rfl (jd D_Rd_number 78 rfl) ?_
                  refine jv_iconst (v := 5) C (jd D_Rd_number 79 rfl) (by decide) ?_
                  have hk9 : k = js_ne t i - js_ns t i := by have := (nI_leI (a := js_ne t i) (b := js_ns t i + k) (by omega) (by omega)).mp c125; omega
                  subst hk9
                  refine jv_weq (ws' := [(o, .inr (2, [.ref tp, .ref pp, .ref nn, .ref ob, .ref nb, .int dp, .int (nI (js_ne t i)), .int ub, .int pl])), (tp, .inr (0, [.ref tb, .int (nI t.length)])), (tb, .inl (dA 0, N, .inl f)), (pp, .inr (0, [.ref pb, .int (nI (pr ++ js_sl t (js_ns t i) (js_ne t i - js_ns t i)).length)])), (pb, .inl (dA 0, M, .inl g2))]) rfl ?_
                  rw [hQ]
                  exact jv_iret C hr g2 (⟨rfl, htx⟩) rfl [0, 1, 2, 3, 4] rfl rfl (Nat.le_of_ble_eq_true rfl) (Nat.le_of_ble_eq_true rfl) (jd D_Rd_number 80 rfl)
                · have hlt : js_ns t i + k < js_ne t i := by
                    rcases Nat.lt_or_ge (js_ns t i + k) (js_ne t i) with y | y
                    · exact y
                    · exact absurd (nI_le y (by omega)) c125
                  have hln : (pr ++ js_sl t (js_ns t i) k).length = pr.length + k := by rw [List.length_append, js_sl_len (by omega)]
                  refine jv_aload_n C (jd D_Rd_number 67 rfl) rfl 0 rfl ?_
                  refine jv_get C fl_Rd_20 0 rfl rfl (jd D_Rd_number 68 rfl) ?_
                  refine jv_aload_n C (jd D_Rd_number 69 rfl) rfl 0 rfl ?_
                  refine jv_get C fl_Rd_9 0 rfl rfl (jd D_Rd_number 70 rfl) ?_
                  refine jv_iload C (jd D_Rd_number 71 rfl) 5 rfl ?_
                  refine jv_callV (wr := [(o, .inr (2, [.ref tp, .ref pp, .ref nn, .ref ob, .ref nb, .int dp, .int (nI i), .int ub, .int pl])), (pp, .inr (0, [.ref pb, .int (nI (pr ++ js_sl t (js_ns t i) k).length)])), (pb, .inl (dA 0, M, .inl g2))]) C cl_Rd_50 (c_Tx_at tp tb N f t (nI (js_ns t i + k)) hl (by omega) ht) [1, 2] [0, 3, 4] rfl rfl rfl rfl (by decide) rfl rfl 0 rfl ⟨Nat.le_of_ble_eq_true rfl, Nat.le_of_ble_eq_true rfl⟩ ⟨Nat.le_of_ble_eq_true rfl, Nat.le_of_ble_eq_true rfl⟩ rfl rfl (Nat.le_of_ble_eq_true rfl) (jd D_Rd_number 72 rfl) (fun v15 _ k9 => ?_)
                  obtain ⟨r9, rfl, k9⟩ := k9
                  refine jv_fix [0, 3, 4, 1, 2] [(o, .inr (2, [.ref tp, .ref pp, .ref nn, .ref ob, .ref nb, .int dp, .int (nI i), .int ub, .int pl])), (tp, .inr (0, [.ref tb, .int (nI t.length)])), (tb, .inl (dA 0, N, .inl f)), (pp, .inr (0, [.ref pb, .int (nI (pr ++ js_sl t (js_ns t i) k).length)])), (pb, .inl (dA 0, M, .inl g2))] [.int r9, .ref pp] 0 0 rfl rfl rfl (Nat.le_refl _) (Nat.le_refl _) ?_
                  rw [js_at_nat (by omega) (by omega)] at k9
                  subst k9
                  refine jv_callV (wr := [(o, .inr (2, [.ref tp, .ref pp, .ref nn, .ref ob, .ref nb, .int dp, .int (nI i), .int ub, .int pl])), (tp, .inr (0, [.ref tb, .int (nI t.length)])), (tb, .inl (dA 0, N, .inl f))]) C cl_Rd_86 (c_Tx_add pp pb M g2 (pr ++ js_sl t (js_ns t i) k) (js_b t (js_ns t i + k)) (by rw [hln]; omega) (by omega) htx) [3, 4] [0, 1, 2] rfl rfl rfl rfl (by decide) rfl rfl 0 rfl ⟨Nat.le_of_ble_eq_true rfl, Nat.le_of_ble_eq_true rfl⟩ ⟨Nat.le_of_ble_eq_true rfl, Nat.le_of_ble_eq_true rfl⟩ rfl rfl (Nat.le_of_ble_eq_true rfl) (jd D_Rd_number 73 rfl) (fun v16 g9 k9 => ?_)
                  obtain ⟨rfl, k9⟩ := k9
                  refine jv_fix [0, 1, 2, 3, 4] [(o, .inr (2, [.ref tp, .ref pp, .ref nn, .ref ob, .ref nb, .int dp, .int (nI i), .int ub, .int pl])), (tp, .inr (0, [.ref tb, .int (nI t.length)])), (tb, .inl (dA 0, N, .inl f)), (pp, .inr (0, [.ref pb, .int (nI (pr ++ js_sl t (js_ns t i) k ++ [(js_b t (js_ns t i + k)).toBitVec.toNat % 256]).length)])), (pb, .inl (dA 0, M, .inl g9))] [] 0 0 rfl rfl rfl (Nat.le_refl _) (Nat.le_refl _) ?_
                  have hnx : pr ++ js_sl t (js_ns t i) k ++ [(js_b t (js_ns t i + k)).toBitVec.toNat % 256] = pr ++ js_sl t (js_ns t i) (k + 1) := by
                    rcases js_b_cases ht.by (js_ns t i + k) with ⟨y, -⟩ | ⟨b9, hb9, hg9, he9⟩
                    · omega
                    · rw [he9, js_tn hb9, js_sl_s hg9, List.append_assoc]
                  rw [hnx] at k9
                  refine jv_weq (ws' := [(o, .inr (2, [.ref tp, .ref pp, .ref nn, .ref ob, .ref nb, .int dp, .int (nI i), .int ub, .int pl])), (tp, .inr (0, [.ref tb, .int (nI t.length)])), (tb, .inl (dA 0, N, .inl f)), (pp, .inr (0, [.ref pb, .int (nI (pr ++ js_sl t (js_ns t i) (k + 1)).length)])), (pb, .inl (dA 0, M, .inl g9))]) (by rw [hnx]) ?_
                  refine jv_iinc (v := nI (js_ns t i + (k + 1))) C [(5, .int (nI (js_ns t i + (k + 1)))), (0, .ref o), (1, .int (js_b t i)), (2, .int (nI (js_nd t i))), (3, .int (nI (js_ne t i))), (4, .int (nI (js_ns t i)))] (jd D_Rd_number 74 rfl) 5 rfl (nI_1 _) (by decide) rfl ?_
                  refine jv_goto (tgt := 122) C (jd D_Rd_number 75 rfl) (by decide) ?_
                  refine jv_lvsub [1, 2, 3, 4, 5, 0] rfl ?_
                  exact ih (k + 1) g9 (by omega) (by omega) k9
            refine jv_lvsub [4, 5, 3, 2, 1, 0] rfl ?_
            exact hL122 (js_ne t i + 1 - js_ns t i) 0 g (by omega) (by omega) (by rw [js_sl_0, List.append_nil]; exact htp)
          · rw [js_nu, if_neg c31, if_neg hsm, if_neg c83] at hnu
            cases hnu
    · rw [js_nu, if_pos c31] at hnu
      cases hnu
  · refine jv_aload_n C (jd D_Rd_number 3 rfl) rfl 0 rfl ?_
    refine jv_get C fl_Rd_46 0 rfl rfl (jd D_Rd_number 4 rfl) ?_
    refine jv_iconst (v := 1) C (jd D_Rd_number 5 rfl) (by decide) ?_
    refine jv_iadd C (jd D_Rd_number 6 rfl) ?_
    refine jv_ati (y := nI (i + 1)) (nI_1 i) ?_
    refine jv_goto (tgt := 19) C (jd D_Rd_number 7 rfl) (by decide) ?_
    refine jv_ati (y := nI (js_nd t i)) (by rw [js_nd, if_pos c3]) ?_
    refine jv_istore_n C [(2, .int (nI (js_nd t i))), (0, .ref o), (1, .int (js_b t i))] (jd D_Rd_number 10 rfl) rfl (by decide) rfl ?_
    have hd0 := js_nd_ge t i
    refine jv_aload_n C (jd D_Rd_number 11 rfl) rfl 1 rfl ?_
    refine jv_get C fl_Rd_9 0 rfl rfl (jd D_Rd_number 12 rfl) ?_
    refine jv_iload_n C (jd D_Rd_number 13 rfl) rfl 0 rfl ?_
    refine jv_callV (wr := [(o, .inr (2, [.ref tp, .ref pp, .ref nn, .ref ob, .ref nb, .int dp, .int (nI i), .int ub, .int pl])), (pp, .inr (0, [.ref pb, .int (nI pr.length)])), (pb, .inl (dA 0, M, .inl g))]) C cl_Rd_50 (c_Tx_at tp tb N f t (nI (js_nd t i)) hl (by omega) ht) [1, 2] [0, 3, 4] rfl rfl rfl rfl (by decide) rfl rfl 0 rfl ⟨Nat.le_of_ble_eq_true rfl, Nat.le_of_ble_eq_true rfl⟩ ⟨Nat.le_of_ble_eq_true rfl, Nat.le_of_ble_eq_true rfl⟩ rfl rfl (Nat.le_of_ble_eq_true rfl) (jd D_Rd_number 14 rfl) (fun v17 _ k1 => ?_)
    obtain ⟨r1, rfl, k1⟩ := k1
    refine jv_fix [0, 3, 4, 1, 2] [(o, .inr (2, [.ref tp, .ref pp, .ref nn, .ref ob, .ref nb, .int dp, .int (nI i), .int ub, .int pl])), (tp, .inr (0, [.ref tb, .int (nI t.length)])), (tb, .inl (dA 0, N, .inl f)), (pp, .inr (0, [.ref pb, .int (nI pr.length)])), (pb, .inl (dA 0, M, .inl g))] [.int r1] 0 0 rfl rfl rfl (Nat.le_refl _) (Nat.le_refl _) ?_
    rw [js_at_nat (by omega) (by omega)] at k1
    subst k1
    refine jv_callS (wr := [(o, .inr (2, [.ref tp, .ref pp, .ref nn, .ref ob, .ref nb, .int dp, .int (nI i), .int ub, .int pl])), (tp, .inr (0, [.ref tb, .int (nI t.length)])), (tb, .inl (dA 0, N, .inl f)), (pp, .inr (0, [.ref pb, .int (nI pr.length)])), (pb, .inl (dA 0, M, .inl g))]) C cl_Rd_125 (c_Rd_isDigit (js_b t (js_nd t i))) [] [0, 1, 2, 3, 4] rfl rfl rfl rfl (by decide) ⟨Nat.le_of_ble_eq_true rfl, Nat.le_of_ble_eq_true rfl⟩ ⟨Nat.le_of_ble_eq_true rfl, Nat.le_of_ble_eq_true rfl⟩ rfl rfl (Nat.le_of_ble_eq_true rfl) (jd D_Rd_number 15 rfl) (fun v18 _ k2 => ?_)
    obtain ⟨r2, rfl, k2⟩ := k2
    refine jv_fix [0, 1, 2, 3, 4] [(o, .inr (2, [.ref tp, .ref pp, .ref nn, .ref ob, .ref nb, .int dp, .int (nI i), .int ub, .int pl])), (tp, .inr (0, [.ref tb, .int (nI t.length)])), (tb, .inl (dA 0, N, .inl f)), (pp, .inr (0, [.ref pb, .int (nI pr.length)])), (pb, .inl (dA 0, M, .inl g))] [.int r2] 0 0 rfl rfl rfl (Nat.le_refl _) (Nat.le_refl _) ?_
    subst k2
    refine jv_if_ne (tgt := 40) C (jd D_Rd_number 16 rfl) (by decide) (fun c31 => ?_) (fun c31 => ?_)
    · have hd1 := js_dig_lt c31
      have hd2 := js_ne_le c31
      have hd3 := js_nd_ge t i
      have hd4 := js_ns_ge t i
      refine jv_iload_n C (jd D_Rd_number 21 rfl) rfl 0 rfl ?_
      refine jv_iconst (v := 1) C (jd D_Rd_number 22 rfl) (by decide) ?_
      refine jv_iadd C (jd D_Rd_number 23 rfl) ?_
      refine jv_ati (y := nI (js_nd t i + 1)) (nI_1 _) ?_
      refine jv_istore_n C [(3, .int (nI (js_nd t i + 1))), (2, .int (nI (js_nd t i))), (0, .ref o), (1, .int (js_b t i))] (jd D_Rd_number 24 rfl) rfl (by decide) rfl ?_
      refine jv_aload_n C (jd D_Rd_number 25 rfl) rfl 2 rfl ?_
      refine jv_get C fl_Rd_9 0 rfl rfl (jd D_Rd_number 26 rfl) ?_
      refine jv_iload_n C (jd D_Rd_number 27 rfl) rfl 1 rfl ?_
      refine jv_callV (wr := [(o, .inr (2, [.ref tp, .ref pp, .ref nn, .ref ob, .ref nb, .int dp, .int (nI i), .int ub, .int pl])), (pp, .inr (0, [.ref pb, .int (nI pr.length)])), (pb, .inl (dA 0, M, .inl g))]) C cl_Rd_50 (c_Tx_at tp tb N f t (nI (js_nd t i)) hl (by omega) ht) [1, 2] [0, 3, 4] rfl rfl rfl rfl (by decide) rfl rfl 0 rfl ⟨Nat.le_of_ble_eq_true rfl, Nat.le_of_ble_eq_true rfl⟩ ⟨Nat.le_of_ble_eq_true rfl, Nat.le_of_ble_eq_true rfl⟩ rfl rfl (Nat.le_of_ble_eq_true rfl) (jd D_Rd_number 28 rfl) (fun v19 _ k3 => ?_)
      obtain ⟨r3, rfl, k3⟩ := k3
      refine jv_fix [0, 3, 4, 1, 2] [(o, .inr (2, [.ref tp, .ref pp, .ref nn, .ref ob, .ref nb, .int dp, .int (nI i), .int ub, .int pl])), (tp, .inr (0, [.ref tb, .int (nI t.length)])), (tb, .inl (dA 0, N, .inl f)), (pp, .inr (0, [.ref pb, .int (nI pr.length)])), (pb, .inl (dA 0, M, .inl g))] [.int r3] 0 0 rfl rfl rfl (Nat.le_refl _) (Nat.le_refl _) ?_
      rw [js_at_nat (by omega) (by omega)] at k3
      subst k3
      refine jv_bipush (v := 48) C (jd D_Rd_number 29 rfl) (by decide) ?_
      refine jv_icmp_eq (tgt := 63) C (jd D_Rd_number 30 rfl) (by decide) (fun c54 => ?_) (fun c54 => ?_)
      · refine jv_lveq (lv' := [(3, .int (nI (js_ne t i))), (2, .int (nI (js_nd t i))), (0, .ref o), (1, .int (js_b t i))]) (by rw [js_ne, if_pos c54]) ?_
        refine jv_aload_n C (jd D_Rd_number 35 rfl) rfl 2 rfl ?_
        refine jv_iload_n C (jd D_Rd_number 36 rfl) rfl 1 rfl ?_
        refine jv_iload_n C (jd D_Rd_number 37 rfl) rfl 0 rfl ?_
        refine jv_callV (wr := [(pp, .inr (0, [.ref pb, .int (nI pr.length)])), (pb, .inl (dA 0, M, .inl g))]) C cl_Rd_131 (c_Rd_isTooGreat o tp pp nn ob nb dp ub pl i tb N f t (js_nd t i) (js_ne t i) hl hN ht (by omega) (by omega)) [0, 1, 2] [3, 4] rfl rfl rfl rfl (by decide) rfl rfl 0 rfl ⟨Nat.le_of_ble_eq_true rfl, Nat.le_of_ble_eq_true rfl⟩ ⟨Nat.le_of_ble_eq_true rfl, Nat.le_of_ble_eq_true rfl⟩ rfl rfl (Nat.le_of_ble_eq_true rfl) (jd D_Rd_number 38 rfl) (fun v20 _ k5 => ?_)
        obtain ⟨r5, rfl, k5⟩ := k5
        refine jv_fix [2, 3, 4, 0, 1] [(o, .inr (2, [.ref tp, .ref pp, .ref nn, .ref ob, .ref nb, .int dp, .int (nI i), .int ub, .int pl])), (tp, .inr (0, [.ref tb, .int (nI t.length)])), (tb, .inl (dA 0, N, .inl f)), (pp, .inr (0, [.ref pb, .int (nI pr.length)])), (pb, .inl (dA 0, M, .inl g))] [.int r5] 0 0 rfl rfl rfl (Nat.le_refl _) (Nat.le_refl _) ?_
        refine jv_if_ne (tgt := 86) C (jd D_Rd_number 39 rfl) (by decide) (fun c69 => ?_) (fun c69 => ?_)
        · rw [js_nu, if_neg c31, if_pos (by rcases k5 with y | y; exact y.2; exact absurd y.1 c69)] at hnu
          cases hnu
        · have hsm : ¬ 9007199254740991 < js_tg t (js_ne t i - js_nd t i) (js_nd t i) 0 := by
            rcases k5 with y | y
            · exact absurd (y.1.symm.trans c69) (by decide)
            · exact y.2
          refine jv_aload_n C (jd D_Rd_number 40 rfl) rfl 2 rfl ?_
          refine jv_get C fl_Rd_9 0 rfl rfl (jd D_Rd_number 41 rfl) ?_
          refine jv_iload_n C (jd D_Rd_number 42 rfl) rfl 0 rfl ?_
          refine jv_callV (wr := [(o, .inr (2, [.ref tp, .ref pp, .ref nn, .ref ob, .ref nb, .int dp, .int (nI i), .int ub, .int pl])), (pp, .inr (0, [.ref pb, .int (nI pr.length)])), (pb, .inl (dA 0, M, .inl g))]) C cl_Rd_50 (c_Tx_at tp tb N f t (nI (js_ne t i)) hl (by omega) ht) [1, 2] [0, 3, 4] rfl rfl rfl rfl (by decide) rfl rfl 0 rfl ⟨Nat.le_of_ble_eq_true rfl, Nat.le_of_ble_eq_true rfl⟩ ⟨Nat.le_of_ble_eq_true rfl, Nat.le_of_ble_eq_true rfl⟩ rfl rfl (Nat.le_of_ble_eq_true rfl) (jd D_Rd_number 43 rfl) (fun v21 _ k6 => ?_)
          obtain ⟨r6, rfl, k6⟩ := k6
          refine jv_fix [0, 3, 4, 1, 2] [(o, .inr (2, [.ref tp, .ref pp, .ref nn, .ref ob, .ref nb, .int dp, .int (nI i), .int ub, .int pl])), (tp, .inr (0, [.ref tb, .int (nI t.length)])), (tb, .inl (dA 0, N, .inl f)), (pp, .inr (0, [.ref pb, .int (nI pr.length)])), (pb, .inl (dA 0, M, .inl g))] [.int r6] 0 0 rfl rfl rfl (Nat.le_refl _) (Nat.le_refl _) ?_
          rw [js_at_nat (by omega) (by omega)] at k6
          subst k6
          refine jv_callS (wr := [(o, .inr (2, [.ref tp, .ref pp, .ref nn, .ref ob, .ref nb, .int dp, .int (nI i), .int ub, .int pl])), (tp, .inr (0, [.ref tb, .int (nI t.length)])), (tb, .inl (dA 0, N, .inl f)), (pp, .inr (0, [.ref pb, .int (nI pr.length)])), (pb, .inl (dA 0, M, .inl g))]) C cl_Rd_135 (c_Rd_isFraction (js_b t (js_ne t i))) [] [0, 1, 2, 3, 4] rfl rfl rfl rfl (by decide) ⟨Nat.le_of_ble_eq_true rfl, Nat.le_of_ble_eq_true rfl⟩ ⟨Nat.le_of_ble_eq_true rfl, Nat.le_of_ble_eq_true rfl⟩ rfl rfl (Nat.le_of_ble_eq_true rfl) (jd D_Rd_number 44 rfl) (fun v22 _ k7 => ?_)
          obtain ⟨r7, rfl, k7⟩ := k7
          refine jv_fix [0, 1, 2, 3, 4] [(o, .inr (2, [.ref tp, .ref pp, .ref nn, .ref ob, .ref nb, .int dp, .int (nI i), .int ub, .int pl])), (tp, .inr (0, [.ref tb, .int (nI t.length)])), (tb, .inl (dA 0, N, .inl f)), (pp, .inr (0, [.ref pb, .int (nI pr.length)])), (pb, .inl (dA 0, M, .inl g))] [.int r7] 0 0 rfl rfl rfl (Nat.le_refl _) (Nat.le_refl _) ?_
          subst k7
          refine jv_if_eq (tgt := 95) C (jd D_Rd_number 45 rfl) (by decide) (fun c83 => ?_) (fun c83 => ?_)
          · rw [js_nu, if_neg c31, if_neg hsm, if_pos c83] at hnu
            cases hnu
            refine jv_aload_n C (jd D_Rd_number 51 rfl) rfl 2 rfl ?_
            refine jv_get C fl_Rd_9 0 rfl rfl (jd D_Rd_number 52 rfl) ?_
            refine jv_iload_n C (jd D_Rd_number 53 rfl) rfl 1 rfl ?_
            refine jv_callV (wr := [(o, .inr (2, [.ref tp, .ref pp, .ref nn, .ref ob, .ref nb, .int dp, .int (nI i), .int ub, .int pl])), (pp, .inr (0, [.ref pb, .int (nI pr.length)])), (pb, .inl (dA 0, M, .inl g))]) C cl_Rd_50 (c_Tx_at tp tb N f t (nI (js_nd t i)) hl (by omega) ht) [1, 2] [0, 3, 4] rfl rfl rfl rfl (by decide) rfl rfl 0 rfl ⟨Nat.le_of_ble_eq_true rfl, Nat.le_of_ble_eq_true rfl⟩ ⟨Nat.le_of_ble_eq_true rfl, Nat.le_of_ble_eq_true rfl⟩ rfl rfl (Nat.le_of_ble_eq_true rfl) (jd D_Rd_number 54 rfl) (fun v23 _ k8 => ?_)
            obtain ⟨r8, rfl, k8⟩ := k8
            refine jv_fix [0, 3, 4, 1, 2] [(o, .inr (2, [.ref tp, .ref pp, .ref nn, .ref ob, .ref nb, .int dp, .int (nI i), .int ub, .int pl])), (tp, .inr (0, [.ref tb, .int (nI t.length)])), (tb, .inl (dA 0, N, .inl f)), (pp, .inr (0, [.ref pb, .int (nI pr.length)])), (pb, .inl (dA 0, M, .inl g))] [.int r8] 0 0 rfl rfl rfl (Nat.le_refl _) (Nat.le_refl _) ?_
            rw [js_at_nat (by omega) (by omega)] at k8
            subst k8
            refine jv_bipush (v := 48) C (jd D_Rd_number 55 rfl) (by decide) ?_
            refine jv_icmp_ne (tgt := 112) C (jd D_Rd_number 56 rfl) (by decide) (fun c105 => absurd c105 (fun y => y c54)) (fun c105 => ?_)
            refine jv_iload_n C (jd D_Rd_number 57 rfl) rfl 1 rfl ?_
            refine jv_goto (tgt := 116) C (jd D_Rd_number 58 rfl) (by decide) ?_
            refine jv_ati (y := nI (js_ns t i)) (by rw [js_ns, if_pos c54]) ?_
            refine jv_istore C [(4, .int (nI (js_ns t i))), (3, .int (nI (js_ne t i))), (2, .int (nI (js_nd t i))), (0, .ref o), (1, .int (js_b t i))] (jd D_Rd_number 61 rfl) (by decide) rfl ?_
            refine jv_weq (ws' := [(o, .inr (2, [.ref tp, .ref pp, .ref nn, .ref ob, .ref nb, .int dp, .int (nI i), .int ub, .int pl])), (tp, .inr (0, [.ref tb, .int (nI t.length)])), (tb, .inl (dA 0, N, .inl f)), (pp, .inr (0, [.ref pb, .int (nI (pr ++ js_sl t (js_ns t i) 0).length)])), (pb, .inl (dA 0, M, .inl g))]) (by rw [js_sl_0, List.append_nil]) ?_
            refine jv_iload C (jd D_Rd_number 62 rfl) 0 rfl ?_
            refine jv_istore C [(5, .int (nI (js_ns t i))), (4, .int (nI (js_ns t i))), (3, .int (nI (js_ne t i))), (2, .int (nI (js_nd t i))), (0, .ref o), (1, .int (js_b t i))] (jd D_Rd_number 63 rfl) (by decide) rfl ?_
            have hL122 : ∀ (n : Nat) (k : Nat) (g2 : Nat → Int32), js_ns t i + k ≤ js_ne t i → js_ne t i + 1 ≤ js_ns t i + k + n → js_tx g2 (pr ++ js_sl t (js_ns t i) k) → jv_V pR l eR (jv_rm 4 0 0) sR mR ([.ref o, .int (js_b t i)] : List Value).toArray belowR methR cR 0 0 QR D AR 6 [(o, .inr (2, [.ref tp, .ref pp, .ref nn, .ref ob, .ref nb, .int dp, .int (nI i), .int ub, .int pl])), (tp, .inr (0, [.ref tb, .int (nI t.length)])), (tb, .inl (dA 0, N, .inl f)), (pp, .inr (0, [.ref pb, .int (nI (pr ++ js_sl t (js_ns t i) k).length)])), (pb, .inl (dA 0, M, .inl g2))] [(0, .ref o), (1, .int (js_b t i)), (2, .int (nI (js_nd t i))), (3, .int (nI (js_ne t i))), (4, .int (nI (js_ns t i))), (5, .int (nI (js_ns t i + k)))] 122 [] := by
              intro n
              induction n with
              | zero =>
                intro k g2 h1 h2
                exact absurd h2 (by omega)
              | succ n ih =>
                intro k g2 hk hm htx
                refine jv_iload C (jd D_Rd_number 64 rfl) 5 rfl ?_
                refine jv_iload_n C (jd D_Rd_number 65 rfl) rfl 3 rfl ?_
                refine jv_icmp_ge (tgt := 150) C (jd D_Rd_number 66 rfl) (by decide) (fun c125 => ?_) (fun c125 => ?_)
                · refine jv_aload_n C (jd D_Rd_number 76 rfl) rfl 0 rfl ?_
                  refine jv_iload_n C (jd D_Rd_number 77 rfl) rfl 3 rfl ?_
                  refine jv_put C fl_Rd_46 Y_Rd rfl 0 [(o, .inr (2, [.ref tp, .ref pp, .ref nn, .ref ob, .ref nb, .int dp, .int (nI (js_ne t i)), .int ub, .int pl])), (tp, .inr (0, [.ref tb, .int (nI t.length)])), (tb, .inl (dA 0, N, .inl f)), (pp, .inr (0, [.ref pb, .int (nI (pr ++ js_sl t (js_ns t i) k).length)])), (pb, .inl (dA 0, M, .inl g2))] rfl rfl rfl (Nat.le_of_ble_eq_true rfl) rfl rfl (jd D_Rd_number 78 rfl) ?_
                  refine jv_iconst (v := 5) C (jd D_Rd_number 79 rfl) (by decide) ?_
                  have hk9 : k = js_ne t i - js_ns t i := by have := (nI_leI (a := js_ne t i) (b := js_ns t i + k) (by omega) (by omega)).mp c125; omega
                  subst hk9
                  refine jv_weq (ws' := [(o, .inr (2, [.ref tp, .ref pp, .ref nn, .ref ob, .ref nb, .int dp, .int (nI (js_ne t i)), .int ub, .int pl])), (tp, .inr (0, [.ref tb, .int (nI t.length)])), (tb, .inl (dA 0, N, .inl f)), (pp, .inr (0, [.ref pb, .int (nI (pr ++ js_sl t (js_ns t i) (js_ne t i - js_ns t i)).length)])), (pb, .inl (dA 0, M, .inl g2))]) rfl ?_
                  rw [hQ]
                  exact jv_iret C hr g2 (⟨rfl, htx⟩) rfl [0, 1, 2, 3, 4] rfl rfl (Nat.le_of_ble_eq_true rfl) (Nat.le_of_ble_eq_true rfl) (jd D_Rd_number 80 rfl)
                · have hlt : js_ns t i + k < js_ne t i := by
                    rcases Nat.lt_or_ge (js_ns t i + k) (js_ne t i) with y | y
                    · exact y
                    · exact absurd (nI_le y (by omega)) c125
                  have hln : (pr ++ js_sl t (js_ns t i) k).length = pr.length + k := by rw [List.length_append, js_sl_len (by omega)]
                  refine jv_aload_n C (jd D_Rd_number 67 rfl) rfl 0 rfl ?_
                  refine jv_get C fl_Rd_20 0 rfl rfl (jd D_Rd_number 68 rfl) ?_
                  refine jv_aload_n C (jd D_Rd_number 69 rfl) rfl 0 rfl ?_
                  refine jv_get C fl_Rd_9 0 rfl rfl (jd D_Rd_number 70 rfl) ?_
                  refine jv_iload C (jd D_Rd_number 71 rfl) 5 rfl ?_
                  refine jv_callV (wr := [(o, .inr (2, [.ref tp, .ref pp, .ref nn, .ref ob, .ref nb, .int dp, .int (nI i), .int ub, .int pl])), (pp, .inr (0, [.ref pb, .int (nI (pr ++ js_sl t (js_ns t i) k).length)])), (pb, .inl (dA 0, M, .inl g2))]) C cl_Rd_50 (c_Tx_at tp tb N f t (nI (js_ns t i + k)) hl (by omega) ht) [1, 2] [0, 3, 4] rfl rfl rfl rfl (by decide) rfl rfl 0 rfl ⟨Nat.le_of_ble_eq_true rfl, Nat.le_of_ble_eq_true rfl⟩ ⟨Nat.le_of_ble_eq_true rfl, Nat.le_of_ble_eq_true rfl⟩ rfl rfl (Nat.le_of_ble_eq_true rfl) (jd D_Rd_number 72 rfl) (fun v24 _ k9 => ?_)
                  obtain ⟨r9, rfl, k9⟩ := k9
                  refine jv_fix [0, 3, 4, 1, 2] [(o, .inr (2, [.ref tp, .ref pp, .ref nn, .ref ob, .ref nb, .int dp, .int (nI i), .int ub, .int pl])), (tp, .inr (0, [.ref tb, .int (nI t.length)])), (tb, .inl (dA 0, N, .inl f)), (pp, .inr (0, [.ref pb, .int (nI (pr ++ js_sl t (js_ns t i) k).length)])), (pb, .inl (dA 0, M, .inl g2))] [.int r9, .ref pp] 0 0 rfl rfl rfl (Nat.le_refl _) (Nat.le_refl _) ?_
                  rw [js_at_nat (by omega) (by omega)] at k9
                  subst k9
                  refine jv_callV (wr := [(o, .inr (2, [.ref tp, .ref pp, .ref nn, .ref ob, .ref nb, .int dp, .int (nI i), .int ub, .int pl])), (tp, .inr (0, [.ref tb, .int (nI t.length)])), (tb, .inl (dA 0, N, .inl f))]) C cl_Rd_86 (c_Tx_add pp pb M g2 (pr ++ js_sl t (js_ns t i) k) (js_b t (js_ns t i + k)) (by rw [hln]; omega) (by omega) htx) [3, 4] [0, 1, 2] rfl rfl rfl rfl (by decide) rfl rfl 0 rfl ⟨Nat.le_of_ble_eq_true rfl, Nat.le_of_ble_eq_true rfl⟩ ⟨Nat.le_of_ble_eq_true rfl, Nat.le_of_ble_eq_true rfl⟩ rfl rfl (Nat.le_of_ble_eq_true rfl) (jd D_Rd_number 73 rfl) (fun v25 g9 k9 => ?_)
                  obtain ⟨rfl, k9⟩ := k9
                  refine jv_fix [0, 1, 2, 3, 4] [(o, .inr (2, [.ref tp, .ref pp, .ref nn, .ref ob, .ref nb, .int dp, .int (nI i), .int ub, .int pl])), (tp, .inr (0, [.ref tb, .int (nI t.length)])), (tb, .inl (dA 0, N, .inl f)), (pp, .inr (0, [.ref pb, .int (nI (pr ++ js_sl t (js_ns t i) k ++ [(js_b t (js_ns t i + k)).toBitVec.toNat % 256]).length)])), (pb, .inl (dA 0, M, .inl g9))] [] 0 0 rfl rfl rfl (Nat.le_refl _) (Nat.le_refl _) ?_
                  have hnx : pr ++ js_sl t (js_ns t i) k ++ [(js_b t (js_ns t i + k)).toBitVec.toNat % 256] = pr ++ js_sl t (js_ns t i) (k + 1) := by
                    rcases js_b_cases ht.by (js_ns t i + k) with ⟨y, -⟩ | ⟨b9, hb9, hg9, he9⟩
                    · omega
                    · rw [he9, js_tn hb9, js_sl_s hg9, List.append_assoc]
                  rw [hnx] at k9
                  refine jv_weq (ws' := [(o, .inr (2, [.ref tp, .ref pp, .ref nn, .ref ob, .ref nb, .int dp, .int (nI i), .int ub, .int pl])), (tp, .inr (0, [.ref tb, .int (nI t.length)])), (tb, .inl (dA 0, N, .inl f)), (pp, .inr (0, [.ref pb, .int (nI (pr ++ js_sl t (js_ns t i) (k + 1)).length)])), (pb, .inl (dA 0, M, .inl g9))]) (by rw [hnx]) ?_
                  refine jv_iinc (v := nI (js_ns t i + (k + 1))) C [(5, .int (nI (js_ns t i + (k + 1)))), (0, .ref o), (1, .int (js_b t i)), (2, .int (nI (js_nd t i))), (3, .int (nI (js_ne t i))), (4, .int (nI (js_ns t i)))] (jd D_Rd_number 74 rfl) 5 rfl (nI_1 _) (by decide) rfl ?_
                  refine jv_goto (tgt := 122) C (jd D_Rd_number 75 rfl) (by decide) ?_
                  refine jv_lvsub [1, 2, 3, 4, 5, 0] rfl ?_
                  exact ih (k + 1) g9 (by omega) (by omega) k9
            refine jv_lvsub [4, 5, 3, 2, 1, 0] rfl ?_
            exact hL122 (js_ne t i + 1 - js_ns t i) 0 g (by omega) (by omega) (by rw [js_sl_0, List.append_nil]; exact htp)
          · rw [js_nu, if_neg c31, if_neg hsm, if_neg c83] at hnu
            cases hnu
      · refine jv_aload_n C (jd D_Rd_number 31 rfl) rfl 2 rfl ?_
        refine jv_iload_n C (jd D_Rd_number 32 rfl) rfl 1 rfl ?_
        refine jv_callV (wr := [(pp, .inr (0, [.ref pb, .int (nI pr.length)])), (pb, .inl (dA 0, M, .inl g))]) C cl_Rd_128 (c_Rd_endOfDigits o tp pp nn ob nb dp ub pl i tb N f t (js_nd t i) hl hN ht (by omega)) [0, 1, 2] [3, 4] rfl rfl rfl rfl (by decide) rfl rfl 0 rfl ⟨Nat.le_of_ble_eq_true rfl, Nat.le_of_ble_eq_true rfl⟩ ⟨Nat.le_of_ble_eq_true rfl, Nat.le_of_ble_eq_true rfl⟩ rfl rfl (Nat.le_of_ble_eq_true rfl) (jd D_Rd_number 33 rfl) (fun v26 _ k4 => ?_)
        obtain ⟨r4, rfl, k4⟩ := k4
        refine jv_fix [2, 3, 4, 0, 1] [(o, .inr (2, [.ref tp, .ref pp, .ref nn, .ref ob, .ref nb, .int dp, .int (nI i), .int ub, .int pl])), (tp, .inr (0, [.ref tb, .int (nI t.length)])), (tb, .inl (dA 0, N, .inl f)), (pp, .inr (0, [.ref pb, .int (nI pr.length)])), (pb, .inl (dA 0, M, .inl g))] [.int r4] 0 0 rfl rfl rfl (Nat.le_refl _) (Nat.le_refl _) ?_
        subst k4
        refine jv_istore_n C [(3, .int (nI (js_dg t (t.length - js_nd t i) (js_nd t i)))), (2, .int (nI (js_nd t i))), (0, .ref o), (1, .int (js_b t i))] (jd D_Rd_number 34 rfl) rfl (by decide) rfl ?_
        refine jv_lveq (lv' := [(3, .int (nI (js_ne t i))), (2, .int (nI (js_nd t i))), (0, .ref o), (1, .int (js_b t i))]) (by rw [js_ne, if_neg c54]) ?_
        refine jv_aload_n C (jd D_Rd_number 35 rfl) rfl 2 rfl ?_
        refine jv_iload_n C (jd D_Rd_number 36 rfl) rfl 1 rfl ?_
        refine jv_iload_n C (jd D_Rd_number 37 rfl) rfl 0 rfl ?_
        refine jv_callV (wr := [(pp, .inr (0, [.ref pb, .int (nI pr.length)])), (pb, .inl (dA 0, M, .inl g))]) C cl_Rd_131 (c_Rd_isTooGreat o tp pp nn ob nb dp ub pl i tb N f t (js_nd t i) (js_ne t i) hl hN ht (by omega) (by omega)) [0, 1, 2] [3, 4] rfl rfl rfl rfl (by decide) rfl rfl 0 rfl ⟨Nat.le_of_ble_eq_true rfl, Nat.le_of_ble_eq_true rfl⟩ ⟨Nat.le_of_ble_eq_true rfl, Nat.le_of_ble_eq_true rfl⟩ rfl rfl (Nat.le_of_ble_eq_true rfl) (jd D_Rd_number 38 rfl) (fun v27 _ k5 => ?_)
        obtain ⟨r5, rfl, k5⟩ := k5
        refine jv_fix [2, 3, 4, 0, 1] [(o, .inr (2, [.ref tp, .ref pp, .ref nn, .ref ob, .ref nb, .int dp, .int (nI i), .int ub, .int pl])), (tp, .inr (0, [.ref tb, .int (nI t.length)])), (tb, .inl (dA 0, N, .inl f)), (pp, .inr (0, [.ref pb, .int (nI pr.length)])), (pb, .inl (dA 0, M, .inl g))] [.int r5] 0 0 rfl rfl rfl (Nat.le_refl _) (Nat.le_refl _) ?_
        refine jv_if_ne (tgt := 86) C (jd D_Rd_number 39 rfl) (by decide) (fun c69 => ?_) (fun c69 => ?_)
        · rw [js_nu, if_neg c31, if_pos (by rcases k5 with y | y; exact y.2; exact absurd y.1 c69)] at hnu
          cases hnu
        · have hsm : ¬ 9007199254740991 < js_tg t (js_ne t i - js_nd t i) (js_nd t i) 0 := by
            rcases k5 with y | y
            · exact absurd (y.1.symm.trans c69) (by decide)
            · exact y.2
          refine jv_aload_n C (jd D_Rd_number 40 rfl) rfl 2 rfl ?_
          refine jv_get C fl_Rd_9 0 rfl rfl (jd D_Rd_number 41 rfl) ?_
          refine jv_iload_n C (jd D_Rd_number 42 rfl) rfl 0 rfl ?_
          refine jv_callV (wr := [(o, .inr (2, [.ref tp, .ref pp, .ref nn, .ref ob, .ref nb, .int dp, .int (nI i), .int ub, .int pl])), (pp, .inr (0, [.ref pb, .int (nI pr.length)])), (pb, .inl (dA 0, M, .inl g))]) C cl_Rd_50 (c_Tx_at tp tb N f t (nI (js_ne t i)) hl (by omega) ht) [1, 2] [0, 3, 4] rfl rfl rfl rfl (by decide) rfl rfl 0 rfl ⟨Nat.le_of_ble_eq_true rfl, Nat.le_of_ble_eq_true rfl⟩ ⟨Nat.le_of_ble_eq_true rfl, Nat.le_of_ble_eq_true rfl⟩ rfl rfl (Nat.le_of_ble_eq_true rfl) (jd D_Rd_number 43 rfl) (fun v28 _ k6 => ?_)
          obtain ⟨r6, rfl, k6⟩ := k6
          refine jv_fix [0, 3, 4, 1, 2] [(o, .inr (2, [.ref tp, .ref pp, .ref nn, .ref ob, .ref nb, .int dp, .int (nI i), .int ub, .int pl])), (tp, .inr (0, [.ref tb, .int (nI t.length)])), (tb, .inl (dA 0, N, .inl f)), (pp, .inr (0, [.ref pb, .int (nI pr.length)])), (pb, .inl (dA 0, M, .inl g))] [.int r6] 0 0 rfl rfl rfl (Nat.le_refl _) (Nat.le_refl _) ?_
          rw [js_at_nat (by omega) (by omega)] at k6
          subst k6
          refine jv_callS (wr := [(o, .inr (2, [.ref tp, .ref pp, .ref nn, .ref ob, .ref nb, .int dp, .int (nI i), .int ub, .int pl])), (tp, .inr (0, [.ref tb, .int (nI t.length)])), (tb, .inl (dA 0, N, .inl f)), (pp, .inr (0, [.ref pb, .int (nI pr.length)])), (pb, .inl (dA 0, M, .inl g))]) C cl_Rd_135 (c_Rd_isFraction (js_b t (js_ne t i))) [] [0, 1, 2, 3, 4] rfl rfl rfl rfl (by decide) ⟨Nat.le_of_ble_eq_true rfl, Nat.le_of_ble_eq_true rfl⟩ ⟨Nat.le_of_ble_eq_true rfl, Nat.le_of_ble_eq_true rfl⟩ rfl rfl (Nat.le_of_ble_eq_true rfl) (jd D_Rd_number 44 rfl) (fun v29 _ k7 => ?_)
          obtain ⟨r7, rfl, k7⟩ := k7
          refine jv_fix [0, 1, 2, 3, 4] [(o, .inr (2, [.ref tp, .ref pp, .ref nn, .ref ob, .ref nb, .int dp, .int (nI i), .int ub, .int pl])), (tp, .inr (0, [.ref tb, .int (nI t.length)])), (tb, .inl (dA 0, N, .inl f)), (pp, .inr (0, [.ref pb, .int (nI pr.length)])), (pb, .inl (dA 0, M, .inl g))] [.int r7] 0 0 rfl rfl rfl (Nat.le_refl _) (Nat.le_refl _) ?_
          subst k7
          refine jv_if_eq (tgt := 95) C (jd D_Rd_number 45 rfl) (by decide) (fun c83 => ?_) (fun c83 => ?_)
          · rw [js_nu, if_neg c31, if_neg hsm, if_pos c83] at hnu
            cases hnu
            refine jv_aload_n C (jd D_Rd_number 51 rfl) rfl 2 rfl ?_
            refine jv_get C fl_Rd_9 0 rfl rfl (jd D_Rd_number 52 rfl) ?_
            refine jv_iload_n C (jd D_Rd_number 53 rfl) rfl 1 rfl ?_
            refine jv_callV (wr := [(o, .inr (2, [.ref tp, .ref pp, .ref nn, .ref ob, .ref nb, .int dp, .int (nI i), .int ub, .int pl])), (pp, .inr (0, [.ref pb, .int (nI pr.length)])), (pb, .inl (dA 0, M, .inl g))]) C cl_Rd_50 (c_Tx_at tp tb N f t (nI (js_nd t i)) hl (by omega) ht) [1, 2] [0, 3, 4] rfl rfl rfl rfl (by decide) rfl rfl 0 rfl ⟨Nat.le_of_ble_eq_true rfl, Nat.le_of_ble_eq_true rfl⟩ ⟨Nat.le_of_ble_eq_true rfl, Nat.le_of_ble_eq_true rfl⟩ rfl rfl (Nat.le_of_ble_eq_true rfl) (jd D_Rd_number 54 rfl) (fun v30 _ k8 => ?_)
            obtain ⟨r8, rfl, k8⟩ := k8
            refine jv_fix [0, 3, 4, 1, 2] [(o, .inr (2, [.ref tp, .ref pp, .ref nn, .ref ob, .ref nb, .int dp, .int (nI i), .int ub, .int pl])), (tp, .inr (0, [.ref tb, .int (nI t.length)])), (tb, .inl (dA 0, N, .inl f)), (pp, .inr (0, [.ref pb, .int (nI pr.length)])), (pb, .inl (dA 0, M, .inl g))] [.int r8] 0 0 rfl rfl rfl (Nat.le_refl _) (Nat.le_refl _) ?_
            rw [js_at_nat (by omega) (by omega)] at k8
            subst k8
            refine jv_bipush (v := 48) C (jd D_Rd_number 55 rfl) (by decide) ?_
            refine jv_icmp_ne (tgt := 112) C (jd D_Rd_number 56 rfl) (by decide) (fun c105 => ?_) (fun c105 => absurd c105 (c54))
            refine jv_aload_n C (jd D_Rd_number 59 rfl) rfl 2 rfl ?_
            refine jv_get C fl_Rd_46 0 rfl rfl (jd D_Rd_number 60 rfl) ?_
            refine jv_ati (y := nI (js_ns t i)) (by rw [js_ns, if_neg c54]) ?_
            refine jv_istore C [(4, .int (nI (js_ns t i))), (3, .int (nI (js_ne t i))), (2, .int (nI (js_nd t i))), (0, .ref o), (1, .int (js_b t i))] (jd D_Rd_number 61 rfl) (by decide) rfl ?_
            refine jv_weq (ws' := [(o, .inr (2, [.ref tp, .ref pp, .ref nn, .ref ob, .ref nb, .int dp, .int (nI i), .int ub, .int pl])), (tp, .inr (0, [.ref tb, .int (nI t.length)])), (tb, .inl (dA 0, N, .inl f)), (pp, .inr (0, [.ref pb, .int (nI (pr ++ js_sl t (js_ns t i) 0).length)])), (pb, .inl (dA 0, M, .inl g))]) (by rw [js_sl_0, List.append_nil]) ?_
            refine jv_iload C (jd D_Rd_number 62 rfl) 0 rfl ?_
            refine jv_istore C [(5, .int (nI (js_ns t i))), (4, .int (nI (js_ns t i))), (3, .int (nI (js_ne t i))), (2, .int (nI (js_nd t i))), (0, .ref o), (1, .int (js_b t i))] (jd D_Rd_number 63 rfl) (by decide) rfl ?_
            have hL122 : ∀ (n : Nat) (k : Nat) (g2 : Nat → Int32), js_ns t i + k ≤ js_ne t i → js_ne t i + 1 ≤ js_ns t i + k + n → js_tx g2 (pr ++ js_sl t (js_ns t i) k) → jv_V pR l eR (jv_rm 4 0 0) sR mR ([.ref o, .int (js_b t i)] : List Value).toArray belowR methR cR 0 0 QR D AR 6 [(o, .inr (2, [.ref tp, .ref pp, .ref nn, .ref ob, .ref nb, .int dp, .int (nI i), .int ub, .int pl])), (tp, .inr (0, [.ref tb, .int (nI t.length)])), (tb, .inl (dA 0, N, .inl f)), (pp, .inr (0, [.ref pb, .int (nI (pr ++ js_sl t (js_ns t i) k).length)])), (pb, .inl (dA 0, M, .inl g2))] [(0, .ref o), (1, .int (js_b t i)), (2, .int (nI (js_nd t i))), (3, .int (nI (js_ne t i))), (4, .int (nI (js_ns t i))), (5, .int (nI (js_ns t i + k)))] 122 [] := by
              intro n
              induction n with
              | zero =>
                intro k g2 h1 h2
                exact absurd h2 (by omega)
              | succ n ih =>
                intro k g2 hk hm htx
                refine jv_iload C (jd D_Rd_number 64 rfl) 5 rfl ?_
                refine jv_iload_n C (jd D_Rd_number 65 rfl) rfl 3 rfl ?_
                refine jv_icmp_ge (tgt := 150) C (jd D_Rd_number 66 rfl) (by decide) (fun c125 => ?_) (fun c125 => ?_)
                · refine jv_aload_n C (jd D_Rd_number 76 rfl) rfl 0 rfl ?_
                  refine jv_iload_n C (jd D_Rd_number 77 rfl) rfl 3 rfl ?_
                  refine jv_put C fl_Rd_46 Y_Rd rfl 0 [(o, .inr (2, [.ref tp, .ref pp, .ref nn, .ref ob, .ref nb, .int dp, .int (nI (js_ne t i)), .int ub, .int pl])), (tp, .inr (0, [.ref tb, .int (nI t.length)])), (tb, .inl (dA 0, N, .inl f)), (pp, .inr (0, [.ref pb, .int (nI (pr ++ js_sl t (js_ns t i) k).length)])), (pb, .inl (dA 0, M, .inl g2))] rfl rfl rfl (Nat.le_of_ble_eq_true rfl) rfl rfl (jd D_Rd_number 78 rfl) ?_
                  refine jv_iconst (v := 5) C (jd D_Rd_number 79 rfl) (by decide) ?_
                  have hk9 : k = js_ne t i - js_ns t i := by have := (nI_leI (a := js_ne t i) (b := js_ns t i + k) (by omega) (by omega)).mp c125; omega
                  subst hk9
                  refine jv_weq (ws' := [(o, .inr (2, [.ref tp, .ref pp, .ref nn, .ref ob, .ref nb, .int dp, .int (nI (js_ne t i)), .int ub, .int pl])), (tp, .inr (0, [.ref tb, .int (nI t.length)])), (tb, .inl (dA 0, N, .inl f)), (pp, .inr (0, [.ref pb, .int (nI (pr ++ js_sl t (js_ns t i) (js_ne t i - js_ns t i)).length)])), (pb, .inl (dA 0, M, .inl g2))]) rfl ?_
                  rw [hQ]
                  exact jv_iret C hr g2 (⟨rfl, htx⟩) rfl [0, 1, 2, 3, 4] rfl rfl (Nat.le_of_ble_eq_true rfl) (Nat.le_of_ble_eq_true rfl) (jd D_Rd_number 80 rfl)
                · have hlt : js_ns t i + k < js_ne t i := by
                    rcases Nat.lt_or_ge (js_ns t i + k) (js_ne t i) with y | y
                    · exact y
                    · exact absurd (nI_le y (by omega)) c125
                  have hln : (pr ++ js_sl t (js_ns t i) k).length = pr.length + k := by rw [List.length_append, js_sl_len (by omega)]
                  refine jv_aload_n C (jd D_Rd_number 67 rfl) rfl 0 rfl ?_
                  refine jv_get C fl_Rd_20 0 rfl rfl (jd D_Rd_number 68 rfl) ?_
                  refine jv_aload_n C (jd D_Rd_number 69 rfl) rfl 0 rfl ?_
                  refine jv_get C fl_Rd_9 0 rfl rfl (jd D_Rd_number 70 rfl) ?_
                  refine jv_iload C (jd D_Rd_number 71 rfl) 5 rfl ?_
                  refine jv_callV (wr := [(o, .inr (2, [.ref tp, .ref pp, .ref nn, .ref ob, .ref nb, .int dp, .int (nI i), .int ub, .int pl])), (pp, .inr (0, [.ref pb, .int (nI (pr ++ js_sl t (js_ns t i) k).length)])), (pb, .inl (dA 0, M, .inl g2))]) C cl_Rd_50 (c_Tx_at tp tb N f t (nI (js_ns t i + k)) hl (by omega) ht) [1, 2] [0, 3, 4] rfl rfl rfl rfl (by decide) rfl rfl 0 rfl ⟨Nat.le_of_ble_eq_true rfl, Nat.le_of_ble_eq_true rfl⟩ ⟨Nat.le_of_ble_eq_true rfl, Nat.le_of_ble_eq_true rfl⟩ rfl rfl (Nat.le_of_ble_eq_true rfl) (jd D_Rd_number 72 rfl) (fun v31 _ k9 => ?_)
                  obtain ⟨r9, rfl, k9⟩ := k9
                  refine jv_fix [0, 3, 4, 1, 2] [(o, .inr (2, [.ref tp, .ref pp, .ref nn, .ref ob, .ref nb, .int dp, .int (nI i), .int ub, .int pl])), (tp, .inr (0, [.ref tb, .int (nI t.length)])), (tb, .inl (dA 0, N, .inl f)), (pp, .inr (0, [.ref pb, .int (nI (pr ++ js_sl t (js_ns t i) k).length)])), (pb, .inl (dA 0, M, .inl g2))] [.int r9, .ref pp] 0 0 rfl rfl rfl (Nat.le_refl _) (Nat.le_refl _) ?_
                  rw [js_at_nat (by omega) (by omega)] at k9
                  subst k9
                  refine jv_callV (wr := [(o, .inr (2, [.ref tp, .ref pp, .ref nn, .ref ob, .ref nb, .int dp, .int (nI i), .int ub, .int pl])), (tp, .inr (0, [.ref tb, .int (nI t.length)])), (tb, .inl (dA 0, N, .inl f))]) C cl_Rd_86 (c_Tx_add pp pb M g2 (pr ++ js_sl t (js_ns t i) k) (js_b t (js_ns t i + k)) (by rw [hln]; omega) (by omega) htx) [3, 4] [0, 1, 2] rfl rfl rfl rfl (by decide) rfl rfl 0 rfl ⟨Nat.le_of_ble_eq_true rfl, Nat.le_of_ble_eq_true rfl⟩ ⟨Nat.le_of_ble_eq_true rfl, Nat.le_of_ble_eq_true rfl⟩ rfl rfl (Nat.le_of_ble_eq_true rfl) (jd D_Rd_number 73 rfl) (fun v32 g9 k9 => ?_)
                  obtain ⟨rfl, k9⟩ := k9
                  refine jv_fix [0, 1, 2, 3, 4] [(o, .inr (2, [.ref tp, .ref pp, .ref nn, .ref ob, .ref nb, .int dp, .int (nI i), .int ub, .int pl])), (tp, .inr (0, [.ref tb, .int (nI t.length)])), (tb, .inl (dA 0, N, .inl f)), (pp, .inr (0, [.ref pb, .int (nI (pr ++ js_sl t (js_ns t i) k ++ [(js_b t (js_ns t i + k)).toBitVec.toNat % 256]).length)])), (pb, .inl (dA 0, M, .inl g9))] [] 0 0 rfl rfl rfl (Nat.le_refl _) (Nat.le_refl _) ?_
                  have hnx : pr ++ js_sl t (js_ns t i) k ++ [(js_b t (js_ns t i + k)).toBitVec.toNat % 256] = pr ++ js_sl t (js_ns t i) (k + 1) := by
                    rcases js_b_cases ht.by (js_ns t i + k) with ⟨y, -⟩ | ⟨b9, hb9, hg9, he9⟩
                    · omega
                    · rw [he9, js_tn hb9, js_sl_s hg9, List.append_assoc]
                  rw [hnx] at k9
                  refine jv_weq (ws' := [(o, .inr (2, [.ref tp, .ref pp, .ref nn, .ref ob, .ref nb, .int dp, .int (nI i), .int ub, .int pl])), (tp, .inr (0, [.ref tb, .int (nI t.length)])), (tb, .inl (dA 0, N, .inl f)), (pp, .inr (0, [.ref pb, .int (nI (pr ++ js_sl t (js_ns t i) (k + 1)).length)])), (pb, .inl (dA 0, M, .inl g9))]) (by rw [hnx]) ?_
                  refine jv_iinc (v := nI (js_ns t i + (k + 1))) C [(5, .int (nI (js_ns t i + (k + 1)))), (0, .ref o), (1, .int (js_b t i)), (2, .int (nI (js_nd t i))), (3, .int (nI (js_ne t i))), (4, .int (nI (js_ns t i)))] (jd D_Rd_number 74 rfl) 5 rfl (nI_1 _) (by decide) rfl ?_
                  refine jv_goto (tgt := 122) C (jd D_Rd_number 75 rfl) (by decide) ?_
                  refine jv_lvsub [1, 2, 3, 4, 5, 0] rfl ?_
                  exact ih (k + 1) g9 (by omega) (by omega) k9
            refine jv_lvsub [4, 5, 3, 2, 1, 0] rfl ?_
            exact hL122 (js_ne t i + 1 - js_ns t i) 0 g (by omega) (by omega) (by rw [js_sl_0, List.append_nil]; exact htp)
          · rw [js_nu, if_neg c31, if_neg hsm, if_neg c83] at hnu
            cases hnu
    · rw [js_nu, if_pos c31] at hnu
      cases hnu

set_option maxHeartbeats 4000000 in
set_option maxRecDepth 100000 in
/-- Reader.number(b), where it is none -/
theorem c_Rd_number_no {l : Launch} {D : va_G} {dA : Nat → ClassId} {zz : (Nat → Nat) × (Nat → Nat)} (o tp pp nn ob nb : Nat) (dp ub pl : Int32) (i : Nat) (tb N : Nat) (f : Nat → Int32) (t : List Nat) (pb M : Nat) (g : Nat → Int32) (pr : List Nat) (q : Nat) (hl : t.length ≤ N) (hN : N < 2 ^ 30) (ht : js_tx f t) (hM : M < 2 ^ 30) (htp : js_tx g pr) (hi : i ≤ t.length) (hpi : pr.length ≤ i) (hNM : N ≤ M) (hN4 : N < 2 ^ 29) (hnu : js_nu t i = .inl q) : jv_M l D dA zz y_Rd_number b_Rd_number 6 (some (FieldType.int)) 4 [.ref o, .int (js_b t i)] [(o, .inr (2, [.ref tp, .ref pp, .ref nn, .ref ob, .ref nb, .int dp, .int (nI i), .int ub, .int pl])), (tp, .inr (0, [.ref tb, .int (nI t.length)])), (tb, .inl (dA 0, N, .inl f)), (pp, .inr (0, [.ref pb, .int (nI pr.length)])), (pb, .inl (dA 0, M, .inl g))] (jv_pi fun r (_ : Unit) => r = 6) (fun _ => [(o, .inr (2, [.ref tp, .ref pp, .ref nn, .ref ob, .ref nb, .int dp, .int (nI i), .int ub, .int (nI q)])), (tp, .inr (0, [.ref tb, .int (nI t.length)])), (tb, .inl (dA 0, N, .inl f)), (pp, .inr (0, [.ref pb, .int (nI pr.length)])), (pb, .inl (dA 0, M, .inl g))]) 0 0 := by
  refine jv_M.of [(0, .ref o), (1, .int (js_b t i))] (by decide) (Nat.le_of_ble_eq_true rfl) rfl ?_
  intro pR eR sR mR belowR methR cR AR C hr hin
  obtain ⟨QR, hQ⟩ : ∃ QR, QR = jv_E D (jv_pi fun r (_ : Unit) => r = 6) (fun _ => [(o, .inr (2, [.ref tp, .ref pp, .ref nn, .ref ob, .ref nb, .int dp, .int (nI i), .int ub, .int (nI q)])), (tp, .inr (0, [.ref tb, .int (nI t.length)])), (tb, .inl (dA 0, N, .inl f)), (pp, .inr (0, [.ref pb, .int (nI pr.length)])), (pb, .inl (dA 0, M, .inl g))]) belowR ([.ref o, .int (js_b t i)] : List Value).toArray sR AR 0 0 := ⟨_, rfl⟩
  rw [← hQ]
  refine jv_iload_n C (jd D_Rd_number 0 rfl) rfl 1 rfl ?_
  refine jv_bipush (v := 45) C (jd D_Rd_number 1 rfl) (by decide) ?_
  refine jv_icmp_ne (tgt := 15) C (jd D_Rd_number 2 rfl) (by decide) (fun c3 => ?_) (fun c3 => ?_)
  · refine jv_aload_n C (jd D_Rd_number 8 rfl) rfl 0 rfl ?_
    refine jv_get C fl_Rd_46 0 rfl rfl (jd D_Rd_number 9 rfl) ?_
    refine jv_ati (y := nI (js_nd t i)) (by rw [js_nd, if_neg c3]) ?_
    refine jv_istore_n C [(2, .int (nI (js_nd t i))), (0, .ref o), (1, .int (js_b t i))] (jd D_Rd_number 10 rfl) rfl (by decide) rfl ?_
    have hd0 := js_nd_ge t i
    refine jv_aload_n C (jd D_Rd_number 11 rfl) rfl 1 rfl ?_
    refine jv_get C fl_Rd_9 0 rfl rfl (jd D_Rd_number 12 rfl) ?_
    refine jv_iload_n C (jd D_Rd_number 13 rfl) rfl 0 rfl ?_
    refine jv_callV (wr := [(o, .inr (2, [.ref tp, .ref pp, .ref nn, .ref ob, .ref nb, .int dp, .int (nI i), .int ub, .int pl])), (pp, .inr (0, [.ref pb, .int (nI pr.length)])), (pb, .inl (dA 0, M, .inl g))]) C cl_Rd_50 (c_Tx_at tp tb N f t (nI (js_nd t i)) hl (by omega) ht) [1, 2] [0, 3, 4] rfl rfl rfl rfl (by decide) rfl rfl 0 rfl ⟨Nat.le_of_ble_eq_true rfl, Nat.le_of_ble_eq_true rfl⟩ ⟨Nat.le_of_ble_eq_true rfl, Nat.le_of_ble_eq_true rfl⟩ rfl rfl (Nat.le_of_ble_eq_true rfl) (jd D_Rd_number 14 rfl) (fun v1 _ k1 => ?_)
    obtain ⟨r1, rfl, k1⟩ := k1
    refine jv_fix [0, 3, 4, 1, 2] [(o, .inr (2, [.ref tp, .ref pp, .ref nn, .ref ob, .ref nb, .int dp, .int (nI i), .int ub, .int pl])), (tp, .inr (0, [.ref tb, .int (nI t.length)])), (tb, .inl (dA 0, N, .inl f)), (pp, .inr (0, [.ref pb, .int (nI pr.length)])), (pb, .inl (dA 0, M, .inl g))] [.int r1] 0 0 rfl rfl rfl (Nat.le_refl _) (Nat.le_refl _) ?_
    rw [js_at_nat (by omega) (by omega)] at k1
    subst k1
    refine jv_callS (wr := [(o, .inr (2, [.ref tp, .ref pp, .ref nn, .ref ob, .ref nb, .int dp, .int (nI i), .int ub, .int pl])), (tp, .inr (0, [.ref tb, .int (nI t.length)])), (tb, .inl (dA 0, N, .inl f)), (pp, .inr (0, [.ref pb, .int (nI pr.length)])), (pb, .inl (dA 0, M, .inl g))]) C cl_Rd_125 (c_Rd_isDigit (js_b t (js_nd t i))) [] [0, 1, 2, 3, 4] rfl rfl rfl rfl (by decide) ⟨Nat.le_of_ble_eq_true rfl, Nat.le_of_ble_eq_true rfl⟩ ⟨Nat.le_of_ble_eq_true rfl, Nat.le_of_ble_eq_true rfl⟩ rfl rfl (Nat.le_of_ble_eq_true rfl) (jd D_Rd_number 15 rfl) (fun v2 _ k2 => ?_)
    obtain ⟨r2, rfl, k2⟩ := k2
    refine jv_fix [0, 1, 2, 3, 4] [(o, .inr (2, [.ref tp, .ref pp, .ref nn, .ref ob, .ref nb, .int dp, .int (nI i), .int ub, .int pl])), (tp, .inr (0, [.ref tb, .int (nI t.length)])), (tb, .inl (dA 0, N, .inl f)), (pp, .inr (0, [.ref pb, .int (nI pr.length)])), (pb, .inl (dA 0, M, .inl g))] [.int r2] 0 0 rfl rfl rfl (Nat.le_refl _) (Nat.le_refl _) ?_
    subst k2
    refine jv_if_ne (tgt := 40) C (jd D_Rd_number 16 rfl) (by decide) (fun c31 => ?_) (fun c31 => ?_)
    · have hd1 := js_dig_lt c31
      have hd2 := js_ne_le c31
      have hd3 := js_nd_ge t i
      have hd4 := js_ns_ge t i
      refine jv_iload_n C (jd D_Rd_number 21 rfl) rfl 0 rfl ?_
      refine jv_iconst (v := 1) C (jd D_Rd_number 22 rfl) (by decide) ?_
      refine jv_iadd C (jd D_Rd_number 23 rfl) ?_
      refine jv_ati (y := nI (js_nd t i + 1)) (nI_1 _) ?_
      refine jv_istore_n C [(3, .int (nI (js_nd t i + 1))), (2, .int (nI (js_nd t i))), (0, .ref o), (1, .int (js_b t i))] (jd D_Rd_number 24 rfl) rfl (by decide) rfl ?_
      refine jv_aload_n C (jd D_Rd_number 25 rfl) rfl 2 rfl ?_
      refine jv_get C fl_Rd_9 0 rfl rfl (jd D_Rd_number 26 rfl) ?_
      refine jv_iload_n C (jd D_Rd_number 27 rfl) rfl 1 rfl ?_
      refine jv_callV (wr := [(o, .inr (2, [.ref tp, .ref pp, .ref nn, .ref ob, .ref nb, .int dp, .int (nI i), .int ub, .int pl])), (pp, .inr (0, [.ref pb, .int (nI pr.length)])), (pb, .inl (dA 0, M, .inl g))]) C cl_Rd_50 (c_Tx_at tp tb N f t (nI (js_nd t i)) hl (by omega) ht) [1, 2] [0, 3, 4] rfl rfl rfl rfl (by decide) rfl rfl 0 rfl ⟨Nat.le_of_ble_eq_true rfl, Nat.le_of_ble_eq_true rfl⟩ ⟨Nat.le_of_ble_eq_true rfl, Nat.le_of_ble_eq_true rfl⟩ rfl rfl (Nat.le_of_ble_eq_true rfl) (jd D_Rd_number 28 rfl) (fun v3 _ k3 => ?_)
      obtain ⟨r3, rfl, k3⟩ := k3
      refine jv_fix [0, 3, 4, 1, 2] [(o, .inr (2, [.ref tp, .ref pp, .ref nn, .ref ob, .ref nb, .int dp, .int (nI i), .int ub, .int pl])), (tp, .inr (0, [.ref tb, .int (nI t.length)])), (tb, .inl (dA 0, N, .inl f)), (pp, .inr (0, [.ref pb, .int (nI pr.length)])), (pb, .inl (dA 0, M, .inl g))] [.int r3] 0 0 rfl rfl rfl (Nat.le_refl _) (Nat.le_refl _) ?_
      rw [js_at_nat (by omega) (by omega)] at k3
      subst k3
      refine jv_bipush (v := 48) C (jd D_Rd_number 29 rfl) (by decide) ?_
      refine jv_icmp_eq (tgt := 63) C (jd D_Rd_number 30 rfl) (by decide) (fun c54 => ?_) (fun c54 => ?_)
      · refine jv_lveq (lv' := [(3, .int (nI (js_ne t i))), (2, .int (nI (js_nd t i))), (0, .ref o), (1, .int (js_b t i))]) (by rw [js_ne, if_pos c54]) ?_
        refine jv_aload_n C (jd D_Rd_number 35 rfl) rfl 2 rfl ?_
        refine jv_iload_n C (jd D_Rd_number 36 rfl) rfl 1 rfl ?_
        refine jv_iload_n C (jd D_Rd_number 37 rfl) rfl 0 rfl ?_
        refine jv_callV (wr := [(pp, .inr (0, [.ref pb, .int (nI pr.length)])), (pb, .inl (dA 0, M, .inl g))]) C cl_Rd_131 (c_Rd_isTooGreat o tp pp nn ob nb dp ub pl i tb N f t (js_nd t i) (js_ne t i) hl hN ht (by omega) (by omega)) [0, 1, 2] [3, 4] rfl rfl rfl rfl (by decide) rfl rfl 0 rfl ⟨Nat.le_of_ble_eq_true rfl, Nat.le_of_ble_eq_true rfl⟩ ⟨Nat.le_of_ble_eq_true rfl, Nat.le_of_ble_eq_true rfl⟩ rfl rfl (Nat.le_of_ble_eq_true rfl) (jd D_Rd_number 38 rfl) (fun v4 _ k5 => ?_)
        obtain ⟨r5, rfl, k5⟩ := k5
        refine jv_fix [2, 3, 4, 0, 1] [(o, .inr (2, [.ref tp, .ref pp, .ref nn, .ref ob, .ref nb, .int dp, .int (nI i), .int ub, .int pl])), (tp, .inr (0, [.ref tb, .int (nI t.length)])), (tb, .inl (dA 0, N, .inl f)), (pp, .inr (0, [.ref pb, .int (nI pr.length)])), (pb, .inl (dA 0, M, .inl g))] [.int r5] 0 0 rfl rfl rfl (Nat.le_refl _) (Nat.le_refl _) ?_
        refine jv_if_ne (tgt := 86) C (jd D_Rd_number 39 rfl) (by decide) (fun c69 => ?_) (fun c69 => ?_)
        · rw [js_nu, if_neg c31, if_pos (by rcases k5 with y | y; exact y.2; exact absurd y.1 c69)] at hnu
          have hqq : q = i := (Sum.inl.inj hnu).symm
          refine jv_aload_n C (jd D_Rd_number 46 rfl) rfl 2 rfl ?_
          refine jv_aload_n C (jd D_Rd_number 47 rfl) rfl 2 rfl ?_
          refine jv_get C fl_Rd_46 0 rfl rfl (jd D_Rd_number 48 rfl) ?_
          refine jv_callV (wr := [(tp, .inr (0, [.ref tb, .int (nI t.length)])), (tb, .inl (dA 0, N, .inl f)), (pp, .inr (0, [.ref pb, .int (nI pr.length)])), (pb, .inl (dA 0, M, .inl g))]) C cl_Rd_109 (c_Rd_breakAt o tp pp nn ob nb dp ub pl i (nI i)) [0] [1, 2, 3, 4] rfl rfl rfl rfl (by decide) rfl rfl 0 rfl ⟨Nat.le_of_ble_eq_true rfl, Nat.le_of_ble_eq_true rfl⟩ ⟨Nat.le_of_ble_eq_true rfl, Nat.le_of_ble_eq_true rfl⟩ rfl rfl (Nat.le_of_ble_eq_true rfl) (jd D_Rd_number 49 rfl) (fun v5 _ k10 => ?_)
          obtain ⟨r10, rfl, k10⟩ := k10
          refine jv_fix [4, 0, 1, 2, 3] [(o, .inr (2, [.ref tp, .ref pp, .ref nn, .ref ob, .ref nb, .int dp, .int (nI i), .int ub, .int (nI i)])), (tp, .inr (0, [.ref tb, .int (nI t.length)])), (tb, .inl (dA 0, N, .inl f)), (pp, .inr (0, [.ref pb, .int (nI pr.length)])), (pb, .inl (dA 0, M, .inl g))] [.int r10] 0 0 rfl rfl rfl (Nat.le_refl _) (Nat.le_refl _) ?_
          subst k10
          refine jv_weq (ws' := [(o, .inr (2, [.ref tp, .ref pp, .ref nn, .ref ob, .ref nb, .int dp, .int (nI i), .int ub, .int (nI q)])), (tp, .inr (0, [.ref tb, .int (nI t.length)])), (tb, .inl (dA 0, N, .inl f)), (pp, .inr (0, [.ref pb, .int (nI pr.length)])), (pb, .inl (dA 0, M, .inl g))]) (by rw [hqq]) ?_
          rw [hQ]
          exact jv_iret C hr () (rfl) rfl [0, 1, 2, 3, 4] rfl rfl (Nat.le_of_ble_eq_true rfl) (Nat.le_of_ble_eq_true rfl) (jd D_Rd_number 50 rfl)
        · have hsm : ¬ 9007199254740991 < js_tg t (js_ne t i - js_nd t i) (js_nd t i) 0 := by
            rcases k5 with y | y
            · exact absurd (y.1.symm.trans c69) (by decide)
            · exact y.2
          refine jv_aload_n C (jd D_Rd_number 40 rfl) rfl 2 rfl ?_
          refine jv_get C fl_Rd_9 0 rfl rfl (jd D_Rd_number 41 rfl) ?_
          refine jv_iload_n C (jd D_Rd_number 42 rfl) rfl 0 rfl ?_
          refine jv_callV (wr := [(o, .inr (2, [.ref tp, .ref pp, .ref nn, .ref ob, .ref nb, .int dp, .int (nI i), .int ub, .int pl])), (pp, .inr (0, [.ref pb, .int (nI pr.length)])), (pb, .inl (dA 0, M, .inl g))]) C cl_Rd_50 (c_Tx_at tp tb N f t (nI (js_ne t i)) hl (by omega) ht) [1, 2] [0, 3, 4] rfl rfl rfl rfl (by decide) rfl rfl 0 rfl ⟨Nat.le_of_ble_eq_true rfl, Nat.le_of_ble_eq_true rfl⟩ ⟨Nat.le_of_ble_eq_true rfl, Nat.le_of_ble_eq_true rfl⟩ rfl rfl (Nat.le_of_ble_eq_true rfl) (jd D_Rd_number 43 rfl) (fun v6 _ k6 => ?_)
          obtain ⟨r6, rfl, k6⟩ := k6
          refine jv_fix [0, 3, 4, 1, 2] [(o, .inr (2, [.ref tp, .ref pp, .ref nn, .ref ob, .ref nb, .int dp, .int (nI i), .int ub, .int pl])), (tp, .inr (0, [.ref tb, .int (nI t.length)])), (tb, .inl (dA 0, N, .inl f)), (pp, .inr (0, [.ref pb, .int (nI pr.length)])), (pb, .inl (dA 0, M, .inl g))] [.int r6] 0 0 rfl rfl rfl (Nat.le_refl _) (Nat.le_refl _) ?_
          rw [js_at_nat (by omega) (by omega)] at k6
          subst k6
          refine jv_callS (wr := [(o, .inr (2, [.ref tp, .ref pp, .ref nn, .ref ob, .ref nb, .int dp, .int (nI i), .int ub, .int pl])), (tp, .inr (0, [.ref tb, .int (nI t.length)])), (tb, .inl (dA 0, N, .inl f)), (pp, .inr (0, [.ref pb, .int (nI pr.length)])), (pb, .inl (dA 0, M, .inl g))]) C cl_Rd_135 (c_Rd_isFraction (js_b t (js_ne t i))) [] [0, 1, 2, 3, 4] rfl rfl rfl rfl (by decide) ⟨Nat.le_of_ble_eq_true rfl, Nat.le_of_ble_eq_true rfl⟩ ⟨Nat.le_of_ble_eq_true rfl, Nat.le_of_ble_eq_true rfl⟩ rfl rfl (Nat.le_of_ble_eq_true rfl) (jd D_Rd_number 44 rfl) (fun v7 _ k7 => ?_)
          obtain ⟨r7, rfl, k7⟩ := k7
          refine jv_fix [0, 1, 2, 3, 4] [(o, .inr (2, [.ref tp, .ref pp, .ref nn, .ref ob, .ref nb, .int dp, .int (nI i), .int ub, .int pl])), (tp, .inr (0, [.ref tb, .int (nI t.length)])), (tb, .inl (dA 0, N, .inl f)), (pp, .inr (0, [.ref pb, .int (nI pr.length)])), (pb, .inl (dA 0, M, .inl g))] [.int r7] 0 0 rfl rfl rfl (Nat.le_refl _) (Nat.le_refl _) ?_
          subst k7
          refine jv_if_eq (tgt := 95) C (jd D_Rd_number 45 rfl) (by decide) (fun c83 => ?_) (fun c83 => ?_)
          · rw [js_nu, if_neg c31, if_neg hsm, if_pos c83] at hnu
            cases hnu
          · rw [js_nu, if_neg c31, if_neg hsm, if_neg c83] at hnu
            have hqq : q = i := (Sum.inl.inj hnu).symm
            refine jv_aload_n C (jd D_Rd_number 46 rfl) rfl 2 rfl ?_
            refine jv_aload_n C (jd D_Rd_number 47 rfl) rfl 2 rfl ?_
            refine jv_get C fl_Rd_46 0 rfl rfl (jd D_Rd_number 48 rfl) ?_
            refine jv_callV (wr := [(tp, .inr (0, [.ref tb, .int (nI t.length)])), (tb, .inl (dA 0, N, .inl f)), (pp, .inr (0, [.ref pb, .int (nI pr.length)])), (pb, .inl (dA 0, M, .inl g))]) C cl_Rd_109 (c_Rd_breakAt o tp pp nn ob nb dp ub pl i (nI i)) [0] [1, 2, 3, 4] rfl rfl rfl rfl (by decide) rfl rfl 0 rfl ⟨Nat.le_of_ble_eq_true rfl, Nat.le_of_ble_eq_true rfl⟩ ⟨Nat.le_of_ble_eq_true rfl, Nat.le_of_ble_eq_true rfl⟩ rfl rfl (Nat.le_of_ble_eq_true rfl) (jd D_Rd_number 49 rfl) (fun v8 _ k10 => ?_)
            obtain ⟨r10, rfl, k10⟩ := k10
            refine jv_fix [4, 0, 1, 2, 3] [(o, .inr (2, [.ref tp, .ref pp, .ref nn, .ref ob, .ref nb, .int dp, .int (nI i), .int ub, .int (nI i)])), (tp, .inr (0, [.ref tb, .int (nI t.length)])), (tb, .inl (dA 0, N, .inl f)), (pp, .inr (0, [.ref pb, .int (nI pr.length)])), (pb, .inl (dA 0, M, .inl g))] [.int r10] 0 0 rfl rfl rfl (Nat.le_refl _) (Nat.le_refl _) ?_
            subst k10
            refine jv_weq (ws' := [(o, .inr (2, [.ref tp, .ref pp, .ref nn, .ref ob, .ref nb, .int dp, .int (nI i), .int ub, .int (nI q)])), (tp, .inr (0, [.ref tb, .int (nI t.length)])), (tb, .inl (dA 0, N, .inl f)), (pp, .inr (0, [.ref pb, .int (nI pr.length)])), (pb, .inl (dA 0, M, .inl g))]) (by rw [hqq]) ?_
            rw [hQ]
            exact jv_iret C hr () (rfl) rfl [0, 1, 2, 3, 4] rfl rfl (Nat.le_of_ble_eq_true rfl) (Nat.le_of_ble_eq_true rfl) (jd D_Rd_number 50 rfl)
      · refine jv_aload_n C (jd D_Rd_number 31 rfl) rfl 2 rfl ?_
        refine jv_iload_n C (jd D_Rd_number 32 rfl) rfl 1 rfl ?_
        refine jv_callV (wr := [(pp, .inr (0, [.ref pb, .int (nI pr.length)])), (pb, .inl (dA 0, M, .inl g))]) C cl_Rd_128 (c_Rd_endOfDigits o tp pp nn ob nb dp ub pl i tb N f t (js_nd t i) hl hN ht (by omega)) [0, 1, 2] [3, 4] rfl rfl rfl rfl (by decide) rfl rfl 0 rfl ⟨Nat.le_of_ble_eq_true rfl, Nat.le_of_ble_eq_true rfl⟩ ⟨Nat.le_of_ble_eq_true rfl, Nat.le_of_ble_eq_true rfl⟩ rfl rfl (Nat.le_of_ble_eq_true rfl) (jd D_Rd_number 33 rfl) (fun v9 _ k4 => ?_)
        obtain ⟨r4, rfl, k4⟩ := k4
        refine jv_fix [2, 3, 4, 0, 1] [(o, .inr (2, [.ref tp, .ref pp, .ref nn, .ref ob, .ref nb, .int dp, .int (nI i), .int ub, .int pl])), (tp, .inr (0, [.ref tb, .int (nI t.length)])), (tb, .inl (dA 0, N, .inl f)), (pp, .inr (0, [.ref pb, .int (nI pr.length)])), (pb, .inl (dA 0, M, .inl g))] [.int r4] 0 0 rfl rfl rfl (Nat.le_refl _) (Nat.le_refl _) ?_
        subst k4
        refine jv_istore_n C [(3, .int (nI (js_dg t (t.length - js_nd t i) (js_nd t i)))), (2, .int (nI (js_nd t i))), (0, .ref o), (1, .int (js_b t i))] (jd D_Rd_number 34 rfl) rfl (by decide) rfl ?_
        refine jv_lveq (lv' := [(3, .int (nI (js_ne t i))), (2, .int (nI (js_nd t i))), (0, .ref o), (1, .int (js_b t i))]) (by rw [js_ne, if_neg c54]) ?_
        refine jv_aload_n C (jd D_Rd_number 35 rfl) rfl 2 rfl ?_
        refine jv_iload_n C (jd D_Rd_number 36 rfl) rfl 1 rfl ?_
        refine jv_iload_n C (jd D_Rd_number 37 rfl) rfl 0 rfl ?_
        refine jv_callV (wr := [(pp, .inr (0, [.ref pb, .int (nI pr.length)])), (pb, .inl (dA 0, M, .inl g))]) C cl_Rd_131 (c_Rd_isTooGreat o tp pp nn ob nb dp ub pl i tb N f t (js_nd t i) (js_ne t i) hl hN ht (by omega) (by omega)) [0, 1, 2] [3, 4] rfl rfl rfl rfl (by decide) rfl rfl 0 rfl ⟨Nat.le_of_ble_eq_true rfl, Nat.le_of_ble_eq_true rfl⟩ ⟨Nat.le_of_ble_eq_true rfl, Nat.le_of_ble_eq_true rfl⟩ rfl rfl (Nat.le_of_ble_eq_true rfl) (jd D_Rd_number 38 rfl) (fun v10 _ k5 => ?_)
        obtain ⟨r5, rfl, k5⟩ := k5
        refine jv_fix [2, 3, 4, 0, 1] [(o, .inr (2, [.ref tp, .ref pp, .ref nn, .ref ob, .ref nb, .int dp, .int (nI i), .int ub, .int pl])), (tp, .inr (0, [.ref tb, .int (nI t.length)])), (tb, .inl (dA 0, N, .inl f)), (pp, .inr (0, [.ref pb, .int (nI pr.length)])), (pb, .inl (dA 0, M, .inl g))] [.int r5] 0 0 rfl rfl rfl (Nat.le_refl _) (Nat.le_refl _) ?_
        refine jv_if_ne (tgt := 86) C (jd D_Rd_number 39 rfl) (by decide) (fun c69 => ?_) (fun c69 => ?_)
        · rw [js_nu, if_neg c31, if_pos (by rcases k5 with y | y; exact y.2; exact absurd y.1 c69)] at hnu
          have hqq : q = i := (Sum.inl.inj hnu).symm
          refine jv_aload_n C (jd D_Rd_number 46 rfl) rfl 2 rfl ?_
          refine jv_aload_n C (jd D_Rd_number 47 rfl) rfl 2 rfl ?_
          refine jv_get C fl_Rd_46 0 rfl rfl (jd D_Rd_number 48 rfl) ?_
          refine jv_callV (wr := [(tp, .inr (0, [.ref tb, .int (nI t.length)])), (tb, .inl (dA 0, N, .inl f)), (pp, .inr (0, [.ref pb, .int (nI pr.length)])), (pb, .inl (dA 0, M, .inl g))]) C cl_Rd_109 (c_Rd_breakAt o tp pp nn ob nb dp ub pl i (nI i)) [0] [1, 2, 3, 4] rfl rfl rfl rfl (by decide) rfl rfl 0 rfl ⟨Nat.le_of_ble_eq_true rfl, Nat.le_of_ble_eq_true rfl⟩ ⟨Nat.le_of_ble_eq_true rfl, Nat.le_of_ble_eq_true rfl⟩ rfl rfl (Nat.le_of_ble_eq_true rfl) (jd D_Rd_number 49 rfl) (fun v11 _ k10 => ?_)
          obtain ⟨r10, rfl, k10⟩ := k10
          refine jv_fix [4, 0, 1, 2, 3] [(o, .inr (2, [.ref tp, .ref pp, .ref nn, .ref ob, .ref nb, .int dp, .int (nI i), .int ub, .int (nI i)])), (tp, .inr (0, [.ref tb, .int (nI t.length)])), (tb, .inl (dA 0, N, .inl f)), (pp, .inr (0, [.ref pb, .int (nI pr.length)])), (pb, .inl (dA 0, M, .inl g))] [.int r10] 0 0 rfl rfl rfl (Nat.le_refl _) (Nat.le_refl _) ?_
          subst k10
          refine jv_weq (ws' := [(o, .inr (2, [.ref tp, .ref pp, .ref nn, .ref ob, .ref nb, .int dp, .int (nI i), .int ub, .int (nI q)])), (tp, .inr (0, [.ref tb, .int (nI t.length)])), (tb, .inl (dA 0, N, .inl f)), (pp, .inr (0, [.ref pb, .int (nI pr.length)])), (pb, .inl (dA 0, M, .inl g))]) (by rw [hqq]) ?_
          rw [hQ]
          exact jv_iret C hr () (rfl) rfl [0, 1, 2, 3, 4] rfl rfl (Nat.le_of_ble_eq_true rfl) (Nat.le_of_ble_eq_true rfl) (jd D_Rd_number 50 rfl)
        · have hsm : ¬ 9007199254740991 < js_tg t (js_ne t i - js_nd t i) (js_nd t i) 0 := by
            rcases k5 with y | y
            · exact absurd (y.1.symm.trans c69) (by decide)
            · exact y.2
          refine jv_aload_n C (jd D_Rd_number 40 rfl) rfl 2 rfl ?_
          refine jv_get C fl_Rd_9 0 rfl rfl (jd D_Rd_number 41 rfl) ?_
          refine jv_iload_n C (jd D_Rd_number 42 rfl) rfl 0 rfl ?_
          refine jv_callV (wr := [(o, .inr (2, [.ref tp, .ref pp, .ref nn, .ref ob, .ref nb, .int dp, .int (nI i), .int ub, .int pl])), (pp, .inr (0, [.ref pb, .int (nI pr.length)])), (pb, .inl (dA 0, M, .inl g))]) C cl_Rd_50 (c_Tx_at tp tb N f t (nI (js_ne t i)) hl (by omega) ht) [1, 2] [0, 3, 4] rfl rfl rfl rfl (by decide) rfl rfl 0 rfl ⟨Nat.le_of_ble_eq_true rfl, Nat.le_of_ble_eq_true rfl⟩ ⟨Nat.le_of_ble_eq_true rfl, Nat.le_of_ble_eq_true rfl⟩ rfl rfl (Nat.le_of_ble_eq_true rfl) (jd D_Rd_number 43 rfl) (fun v12 _ k6 => ?_)
          obtain ⟨r6, rfl, k6⟩ := k6
          refine jv_fix [0, 3, 4, 1, 2] [(o, .inr (2, [.ref tp, .ref pp, .ref nn, .ref ob, .ref nb, .int dp, .int (nI i), .int ub, .int pl])), (tp, .inr (0, [.ref tb, .int (nI t.length)])), (tb, .inl (dA 0, N, .inl f)), (pp, .inr (0, [.ref pb, .int (nI pr.length)])), (pb, .inl (dA 0, M, .inl g))] [.int r6] 0 0 rfl rfl rfl (Nat.le_refl _) (Nat.le_refl _) ?_
          rw [js_at_nat (by omega) (by omega)] at k6
          subst k6
          refine jv_callS (wr := [(o, .inr (2, [.ref tp, .ref pp, .ref nn, .ref ob, .ref nb, .int dp, .int (nI i), .int ub, .int pl])), (tp, .inr (0, [.ref tb, .int (nI t.length)])), (tb, .inl (dA 0, N, .inl f)), (pp, .inr (0, [.ref pb, .int (nI pr.length)])), (pb, .inl (dA 0, M, .inl g))]) C cl_Rd_135 (c_Rd_isFraction (js_b t (js_ne t i))) [] [0, 1, 2, 3, 4] rfl rfl rfl rfl (by decide) ⟨Nat.le_of_ble_eq_true rfl, Nat.le_of_ble_eq_true rfl⟩ ⟨Nat.le_of_ble_eq_true rfl, Nat.le_of_ble_eq_true rfl⟩ rfl rfl (Nat.le_of_ble_eq_true rfl) (jd D_Rd_number 44 rfl) (fun v13 _ k7 => ?_)
          obtain ⟨r7, rfl, k7⟩ := k7
          refine jv_fix [0, 1, 2, 3, 4] [(o, .inr (2, [.ref tp, .ref pp, .ref nn, .ref ob, .ref nb, .int dp, .int (nI i), .int ub, .int pl])), (tp, .inr (0, [.ref tb, .int (nI t.length)])), (tb, .inl (dA 0, N, .inl f)), (pp, .inr (0, [.ref pb, .int (nI pr.length)])), (pb, .inl (dA 0, M, .inl g))] [.int r7] 0 0 rfl rfl rfl (Nat.le_refl _) (Nat.le_refl _) ?_
          subst k7
          refine jv_if_eq (tgt := 95) C (jd D_Rd_number 45 rfl) (by decide) (fun c83 => ?_) (fun c83 => ?_)
          · rw [js_nu, if_neg c31, if_neg hsm, if_pos c83] at hnu
            cases hnu
          · rw [js_nu, if_neg c31, if_neg hsm, if_neg c83] at hnu
            have hqq : q = i := (Sum.inl.inj hnu).symm
            refine jv_aload_n C (jd D_Rd_number 46 rfl) rfl 2 rfl ?_
            refine jv_aload_n C (jd D_Rd_number 47 rfl) rfl 2 rfl ?_
            refine jv_get C fl_Rd_46 0 rfl rfl (jd D_Rd_number 48 rfl) ?_
            refine jv_callV (wr := [(tp, .inr (0, [.ref tb, .int (nI t.length)])), (tb, .inl (dA 0, N, .inl f)), (pp, .inr (0, [.ref pb, .int (nI pr.length)])), (pb, .inl (dA 0, M, .inl g))]) C cl_Rd_109 (c_Rd_breakAt o tp pp nn ob nb dp ub pl i (nI i)) [0] [1, 2, 3, 4] rfl rfl rfl rfl (by decide) rfl rfl 0 rfl ⟨Nat.le_of_ble_eq_true rfl, Nat.le_of_ble_eq_true rfl⟩ ⟨Nat.le_of_ble_eq_true rfl, Nat.le_of_ble_eq_true rfl⟩ rfl rfl (Nat.le_of_ble_eq_true rfl) (jd D_Rd_number 49 rfl) (fun v14 _ k10 => ?_)
            obtain ⟨r10, rfl, k10⟩ := k10
            refine jv_fix [4, 0, 1, 2, 3] [(o, .inr (2, [.ref tp, .ref pp, .ref nn, .ref ob, .ref nb, .int dp, .int (nI i), .int ub, .int (nI i)])), (tp, .inr (0, [.ref tb, .int (nI t.length)])), (tb, .inl (dA 0, N, .inl f)), (pp, .inr (0, [.ref pb, .int (nI pr.length)])), (pb, .inl (dA 0, M, .inl g))] [.int r10] 0 0 rfl rfl rfl (Nat.le_refl _) (Nat.le_refl _) ?_
            subst k10
            refine jv_weq (ws' := [(o, .inr (2, [.ref tp, .ref pp, .ref nn, .ref ob, .ref nb, .int dp, .int (nI i), .int ub, .int (nI q)])), (tp, .inr (0, [.ref tb, .int (nI t.length)])), (tb, .inl (dA 0, N, .inl f)), (pp, .inr (0, [.ref pb, .int (nI pr.length)])), (pb, .inl (dA 0, M, .inl g))]) (by rw [hqq]) ?_
            rw [hQ]
            exact jv_iret C hr () (rfl) rfl [0, 1, 2, 3, 4] rfl rfl (Nat.le_of_ble_eq_true rfl) (Nat.le_of_ble_eq_true rfl) (jd D_Rd_number 50 rfl)
    · rw [js_nu, if_pos c31] at hnu
      have hqq : q = js_nd t i := (Sum.inl.inj hnu).symm
      refine jv_aload_n C (jd D_Rd_number 17 rfl) rfl 1 rfl ?_
      refine jv_iload_n C (jd D_Rd_number 18 rfl) rfl 0 rfl ?_
      refine jv_callV (wr := [(tp, .inr (0, [.ref tb, .int (nI t.length)])), (tb, .inl (dA 0, N, .inl f)), (pp, .inr (0, [.ref pb, .int (nI pr.length)])), (pb, .inl (dA 0, M, .inl g))]) C cl_Rd_109 (c_Rd_breakAt o tp pp nn ob nb dp ub pl i (nI (js_nd t i))) [0] [1, 2, 3, 4] rfl rfl rfl rfl (by decide) rfl rfl 0 rfl ⟨Nat.le_of_ble_eq_true rfl, Nat.le_of_ble_eq_true rfl⟩ ⟨Nat.le_of_ble_eq_true rfl, Nat.le_of_ble_eq_true rfl⟩ rfl rfl (Nat.le_of_ble_eq_true rfl) (jd D_Rd_number 19 rfl) (fun v15 _ k10 => ?_)
      obtain ⟨r10, rfl, k10⟩ := k10
      refine jv_fix [4, 0, 1, 2, 3] [(o, .inr (2, [.ref tp, .ref pp, .ref nn, .ref ob, .ref nb, .int dp, .int (nI i), .int ub, .int (nI (js_nd t i))])), (tp, .inr (0, [.ref tb, .int (nI t.length)])), (tb, .inl (dA 0, N, .inl f)), (pp, .inr (0, [.ref pb, .int (nI pr.length)])), (pb, .inl (dA 0, M, .inl g))] [.int r10] 0 0 rfl rfl rfl (Nat.le_refl _) (Nat.le_refl _) ?_
      subst k10
      refine jv_weq (ws' := [(o, .inr (2, [.ref tp, .ref pp, .ref nn, .ref ob, .ref nb, .int dp, .int (nI i), .int ub, .int (nI q)])), (tp, .inr (0, [.ref tb, .int (nI t.length)])), (tb, .inl (dA 0, N, .inl f)), (pp, .inr (0, [.ref pb, .int (nI pr.length)])), (pb, .inl (dA 0, M, .inl g))]) (by rw [hqq]) ?_
      rw [hQ]
      exact jv_iret C hr () (rfl) rfl [0, 1, 2, 3, 4] rfl rfl (Nat.le_of_ble_eq_true rfl) (Nat.le_of_ble_eq_true rfl) (jd D_Rd_number 20 rfl)
  · refine jv_aload_n C (jd D_Rd_number 3 rfl) rfl 0 rfl ?_
    refine jv_get C fl_Rd_46 0 rfl rfl (jd D_Rd_number 4 rfl) ?_
    refine jv_iconst (v := 1) C (jd D_Rd_number 5 rfl) (by decide) ?_
    refine jv_iadd C (jd D_Rd_number 6 rfl) ?_
    refine jv_ati (y := nI (i + 1)) (nI_1 i) ?_
    refine jv_goto (tgt := 19) C (jd D_Rd_number 7 rfl) (by decide) ?_
    refine jv_ati (y := nI (js_nd t i)) (by rw [js_nd, if_pos c3]) ?_
    refine jv_istore_n C [(2, .int (nI (js_nd t i))), (0, .ref o), (1, .int (js_b t i))] (jd D_Rd_number 10 rfl) rfl (by decide) rfl ?_
    have hd0 := js_nd_ge t i
    refine jv_aload_n C (jd D_Rd_number 11 rfl) rfl 1 rfl ?_
    refine jv_get C fl_Rd_9 0 rfl rfl (jd D_Rd_number 12 rfl) ?_
    refine jv_iload_n C (jd D_Rd_number 13 rfl) rfl 0 rfl ?_
    refine jv_callV (wr := [(o, .inr (2, [.ref tp, .ref pp, .ref nn, .ref ob, .ref nb, .int dp, .int (nI i), .int ub, .int pl])), (pp, .inr (0, [.ref pb, .int (nI pr.length)])), (pb, .inl (dA 0, M, .inl g))]) C cl_Rd_50 (c_Tx_at tp tb N f t (nI (js_nd t i)) hl (by omega) ht) [1, 2] [0, 3, 4] rfl rfl rfl rfl (by decide) rfl rfl 0 rfl ⟨Nat.le_of_ble_eq_true rfl, Nat.le_of_ble_eq_true rfl⟩ ⟨Nat.le_of_ble_eq_true rfl, Nat.le_of_ble_eq_true rfl⟩ rfl rfl (Nat.le_of_ble_eq_true rfl) (jd D_Rd_number 14 rfl) (fun v16 _ k1 => ?_)
    obtain ⟨r1, rfl, k1⟩ := k1
    refine jv_fix [0, 3, 4, 1, 2] [(o, .inr (2, [.ref tp, .ref pp, .ref nn, .ref ob, .ref nb, .int dp, .int (nI i), .int ub, .int pl])), (tp, .inr (0, [.ref tb, .int (nI t.length)])), (tb, .inl (dA 0, N, .inl f)), (pp, .inr (0, [.ref pb, .int (nI pr.length)])), (pb, .inl (dA 0, M, .inl g))] [.int r1] 0 0 rfl rfl rfl (Nat.le_refl _) (Nat.le_refl _) ?_
    rw [js_at_nat (by omega) (by omega)] at k1
    subst k1
    refine jv_callS (wr := [(o, .inr (2, [.ref tp, .ref pp, .ref nn, .ref ob, .ref nb, .int dp, .int (nI i), .int ub, .int pl])), (tp, .inr (0, [.ref tb, .int (nI t.length)])), (tb, .inl (dA 0, N, .inl f)), (pp, .inr (0, [.ref pb, .int (nI pr.length)])), (pb, .inl (dA 0, M, .inl g))]) C cl_Rd_125 (c_Rd_isDigit (js_b t (js_nd t i))) [] [0, 1, 2, 3, 4] rfl rfl rfl rfl (by decide) ⟨Nat.le_of_ble_eq_true rfl, Nat.le_of_ble_eq_true rfl⟩ ⟨Nat.le_of_ble_eq_true rfl, Nat.le_of_ble_eq_true rfl⟩ rfl rfl (Nat.le_of_ble_eq_true rfl) (jd D_Rd_number 15 rfl) (fun v17 _ k2 => ?_)
    obtain ⟨r2, rfl, k2⟩ := k2
    refine jv_fix [0, 1, 2, 3, 4] [(o, .inr (2, [.ref tp, .ref pp, .ref nn, .ref ob, .ref nb, .int dp, .int (nI i), .int ub, .int pl])), (tp, .inr (0, [.ref tb, .int (nI t.length)])), (tb, .inl (dA 0, N, .inl f)), (pp, .inr (0, [.ref pb, .int (nI pr.length)])), (pb, .inl (dA 0, M, .inl g))] [.int r2] 0 0 rfl rfl rfl (Nat.le_refl _) (Nat.le_refl _) ?_
    subst k2
    refine jv_if_ne (tgt := 40) C (jd D_Rd_number 16 rfl) (by decide) (fun c31 => ?_) (fun c31 => ?_)
    · have hd1 := js_dig_lt c31
      have hd2 := js_ne_le c31
      have hd3 := js_nd_ge t i
      have hd4 := js_ns_ge t i
      refine jv_iload_n C (jd D_Rd_number 21 rfl) rfl 0 rfl ?_
      refine jv_iconst (v := 1) C (jd D_Rd_number 22 rfl) (by decide) ?_
      refine jv_iadd C (jd D_Rd_number 23 rfl) ?_
      refine jv_ati (y := nI (js_nd t i + 1)) (nI_1 _) ?_
      refine jv_istore_n C [(3, .int (nI (js_nd t i + 1))), (2, .int (nI (js_nd t i))), (0, .ref o), (1, .int (js_b t i))] (jd D_Rd_number 24 rfl) rfl (by decide) rfl ?_
      refine jv_aload_n C (jd D_Rd_number 25 rfl) rfl 2 rfl ?_
      refine jv_get C fl_Rd_9 0 rfl rfl (jd D_Rd_number 26 rfl) ?_
      refine jv_iload_n C (jd D_Rd_number 27 rfl) rfl 1 rfl ?_
      refine jv_callV (wr := [(o, .inr (2, [.ref tp, .ref pp, .ref nn, .ref ob, .ref nb, .int dp, .int (nI i), .int ub, .int pl])), (pp, .inr (0, [.ref pb, .int (nI pr.length)])), (pb, .inl (dA 0, M, .inl g))]) C cl_Rd_50 (c_Tx_at tp tb N f t (nI (js_nd t i)) hl (by omega) ht) [1, 2] [0, 3, 4] rfl rfl rfl rfl (by decide) rfl rfl 0 rfl ⟨Nat.le_of_ble_eq_true rfl, Nat.le_of_ble_eq_true rfl⟩ ⟨Nat.le_of_ble_eq_true rfl, Nat.le_of_ble_eq_true rfl⟩ rfl rfl (Nat.le_of_ble_eq_true rfl) (jd D_Rd_number 28 rfl) (fun v18 _ k3 => ?_)
      obtain ⟨r3, rfl, k3⟩ := k3
      refine jv_fix [0, 3, 4, 1, 2] [(o, .inr (2, [.ref tp, .ref pp, .ref nn, .ref ob, .ref nb, .int dp, .int (nI i), .int ub, .int pl])), (tp, .inr (0, [.ref tb, .int (nI t.length)])), (tb, .inl (dA 0, N, .inl f)), (pp, .inr (0, [.ref pb, .int (nI pr.length)])), (pb, .inl (dA 0, M, .inl g))] [.int r3] 0 0 rfl rfl rfl (Nat.le_refl _) (Nat.le_refl _) ?_
      rw [js_at_nat (by omega) (by omega)] at k3
      subst k3
      refine jv_bipush (v := 48) C (jd D_Rd_number 29 rfl) (by decide) ?_
      refine jv_icmp_eq (tgt := 63) C (jd D_Rd_number 30 rfl) (by decide) (fun c54 => ?_) (fun c54 => ?_)
      · refine jv_lveq (lv' := [(3, .int (nI (js_ne t i))), (2, .int (nI (js_nd t i))), (0, .ref o), (1, .int (js_b t i))]) (by rw [js_ne, if_pos c54]) ?_
        refine jv_aload_n C (jd D_Rd_number 35 rfl) rfl 2 rfl ?_
        refine jv_iload_n C (jd D_Rd_number 36 rfl) rfl 1 rfl ?_
        refine jv_iload_n C (jd D_Rd_number 37 rfl) rfl 0 rfl ?_
        refine jv_callV (wr := [(pp, .inr (0, [.ref pb, .int (nI pr.length)])), (pb, .inl (dA 0, M, .inl g))]) C cl_Rd_131 (c_Rd_isTooGreat o tp pp nn ob nb dp ub pl i tb N f t (js_nd t i) (js_ne t i) hl hN ht (by omega) (by omega)) [0, 1, 2] [3, 4] rfl rfl rfl rfl (by decide) rfl rfl 0 rfl ⟨Nat.le_of_ble_eq_true rfl, Nat.le_of_ble_eq_true rfl⟩ ⟨Nat.le_of_ble_eq_true rfl, Nat.le_of_ble_eq_true rfl⟩ rfl rfl (Nat.le_of_ble_eq_true rfl) (jd D_Rd_number 38 rfl) (fun v19 _ k5 => ?_)
        obtain ⟨r5, rfl, k5⟩ := k5
        refine jv_fix [2, 3, 4, 0, 1] [(o, .inr (2, [.ref tp, .ref pp, .ref nn, .ref ob, .ref nb, .int dp, .int (nI i), .int ub, .int pl])), (tp, .inr (0, [.ref tb, .int (nI t.length)])), (tb, .inl (dA 0, N, .inl f)), (pp, .inr (0, [.ref pb, .int (nI pr.length)])), (pb, .inl (dA 0, M, .inl g))] [.int r5] 0 0 rfl rfl rfl (Nat.le_refl _) (Nat.le_refl _) ?_
        refine jv_if_ne (tgt := 86) C (jd D_Rd_number 39 rfl) (by decide) (fun c69 => ?_) (fun c69 => ?_)
        · rw [js_nu, if_neg c31, if_pos (by rcases k5 with y | y; exact y.2; exact absurd y.1 c69)] at hnu
          have hqq : q = i := (Sum.inl.inj hnu).symm
          refine jv_aload_n C (jd D_Rd_number 46 rfl) rfl 2 rfl ?_
          refine jv_aload_n C (jd D_Rd_number 47 rfl) rfl 2 rfl ?_
          refine jv_get C fl_Rd_46 0 rfl rfl (jd D_Rd_number 48 rfl) ?_
          refine jv_callV (wr := [(tp, .inr (0, [.ref tb, .int (nI t.length)])), (tb, .inl (dA 0, N, .inl f)), (pp, .inr (0, [.ref pb, .int (nI pr.length)])), (pb, .inl (dA 0, M, .inl g))]) C cl_Rd_109 (c_Rd_breakAt o tp pp nn ob nb dp ub pl i (nI i)) [0] [1, 2, 3, 4] rfl rfl rfl rfl (by decide) rfl rfl 0 rfl ⟨Nat.le_of_ble_eq_true rfl, Nat.le_of_ble_eq_true rfl⟩ ⟨Nat.le_of_ble_eq_true rfl, Nat.le_of_ble_eq_true rfl⟩ rfl rfl (Nat.le_of_ble_eq_true rfl) (jd D_Rd_number 49 rfl) (fun v20 _ k10 => ?_)
          obtain ⟨r10, rfl, k10⟩ := k10
          refine jv_fix [4, 0, 1, 2, 3] [(o, .inr (2, [.ref tp, .ref pp, .ref nn, .ref ob, .ref nb, .int dp, .int (nI i), .int ub, .int (nI i)])), (tp, .inr (0, [.ref tb, .int (nI t.length)])), (tb, .inl (dA 0, N, .inl f)), (pp, .inr (0, [.ref pb, .int (nI pr.length)])), (pb, .inl (dA 0, M, .inl g))] [.int r10] 0 0 rfl rfl rfl (Nat.le_refl _) (Nat.le_refl _) ?_
          subst k10
          refine jv_weq (ws' := [(o, .inr (2, [.ref tp, .ref pp, .ref nn, .ref ob, .ref nb, .int dp, .int (nI i), .int ub, .int (nI q)])), (tp, .inr (0, [.ref tb, .int (nI t.length)])), (tb, .inl (dA 0, N, .inl f)), (pp, .inr (0, [.ref pb, .int (nI pr.length)])), (pb, .inl (dA 0, M, .inl g))]) (by rw [hqq]) ?_
          rw [hQ]
          exact jv_iret C hr () (rfl) rfl [0, 1, 2, 3, 4] rfl rfl (Nat.le_of_ble_eq_true rfl) (Nat.le_of_ble_eq_true rfl) (jd D_Rd_number 50 rfl)
        · have hsm : ¬ 9007199254740991 < js_tg t (js_ne t i - js_nd t i) (js_nd t i) 0 := by
            rcases k5 with y | y
            · exact absurd (y.1.symm.trans c69) (by decide)
            · exact y.2
          refine jv_aload_n C (jd D_Rd_number 40 rfl) rfl 2 rfl ?_
          refine jv_get C fl_Rd_9 0 rfl rfl (jd D_Rd_number 41 rfl) ?_
          refine jv_iload_n C (jd D_Rd_number 42 rfl) rfl 0 rfl ?_
          refine jv_callV (wr := [(o, .inr (2, [.ref tp, .ref pp, .ref nn, .ref ob, .ref nb, .int dp, .int (nI i), .int ub, .int pl])), (pp, .inr (0, [.ref pb, .int (nI pr.length)])), (pb, .inl (dA 0, M, .inl g))]) C cl_Rd_50 (c_Tx_at tp tb N f t (nI (js_ne t i)) hl (by omega) ht) [1, 2] [0, 3, 4] rfl rfl rfl rfl (by decide) rfl rfl 0 rfl ⟨Nat.le_of_ble_eq_true rfl, Nat.le_of_ble_eq_true rfl⟩ ⟨Nat.le_of_ble_eq_true rfl, Nat.le_of_ble_eq_true rfl⟩ rfl rfl (Nat.le_of_ble_eq_true rfl) (jd D_Rd_number 43 rfl) (fun v21 _ k6 => ?_)
          obtain ⟨r6, rfl, k6⟩ := k6
          refine jv_fix [0, 3, 4, 1, 2] [(o, .inr (2, [.ref tp, .ref pp, .ref nn, .ref ob, .ref nb, .int dp, .int (nI i), .int ub, .int pl])), (tp, .inr (0, [.ref tb, .int (nI t.length)])), (tb, .inl (dA 0, N, .inl f)), (pp, .inr (0, [.ref pb, .int (nI pr.length)])), (pb, .inl (dA 0, M, .inl g))] [.int r6] 0 0 rfl rfl rfl (Nat.le_refl _) (Nat.le_refl _) ?_
          rw [js_at_nat (by omega) (by omega)] at k6
          subst k6
          refine jv_callS (wr := [(o, .inr (2, [.ref tp, .ref pp, .ref nn, .ref ob, .ref nb, .int dp, .int (nI i), .int ub, .int pl])), (tp, .inr (0, [.ref tb, .int (nI t.length)])), (tb, .inl (dA 0, N, .inl f)), (pp, .inr (0, [.ref pb, .int (nI pr.length)])), (pb, .inl (dA 0, M, .inl g))]) C cl_Rd_135 (c_Rd_isFraction (js_b t (js_ne t i))) [] [0, 1, 2, 3, 4] rfl rfl rfl rfl (by decide) ⟨Nat.le_of_ble_eq_true rfl, Nat.le_of_ble_eq_true rfl⟩ ⟨Nat.le_of_ble_eq_true rfl, Nat.le_of_ble_eq_true rfl⟩ rfl rfl (Nat.le_of_ble_eq_true rfl) (jd D_Rd_number 44 rfl) (fun v22 _ k7 => ?_)
          obtain ⟨r7, rfl, k7⟩ := k7
          refine jv_fix [0, 1, 2, 3, 4] [(o, .inr (2, [.ref tp, .ref pp, .ref nn, .ref ob, .ref nb, .int dp, .int (nI i), .int ub, .int pl])), (tp, .inr (0, [.ref tb, .int (nI t.length)])), (tb, .inl (dA 0, N, .inl f)), (pp, .inr (0, [.ref pb, .int (nI pr.length)])), (pb, .inl (dA 0, M, .inl g))] [.int r7] 0 0 rfl rfl rfl (Nat.le_refl _) (Nat.le_refl _) ?_
          subst k7
          refine jv_if_eq (tgt := 95) C (jd D_Rd_number 45 rfl) (by decide) (fun c83 => ?_) (fun c83 => ?_)
          · rw [js_nu, if_neg c31, if_neg hsm, if_pos c83] at hnu
            cases hnu
          · rw [js_nu, if_neg c31, if_neg hsm, if_neg c83] at hnu
            have hqq : q = i := (Sum.inl.inj hnu).symm
            refine jv_aload_n C (jd D_Rd_number 46 rfl) rfl 2 rfl ?_
            refine jv_aload_n C (jd D_Rd_number 47 rfl) rfl 2 rfl ?_
            refine jv_get C fl_Rd_46 0 rfl rfl (jd D_Rd_number 48 rfl) ?_
            refine jv_callV (wr := [(tp, .inr (0, [.ref tb, .int (nI t.length)])), (tb, .inl (dA 0, N, .inl f)), (pp, .inr (0, [.ref pb, .int (nI pr.length)])), (pb, .inl (dA 0, M, .inl g))]) C cl_Rd_109 (c_Rd_breakAt o tp pp nn ob nb dp ub pl i (nI i)) [0] [1, 2, 3, 4] rfl rfl rfl rfl (by decide) rfl rfl 0 rfl ⟨Nat.le_of_ble_eq_true rfl, Nat.le_of_ble_eq_true rfl⟩ ⟨Nat.le_of_ble_eq_true rfl, Nat.le_of_ble_eq_true rfl⟩ rfl rfl (Nat.le_of_ble_eq_true rfl) (jd D_Rd_number 49 rfl) (fun v23 _ k10 => ?_)
            obtain ⟨r10, rfl, k10⟩ := k10
            refine jv_fix [4, 0, 1, 2, 3] [(o, .inr (2, [.ref tp, .ref pp, .ref nn, .ref ob, .ref nb, .int dp, .int (nI i), .int ub, .int (nI i)])), (tp, .inr (0, [.ref tb, .int (nI t.length)])), (tb, .inl (dA 0, N, .inl f)), (pp, .inr (0, [.ref pb, .int (nI pr.length)])), (pb, .inl (dA 0, M, .inl g))] [.int r10] 0 0 rfl rfl rfl (Nat.le_refl _) (Nat.le_refl _) ?_
            subst k10
            refine jv_weq (ws' := [(o, .inr (2, [.ref tp, .ref pp, .ref nn, .ref ob, .ref nb, .int dp, .int (nI i), .int ub, .int (nI q)])), (tp, .inr (0, [.ref tb, .int (nI t.length)])), (tb, .inl (dA 0, N, .inl f)), (pp, .inr (0, [.ref pb, .int (nI pr.length)])), (pb, .inl (dA 0, M, .inl g))]) (by rw [hqq]) ?_
            rw [hQ]
            exact jv_iret C hr () (rfl) rfl [0, 1, 2, 3, 4] rfl rfl (Nat.le_of_ble_eq_true rfl) (Nat.le_of_ble_eq_true rfl) (jd D_Rd_number 50 rfl)
      · refine jv_aload_n C (jd D_Rd_number 31 rfl) rfl 2 rfl ?_
        refine jv_iload_n C (jd D_Rd_number 32 rfl) rfl 1 rfl ?_
        refine jv_callV (wr := [(pp, .inr (0, [.ref pb, .int (nI pr.length)])), (pb, .inl (dA 0, M, .inl g))]) C cl_Rd_128 (c_Rd_endOfDigits o tp pp nn ob nb dp ub pl i tb N f t (js_nd t i) hl hN ht (by omega)) [0, 1, 2] [3, 4] rfl rfl rfl rfl (by decide) rfl rfl 0 rfl ⟨Nat.le_of_ble_eq_true rfl, Nat.le_of_ble_eq_true rfl⟩ ⟨Nat.le_of_ble_eq_true rfl, Nat.le_of_ble_eq_true rfl⟩ rfl rfl (Nat.le_of_ble_eq_true rfl) (jd D_Rd_number 33 rfl) (fun v24 _ k4 => ?_)
        obtain ⟨r4, rfl, k4⟩ := k4
        refine jv_fix [2, 3, 4, 0, 1] [(o, .inr (2, [.ref tp, .ref pp, .ref nn, .ref ob, .ref nb, .int dp, .int (nI i), .int ub, .int pl])), (tp, .inr (0, [.ref tb, .int (nI t.length)])), (tb, .inl (dA 0, N, .inl f)), (pp, .inr (0, [.ref pb, .int (nI pr.length)])), (pb, .inl (dA 0, M, .inl g))] [.int r4] 0 0 rfl rfl rfl (Nat.le_refl _) (Nat.le_refl _) ?_
        subst k4
        refine jv_istore_n C [(3, .int (nI (js_dg t (t.length - js_nd t i) (js_nd t i)))), (2, .int (nI (js_nd t i))), (0, .ref o), (1, .int (js_b t i))] (jd D_Rd_number 34 rfl) rfl (by decide) rfl ?_
        refine jv_lveq (lv' := [(3, .int (nI (js_ne t i))), (2, .int (nI (js_nd t i))), (0, .ref o), (1, .int (js_b t i))]) (by rw [js_ne, if_neg c54]) ?_
        refine jv_aload_n C (jd D_Rd_number 35 rfl) rfl 2 rfl ?_
        refine jv_iload_n C (jd D_Rd_number 36 rfl) rfl 1 rfl ?_
        refine jv_iload_n C (jd D_Rd_number 37 rfl) rfl 0 rfl ?_
        refine jv_callV (wr := [(pp, .inr (0, [.ref pb, .int (nI pr.length)])), (pb, .inl (dA 0, M, .inl g))]) C cl_Rd_131 (c_Rd_isTooGreat o tp pp nn ob nb dp ub pl i tb N f t (js_nd t i) (js_ne t i) hl hN ht (by omega) (by omega)) [0, 1, 2] [3, 4] rfl rfl rfl rfl (by decide) rfl rfl 0 rfl ⟨Nat.le_of_ble_eq_true rfl, Nat.le_of_ble_eq_true rfl⟩ ⟨Nat.le_of_ble_eq_true rfl, Nat.le_of_ble_eq_true rfl⟩ rfl rfl (Nat.le_of_ble_eq_true rfl) (jd D_Rd_number 38 rfl) (fun v25 _ k5 => ?_)
        obtain ⟨r5, rfl, k5⟩ := k5
        refine jv_fix [2, 3, 4, 0, 1] [(o, .inr (2, [.ref tp, .ref pp, .ref nn, .ref ob, .ref nb, .int dp, .int (nI i), .int ub, .int pl])), (tp, .inr (0, [.ref tb, .int (nI t.length)])), (tb, .inl (dA 0, N, .inl f)), (pp, .inr (0, [.ref pb, .int (nI pr.length)])), (pb, .inl (dA 0, M, .inl g))] [.int r5] 0 0 rfl rfl rfl (Nat.le_refl _) (Nat.le_refl _) ?_
        refine jv_if_ne (tgt := 86) C (jd D_Rd_number 39 rfl) (by decide) (fun c69 => ?_) (fun c69 => ?_)
        · rw [js_nu, if_neg c31, if_pos (by rcases k5 with y | y; exact y.2; exact absurd y.1 c69)] at hnu
          have hqq : q = i := (Sum.inl.inj hnu).symm
          refine jv_aload_n C (jd D_Rd_number 46 rfl) rfl 2 rfl ?_
          refine jv_aload_n C (jd D_Rd_number 47 rfl) rfl 2 rfl ?_
          refine jv_get C fl_Rd_46 0 rfl rfl (jd D_Rd_number 48 rfl) ?_
          refine jv_callV (wr := [(tp, .inr (0, [.ref tb, .int (nI t.length)])), (tb, .inl (dA 0, N, .inl f)), (pp, .inr (0, [.ref pb, .int (nI pr.length)])), (pb, .inl (dA 0, M, .inl g))]) C cl_Rd_109 (c_Rd_breakAt o tp pp nn ob nb dp ub pl i (nI i)) [0] [1, 2, 3, 4] rfl rfl rfl rfl (by decide) rfl rfl 0 rfl ⟨Nat.le_of_ble_eq_true rfl, Nat.le_of_ble_eq_true rfl⟩ ⟨Nat.le_of_ble_eq_true rfl, Nat.le_of_ble_eq_true rfl⟩ rfl rfl (Nat.le_of_ble_eq_true rfl) (jd D_Rd_number 49 rfl) (fun v26 _ k10 => ?_)
          obtain ⟨r10, rfl, k10⟩ := k10
          refine jv_fix [4, 0, 1, 2, 3] [(o, .inr (2, [.ref tp, .ref pp, .ref nn, .ref ob, .ref nb, .int dp, .int (nI i), .int ub, .int (nI i)])), (tp, .inr (0, [.ref tb, .int (nI t.length)])), (tb, .inl (dA 0, N, .inl f)), (pp, .inr (0, [.ref pb, .int (nI pr.length)])), (pb, .inl (dA 0, M, .inl g))] [.int r10] 0 0 rfl rfl rfl (Nat.le_refl _) (Nat.le_refl _) ?_
          subst k10
          refine jv_weq (ws' := [(o, .inr (2, [.ref tp, .ref pp, .ref nn, .ref ob, .ref nb, .int dp, .int (nI i), .int ub, .int (nI q)])), (tp, .inr (0, [.ref tb, .int (nI t.length)])), (tb, .inl (dA 0, N, .inl f)), (pp, .inr (0, [.ref pb, .int (nI pr.length)])), (pb, .inl (dA 0, M, .inl g))]) (by rw [hqq]) ?_
          rw [hQ]
          exact jv_iret C hr () (rfl) rfl [0, 1, 2, 3, 4] rfl rfl (Nat.le_of_ble_eq_true rfl) (Nat.le_of_ble_eq_true rfl) (jd D_Rd_number 50 rfl)
        · have hsm : ¬ 9007199254740991 < js_tg t (js_ne t i - js_nd t i) (js_nd t i) 0 := by
            rcases k5 with y | y
            · exact absurd (y.1.symm.trans c69) (by decide)
            · exact y.2
          refine jv_aload_n C (jd D_Rd_number 40 rfl) rfl 2 rfl ?_
          refine jv_get C fl_Rd_9 0 rfl rfl (jd D_Rd_number 41 rfl) ?_
          refine jv_iload_n C (jd D_Rd_number 42 rfl) rfl 0 rfl ?_
          refine jv_callV (wr := [(o, .inr (2, [.ref tp, .ref pp, .ref nn, .ref ob, .ref nb, .int dp, .int (nI i), .int ub, .int pl])), (pp, .inr (0, [.ref pb, .int (nI pr.length)])), (pb, .inl (dA 0, M, .inl g))]) C cl_Rd_50 (c_Tx_at tp tb N f t (nI (js_ne t i)) hl (by omega) ht) [1, 2] [0, 3, 4] rfl rfl rfl rfl (by decide) rfl rfl 0 rfl ⟨Nat.le_of_ble_eq_true rfl, Nat.le_of_ble_eq_true rfl⟩ ⟨Nat.le_of_ble_eq_true rfl, Nat.le_of_ble_eq_true rfl⟩ rfl rfl (Nat.le_of_ble_eq_true rfl) (jd D_Rd_number 43 rfl) (fun v27 _ k6 => ?_)
          obtain ⟨r6, rfl, k6⟩ := k6
          refine jv_fix [0, 3, 4, 1, 2] [(o, .inr (2, [.ref tp, .ref pp, .ref nn, .ref ob, .ref nb, .int dp, .int (nI i), .int ub, .int pl])), (tp, .inr (0, [.ref tb, .int (nI t.length)])), (tb, .inl (dA 0, N, .inl f)), (pp, .inr (0, [.ref pb, .int (nI pr.length)])), (pb, .inl (dA 0, M, .inl g))] [.int r6] 0 0 rfl rfl rfl (Nat.le_refl _) (Nat.le_refl _) ?_
          rw [js_at_nat (by omega) (by omega)] at k6
          subst k6
          refine jv_callS (wr := [(o, .inr (2, [.ref tp, .ref pp, .ref nn, .ref ob, .ref nb, .int dp, .int (nI i), .int ub, .int pl])), (tp, .inr (0, [.ref tb, .int (nI t.length)])), (tb, .inl (dA 0, N, .inl f)), (pp, .inr (0, [.ref pb, .int (nI pr.length)])), (pb, .inl (dA 0, M, .inl g))]) C cl_Rd_135 (c_Rd_isFraction (js_b t (js_ne t i))) [] [0, 1, 2, 3, 4] rfl rfl rfl rfl (by decide) ⟨Nat.le_of_ble_eq_true rfl, Nat.le_of_ble_eq_true rfl⟩ ⟨Nat.le_of_ble_eq_true rfl, Nat.le_of_ble_eq_true rfl⟩ rfl rfl (Nat.le_of_ble_eq_true rfl) (jd D_Rd_number 44 rfl) (fun v28 _ k7 => ?_)
          obtain ⟨r7, rfl, k7⟩ := k7
          refine jv_fix [0, 1, 2, 3, 4] [(o, .inr (2, [.ref tp, .ref pp, .ref nn, .ref ob, .ref nb, .int dp, .int (nI i), .int ub, .int pl])), (tp, .inr (0, [.ref tb, .int (nI t.length)])), (tb, .inl (dA 0, N, .inl f)), (pp, .inr (0, [.ref pb, .int (nI pr.length)])), (pb, .inl (dA 0, M, .inl g))] [.int r7] 0 0 rfl rfl rfl (Nat.le_refl _) (Nat.le_refl _) ?_
          subst k7
          refine jv_if_eq (tgt := 95) C (jd D_Rd_number 45 rfl) (by decide) (fun c83 => ?_) (fun c83 => ?_)
          · rw [js_nu, if_neg c31, if_neg hsm, if_pos c83] at hnu
            cases hnu
          · rw [js_nu, if_neg c31, if_neg hsm, if_neg c83] at hnu
            have hqq : q = i := (Sum.inl.inj hnu).symm
            refine jv_aload_n C (jd D_Rd_number 46 rfl) rfl 2 rfl ?_
            refine jv_aload_n C (jd D_Rd_number 47 rfl) rfl 2 rfl ?_
            refine jv_get C fl_Rd_46 0 rfl rfl (jd D_Rd_number 48 rfl) ?_
            refine jv_callV (wr := [(tp, .inr (0, [.ref tb, .int (nI t.length)])), (tb, .inl (dA 0, N, .inl f)), (pp, .inr (0, [.ref pb, .int (nI pr.length)])), (pb, .inl (dA 0, M, .inl g))]) C cl_Rd_109 (c_Rd_breakAt o tp pp nn ob nb dp ub pl i (nI i)) [0] [1, 2, 3, 4] rfl rfl rfl rfl (by decide) rfl rfl 0 rfl ⟨Nat.le_of_ble_eq_true rfl, Nat.le_of_ble_eq_true rfl⟩ ⟨Nat.le_of_ble_eq_true rfl, Nat.le_of_ble_eq_true rfl⟩ rfl rfl (Nat.le_of_ble_eq_true rfl) (jd D_Rd_number 49 rfl) (fun v29 _ k10 => ?_)
            obtain ⟨r10, rfl, k10⟩ := k10
            refine jv_fix [4, 0, 1, 2, 3] [(o, .inr (2, [.ref tp, .ref pp, .ref nn, .ref ob, .ref nb, .int dp, .int (nI i), .int ub, .int (nI i)])), (tp, .inr (0, [.ref tb, .int (nI t.length)])), (tb, .inl (dA 0, N, .inl f)), (pp, .inr (0, [.ref pb, .int (nI pr.length)])), (pb, .inl (dA 0, M, .inl g))] [.int r10] 0 0 rfl rfl rfl (Nat.le_refl _) (Nat.le_refl _) ?_
            subst k10
            refine jv_weq (ws' := [(o, .inr (2, [.ref tp, .ref pp, .ref nn, .ref ob, .ref nb, .int dp, .int (nI i), .int ub, .int (nI q)])), (tp, .inr (0, [.ref tb, .int (nI t.length)])), (tb, .inl (dA 0, N, .inl f)), (pp, .inr (0, [.ref pb, .int (nI pr.length)])), (pb, .inl (dA 0, M, .inl g))]) (by rw [hqq]) ?_
            rw [hQ]
            exact jv_iret C hr () (rfl) rfl [0, 1, 2, 3, 4] rfl rfl (Nat.le_of_ble_eq_true rfl) (Nat.le_of_ble_eq_true rfl) (jd D_Rd_number 50 rfl)
    · rw [js_nu, if_pos c31] at hnu
      have hqq : q = js_nd t i := (Sum.inl.inj hnu).symm
      refine jv_aload_n C (jd D_Rd_number 17 rfl) rfl 1 rfl ?_
      refine jv_iload_n C (jd D_Rd_number 18 rfl) rfl 0 rfl ?_
      refine jv_callV (wr := [(tp, .inr (0, [.ref tb, .int (nI t.length)])), (tb, .inl (dA 0, N, .inl f)), (pp, .inr (0, [.ref pb, .int (nI pr.length)])), (pb, .inl (dA 0, M, .inl g))]) C cl_Rd_109 (c_Rd_breakAt o tp pp nn ob nb dp ub pl i (nI (js_nd t i))) [0] [1, 2, 3, 4] rfl rfl rfl rfl (by decide) rfl rfl 0 rfl ⟨Nat.le_of_ble_eq_true rfl, Nat.le_of_ble_eq_true rfl⟩ ⟨Nat.le_of_ble_eq_true rfl, Nat.le_of_ble_eq_true rfl⟩ rfl rfl (Nat.le_of_ble_eq_true rfl) (jd D_Rd_number 19 rfl) (fun v30 _ k10 => ?_)
      obtain ⟨r10, rfl, k10⟩ := k10
      refine jv_fix [4, 0, 1, 2, 3] [(o, .inr (2, [.ref tp, .ref pp, .ref nn, .ref ob, .ref nb, .int dp, .int (nI i), .int ub, .int (nI (js_nd t i))])), (tp, .inr (0, [.ref tb, .int (nI t.length)])), (tb, .inl (dA 0, N, .inl f)), (pp, .inr (0, [.ref pb, .int (nI pr.length)])), (pb, .inl (dA 0, M, .inl g))] [.int r10] 0 0 rfl rfl rfl (Nat.le_refl _) (Nat.le_refl _) ?_
      subst k10
      refine jv_weq (ws' := [(o, .inr (2, [.ref tp, .ref pp, .ref nn, .ref ob, .ref nb, .int dp, .int (nI i), .int ub, .int (nI q)])), (tp, .inr (0, [.ref tb, .int (nI t.length)])), (tb, .inl (dA 0, N, .inl f)), (pp, .inr (0, [.ref pb, .int (nI pr.length)])), (pb, .inl (dA 0, M, .inl g))]) (by rw [hqq]) ?_
      rw [hQ]
      exact jv_iret C hr () (rfl) rfl [0, 1, 2, 3, 4] rfl rfl (Nat.le_of_ble_eq_true rfl) (Nat.le_of_ble_eq_true rfl) (jd D_Rd_number 20 rfl)
