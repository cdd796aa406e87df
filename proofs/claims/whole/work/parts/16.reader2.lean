set_option maxHeartbeats 4000000 in
set_option maxRecDepth 100000 in
/-- Reader.unitAt(q) -/
theorem c_Rd_unitAt {l : Launch} {D : va_G} {dA : Nat → ClassId} {zz : (Nat → Nat) × (Nat → Nat)} (o tp pp nn ob nb : Nat) (dp ub pl : Int32) (i : Nat) (tb N : Nat) (f : Nat → Int32) (t : List Nat) (q : Nat) (hl : t.length ≤ N) (hN : N < 2 ^ 30) (ht : js_tx f t) (hq : q < 2 ^ 30 - 2) : jv_M l D dA zz y_Rd_unitAt b_Rd_unitAt 4 (some (FieldType.int)) 3 [.ref o, .int (nI q)] [(o, .inr (2, [.ref tp, .ref pp, .ref nn, .ref ob, .ref nb, .int dp, .int (nI i), .int ub, .int pl])), (tp, .inr (0, [.ref tb, .int (nI t.length)])), (tb, .inl (dA 0, N, .inl f))] (jv_pi fun r (_ : Unit) => r = js_ua t q) (fun _ => [(o, .inr (2, [.ref tp, .ref pp, .ref nn, .ref ob, .ref nb, .int dp, .int (nI i), .int (nI (js_ub t q)), .int pl])), (tp, .inr (0, [.ref tb, .int (nI t.length)])), (tb, .inl (dA 0, N, .inl f))]) 0 0 := by
  refine jv_M.of [(0, .ref o), (1, .int (nI q))] (by decide) (Nat.le_of_ble_eq_true rfl) rfl ?_
  intro pR eR sR mR belowR methR cR AR C hr hin
  refine jv_aload_n C (jd D_Rd_unitAt 0 rfl) rfl 0 rfl ?_
  refine jv_get C fl_Rd_9 0 rfl rfl (jd D_Rd_unitAt 1 rfl) ?_
  refine jv_iload_n C (jd D_Rd_unitAt 2 rfl) rfl 1 rfl ?_
  refine jv_callV (wr := [(o, .inr (2, [.ref tp, .ref pp, .ref nn, .ref ob, .ref nb, .int dp, .int (nI i), .int ub, .int pl]))]) C cl_Rd_50 (c_Tx_at tp tb N f t (nI q) hl (by omega) ht) [1, 2] [0] rfl rfl rfl rfl (by decide) rfl rfl 0 rfl ⟨Nat.le_of_ble_eq_true rfl, Nat.le_of_ble_eq_true rfl⟩ ⟨Nat.le_of_ble_eq_true rfl, Nat.le_of_ble_eq_true rfl⟩ rfl rfl (Nat.le_of_ble_eq_true rfl) (jd D_Rd_unitAt 3 rfl) (fun v1 _ k1 => ?_)
  obtain ⟨r1, rfl, k1⟩ := k1
  refine jv_fix [0, 1, 2] [(o, .inr (2, [.ref tp, .ref pp, .ref nn, .ref ob, .ref nb, .int dp, .int (nI i), .int ub, .int pl])), (tp, .inr (0, [.ref tb, .int (nI t.length)])), (tb, .inl (dA 0, N, .inl f))] [.int r1] 0 0 rfl rfl rfl (Nat.le_refl _) (Nat.le_refl _) ?_
  rw [js_at_nat (by omega) (by omega)] at k1
  subst k1
  refine jv_istore_n C [(2, .int (js_b t q)), (0, .ref o), (1, .int (nI q))] (jd D_Rd_unitAt 4 rfl) rfl (by decide) rfl ?_
  refine jv_aload_n C (jd D_Rd_unitAt 5 rfl) rfl 1 rfl ?_
  refine jv_iconst (v := 1) C (jd D_Rd_unitAt 6 rfl) (by decide) ?_
  refine jv_put C fl_Rd_156 Y_Rd rfl 0 [(o, .inr (2, [.ref tp, .ref pp, .ref nn, .ref ob, .ref nb, .int dp, .int (nI i), .int 1, .int pl])), (tp, .inr (0, [.ref tb, .int (nI t.length)])), (tb, .inl (dA 0, N, .inl f))] rfl rfl rfl (Nat.le_of_ble_eq_true rfl) rfl rfl (jd D_Rd_unitAt 7 rfl) ?_
  refine jv_iload_n C (jd D_Rd_unitAt 8 rfl) rfl 0 rfl ?_
  refine jv_iconst (v := -1) C (jd D_Rd_unitAt 9 rfl) (by decide) ?_
  refine jv_icmp_ne (tgt := 21) C (jd D_Rd_unitAt 10 rfl) (by decide) (fun c16 => ?_) (fun c16 => ?_)
  · refine jv_iload_n C (jd D_Rd_unitAt 13 rfl) rfl 0 rfl ?_
    refine jv_bipush (v := 92) C (jd D_Rd_unitAt 14 rfl) (by decide) ?_
    refine jv_icmp_eq (tgt := 52) C (jd D_Rd_unitAt 15 rfl) (by decide) (fun c24 => ?_) (fun c24 => ?_)
    · refine jv_aload_n C (jd D_Rd_unitAt 29 rfl) rfl 1 rfl ?_
      refine jv_get C fl_Rd_9 0 rfl rfl (jd D_Rd_unitAt 30 rfl) ?_
      refine jv_iload_n C (jd D_Rd_unitAt 31 rfl) rfl 2 rfl ?_
      refine jv_iconst (v := 1) C (jd D_Rd_unitAt 32 rfl) (by decide) ?_
      refine jv_iadd C (jd D_Rd_unitAt 33 rfl) ?_
      refine jv_ati (y := nI (q + 1)) (nI_1 q) ?_
      refine jv_callV (wr := [(o, .inr (2, [.ref tp, .ref pp, .ref nn, .ref ob, .ref nb, .int dp, .int (nI i), .int 1, .int pl]))]) C cl_Rd_50 (c_Tx_at tp tb N f t (nI (q + 1)) hl (by omega) ht) [1, 2] [0] rfl rfl rfl rfl (by decide) rfl rfl 0 rfl ⟨Nat.le_of_ble_eq_true rfl, Nat.le_of_ble_eq_true rfl⟩ ⟨Nat.le_of_ble_eq_true rfl, Nat.le_of_ble_eq_true rfl⟩ rfl rfl (Nat.le_of_ble_eq_true rfl) (jd D_Rd_unitAt 34 rfl) (fun v2 _ k2 => ?_)
      obtain ⟨r2, rfl, k2⟩ := k2
      refine jv_fix [0, 1, 2] [(o, .inr (2, [.ref tp, .ref pp, .ref nn, .ref ob, .ref nb, .int dp, .int (nI i), .int 1, .int pl])), (tp, .inr (0, [.ref tb, .int (nI t.length)])), (tb, .inl (dA 0, N, .inl f))] [.int r2] 0 0 rfl rfl rfl (Nat.le_refl _) (Nat.le_refl _) ?_
      rw [js_at_nat (by omega) (by omega)] at k2
      subst k2
      refine jv_istore_n C [(3, .int (js_b t (q + 1))), (2, .int (js_b t q)), (0, .ref o), (1, .int (nI q))] (jd D_Rd_unitAt 35 rfl) rfl (by decide) rfl ?_
      refine jv_aload_n C (jd D_Rd_unitAt 36 rfl) rfl 2 rfl ?_
      refine jv_iconst (v := 2) C (jd D_Rd_unitAt 37 rfl) (by decide) ?_
      refine jv_put C fl_Rd_156 Y_Rd rfl 0 [(o, .inr (2, [.ref tp, .ref pp, .ref nn, .ref ob, .ref nb, .int dp, .int (nI i), .int 2, .int pl])), (tp, .inr (0, [.ref tb, .int (nI t.length)])), (tb, .inl (dA 0, N, .inl f))] rfl rfl rfl (Nat.le_of_ble_eq_true rfl) rfl rfl (jd D_Rd_unitAt 38 rfl) ?_
      refine jv_iload_n C (jd D_Rd_unitAt 39 rfl) rfl 0 rfl ?_
      refine jv_iconst (v := -1) C (jd D_Rd_unitAt 40 rfl) (by decide) ?_
      refine jv_icmp_ne (tgt := 75) C (jd D_Rd_unitAt 41 rfl) (by decide) (fun c70 => ?_) (fun c70 => ?_)
      · refine jv_iload_n C (jd D_Rd_unitAt 44 rfl) rfl 0 rfl ?_
        refine jv_bipush (v := 117) C (jd D_Rd_unitAt 45 rfl) (by decide) ?_
        refine jv_icmp_ne (tgt := 91) C (jd D_Rd_unitAt 46 rfl) (by decide) (fun c78 => ?_) (fun c78 => ?_)
        · refine jv_iload_n C (jd D_Rd_unitAt 53 rfl) rfl 0 rfl ?_
          refine jv_callS (wr := [(o, .inr (2, [.ref tp, .ref pp, .ref nn, .ref ob, .ref nb, .int dp, .int (nI i), .int 2, .int pl])), (tp, .inr (0, [.ref tb, .int (nI t.length)])), (tb, .inl (dA 0, N, .inl f))]) C cl_Rd_171 (c_Rd_unitOfSign (js_b t (q + 1))) [] [0, 1, 2] rfl rfl rfl rfl (by decide) ⟨Nat.le_of_ble_eq_true rfl, Nat.le_of_ble_eq_true rfl⟩ ⟨Nat.le_of_ble_eq_true rfl, Nat.le_of_ble_eq_true rfl⟩ rfl rfl (Nat.le_of_ble_eq_true rfl) (jd D_Rd_unitAt 54 rfl) (fun v3 _ k3 => ?_)
          obtain ⟨r3, rfl, k3⟩ := k3
          refine jv_fix [0, 1, 2] [(o, .inr (2, [.ref tp, .ref pp, .ref nn, .ref ob, .ref nb, .int dp, .int (nI i), .int 2, .int pl])), (tp, .inr (0, [.ref tb, .int (nI t.length)])), (tb, .inl (dA 0, N, .inl f))] [.int r3] 0 0 rfl rfl rfl (Nat.le_refl _) (Nat.le_refl _) ?_
          subst k3
          refine jv_weq (ws' := [(o, .inr (2, [.ref tp, .ref pp, .ref nn, .ref ob, .ref nb, .int dp, .int (nI i), .int (nI (js_ub t q)), .int pl])), (tp, .inr (0, [.ref tb, .int (nI t.length)])), (tb, .inl (dA 0, N, .inl f))]) (by rw [js_ub, if_neg c16, if_pos c24, if_neg c70, if_neg c78]; rfl) ?_
          exact jv_iret C hr () (by rw [js_ua, if_neg c16, if_pos c24, if_neg c70, if_neg c78]) rfl [0, 1, 2] rfl rfl (Nat.le_of_ble_eq_true rfl) (Nat.le_of_ble_eq_true rfl) (jd D_Rd_unitAt 55 rfl)
        · refine jv_aload_n C (jd D_Rd_unitAt 47 rfl) rfl 2 rfl ?_
          refine jv_iload_n C (jd D_Rd_unitAt 48 rfl) rfl 3 rfl ?_
          refine jv_iconst (v := 2) C (jd D_Rd_unitAt 49 rfl) (by decide) ?_
          refine jv_iadd C (jd D_Rd_unitAt 50 rfl) ?_
          refine jv_ati (y := nI (q + 2)) (nI_add q 2) ?_
          refine jv_callV (wr := []) C cl_Rd_168 (c_Rd_hexUnit o tp pp nn ob nb dp 2 pl i tb N f t (q + 2) hl hN ht (by omega)) [0, 1, 2] [] rfl rfl rfl rfl (by decide) rfl rfl 0 rfl ⟨Nat.le_of_ble_eq_true rfl, Nat.le_of_ble_eq_true rfl⟩ ⟨Nat.le_of_ble_eq_true rfl, Nat.le_of_ble_eq_true rfl⟩ rfl rfl (Nat.le_of_ble_eq_true rfl) (jd D_Rd_unitAt 51 rfl) (fun v4 _ k4 => ?_)
          obtain ⟨r4, rfl, k4⟩ := k4
          refine jv_fix [0, 1, 2] [(o, .inr (2, [.ref tp, .ref pp, .ref nn, .ref ob, .ref nb, .int dp, .int (nI i), .int (if js_hok t 4 (q + 2) = true then 6 else 2), .int pl])), (tp, .inr (0, [.ref tb, .int (nI t.length)])), (tb, .inl (dA 0, N, .inl f))] [.int r4] 0 0 rfl rfl rfl (Nat.le_refl _) (Nat.le_refl _) ?_
          subst k4
          refine jv_goto (tgt := 95) C (jd D_Rd_unitAt 52 rfl) (by decide) ?_
          refine jv_weq (ws' := [(o, .inr (2, [.ref tp, .ref pp, .ref nn, .ref ob, .ref nb, .int dp, .int (nI i), .int (nI (js_ub t q)), .int pl])), (tp, .inr (0, [.ref tb, .int (nI t.length)])), (tb, .inl (dA 0, N, .inl f))]) (by rw [js_ub, if_neg c16, if_pos c24, if_neg c70, if_pos c78]; cases js_hok t 4 (q + 2) <;> rfl) ?_
          exact jv_iret C hr () (by rw [js_ua, if_neg c16, if_pos c24, if_neg c70, if_pos c78]) rfl [0, 1, 2] rfl rfl (Nat.le_of_ble_eq_true rfl) (Nat.le_of_ble_eq_true rfl) (jd D_Rd_unitAt 55 rfl)
      · refine jv_iconst (v := -1) C (jd D_Rd_unitAt 42 rfl) (by decide) ?_
        refine jv_weq (ws' := [(o, .inr (2, [.ref tp, .ref pp, .ref nn, .ref ob, .ref nb, .int dp, .int (nI i), .int (nI (js_ub t q)), .int pl])), (tp, .inr (0, [.ref tb, .int (nI t.length)])), (tb, .inl (dA 0, N, .inl f))]) (by rw [js_ub, if_neg c16, if_pos c24, if_pos c70]; rfl) ?_
        exact jv_iret C hr () (by rw [js_ua, if_neg c16, if_pos c24, if_pos c70]) rfl [0, 1, 2] rfl rfl (Nat.le_of_ble_eq_true rfl) (Nat.le_of_ble_eq_true rfl) (jd D_Rd_unitAt 43 rfl)
    · refine jv_iload_n C (jd D_Rd_unitAt 16 rfl) rfl 0 rfl ?_
      refine jv_bipush (v := 32) C (jd D_Rd_unitAt 17 rfl) (by decide) ?_
      refine jv_icmp_lt (tgt := 45) C (jd D_Rd_unitAt 18 rfl) (by decide) (fun c30 => ?_) (fun c30 => ?_)
      · refine jv_bipush (v := -2) C (jd D_Rd_unitAt 25 rfl) (by decide) ?_
        refine jv_goto (tgt := 51) C (jd D_Rd_unitAt 26 rfl) (by decide) ?_
        refine jv_weq (ws' := [(o, .inr (2, [.ref tp, .ref pp, .ref nn, .ref ob, .ref nb, .int dp, .int (nI i), .int (nI (js_ub t q)), .int pl])), (tp, .inr (0, [.ref tb, .int (nI t.length)])), (tb, .inl (dA 0, N, .inl f))]) (by rw [js_ub, if_neg c16, if_neg c24]; rfl) ?_
        exact jv_iret C hr () (by rw [js_ua, if_neg c16, if_neg c24, if_pos c30]) rfl [0, 1, 2] rfl rfl (Nat.le_of_ble_eq_true rfl) (Nat.le_of_ble_eq_true rfl) (jd D_Rd_unitAt 28 rfl)
      · refine jv_iload_n C (jd D_Rd_unitAt 19 rfl) rfl 0 rfl ?_
        refine jv_bipush (v := 126) C (jd D_Rd_unitAt 20 rfl) (by decide) ?_
        refine jv_icmp_gt (tgt := 45) C (jd D_Rd_unitAt 21 rfl) (by decide) (fun c36 => ?_) (fun c36 => ?_)
        · refine jv_bipush (v := -2) C (jd D_Rd_unitAt 25 rfl) (by decide) ?_
          refine jv_goto (tgt := 51) C (jd D_Rd_unitAt 26 rfl) (by decide) ?_
          refine jv_weq (ws' := [(o, .inr (2, [.ref tp, .ref pp, .ref nn, .ref ob, .ref nb, .int dp, .int (nI i), .int (nI (js_ub t q)), .int pl])), (tp, .inr (0, [.ref tb, .int (nI t.length)])), (tb, .inl (dA 0, N, .inl f))]) (by rw [js_ub, if_neg c16, if_neg c24]; rfl) ?_
          exact jv_iret C hr () (by rw [js_ua, if_neg c16, if_neg c24, if_neg c30, if_pos c36]) rfl [0, 1, 2] rfl rfl (Nat.le_of_ble_eq_true rfl) (Nat.le_of_ble_eq_true rfl) (jd D_Rd_unitAt 28 rfl)
        · refine jv_iload_n C (jd D_Rd_unitAt 22 rfl) rfl 0 rfl ?_
          refine jv_bipush (v := 34) C (jd D_Rd_unitAt 23 rfl) (by decide) ?_
          refine jv_icmp_ne (tgt := 50) C (jd D_Rd_unitAt 24 rfl) (by decide) (fun c42 => ?_) (fun c42 => ?_)
          · refine jv_iload_n C (jd D_Rd_unitAt 27 rfl) rfl 0 rfl ?_
            refine jv_weq (ws' := [(o, .inr (2, [.ref tp, .ref pp, .ref nn, .ref ob, .ref nb, .int dp, .int (nI i), .int (nI (js_ub t q)), .int pl])), (tp, .inr (0, [.ref tb, .int (nI t.length)])), (tb, .inl (dA 0, N, .inl f))]) (by rw [js_ub, if_neg c16, if_neg c24]; rfl) ?_
            exact jv_iret C hr () (by rw [js_ua, if_neg c16, if_neg c24, if_neg c30, if_neg c36, if_neg c42]) rfl [0, 1, 2] rfl rfl (Nat.le_of_ble_eq_true rfl) (Nat.le_of_ble_eq_true rfl) (jd D_Rd_unitAt 28 rfl)
          · refine jv_bipush (v := -2) C (jd D_Rd_unitAt 25 rfl) (by decide) ?_
            refine jv_goto (tgt := 51) C (jd D_Rd_unitAt 26 rfl) (by decide) ?_
            refine jv_weq (ws' := [(o, .inr (2, [.ref tp, .ref pp, .ref nn, .ref ob, .ref nb, .int dp, .int (nI i), .int (nI (js_ub t q)), .int pl])), (tp, .inr (0, [.ref tb, .int (nI t.length)])), (tb, .inl (dA 0, N, .inl f))]) (by rw [js_ub, if_neg c16, if_neg c24]; rfl) ?_
            exact jv_iret C hr () (by rw [js_ua, if_neg c16, if_neg c24, if_neg c30, if_neg c36, if_pos c42]) rfl [0, 1, 2] rfl rfl (Nat.le_of_ble_eq_true rfl) (Nat.le_of_ble_eq_true rfl) (jd D_Rd_unitAt 28 rfl)
  · refine jv_iconst (v := -1) C (jd D_Rd_unitAt 11 rfl) (by decide) ?_
    refine jv_weq (ws' := [(o, .inr (2, [.ref tp, .ref pp, .ref nn, .ref ob, .ref nb, .int dp, .int (nI i), .int (nI (js_ub t q)), .int pl])), (tp, .inr (0, [.ref tb, .int (nI t.length)])), (tb, .inl (dA 0, N, .inl f))]) (by rw [js_ub, if_pos c16]; rfl) ?_
    exact jv_iret C hr () (by rw [js_ua, if_pos c16]) rfl [0, 1, 2] rfl rfl (Nat.le_of_ble_eq_true rfl) (Nat.le_of_ble_eq_true rfl) (jd D_Rd_unitAt 12 rfl)

set_option maxHeartbeats 4000000 in
set_option maxRecDepth 100000 in
/-- Reader.addUnit(u), where there is room -/
theorem c_Rd_addUnit {l : Launch} {D : va_G} {dA : Nat → ClassId} {zz : (Nat → Nat) × (Nat → Nat)} (o tp pp nn ob nb : Nat) (dp ub pl : Int32) (i : Nat) (pb M : Nat) (g : Nat → Int32) (pr : List Nat) (u : Nat) (hu : u < 65536) (hp : pr.length + (js_pu u).length ≤ M) (hM : M < 2 ^ 30) (htp : js_tx g pr) : jv_M l D dA zz y_Rd_addUnit b_Rd_addUnit 5 none 2 [.ref o, .int (nI u)] [(o, .inr (2, [.ref tp, .ref pp, .ref nn, .ref ob, .ref nb, .int dp, .int (nI i), .int ub, .int pl])), (pp, .inr (0, [.ref pb, .int (nI pr.length)])), (pb, .inl (dA 0, M, .inl g))] (jv_pv fun g2 => js_tx g2 (pr ++ js_pu u)) (fun g2 => [(o, .inr (2, [.ref tp, .ref pp, .ref nn, .ref ob, .ref nb, .int dp, .int (nI i), .int ub, .int pl])), (pp, .inr (0, [.ref pb, .int (nI (pr ++ js_pu u).length)])), (pb, .inl (dA 0, M, .inl g2))]) 0 0 := by
  refine jv_M.of [(0, .ref o), (1, .int (nI u))] (by decide) (Nat.le_of_ble_eq_true rfl) rfl ?_
  intro pR eR sR mR belowR methR cR AR C hr hin
  obtain ⟨QR, hQ⟩ : ∃ QR, QR = jv_E D (jv_pv fun g2 => js_tx g2 (pr ++ js_pu u)) (fun g2 => [(o, .inr (2, [.ref tp, .ref pp, .ref nn, .ref ob, .ref nb, .int dp, .int (nI i), .int ub, .int pl])), (pp, .inr (0, [.ref pb, .int (nI (pr ++ js_pu u).length)])), (pb, .inl (dA 0, M, .inl g2))]) belowR ([.ref o, .int (nI u)] : List Value).toArray sR AR 0 0 := ⟨_, rfl⟩
  rw [← hQ]
  refine jv_iload_n C (jd D_Rd_addUnit 0 rfl) rfl 1 rfl ?_
  refine jv_callS (wr := [(o, .inr (2, [.ref tp, .ref pp, .ref nn, .ref ob, .ref nb, .int dp, .int (nI i), .int ub, .int pl])), (pp, .inr (0, [.ref pb, .int (nI pr.length)])), (pb, .inl (dA 0, M, .inl g))]) C cl_Rd_177 (c_Rd_signOfUnit (nI u)) [] [0, 1, 2] rfl rfl rfl rfl (by decide) ⟨Nat.le_of_ble_eq_true rfl, Nat.le_of_ble_eq_true rfl⟩ ⟨Nat.le_of_ble_eq_true rfl, Nat.le_of_ble_eq_true rfl⟩ rfl rfl (Nat.le_of_ble_eq_true rfl) (jd D_Rd_addUnit 1 rfl) (fun v1 _ k1 => ?_)
  obtain ⟨r1, rfl, k1⟩ := k1
  refine jv_fix [0, 1, 2] [(o, .inr (2, [.ref tp, .ref pp, .ref nn, .ref ob, .ref nb, .int dp, .int (nI i), .int ub, .int pl])), (pp, .inr (0, [.ref pb, .int (nI pr.length)])), (pb, .inl (dA 0, M, .inl g))] [.int r1] 0 0 rfl rfl rfl (Nat.le_refl _) (Nat.le_refl _) ?_
  subst k1
  refine jv_istore_n C [(2, .int (fn_Rd_signOfUnit (nI u))), (0, .ref o), (1, .int (nI u))] (jd D_Rd_addUnit 2 rfl) rfl (by decide) rfl ?_
  refine jv_iload_n C (jd D_Rd_addUnit 3 rfl) rfl 0 rfl ?_
  refine jv_iconst (v := -1) C (jd D_Rd_addUnit 4 rfl) (by decide) ?_
  refine jv_icmp_eq (tgt := 30) C (jd D_Rd_addUnit 5 rfl) (by decide) (fun c7 => ?_) (fun c7 => ?_)
  · refine jv_iload_n C (jd D_Rd_addUnit 15 rfl) rfl 2 rfl ?_
    refine jv_bipush (v := 32) C (jd D_Rd_addUnit 16 rfl) (by decide) ?_
    refine jv_icmp_lt (tgt := 42) C (jd D_Rd_addUnit 17 rfl) (by decide) (fun c33 => ?_) (fun c33 => ?_)
    · have hout : u < 32 ∨ 126 < u := by
        exact Or.inl ((nI_ltI (a := u) (b := 32) (by omega) (by decide)).mp c33)
      have hlen : (js_pu u).length = 6 := by rw [js_pu, if_pos c7, if_pos hout]; rfl
      refine jv_aload_n C (jd D_Rd_addUnit 21 rfl) rfl 1 rfl ?_
      refine jv_get C fl_Rd_20 0 rfl rfl (jd D_Rd_addUnit 22 rfl) ?_
      refine jv_bipush (v := 92) C (jd D_Rd_addUnit 23 rfl) (by decide) ?_
      refine jv_callV (wr := [(o, .inr (2, [.ref tp, .ref pp, .ref nn, .ref ob, .ref nb, .int dp, .int (nI i), .int ub, .int pl]))]) C cl_Rd_86 (c_Tx_add pp pb M g pr 92 (by omega) (by omega) htp) [1, 2] [0] rfl rfl rfl rfl (by decide) rfl rfl 0 rfl ⟨Nat.le_of_ble_eq_true rfl, Nat.le_of_ble_eq_true rfl⟩ ⟨Nat.le_of_ble_eq_true rfl, Nat.le_of_ble_eq_true rfl⟩ rfl rfl (Nat.le_of_ble_eq_true rfl) (jd D_Rd_addUnit 24 rfl) (fun v2 g2 k2 => ?_)
      obtain ⟨rfl, k2⟩ := k2
      refine jv_fix [0, 1, 2] [(o, .inr (2, [.ref tp, .ref pp, .ref nn, .ref ob, .ref nb, .int dp, .int (nI i), .int ub, .int pl])), (pp, .inr (0, [.ref pb, .int (nI (pr ++ [(92 : Int32).toBitVec.toNat % 256]).length)])), (pb, .inl (dA 0, M, .inl g2))] [] 0 0 rfl rfl rfl (Nat.le_refl _) (Nat.le_refl _) ?_
      refine jv_aload_n C (jd D_Rd_addUnit 25 rfl) rfl 1 rfl ?_
      refine jv_get C fl_Rd_20 0 rfl rfl (jd D_Rd_addUnit 26 rfl) ?_
      refine jv_bipush (v := 117) C (jd D_Rd_addUnit 27 rfl) (by decide) ?_
      refine jv_callV (wr := [(o, .inr (2, [.ref tp, .ref pp, .ref nn, .ref ob, .ref nb, .int dp, .int (nI i), .int ub, .int pl]))]) C cl_Rd_86 (c_Tx_add pp pb M g2 (pr ++ [(92 : Int32).toBitVec.toNat % 256]) 117 (by simp only [List.length_append, List.length_cons, List.length_nil]; omega) (by omega) k2) [1, 2] [0] rfl rfl rfl rfl (by decide) rfl rfl 0 rfl ⟨Nat.le_of_ble_eq_true rfl, Nat.le_of_ble_eq_true rfl⟩ ⟨Nat.le_of_ble_eq_true rfl, Nat.le_of_ble_eq_true rfl⟩ rfl rfl (Nat.le_of_ble_eq_true rfl) (jd D_Rd_addUnit 28 rfl) (fun v3 g3 k3 => ?_)
      obtain ⟨rfl, k3⟩ := k3
      refine jv_fix [0, 1, 2] [(o, .inr (2, [.ref tp, .ref pp, .ref nn, .ref ob, .ref nb, .int dp, .int (nI i), .int ub, .int pl])), (pp, .inr (0, [.ref pb, .int (nI (pr ++ [(92 : Int32).toBitVec.toNat % 256] ++ [(117 : Int32).toBitVec.toNat % 256]).length)])), (pb, .inl (dA 0, M, .inl g3))] [] 0 0 rfl rfl rfl (Nat.le_refl _) (Nat.le_refl _) ?_
      refine jv_bipush (v := 12) C (jd D_Rd_addUnit 29 rfl) (by decide) ?_
      refine jv_istore_n C [(3, .int 12), (2, .int (fn_Rd_signOfUnit (nI u))), (0, .ref o), (1, .int (nI u))] (jd D_Rd_addUnit 30 rfl) rfl (by decide) rfl ?_
      refine jv_iload_n C (jd D_Rd_addUnit 31 rfl) rfl 0 rfl ?_
      refine jv_if_lt (tgt := 111) C (jd D_Rd_addUnit 32 rfl) (by decide) (fun c64 => absurd c64 (by decide)) (fun c64 => ?_)
      refine jv_iload_n C (jd D_Rd_addUnit 33 rfl) rfl 3 rfl ?_
      refine jv_iload_n C (jd D_Rd_addUnit 34 rfl) rfl 0 rfl ?_
      refine jv_ishr C (jd D_Rd_addUnit 35 rfl) ?_
      refine jv_bipush (v := 15) C (jd D_Rd_addUnit 36 rfl) (by decide) ?_
      refine jv_iand C (jd D_Rd_addUnit 37 rfl) ?_
      refine jv_ati (y := nI (u / 2 ^ 12 % 16)) (js_nib hu 12 12 (by decide)) ?_
      refine jv_istore C [(4, .int (nI (u / 2 ^ 12 % 16))), (3, .int 12), (2, .int (fn_Rd_signOfUnit (nI u))), (0, .ref o), (1, .int (nI u))] (jd D_Rd_addUnit 38 rfl) (by decide) rfl ?_
      refine jv_aload_n C (jd D_Rd_addUnit 39 rfl) rfl 3 rfl ?_
      refine jv_get C fl_Rd_20 0 rfl rfl (jd D_Rd_addUnit 40 rfl) ?_
      refine jv_iload C (jd D_Rd_addUnit 41 rfl) 0 rfl ?_
      refine jv_bipush (v := 10) C (jd D_Rd_addUnit 42 rfl) (by decide) ?_
      have hJ4 : jv_V pR l eR (jv_rm 2 0 0) sR mR ([.ref o, .int (nI u)] : List Value).toArray belowR methR cR 0 0 QR D AR 5 [(o, .inr (2, [.ref tp, .ref pp, .ref nn, .ref ob, .ref nb, .int dp, .int (nI i), .int ub, .int pl])), (pp, .inr (0, [.ref pb, .int (nI (pr ++ [(92 : Int32).toBitVec.toNat % 256] ++ [(117 : Int32).toBitVec.toNat % 256]).length)])), (pb, .inl (dA 0, M, .inl g3))] [(4, .int (nI (u / 2 ^ 12 % 16))), (3, .int 12), (2, .int (fn_Rd_signOfUnit (nI u))), (0, .ref o), (1, .int (nI u))] 102 [.int (nI (js_hexc (u / 2 ^ 12 % 16))), .ref pp] := by
        refine jv_callV (wr := [(o, .inr (2, [.ref tp, .ref pp, .ref nn, .ref ob, .ref nb, .int dp, .int (nI i), .int ub, .int pl]))]) C cl_Rd_86 (c_Tx_add pp pb M g3 (pr ++ [(92 : Int32).toBitVec.toNat % 256] ++ [(117 : Int32).toBitVec.toNat % 256]) (nI (js_hexc (u / 2 ^ 12 % 16))) (by simp only [List.length_append, List.length_cons, List.length_nil]; omega) (by omega) k3) [1, 2] [0] rfl rfl rfl rfl (by decide) rfl rfl 0 rfl ⟨Nat.le_of_ble_eq_true rfl, Nat.le_of_ble_eq_true rfl⟩ ⟨Nat.le_of_ble_eq_true rfl, Nat.le_of_ble_eq_true rfl⟩ rfl rfl (Nat.le_of_ble_eq_true rfl) (jd D_Rd_addUnit 53 rfl) (fun v5 g11 k11 => ?_)
        obtain ⟨rfl, k11⟩ := k11
        refine jv_fix [0, 1, 2] [(o, .inr (2, [.ref tp, .ref pp, .ref nn, .ref ob, .ref nb, .int dp, .int (nI i), .int ub, .int pl])), (pp, .inr (0, [.ref pb, .int (nI (pr ++ [(92 : Int32).toBitVec.toNat % 256] ++ [(117 : Int32).toBitVec.toNat % 256] ++ [(nI (js_hexc (u / 2 ^ 12 % 16))).toBitVec.toNat % 256]).length)])), (pb, .inl (dA 0, M, .inl g11))] [] 0 0 rfl rfl rfl (Nat.le_refl _) (Nat.le_refl _) ?_
        refine jv_iinc (v := 8) C [(3, .int 8), (4, .int (nI (u / 2 ^ 12 % 16))), (2, .int (fn_Rd_signOfUnit (nI u))), (0, .ref o), (1, .int (nI u))] (jd D_Rd_addUnit 54 rfl) 1 rfl (by decide) (by decide) rfl ?_
        refine jv_goto (tgt := 63) C (jd D_Rd_addUnit 55 rfl) (by decide) ?_
        refine jv_iload_n C (jd D_Rd_addUnit 31 rfl) rfl 0 rfl ?_
        refine jv_if_lt (tgt := 111) C (jd D_Rd_addUnit 32 rfl) (by decide) (fun c64 => absurd c64 (by decide)) (fun c64 => ?_)
        refine jv_iload_n C (jd D_Rd_addUnit 33 rfl) rfl 4 rfl ?_
        refine jv_iload_n C (jd D_Rd_addUnit 34 rfl) rfl 0 rfl ?_
        refine jv_ishr C (jd D_Rd_addUnit 35 rfl) ?_
        refine jv_bipush (v := 15) C (jd D_Rd_addUnit 36 rfl) (by decide) ?_
        refine jv_iand C (jd D_Rd_addUnit 37 rfl) ?_
        refine jv_ati (y := nI (u / 2 ^ 8 % 16)) (js_nib hu 8 8 (by decide)) ?_
        refine jv_istore C [(4, .int (nI (u / 2 ^ 8 % 16))), (3, .int 8), (2, .int (fn_Rd_signOfUnit (nI u))), (0, .ref o), (1, .int (nI u))] (jd D_Rd_addUnit 38 rfl) (by decide) rfl ?_
        refine jv_aload_n C (jd D_Rd_addUnit 39 rfl) rfl 3 rfl ?_
        refine jv_get C fl_Rd_20 0 rfl rfl (jd D_Rd_addUnit 40 rfl) ?_
        refine jv_iload C (jd D_Rd_addUnit 41 rfl) 0 rfl ?_
        refine jv_bipush (v := 10) C (jd D_Rd_addUnit 42 rfl) (by decide) ?_
        have hJ6 : jv_V pR l eR (jv_rm 2 0 0) sR mR ([.ref o, .int (nI u)] : List Value).toArray belowR methR cR 0 0 QR D AR 5 [(o, .inr (2, [.ref tp, .ref pp, .ref nn, .ref ob, .ref nb, .int dp, .int (nI i), .int ub, .int pl])), (pp, .inr (0, [.ref pb, .int (nI (pr ++ [(92 : Int32).toBitVec.toNat % 256] ++ [(117 : Int32).toBitVec.toNat % 256] ++ [(nI (js_hexc (u / 2 ^ 12 % 16))).toBitVec.toNat % 256]).length)])), (pb, .inl (dA 0, M, .inl g11))] [(4, .int (nI (u / 2 ^ 8 % 16))), (3, .int 8), (2, .int (fn_Rd_signOfUnit (nI u))), (0, .ref o), (1, .int (nI u))] 102 [.int (nI (js_hexc (u / 2 ^ 8 % 16))), .ref pp] := by
          refine jv_callV (wr := [(o, .inr (2, [.ref tp, .ref pp, .ref nn, .ref ob, .ref nb, .int dp, .int (nI i), .int ub, .int pl]))]) C cl_Rd_86 (c_Tx_add pp pb M g11 (pr ++ [(92 : Int32).toBitVec.toNat % 256] ++ [(117 : Int32).toBitVec.toNat % 256] ++ [(nI (js_hexc (u / 2 ^ 12 % 16))).toBitVec.toNat % 256]) (nI (js_hexc (u / 2 ^ 8 % 16))) (by simp only [List.length_append, List.length_cons, List.length_nil]; omega) (by omega) k11) [1, 2] [0] rfl rfl rfl rfl (by decide) rfl rfl 0 rfl ⟨Nat.le_of_ble_eq_true rfl, Nat.le_of_ble_eq_true rfl⟩ ⟨Nat.le_of_ble_eq_true rfl, Nat.le_of_ble_eq_true rfl⟩ rfl rfl (Nat.le_of_ble_eq_true rfl) (jd D_Rd_addUnit 53 rfl) (fun v7 g12 k12 => ?_)
          obtain ⟨rfl, k12⟩ := k12
          refine jv_fix [0, 1, 2] [(o, .inr (2, [.ref tp, .ref pp, .ref nn, .ref ob, .ref nb, .int dp, .int (nI i), .int ub, .int pl])), (pp, .inr (0, [.ref pb, .int (nI (pr ++ [(92 : Int32).toBitVec.toNat % 256] ++ [(117 : Int32).toBitVec.toNat % 256] ++ [(nI (js_hexc (u / 2 ^ 12 % 16))).toBitVec.toNat % 256] ++ [(nI (js_hexc (u / 2 ^ 8 % 16))).toBitVec.toNat % 256]).length)])), (pb, .inl (dA 0, M, .inl g12))] [] 0 0 rfl rfl rfl (Nat.le_refl _) (Nat.le_refl _) ?_
          refine jv_iinc (v := 4) C [(3, .int 4), (4, .int (nI (u / 2 ^ 8 % 16))), (2, .int (fn_Rd_signOfUnit (nI u))), (0, .ref o), (1, .int (nI u))] (jd D_Rd_addUnit 54 rfl) 1 rfl (by decide) (by decide) rfl ?_
          refine jv_goto (tgt := 63) C (jd D_Rd_addUnit 55 rfl) (by decide) ?_
          refine jv_iload_n C (jd D_Rd_addUnit 31 rfl) rfl 0 rfl ?_
          refine jv_if_lt (tgt := 111) C (jd D_Rd_addUnit 32 rfl) (by decide) (fun c64 => absurd c64 (by decide)) (fun c64 => ?_)
          refine jv_iload_n C (jd D_Rd_addUnit 33 rfl) rfl 4 rfl ?_
          refine jv_iload_n C (jd D_Rd_addUnit 34 rfl) rfl 0 rfl ?_
          refine jv_ishr C (jd D_Rd_addUnit 35 rfl) ?_
          refine jv_bipush (v := 15) C (jd D_Rd_addUnit 36 rfl) (by decide) ?_
          refine jv_iand C (jd D_Rd_addUnit 37 rfl) ?_
          refine jv_ati (y := nI (u / 2 ^ 4 % 16)) (js_nib hu 4 4 (by decide)) ?_
          refine jv_istore C [(4, .int (nI (u / 2 ^ 4 % 16))), (3, .int 4), (2, .int (fn_Rd_signOfUnit (nI u))), (0, .ref o), (1, .int (nI u))] (jd D_Rd_addUnit 38 rfl) (by decide) rfl ?_
          refine jv_aload_n C (jd D_Rd_addUnit 39 rfl) rfl 3 rfl ?_
          refine jv_get C fl_Rd_20 0 rfl rfl (jd D_Rd_addUnit 40 rfl) ?_
          refine jv_iload C (jd D_Rd_addUnit 41 rfl) 0 rfl ?_
          refine jv_bipush (v := 10) C (jd D_Rd_addUnit 42 rfl) (by decide) ?_
          have hJ8 : jv_V pR l eR (jv_rm 2 0 0) sR mR ([.ref o, .int (nI u)] : List Value).toArray belowR methR cR 0 0 QR D AR 5 [(o, .inr (2, [.ref tp, .ref pp, .ref nn, .ref ob, .ref nb, .int dp, .int (nI i), .int ub, .int pl])), (pp, .inr (0, [.ref pb, .int (nI (pr ++ [(92 : Int32).toBitVec.toNat % 256] ++ [(117 : Int32).toBitVec.toNat % 256] ++ [(nI (js_hexc (u / 2 ^ 12 % 16))).toBitVec.toNat % 256] ++ [(nI (js_hexc (u / 2 ^ 8 % 16))).toBitVec.toNat % 256]).length)])), (pb, .inl (dA 0, M, .inl g12))] [(4, .int (nI (u / 2 ^ 4 % 16))), (3, .int 4), (2, .int (fn_Rd_signOfUnit (nI u))), (0, .ref o), (1, .int (nI u))] 102 [.int (nI (js_hexc (u / 2 ^ 4 % 16))), .ref pp] := by
            refine jv_callV (wr := [(o, .inr (2, [.ref tp, .ref pp, .ref nn, .ref ob, .ref nb, .int dp, .int (nI i), .int ub, .int pl]))]) C cl_Rd_86 (c_Tx_add pp pb M g12 (pr ++ [(92 : Int32).toBitVec.toNat % 256] ++ [(117 : Int32).toBitVec.toNat % 256] ++ [(nI (js_hexc (u / 2 ^ 12 % 16))).toBitVec.toNat % 256] ++ [(nI (js_hexc (u / 2 ^ 8 % 16))).toBitVec.toNat % 256]) (nI (js_hexc (u / 2 ^ 4 % 16))) (by simp only [List.length_append, List.length_cons, List.length_nil]; omega) (by omega) k12) [1, 2] [0] rfl rfl rfl rfl (by decide) rfl rfl 0 rfl ⟨Nat.le_of_ble_eq_true rfl, Nat.le_of_ble_eq_true rfl⟩ ⟨Nat.le_of_ble_eq_true rfl, Nat.le_of_ble_eq_true rfl⟩ rfl rfl (Nat.le_of_ble_eq_true rfl) (jd D_Rd_addUnit 53 rfl) (fun v9 g13 k13 => ?_)
            obtain ⟨rfl, k13⟩ := k13
            refine jv_fix [0, 1, 2] [(o, .inr (2, [.ref tp, .ref pp, .ref nn, .ref ob, .ref nb, .int dp, .int (nI i), .int ub, .int pl])), (pp, .inr (0, [.ref pb, .int (nI (pr ++ [(92 : Int32).toBitVec.toNat % 256] ++ [(117 : Int32).toBitVec.toNat % 256] ++ [(nI (js_hexc (u / 2 ^ 12 % 16))).toBitVec.toNat % 256] ++ [(nI (js_hexc (u / 2 ^ 8 % 16))).toBitVec.toNat % 256] ++ [(nI (js_hexc (u / 2 ^ 4 % 16))).toBitVec.toNat % 256]).length)])), (pb, .inl (dA 0, M, .inl g13))] [] 0 0 rfl rfl rfl (Nat.le_refl _) (Nat.le_refl _) ?_
            refine jv_iinc (v := 0) C [(3, .int 0), (4, .int (nI (u / 2 ^ 4 % 16))), (2, .int (fn_Rd_signOfUnit (nI u))), (0, .ref o), (1, .int (nI u))] (jd D_Rd_addUnit 54 rfl) 1 rfl (by decide) (by decide) rfl ?_
            refine jv_goto (tgt := 63) C (jd D_Rd_addUnit 55 rfl) (by decide) ?_
            refine jv_iload_n C (jd D_Rd_addUnit 31 rfl) rfl 0 rfl ?_
            refine jv_if_lt (tgt := 111) C (jd D_Rd_addUnit 32 rfl) (by decide) (fun c64 => absurd c64 (by decide)) (fun c64 => ?_)
            refine jv_iload_n C (jd D_Rd_addUnit 33 rfl) rfl 4 rfl ?_
            refine jv_iload_n C (jd D_Rd_addUnit 34 rfl) rfl 0 rfl ?_
            refine jv_ishr C (jd D_Rd_addUnit 35 rfl) ?_
            refine jv_bipush (v := 15) C (jd D_Rd_addUnit 36 rfl) (by decide) ?_
            refine jv_iand C (jd D_Rd_addUnit 37 rfl) ?_
            refine jv_ati (y := nI (u / 2 ^ 0 % 16)) (js_nib hu 0 0 (by decide)) ?_
            refine jv_istore C [(4, .int (nI (u / 2 ^ 0 % 16))), (3, .int 0), (2, .int (fn_Rd_signOfUnit (nI u))), (0, .ref o), (1, .int (nI u))] (jd D_Rd_addUnit 38 rfl) (by decide) rfl ?_
            refine jv_aload_n C (jd D_Rd_addUnit 39 rfl) rfl 3 rfl ?_
            refine jv_get C fl_Rd_20 0 rfl rfl (jd D_Rd_addUnit 40 rfl) ?_
            refine jv_iload C (jd D_Rd_addUnit 41 rfl) 0 rfl ?_
            refine jv_bipush (v := 10) C (jd D_Rd_addUnit 42 rfl) (by decide) ?_
            have hJ10 : jv_V pR l eR (jv_rm 2 0 0) sR mR ([.ref o, .int (nI u)] : List Value).toArray belowR methR cR 0 0 QR D AR 5 [(o, .inr (2, [.ref tp, .ref pp, .ref nn, .ref ob, .ref nb, .int dp, .int (nI i), .int ub, .int pl])), (pp, .inr (0, [.ref pb, .int (nI (pr ++ [(92 : Int32).toBitVec.toNat % 256] ++ [(117 : Int32).toBitVec.toNat % 256] ++ [(nI (js_hexc (u / 2 ^ 12 % 16))).toBitVec.toNat % 256] ++ [(nI (js_hexc (u / 2 ^ 8 % 16))).toBitVec.toNat % 256] ++ [(nI (js_hexc (u / 2 ^ 4 % 16))).toBitVec.toNat % 256]).length)])), (pb, .inl (dA 0, M, .inl g13))] [(4, .int (nI (u / 2 ^ 0 % 16))), (3, .int 0), (2, .int (fn_Rd_signOfUnit (nI u))), (0, .ref o), (1, .int (nI u))] 102 [.int (nI (js_hexc (u / 2 ^ 0 % 16))), .ref pp] := by
              refine jv_callV (wr := [(o, .inr (2, [.ref tp, .ref pp, .ref nn, .ref ob, .ref nb, .int dp, .int (nI i), .int ub, .int pl]))]) C cl_Rd_86 (c_Tx_add pp pb M g13 (pr ++ [(92 : Int32).toBitVec.toNat % 256] ++ [(117 : Int32).toBitVec.toNat % 256] ++ [(nI (js_hexc (u / 2 ^ 12 % 16))).toBitVec.toNat % 256] ++ [(nI (js_hexc (u / 2 ^ 8 % 16))).toBitVec.toNat % 256] ++ [(nI (js_hexc (u / 2 ^ 4 % 16))).toBitVec.toNat % 256]) (nI (js_hexc (u / 2 ^ 0 % 16))) (by simp only [List.length_append, List.length_cons, List.length_nil]; omega) (by omega) k13) [1, 2] [0] rfl rfl rfl rfl (by decide) rfl rfl 0 rfl ⟨Nat.le_of_ble_eq_true rfl, Nat.le_of_ble_eq_true rfl⟩ ⟨Nat.le_of_ble_eq_true rfl, Nat.le_of_ble_eq_true rfl⟩ rfl rfl (Nat.le_of_ble_eq_true rfl) (jd D_Rd_addUnit 53 rfl) (fun v11 g14 k14 => ?_)
              obtain ⟨rfl, k14⟩ := k14
              refine jv_fix [0, 1, 2] [(o, .inr (2, [.ref tp, .ref pp, .ref nn, .ref ob, .ref nb, .int dp, .int (nI i), .int ub, .int pl])), (pp, .inr (0, [.ref pb, .int (nI (pr ++ [(92 : Int32).toBitVec.toNat % 256] ++ [(117 : Int32).toBitVec.toNat % 256] ++ [(nI (js_hexc (u / 2 ^ 12 % 16))).toBitVec.toNat % 256] ++ [(nI (js_hexc (u / 2 ^ 8 % 16))).toBitVec.toNat % 256] ++ [(nI (js_hexc (u / 2 ^ 4 % 16))).toBitVec.toNat % 256] ++ [(nI (js_hexc (u / 2 ^ 0 % 16))).toBitVec.toNat % 256]).length)])), (pb, .inl (dA 0, M, .inl g14))] [] 0 0 rfl rfl rfl (Nat.le_refl _) (Nat.le_refl _) ?_
              refine jv_iinc (v := -4) C [(3, .int (-4)), (4, .int (nI (u / 2 ^ 0 % 16))), (2, .int (fn_Rd_signOfUnit (nI u))), (0, .ref o), (1, .int (nI u))] (jd D_Rd_addUnit 54 rfl) 1 rfl (by decide) (by decide) rfl ?_
              refine jv_goto (tgt := 63) C (jd D_Rd_addUnit 55 rfl) (by decide) ?_
              refine jv_iload_n C (jd D_Rd_addUnit 31 rfl) rfl 0 rfl ?_
              refine jv_if_lt (tgt := 111) C (jd D_Rd_addUnit 32 rfl) (by decide) (fun c64 => ?_) (fun c64 => absurd (by decide) c64)
              refine jv_goto (tgt := 122) C (jd D_Rd_addUnit 56 rfl) (by decide) ?_
              have heq : pr ++ [(92 : Int32).toBitVec.toNat % 256] ++ [(117 : Int32).toBitVec.toNat % 256] ++ [(nI (js_hexc (u / 2 ^ 12 % 16))).toBitVec.toNat % 256] ++ [(nI (js_hexc (u / 2 ^ 8 % 16))).toBitVec.toNat % 256] ++ [(nI (js_hexc (u / 2 ^ 4 % 16))).toBitVec.toNat % 256] ++ [(nI (js_hexc (u / 2 ^ 0 % 16))).toBitVec.toNat % 256] = pr ++ js_pu u := by rw [js_pu, if_pos c7, if_pos hout]; simp [show (92 : Int32).toBitVec.toNat % 256 = 92 from rfl, show (117 : Int32).toBitVec.toNat % 256 = 117 from rfl, js_tn (js_hexc_lt (Nat.mod_lt _ (by decide : 0 < 16)))]
              rw [heq] at k14
              refine jv_weq (ws' := [(o, .inr (2, [.ref tp, .ref pp, .ref nn, .ref ob, .ref nb, .int dp, .int (nI i), .int ub, .int pl])), (pp, .inr (0, [.ref pb, .int (nI (pr ++ js_pu u).length)])), (pb, .inl (dA 0, M, .inl g14))]) (by rw [heq]) ?_
              rw [hQ]
              exact jv_vret C hr g14 (k14) [0, 1, 2] rfl rfl (Nat.le_of_ble_eq_true rfl) (Nat.le_of_ble_eq_true rfl) (jd D_Rd_addUnit 61 rfl)
            refine jv_icmp_ge (tgt := 94) C (jd D_Rd_addUnit 43 rfl) (by decide) (fun c83 => ?_) (fun c83 => ?_)
            · refine jv_bipush (v := 97) C (jd D_Rd_addUnit 48 rfl) (by decide) ?_
              refine jv_iload C (jd D_Rd_addUnit 49 rfl) 0 rfl ?_
              refine jv_iadd C (jd D_Rd_addUnit 50 rfl) ?_
              refine jv_bipush (v := 10) C (jd D_Rd_addUnit 51 rfl) (by decide) ?_
              refine jv_isub C (jd D_Rd_addUnit 52 rfl) ?_
              refine jv_ati (y := nI (js_hexc (u / 2 ^ 0 % 16))) (js_hexc_hi (by intro q; exact nI_ge (a := (u / 2 ^ 0 % 16)) (b := 10) q (by decide) c83)) ?_
              exact hJ10
            · refine jv_bipush (v := 48) C (jd D_Rd_addUnit 44 rfl) (by decide) ?_
              refine jv_iload C (jd D_Rd_addUnit 45 rfl) 0 rfl ?_
              refine jv_iadd C (jd D_Rd_addUnit 46 rfl) ?_
              refine jv_ati (y := nI (js_hexc (u / 2 ^ 0 % 16))) (js_hexc_lo (by rcases Nat.lt_or_ge (u / 2 ^ 0 % 16) 10 with q | q; exact q; exact absurd (nI_le (a := 10) (b := (u / 2 ^ 0 % 16)) q (by omega)) c83)) ?_
              refine jv_goto (tgt := 102) C (jd D_Rd_addUnit 47 rfl) (by decide) ?_
              exact hJ10
          refine jv_icmp_ge (tgt := 94) C (jd D_Rd_addUnit 43 rfl) (by decide) (fun c83 => ?_) (fun c83 => ?_)
          · refine jv_bipush (v := 97) C (jd D_Rd_addUnit 48 rfl) (by decide) ?_
            refine jv_iload C (jd D_Rd_addUnit 49 rfl) 0 rfl ?_
            refine jv_iadd C (jd D_Rd_addUnit 50 rfl) ?_
            refine jv_bipush (v := 10) C (jd D_Rd_addUnit 51 rfl) (by decide) ?_
            refine jv_isub C (jd D_Rd_addUnit 52 rfl) ?_
            refine jv_ati (y := nI (js_hexc (u / 2 ^ 4 % 16))) (js_hexc_hi (by intro q; exact nI_ge (a := (u / 2 ^ 4 % 16)) (b := 10) q (by decide) c83)) ?_
            exact hJ8
          · refine jv_bipush (v := 48) C (jd D_Rd_addUnit 44 rfl) (by decide) ?_
            refine jv_iload C (jd D_Rd_addUnit 45 rfl) 0 rfl ?_
            refine jv_iadd C (jd D_Rd_addUnit 46 rfl) ?_
            refine jv_ati (y := nI (js_hexc (u / 2 ^ 4 % 16))) (js_hexc_lo (by rcases Nat.lt_or_ge (u / 2 ^ 4 % 16) 10 with q | q; exact q; exact absurd (nI_le (a := 10) (b := (u / 2 ^ 4 % 16)) q (by omega)) c83)) ?_
            refine jv_goto (tgt := 102) C (jd D_Rd_addUnit 47 rfl) (by decide) ?_
            exact hJ8
        refine jv_icmp_ge (tgt := 94) C (jd D_Rd_addUnit 43 rfl) (by decide) (fun c83 => ?_) (fun c83 => ?_)
        · refine jv_bipush (v := 97) C (jd D_Rd_addUnit 48 rfl) (by decide) ?_
          refine jv_iload C (jd D_Rd_addUnit 49 rfl) 0 rfl ?_
          refine jv_iadd C (jd D_Rd_addUnit 50 rfl) ?_
          refine jv_bipush (v := 10) C (jd D_Rd_addUnit 51 rfl) (by decide) ?_
          refine jv_isub C (jd D_Rd_addUnit 52 rfl) ?_
          refine jv_ati (y := nI (js_hexc (u / 2 ^ 8 % 16))) (js_hexc_hi (by intro q; exact nI_ge (a := (u / 2 ^ 8 % 16)) (b := 10) q (by decide) c83)) ?_
          exact hJ6
        · refine jv_bipush (v := 48) C (jd D_Rd_addUnit 44 rfl) (by decide) ?_
          refine jv_iload C (jd D_Rd_addUnit 45 rfl) 0 rfl ?_
          refine jv_iadd C (jd D_Rd_addUnit 46 rfl) ?_
          refine jv_ati (y := nI (js_hexc (u / 2 ^ 8 % 16))) (js_hexc_lo (by rcases Nat.lt_or_ge (u / 2 ^ 8 % 16) 10 with q | q; exact q; exact absurd (nI_le (a := 10) (b := (u / 2 ^ 8 % 16)) q (by omega)) c83)) ?_
          refine jv_goto (tgt := 102) C (jd D_Rd_addUnit 47 rfl) (by decide) ?_
          exact hJ6
      refine jv_icmp_ge (tgt := 94) C (jd D_Rd_addUnit 43 rfl) (by decide) (fun c83 => ?_) (fun c83 => ?_)
      · refine jv_bipush (v := 97) C (jd D_Rd_addUnit 48 rfl) (by decide) ?_
        refine jv_iload C (jd D_Rd_addUnit 49 rfl) 0 rfl ?_
        refine jv_iadd C (jd D_Rd_addUnit 50 rfl) ?_
        refine jv_bipush (v := 10) C (jd D_Rd_addUnit 51 rfl) (by decide) ?_
        refine jv_isub C (jd D_Rd_addUnit 52 rfl) ?_
        refine jv_ati (y := nI (js_hexc (u / 2 ^ 12 % 16))) (js_hexc_hi (by intro q; exact nI_ge (a := (u / 2 ^ 12 % 16)) (b := 10) q (by decide) c83)) ?_
        exact hJ4
      · refine jv_bipush (v := 48) C (jd D_Rd_addUnit 44 rfl) (by decide) ?_
        refine jv_iload C (jd D_Rd_addUnit 45 rfl) 0 rfl ?_
        refine jv_iadd C (jd D_Rd_addUnit 46 rfl) ?_
        refine jv_ati (y := nI (js_hexc (u / 2 ^ 12 % 16))) (js_hexc_lo (by rcases Nat.lt_or_ge (u / 2 ^ 12 % 16) 10 with q | q; exact q; exact absurd (nI_le (a := 10) (b := (u / 2 ^ 12 % 16)) q (by omega)) c83)) ?_
        refine jv_goto (tgt := 102) C (jd D_Rd_addUnit 47 rfl) (by decide) ?_
        exact hJ4
    · refine jv_iload_n C (jd D_Rd_addUnit 18 rfl) rfl 2 rfl ?_
      refine jv_bipush (v := 126) C (jd D_Rd_addUnit 19 rfl) (by decide) ?_
      refine jv_icmp_le (tgt := 114) C (jd D_Rd_addUnit 20 rfl) (by decide) (fun c39 => ?_) (fun c39 => ?_)
      · have hin2 : ¬ (u < 32 ∨ 126 < u) := by
          intro q
          rcases q with q | q
          · exact c33 ((nI_ltI (a := u) (b := 32) (by omega) (by decide)).mpr q)
          · have := (nI_leI (a := u) (b := 126) (by omega) (by decide)).mp c39; omega
        have hlen : (js_pu u).length = 1 := by rw [js_pu, if_pos c7, if_neg hin2]; rfl
        refine jv_aload_n C (jd D_Rd_addUnit 57 rfl) rfl 1 rfl ?_
        refine jv_get C fl_Rd_20 0 rfl rfl (jd D_Rd_addUnit 58 rfl) ?_
        refine jv_iload_n C (jd D_Rd_addUnit 59 rfl) rfl 2 rfl ?_
        refine jv_callV (wr := [(o, .inr (2, [.ref tp, .ref pp, .ref nn, .ref ob, .ref nb, .int dp, .int (nI i), .int ub, .int pl]))]) C cl_Rd_86 (c_Tx_add pp pb M g pr (nI u) (by omega) (by omega) htp) [1, 2] [0] rfl rfl rfl rfl (by decide) rfl rfl 0 rfl ⟨Nat.le_of_ble_eq_true rfl, Nat.le_of_ble_eq_true rfl⟩ ⟨Nat.le_of_ble_eq_true rfl, Nat.le_of_ble_eq_true rfl⟩ rfl rfl (Nat.le_of_ble_eq_true rfl) (jd D_Rd_addUnit 60 rfl) (fun v12 g2 k2 => ?_)
        obtain ⟨rfl, k2⟩ := k2
        refine jv_fix [0, 1, 2] [(o, .inr (2, [.ref tp, .ref pp, .ref nn, .ref ob, .ref nb, .int dp, .int (nI i), .int ub, .int pl])), (pp, .inr (0, [.ref pb, .int (nI (pr ++ [(nI u).toBitVec.toNat % 256]).length)])), (pb, .inl (dA 0, M, .inl g2))] [] 0 0 rfl rfl rfl (Nat.le_refl _) (Nat.le_refl _) ?_
        have heq : pr ++ [(nI u).toBitVec.toNat % 256] = pr ++ js_pu u := by rw [js_pu, if_pos c7, if_neg hin2]; simp [js_tn (show u < 256 by omega)]
        rw [heq] at k2
        refine jv_weq (ws' := [(o, .inr (2, [.ref tp, .ref pp, .ref nn, .ref ob, .ref nb, .int dp, .int (nI i), .int ub, .int pl])), (pp, .inr (0, [.ref pb, .int (nI (pr ++ js_pu u).length)])), (pb, .inl (dA 0, M, .inl g2))]) (by rw [heq]) ?_
        rw [hQ]
        exact jv_vret C hr g2 (k2) [0, 1, 2] rfl rfl (Nat.le_of_ble_eq_true rfl) (Nat.le_of_ble_eq_true rfl) (jd D_Rd_addUnit 61 rfl)
      · have hout : u < 32 ∨ 126 < u := by
          exact Or.inr (by rcases Nat.lt_or_ge 126 u with q | q; exact q; exact absurd ((nI_leI (a := u) (b := 126) (by omega) (by decide)).mpr q) c39)
        have hlen : (js_pu u).length = 6 := by rw [js_pu, if_pos c7, if_pos hout]; rfl
        refine jv_aload_n C (jd D_Rd_addUnit 21 rfl) rfl 1 rfl ?_
        refine jv_get C fl_Rd_20 0 rfl rfl (jd D_Rd_addUnit 22 rfl) ?_
        refine jv_bipush (v := 92) C (jd D_Rd_addUnit 23 rfl) (by decide) ?_
        refine jv_callV (wr := [(o, .inr (2, [.ref tp, .ref pp, .ref nn, .ref ob, .ref nb, .int dp, .int (nI i), .int ub, .int pl]))]) C cl_Rd_86 (c_Tx_add pp pb M g pr 92 (by omega) (by omega) htp) [1, 2] [0] rfl rfl rfl rfl (by decide) rfl rfl 0 rfl ⟨Nat.le_of_ble_eq_true rfl, Nat.le_of_ble_eq_true rfl⟩ ⟨Nat.le_of_ble_eq_true rfl, Nat.le_of_ble_eq_true rfl⟩ rfl rfl (Nat.le_of_ble_eq_true rfl) (jd D_Rd_addUnit 24 rfl) (fun v13 g2 k2 => ?_)
        obtain ⟨rfl, k2⟩ := k2
        refine jv_fix [0, 1, 2] [(o, .inr (2, [.ref tp, .ref pp, .ref nn, .ref ob, .ref nb, .int dp, .int (nI i), .int ub, .int pl])), (pp, .inr (0, [.ref pb, .int (nI (pr ++ [(92 : Int32).toBitVec.toNat % 256]).length)])), (pb, .inl (dA 0, M, .inl g2))] [] 0 0 rfl rfl rfl (Nat.le_refl _) (Nat.le_refl _) ?_
        refine jv_aload_n C (jd D_Rd_addUnit 25 rfl) rfl 1 rfl ?_
        refine jv_get C fl_Rd_20 0 rfl rfl (jd D_Rd_addUnit 26 rfl) ?_
        refine jv_bipush (v := 117) C (jd D_Rd_addUnit 27 rfl) (by decide) ?_
        refine jv_callV (wr := [(o, .inr (2, [.ref tp, .ref pp, .ref nn, .ref ob, .ref nb, .int dp, .int (nI i), .int ub, .int pl]))]) C cl_Rd_86 (c_Tx_add pp pb M g2 (pr ++ [(92 : Int32).toBitVec.toNat % 256]) 117 (by simp only [List.length_append, List.length_cons, List.length_nil]; omega) (by omega) k2) [1, 2] [0] rfl rfl rfl rfl (by decide) rfl rfl 0 rfl ⟨Nat.le_of_ble_eq_true rfl, Nat.le_of_ble_eq_true rfl⟩ ⟨Nat.le_of_ble_eq_true rfl, Nat.le_of_ble_eq_true rfl⟩ rfl rfl (Nat.le_of_ble_eq_true rfl) (jd D_Rd_addUnit 28 rfl) (fun v14 g3 k3 => ?_)
        obtain ⟨rfl, k3⟩ := k3
        refine jv_fix [0, 1, 2] [(o, .inr (2, [.ref tp, .ref pp, .ref nn, .ref ob, .ref nb, .int dp, .int (nI i), .int ub, .int pl])), (pp, .inr (0, [.ref pb, .int (nI (pr ++ [(92 : Int32).toBitVec.toNat % 256] ++ [(117 : Int32).toBitVec.toNat % 256]).length)])), (pb, .inl (dA 0, M, .inl g3))] [] 0 0 rfl rfl rfl (Nat.le_refl _) (Nat.le_refl _) ?_
        refine jv_bipush (v := 12) C (jd D_Rd_addUnit 29 rfl) (by decide) ?_
        refine jv_istore_n C [(3, .int 12), (2, .int (fn_Rd_signOfUnit (nI u))), (0, .ref o), (1, .int (nI u))] (jd D_Rd_addUnit 30 rfl) rfl (by decide) rfl ?_
        refine jv_iload_n C (jd D_Rd_addUnit 31 rfl) rfl 0 rfl ?_
        refine jv_if_lt (tgt := 111) C (jd D_Rd_addUnit 32 rfl) (by decide) (fun c64 => absurd c64 (by decide)) (fun c64 => ?_)
        refine jv_iload_n C (jd D_Rd_addUnit 33 rfl) rfl 3 rfl ?_
        refine jv_iload_n C (jd D_Rd_addUnit 34 rfl) rfl 0 rfl ?_
        refine jv_ishr C (jd D_Rd_addUnit 35 rfl) ?_
        refine jv_bipush (v := 15) C (jd D_Rd_addUnit 36 rfl) (by decide) ?_
        refine jv_iand C (jd D_Rd_addUnit 37 rfl) ?_
        refine jv_ati (y := nI (u / 2 ^ 12 % 16)) (js_nib hu 12 12 (by decide)) ?_
        refine jv_istore C [(4, .int (nI (u / 2 ^ 12 % 16))), (3, .int 12), (2, .int (fn_Rd_signOfUnit (nI u))), (0, .ref o), (1, .int (nI u))] (jd D_Rd_addUnit 38 rfl) (by decide) rfl ?_
        refine jv_aload_n C (jd D_Rd_addUnit 39 rfl) rfl 3 rfl ?_
        refine jv_get C fl_Rd_20 0 rfl rfl (jd D_Rd_addUnit 40 rfl) ?_
        refine jv_iload C (jd D_Rd_addUnit 41 rfl) 0 rfl ?_
        refine jv_bipush (v := 10) C (jd D_Rd_addUnit 42 rfl) (by decide) ?_
        have hJ15 : jv_V pR l eR (jv_rm 2 0 0) sR mR ([.ref o, .int (nI u)] : List Value).toArray belowR methR cR 0 0 QR D AR 5 [(o, .inr (2, [.ref tp, .ref pp, .ref nn, .ref ob, .ref nb, .int dp, .int (nI i), .int ub, .int pl])), (pp, .inr (0, [.ref pb, .int (nI (pr ++ [(92 : Int32).toBitVec.toNat % 256] ++ [(117 : Int32).toBitVec.toNat % 256]).length)])), (pb, .inl (dA 0, M, .inl g3))] [(4, .int (nI (u / 2 ^ 12 % 16))), (3, .int 12), (2, .int (fn_Rd_signOfUnit (nI u))), (0, .ref o), (1, .int (nI u))] 102 [.int (nI (js_hexc (u / 2 ^ 12 % 16))), .ref pp] := by
          refine jv_callV (wr := [(o, .inr (2, [.ref tp, .ref pp, .ref nn, .ref ob, .ref nb, .int dp, .int (nI i), .int ub, .int pl]))]) C cl_Rd_86 (c_Tx_add pp pb M g3 (pr ++ [(92 : Int32).toBitVec.toNat % 256] ++ [(117 : Int32).toBitVec.toNat % 256]) (nI (js_hexc (u / 2 ^ 12 % 16))) (by simp only [List.length_append, List.length_cons, List.length_nil]; omega) (by omega) k3) [1, 2] [0] rfl rfl rfl rfl (by decide) rfl rfl 0 rfl ⟨Nat.le_of_ble_eq_true rfl, Nat.le_of_ble_eq_true rfl⟩ ⟨Nat.le_of_ble_eq_true rfl, Nat.le_of_ble_eq_true rfl⟩ rfl rfl (Nat.le_of_ble_eq_true rfl) (jd D_Rd_addUnit 53 rfl) (fun v16 g15 k15 => ?_)
          obtain ⟨rfl, k15⟩ := k15
          refine jv_fix [0, 1, 2] [(o, .inr (2, [.ref tp, .ref pp, .ref nn, .ref ob, .ref nb, .int dp, .int (nI i), .int ub, .int pl])), (pp, .inr (0, [.ref pb, .int (nI (pr ++ [(92 : Int32).toBitVec.toNat % 256] ++ [(117 : Int32).toBitVec.toNat % 256] ++ [(nI (js_hexc (u / 2 ^ 12 % 16))).toBitVec.toNat % 256]).length)])), (pb, .inl (dA 0, M, .inl g15))] [] 0 0 rfl rfl rfl (Nat.le_refl _) (Nat.le_refl _) ?_
          refine jv_iinc (v := 8) C [(3, .int 8), (4, .int (nI (u / 2 ^ 12 % 16))), (2, .int (fn_Rd_signOfUnit (nI u))), (0, .ref o), (1, .int (nI u))] (jd D_Rd_addUnit 54 rfl) 1 rfl (by decide) (by decide) rfl ?_
          refine jv_goto (tgt := 63) C (jd D_Rd_addUnit 55 rfl) (by decide) ?_
          refine jv_iload_n C (jd D_Rd_addUnit 31 rfl) rfl 0 rfl ?_
          refine jv_if_lt (tgt := 111) C (jd D_Rd_addUnit 32 rfl) (by decide) (fun c64 => absurd c64 (by decide)) (fun c64 => ?_)
          refine jv_iload_n C (jd D_Rd_addUnit 33 rfl) rfl 4 rfl ?_
          refine jv_iload_n C (jd D_Rd_addUnit 34 rfl) rfl 0 rfl ?_
          refine jv_ishr C (jd D_Rd_addUnit 35 rfl) ?_
          refine jv_bipush (v := 15) C (jd D_Rd_addUnit 36 rfl) (by decide) ?_
          refine jv_iand C (jd D_Rd_addUnit 37 rfl) ?_
          refine jv_ati (y := nI (u / 2 ^ 8 % 16)) (js_nib hu 8 8 (by decide)) ?_
          refine jv_istore C [(4, .int (nI (u / 2 ^ 8 % 16))), (3, .int 8), (2, .int (fn_Rd_signOfUnit (nI u))), (0, .ref o), (1, .int (nI u))] (jd D_Rd_addUnit 38 rfl) (by decide) rfl ?_
          refine jv_aload_n C (jd D_Rd_addUnit 39 rfl) rfl 3 rfl ?_
          refine jv_get C fl_Rd_20 0 rfl rfl (jd D_Rd_addUnit 40 rfl) ?_
          refine jv_iload C (jd D_Rd_addUnit 41 rfl) 0 rfl ?_
          refine jv_bipush (v := 10) C (jd D_Rd_addUnit 42 rfl) (by decide) ?_
          have hJ17 : jv_V pR l eR (jv_rm 2 0 0) sR mR ([.ref o, .int (nI u)] : List Value).toArray belowR methR cR 0 0 QR D AR 5 [(o, .inr (2, [.ref tp, .ref pp, .ref nn, .ref ob, .ref nb, .int dp, .int (nI i), .int ub, .int pl])), (pp, .inr (0, [.ref pb, .int (nI (pr ++ [(92 : Int32).toBitVec.toNat % 256] ++ [(117 : Int32).toBitVec.toNat % 256] ++ [(nI (js_hexc (u / 2 ^ 12 % 16))).toBitVec.toNat % 256]).length)])), (pb, .inl (dA 0, M, .inl g15))] [(4, .int (nI (u / 2 ^ 8 % 16))), (3, .int 8), (2, .int (fn_Rd_signOfUnit (nI u))), (0, .ref o), (1, .int (nI u))] 102 [.int (nI (js_hexc (u / 2 ^ 8 % 16))), .ref pp] := by
            refine jv_callV (wr := [(o, .inr (2, [.ref tp, .ref pp, .ref nn, .ref ob, .ref nb, .int dp, .int (nI i), .int ub, .int pl]))]) C cl_Rd_86 (c_Tx_add pp pb M g15 (pr ++ [(92 : Int32).toBitVec.toNat % 256] ++ [(117 : Int32).toBitVec.toNat % 256] ++ [(nI (js_hexc (u / 2 ^ 12 % 16))).toBitVec.toNat % 256]) (nI (js_hexc (u / 2 ^ 8 % 16))) (by simp only [List.length_append, List.length_cons, List.length_nil]; omega) (by omega) k15) [1, 2] [0] rfl rfl rfl rfl (by decide) rfl rfl 0 rfl ⟨Nat.le_of_ble_eq_true rfl, Nat.le_of_ble_eq_true rfl⟩ ⟨Nat.le_of_ble_eq_true rfl, Nat.le_of_ble_eq_true rfl⟩ rfl rfl (Nat.le_of_ble_eq_true rfl) (jd D_Rd_addUnit 53 rfl) (fun v18 g16 k16 => ?_)
            obtain ⟨rfl, k16⟩ := k16
            refine jv_fix [0, 1, 2] [(o, .inr (2, [.ref tp, .ref pp, .ref nn, .ref ob, .ref nb, .int dp, .int (nI i), .int ub, .int pl])), (pp, .inr (0, [.ref pb, .int (nI (pr ++ [(92 : Int32).toBitVec.toNat % 256] ++ [(117 : Int32).toBitVec.toNat % 256] ++ [(nI (js_hexc (u / 2 ^ 12 % 16))).toBitVec.toNat % 256] ++ [(nI (js_hexc (u / 2 ^ 8 % 16))).toBitVec.toNat % 256]).length)])), (pb, .inl (dA 0, M, .inl g16))] [] 0 0 rfl rfl rfl (Nat.le_refl _) (Nat.le_refl _) ?_
            refine jv_iinc (v := 4) C [(3, .int 4), (4, .int (nI (u / 2 ^ 8 % 16))), (2, .int (fn_Rd_signOfUnit (nI u))), (0, .ref o), (1, .int (nI u))] (jd D_Rd_addUnit 54 rfl) 1 rfl (by decide) (by decide) rfl ?_
            refine jv_goto (tgt := 63) C (jd D_Rd_addUnit 55 rfl) (by decide) ?_
            refine jv_iload_n C (jd D_Rd_addUnit 31 rfl) rfl 0 rfl ?_
            refine jv_if_lt (tgt := 111) C (jd D_Rd_addUnit 32 rfl) (by decide) (fun c64 => absurd c64 (by decide)) (fun c64 => ?_)
            refine jv_iload_n C (jd D_Rd_addUnit 33 rfl) rfl 4 rfl ?_
            refine jv_iload_n C (jd D_Rd_addUnit 34 rfl) rfl 0 rfl ?_
            refine jv_ishr C (jd D_Rd_addUnit 35 rfl) ?_
            refine jv_bipush (v := 15) C (jd D_Rd_addUnit 36 rfl) (by decide) ?_
            refine jv_iand C (jd D_Rd_addUnit 37 rfl) ?_
            refine jv_ati (y := nI (u / 2 ^ 4 % 16)) (js_nib hu 4 4 (by decide)) ?_
            refine jv_istore C [(4, .int (nI (u / 2 ^ 4 % 16))), (3, .int 4), (2, .int (fn_Rd_signOfUnit (nI u))), (0, .ref o), (1, .int (nI u))] (jd D_Rd_addUnit 38 rfl) (by decide) rfl ?_
            refine jv_aload_n C (jd D_Rd_addUnit 39 rfl) rfl 3 rfl ?_
            refine jv_get C fl_Rd_20 0 rfl rfl (jd D_Rd_addUnit 40 rfl) ?_
            refine jv_iload C (jd D_Rd_addUnit 41 rfl) 0 rfl ?_
            refine jv_bipush (v := 10) C (jd D_Rd_addUnit 42 rfl) (by decide) ?_
            have hJ19 : jv_V pR l eR (jv_rm 2 0 0) sR mR ([.ref o, .int (nI u)] : List Value).toArray belowR methR cR 0 0 QR D AR 5 [(o, .inr (2, [.ref tp, .ref pp, .ref nn, .ref ob, .ref nb, .int dp, .int (nI i), .int ub, .int pl])), (pp, .inr (0, [.ref pb, .int (nI (pr ++ [(92 : Int32).toBitVec.toNat % 256] ++ [(117 : Int32).toBitVec.toNat % 256] ++ [(nI (js_hexc (u / 2 ^ 12 % 16))).toBitVec.toNat % 256] ++ [(nI (js_hexc (u / 2 ^ 8 % 16))).toBitVec.toNat % 256]).length)])), (pb, .inl (dA 0, M, .inl g16))] [(4, .int (nI (u / 2 ^ 4 % 16))), (3, .int 4), (2, .int (fn_Rd_signOfUnit (nI u))), (0, .ref o), (1, .int (nI u))] 102 [.int (nI (js_hexc (u / 2 ^ 4 % 16))), .ref pp] := by
              refine jv_callV (wr := [(o, .inr (2, [.ref tp, .ref pp, .ref nn, .ref ob, .ref nb, .int dp, .int (nI i), .int ub, .int pl]))]) C cl_Rd_86 (c_Tx_add pp pb M g16 (pr ++ [(92 : Int32).toBitVec.toNat % 256] ++ [(117 : Int32).toBitVec.toNat % 256] ++ [(nI (js_hexc (u / 2 ^ 12 % 16))).toBitVec.toNat % 256] ++ [(nI (js_hexc (u / 2 ^ 8 % 16))).toBitVec.toNat % 256]) (nI (js_hexc (u / 2 ^ 4 % 16))) (by simp only [List.length_append, List.length_cons, List.length_nil]; omega) (by omega) k16) [1, 2] [0] rfl rfl rfl rfl (by decide) rfl rfl 0 rfl ⟨Nat.le_of_ble_eq_true rfl, Nat.le_of_ble_eq_true rfl⟩ ⟨Nat.le_of_ble_eq_true rfl, Nat.le_of_ble_eq_true rfl⟩ rfl rfl (Nat.le_of_ble_eq_true rfl) (jd D_Rd_addUnit 53 rfl) (fun v20 g17 k17 => ?_)
              obtain ⟨rfl, k17⟩ := k17
              refine jv_fix [0, 1, 2] [(o, .inr (2, [.ref tp, .ref pp, .ref nn, .ref ob, .ref nb, .int dp, .int (nI i), .int ub, .int pl])), (pp, .inr (0, [.ref pb, .int (nI (pr ++ [(92 : Int32).toBitVec.toNat % 256] ++ [(117 : Int32).toBitVec.toNat % 256] ++ [(nI (js_hexc (u / 2 ^ 12 % 16))).toBitVec.toNat % 256] ++ [(nI (js_hexc (u / 2 ^ 8 % 16))).toBitVec.toNat % 256] ++ [(nI (js_hexc (u / 2 ^ 4 % 16))).toBitVec.toNat % 256]).length)])), (pb, .inl (dA 0, M, .inl g17))] [] 0 0 rfl rfl rfl (Nat.le_refl _) (Nat.le_refl _) ?_
              refine jv_iinc (v := 0) C [(3, .int 0), (4, .int (nI (u / 2 ^ 4 % 16))), (2, .int (fn_Rd_signOfUnit (nI u))), (0, .ref o), (1, .int (nI u))] (jd D_Rd_addUnit 54 rfl) 1 rfl (by decide) (by decide) rfl ?_
              refine jv_goto (tgt := 63) C (jd D_Rd_addUnit 55 rfl) (by decide) ?_
              refine jv_iload_n C (jd D_Rd_addUnit 31 rfl) rfl 0 rfl ?_
              refine jv_if_lt (tgt := 111) C (jd D_Rd_addUnit 32 rfl) (by decide) (fun c64 => absurd c64 (by decide)) (fun c64 => ?_)
              refine jv_iload_n C (jd D_Rd_addUnit 33 rfl) rfl 4 rfl ?_
              refine jv_iload_n C (jd D_Rd_addUnit 34 rfl) rfl 0 rfl ?_
              refine jv_ishr C (jd D_Rd_addUnit 35 rfl) ?_
              refine jv_bipush (v := 15) C (jd D_Rd_addUnit 36 rfl) (by decide) ?_
              refine jv_iand C (jd D_Rd_addUnit 37 rfl) ?_
              refine jv_ati (y := nI (u / 2 ^ 0 % 16)) (js_nib hu 0 0 (by decide)) ?_
              refine jv_istore C [(4, .int (nI (u / 2 ^ 0 % 16))), (3, .int 0), (2, .int (fn_Rd_signOfUnit (nI u))), (0, .ref o), (1, .int (nI u))] (jd D_Rd_addUnit 38 rfl) (by decide) rfl ?_
              refine jv_aload_n C (jd D_Rd_addUnit 39 rfl) rfl 3 rfl ?_
              refine jv_get C fl_Rd_20 0 rfl rfl (jd D_Rd_addUnit 40 rfl) ?_
              refine jv_iload C (jd D_Rd_addUnit 41 rfl) 0 rfl ?_
              refine jv_bipush (v := 10) C (jd D_Rd_addUnit 42 rfl) (by decide) ?_
              have hJ21 : jv_V pR l eR (jv_rm 2 0 0) sR mR ([.ref o, .int (nI u)] : List Value).toArray belowR methR cR 0 0 QR D AR 5 [(o, .inr (2, [.ref tp, .ref pp, .ref nn, .ref ob, .ref nb, .int dp, .int (nI i), .int ub, .int pl])), (pp, .inr (0, [.ref pb, .int (nI (pr ++ [(92 : Int32).toBitVec.toNat % 256] ++ [(117 : Int32).toBitVec.toNat % 256] ++ [(nI (js_hexc (u / 2 ^ 12 % 16))).toBitVec.toNat % 256] ++ [(nI (js_hexc (u / 2 ^ 8 % 16))).toBitVec.toNat % 256] ++ [(nI (js_hexc (u / 2 ^ 4 % 16))).toBitVec.toNat % 256]).length)])), (pb, .inl (dA 0, M, .inl g17))] [(4, .int (nI (u / 2 ^ 0 % 16))), (3, .int 0), (2, .int (fn_Rd_signOfUnit (nI u))), (0, .ref o), (1, .int (nI u))] 102 [.int (nI (js_hexc (u / 2 ^ 0 % 16))), .ref pp] := by
                refine jv_callV (wr := [(o, .inr (2, [.ref tp, .ref pp, .ref nn, .ref ob, .ref nb, .int dp, .int (nI i), .int ub, .int pl]))]) C cl_Rd_86 (c_Tx_add pp pb M g17 (pr ++ [(92 : Int32).toBitVec.toNat % 256] ++ [(117 : Int32).toBitVec.toNat % 256] ++ [(nI (js_hexc (u / 2 ^ 12 % 16))).toBitVec.toNat % 256] ++ [(nI (js_hexc (u / 2 ^ 8 % 16))).toBitVec.toNat % 256] ++ [(nI (js_hexc (u / 2 ^ 4 % 16))).toBitVec.toNat % 256]) (nI (js_hexc (u / 2 ^ 0 % 16))) (by simp only [List.length_append, List.length_cons, List.length_nil]; omega) (by omega) k17) [1, 2] [0] rfl rfl rfl rfl (by decide) rfl rfl 0 rfl ⟨Nat.le_of_ble_eq_true rfl, Nat.le_of_ble_eq_true rfl⟩ ⟨Nat.le_of_ble_eq_true rfl, Nat.le_of_ble_eq_true rfl⟩ rfl rfl (Nat.le_of_ble_eq_true rfl) (jd D_Rd_addUnit 53 rfl) (fun v22 g18 k18 => ?_)
                obtain ⟨rfl, k18⟩ := k18
                refine jv_fix [0, 1, 2] [(o, .inr (2, [.ref tp, .ref pp, .ref nn, .ref ob, .ref nb, .int dp, .int (nI i), .int ub, .int pl])), (pp, .inr (0, [.ref pb, .int (nI (pr ++ [(92 : Int32).toBitVec.toNat % 256] ++ [(117 : Int32).toBitVec.toNat % 256] ++ [(nI (js_hexc (u / 2 ^ 12 % 16))).toBitVec.toNat % 256] ++ [(nI (js_hexc (u / 2 ^ 8 % 16))).toBitVec.toNat % 256] ++ [(nI (js_hexc (u / 2 ^ 4 % 16))).toBitVec.toNat % 256] ++ [(nI (js_hexc (u / 2 ^ 0 % 16))).toBitVec.toNat % 256]).length)])), (pb, .inl (dA 0, M, .inl g18))] [] 0 0 rfl rfl rfl (Nat.le_refl _) (Nat.le_refl _) ?_
                refine jv_iinc (v := -4) C [(3, .int (-4)), (4, .int (nI (u / 2 ^ 0 % 16))), (2, .int (fn_Rd_signOfUnit (nI u))), (0, .ref o), (1, .int (nI u))] (jd D_Rd_addUnit 54 rfl) 1 rfl (by decide) (by decide) rfl ?_
                refine jv_goto (tgt := 63) C (jd D_Rd_addUnit 55 rfl) (by decide) ?_
                refine jv_iload_n C (jd D_Rd_addUnit 31 rfl) rfl 0 rfl ?_
                refine jv_if_lt (tgt := 111) C (jd D_Rd_addUnit 32 rfl) (by decide) (fun c64 => ?_) (fun c64 => absurd (by decide) c64)
                refine jv_goto (tgt := 122) C (jd D_Rd_addUnit 56 rfl) (by decide) ?_
                have heq : pr ++ [(92 : Int32).toBitVec.toNat % 256] ++ [(117 : Int32).toBitVec.toNat % 256] ++ [(nI (js_hexc (u / 2 ^ 12 % 16))).toBitVec.toNat % 256] ++ [(nI (js_hexc (u / 2 ^ 8 % 16))).toBitVec.toNat % 256] ++ [(nI (js_hexc (u / 2 ^ 4 % 16))).toBitVec.toNat % 256] ++ [(nI (js_hexc (u / 2 ^ 0 % 16))).toBitVec.toNat % 256] = pr ++ js_pu u := by rw [js_pu, if_pos c7, if_pos hout]; simp [show (92 : Int32).toBitVec.toNat % 256 = 92 from rfl, show (117 : Int32).toBitVec.toNat % 256 = 117 from rfl, js_tn (js_hexc_lt (Nat.mod_lt _ (by decide : 0 < 16)))]
                rw [heq] at k18
                refine jv_weq (ws' := [(o, .inr (2, [.ref tp, .ref pp, .ref nn, .ref ob, .ref nb, .int dp, .int (nI i), .int ub, .int pl])), (pp, .inr (0, [.ref pb, .int (nI (pr ++ js_pu u).length)])), (pb, .inl (dA 0, M, .inl g18))]) (by rw [heq]) ?_
                rw [hQ]
                exact jv_vret C hr g18 (k18) [0, 1, 2] rfl rfl (Nat.le_of_ble_eq_true rfl) (Nat.le_of_ble_eq_true rfl) (jd D_Rd_addUnit 61 rfl)
              refine jv_icmp_ge (tgt := 94) C (jd D_Rd_addUnit 43 rfl) (by decide) (fun c83 => ?_) (fun c83 => ?_)
              · refine jv_bipush (v := 97) C (jd D_Rd_addUnit 48 rfl) (by decide) ?_
                refine jv_iload C (jd D_Rd_addUnit 49 rfl) 0 rfl ?_
                refine jv_iadd C (jd D_Rd_addUnit 50 rfl) ?_
                refine jv_bipush (v := 10) C (jd D_Rd_addUnit 51 rfl) (by decide) ?_
                refine jv_isub C (jd D_Rd_addUnit 52 rfl) ?_
                refine jv_ati (y := nI (js_hexc (u / 2 ^ 0 % 16))) (js_hexc_hi (by intro q; exact nI_ge (a := (u / 2 ^ 0 % 16)) (b := 10) q (by decide) c83)) ?_
                exact hJ21
              · refine jv_bipush (v := 48) C (jd D_Rd_addUnit 44 rfl) (by decide) ?_
                refine jv_iload C (jd D_Rd_addUnit 45 rfl) 0 rfl ?_
                refine jv_iadd C (jd D_Rd_addUnit 46 rfl) ?_
                refine jv_ati (y := nI (js_hexc (u / 2 ^ 0 % 16))) (js_hexc_lo (by rcases Nat.lt_or_ge (u / 2 ^ 0 % 16) 10 with q | q; exact q; exact absurd (nI_le (a := 10) (b := (u / 2 ^ 0 % 16)) q (by omega)) c83)) ?_
                refine jv_goto (tgt := 102) C (jd D_Rd_addUnit 47 rfl) (by decide) ?_
                exact hJ21
            refine jv_icmp_ge (tgt := 94) C (jd D_Rd_addUnit 43 rfl) (by decide) (fun c83 => ?_) (fun c83 => ?_)
            · refine jv_bipush (v := 97) C (jd D_Rd_addUnit 48 rfl) (by decide) ?_
              refine jv_iload C (jd D_Rd_addUnit 49 rfl) 0 rfl ?_
              refine jv_iadd C (jd D_Rd_addUnit 50 rfl) ?_
              refine jv_bipush (v := 10) C (jd D_Rd_addUnit 51 rfl) (by decide) ?_
              refine jv_isub C (jd D_Rd_addUnit 52 rfl) ?_
              refine jv_ati (y := nI (js_hexc (u / 2 ^ 4 % 16))) (js_hexc_hi (by intro q; exact nI_ge (a := (u / 2 ^ 4 % 16)) (b := 10) q (by decide) c83)) ?_
              exact hJ19
            · refine jv_bipush (v := 48) C (jd D_Rd_addUnit 44 rfl) (by decide) ?_
              refine jv_iload C (jd D_Rd_addUnit 45 rfl) 0 rfl ?_
              refine jv_iadd C (jd D_Rd_addUnit 46 rfl) ?_
              refine jv_ati (y := nI (js_hexc (u / 2 ^ 4 % 16))) (js_hexc_lo (by rcases Nat.lt_or_ge (u / 2 ^ 4 % 16) 10 with q | q; exact q; exact absurd (nI_le (a := 10) (b := (u / 2 ^ 4 % 16)) q (by omega)) c83)) ?_
              refine jv_goto (tgt := 102) C (jd D_Rd_addUnit 47 rfl) (by decide) ?_
              exact hJ19
          refine jv_icmp_ge (tgt := 94) C (jd D_Rd_addUnit 43 rfl) (by decide) (fun c83 => ?_) (fun c83 => ?_)
          · refine jv_bipush (v := 97) C (jd D_Rd_addUnit 48 rfl) (by decide) ?_
            refine jv_iload C (jd D_Rd_addUnit 49 rfl) 0 rfl ?_
            refine jv_iadd C (jd D_Rd_addUnit 50 rfl) ?_
            refine jv_bipush (v := 10) C (jd D_Rd_addUnit 51 rfl) (by decide) ?_
            refine jv_isub C (jd D_Rd_addUnit 52 rfl) ?_
            refine jv_ati (y := nI (js_hexc (u / 2 ^ 8 % 16))) (js_hexc_hi (by intro q; exact nI_ge (a := (u / 2 ^ 8 % 16)) (b := 10) q (by decide) c83)) ?_
            exact hJ17
          · refine jv_bipush (v := 48) C (jd D_Rd_addUnit 44 rfl) (by decide) ?_
            refine jv_iload C (jd D_Rd_addUnit 45 rfl) 0 rfl ?_
            refine jv_iadd C (jd D_Rd_addUnit 46 rfl) ?_
            refine jv_ati (y := nI (js_hexc (u / 2 ^ 8 % 16))) (js_hexc_lo (by rcases Nat.lt_or_ge (u / 2 ^ 8 % 16) 10 with q | q; exact q; exact absurd (nI_le (a := 10) (b := (u / 2 ^ 8 % 16)) q (by omega)) c83)) ?_
            refine jv_goto (tgt := 102) C (jd D_Rd_addUnit 47 rfl) (by decide) ?_
            exact hJ17
        refine jv_icmp_ge (tgt := 94) C (jd D_Rd_addUnit 43 rfl) (by decide) (fun c83 => ?_) (fun c83 => ?_)
        · refine jv_bipush (v := 97) C (jd D_Rd_addUnit 48 rfl) (by decide) ?_
          refine jv_iload C (jd D_Rd_addUnit 49 rfl) 0 rfl ?_
          refine jv_iadd C (jd D_Rd_addUnit 50 rfl) ?_
          refine jv_bipush (v := 10) C (jd D_Rd_addUnit 51 rfl) (by decide) ?_
          refine jv_isub C (jd D_Rd_addUnit 52 rfl) ?_
          refine jv_ati (y := nI (js_hexc (u / 2 ^ 12 % 16))) (js_hexc_hi (by intro q; exact nI_ge (a := (u / 2 ^ 12 % 16)) (b := 10) q (by decide) c83)) ?_
          exact hJ15
        · refine jv_bipush (v := 48) C (jd D_Rd_addUnit 44 rfl) (by decide) ?_
          refine jv_iload C (jd D_Rd_addUnit 45 rfl) 0 rfl ?_
          refine jv_iadd C (jd D_Rd_addUnit 46 rfl) ?_
          refine jv_ati (y := nI (js_hexc (u / 2 ^ 12 % 16))) (js_hexc_lo (by rcases Nat.lt_or_ge (u / 2 ^ 12 % 16) 10 with q | q; exact q; exact absurd (nI_le (a := 10) (b := (u / 2 ^ 12 % 16)) q (by omega)) c83)) ?_
          refine jv_goto (tgt := 102) C (jd D_Rd_addUnit 47 rfl) (by decide) ?_
          exact hJ15
  · have hlen : (js_pu u).length = 2 := by rw [js_pu, if_neg c7]; rfl
    refine jv_aload_n C (jd D_Rd_addUnit 6 rfl) rfl 1 rfl ?_
    refine jv_get C fl_Rd_20 0 rfl rfl (jd D_Rd_addUnit 7 rfl) ?_
    refine jv_bipush (v := 92) C (jd D_Rd_addUnit 8 rfl) (by decide) ?_
    refine jv_callV (wr := [(o, .inr (2, [.ref tp, .ref pp, .ref nn, .ref ob, .ref nb, .int dp, .int (nI i), .int ub, .int pl]))]) C cl_Rd_86 (c_Tx_add pp pb M g pr 92 (by omega) (by omega) htp) [1, 2] [0] rfl rfl rfl rfl (by decide) rfl rfl 0 rfl ⟨Nat.le_of_ble_eq_true rfl, Nat.le_of_ble_eq_true rfl⟩ ⟨Nat.le_of_ble_eq_true rfl, Nat.le_of_ble_eq_true rfl⟩ rfl rfl (Nat.le_of_ble_eq_true rfl) (jd D_Rd_addUnit 9 rfl) (fun v23 g2 k2 => ?_)
    obtain ⟨rfl, k2⟩ := k2
    refine jv_fix [0, 1, 2] [(o, .inr (2, [.ref tp, .ref pp, .ref nn, .ref ob, .ref nb, .int dp, .int (nI i), .int ub, .int pl])), (pp, .inr (0, [.ref pb, .int (nI (pr ++ [(92 : Int32).toBitVec.toNat % 256]).length)])), (pb, .inl (dA 0, M, .inl g2))] [] 0 0 rfl rfl rfl (Nat.le_refl _) (Nat.le_refl _) ?_
    refine jv_aload_n C (jd D_Rd_addUnit 10 rfl) rfl 1 rfl ?_
    refine jv_get C fl_Rd_20 0 rfl rfl (jd D_Rd_addUnit 11 rfl) ?_
    refine jv_iload_n C (jd D_Rd_addUnit 12 rfl) rfl 0 rfl ?_
    refine jv_callV (wr := [(o, .inr (2, [.ref tp, .ref pp, .ref nn, .ref ob, .ref nb, .int dp, .int (nI i), .int ub, .int pl]))]) C cl_Rd_86 (c_Tx_add pp pb M g2 (pr ++ [(92 : Int32).toBitVec.toNat % 256]) (fn_Rd_signOfUnit (nI u)) (by simp only [List.length_append, List.length_cons, List.length_nil]; omega) (by omega) k2) [1, 2] [0] rfl rfl rfl rfl (by decide) rfl rfl 0 rfl ⟨Nat.le_of_ble_eq_true rfl, Nat.le_of_ble_eq_true rfl⟩ ⟨Nat.le_of_ble_eq_true rfl, Nat.le_of_ble_eq_true rfl⟩ rfl rfl (Nat.le_of_ble_eq_true rfl) (jd D_Rd_addUnit 13 rfl) (fun v24 g3 k3 => ?_)
    obtain ⟨rfl, k3⟩ := k3
    refine jv_fix [0, 1, 2] [(o, .inr (2, [.ref tp, .ref pp, .ref nn, .ref ob, .ref nb, .int dp, .int (nI i), .int ub, .int pl])), (pp, .inr (0, [.ref pb, .int (nI (pr ++ [(92 : Int32).toBitVec.toNat % 256] ++ [(fn_Rd_signOfUnit (nI u)).toBitVec.toNat % 256]).length)])), (pb, .inl (dA 0, M, .inl g3))] [] 0 0 rfl rfl rfl (Nat.le_refl _) (Nat.le_refl _) ?_
    refine jv_goto (tgt := 122) C (jd D_Rd_addUnit 14 rfl) (by decide) ?_
    have heq : pr ++ [(92 : Int32).toBitVec.toNat % 256] ++ [(fn_Rd_signOfUnit (nI u)).toBitVec.toNat % 256] = pr ++ js_pu u := by rw [js_pu, if_neg c7]; simp [show (92 : Int32).toBitVec.toNat % 256 = 92 from rfl]
    rw [heq] at k3
    refine jv_weq (ws' := [(o, .inr (2, [.ref tp, .ref pp, .ref nn, .ref ob, .ref nb, .int dp, .int (nI i), .int ub, .int pl])), (pp, .inr (0, [.ref pb, .int (nI (pr ++ js_pu u).length)])), (pb, .inl (dA 0, M, .inl g3))]) (by rw [heq]) ?_
    rw [hQ]
    exact jv_vret C hr g3 (k3) [0, 1, 2] rfl rfl (Nat.le_of_ble_eq_true rfl) (Nat.le_of_ble_eq_true rfl) (jd D_Rd_addUnit 61 rfl)
