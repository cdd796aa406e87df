set_option maxHeartbeats 4000000 in
set_option maxRecDepth 100000 in
/-- Reader.character(), where it is none -/
theorem c_Rd_character_no {l : Launch} {D : va_G} {dA : Nat → ClassId} {zz : (Nat → Nat) × (Nat → Nat)} (o tp pp nn ob nb : Nat) (dp ub pl : Int32) (i : Nat) (tb N : Nat) (f : Nat → Int32) (t : List Nat) (pb M : Nat) (g : Nat → Int32) (pr : List Nat) (q : Nat) (hl : t.length ≤ N) (hN : N < 2 ^ 30) (ht : js_tx f t) (hi : i < 2 ^ 30 - 10) (hch : js_ch t i = .inl q) : jv_M l D dA zz y_Rd_character b_Rd_character 6 (some (FieldType.boolean)) 4 [.ref o] [(o, .inr (2, [.ref tp, .ref pp, .ref nn, .ref ob, .ref nb, .int dp, .int (nI i), .int ub, .int pl])), (tp, .inr (0, [.ref tb, .int (nI t.length)])), (tb, .inl (dA 0, N, .inl f)), (pp, .inr (0, [.ref pb, .int (nI pr.length)])), (pb, .inl (dA 0, M, .inl g))] (jv_pi fun r (_ : Int32) => r = 0) (fun ub2 => [(o, .inr (2, [.ref tp, .ref pp, .ref nn, .ref ob, .ref nb, .int dp, .int (nI i), .int ub2, .int (nI q)])), (tp, .inr (0, [.ref tb, .int (nI t.length)])), (tb, .inl (dA 0, N, .inl f)), (pp, .inr (0, [.ref pb, .int (nI pr.length)])), (pb, .inl (dA 0, M, .inl g))]) 0 0 := by
  refine jv_M.of [(0, .ref o)] (by decide) (Nat.le_of_ble_eq_true rfl) rfl ?_
  intro pR eR sR mR belowR methR cR AR C hr hin
  obtain ⟨QR, hQ⟩ : ∃ QR, QR = jv_E D (jv_pi fun r (_ : Int32) => r = 0) (fun ub2 => [(o, .inr (2, [.ref tp, .ref pp, .ref nn, .ref ob, .ref nb, .int dp, .int (nI i), .int ub2, .int (nI q)])), (tp, .inr (0, [.ref tb, .int (nI t.length)])), (tb, .inl (dA 0, N, .inl f)), (pp, .inr (0, [.ref pb, .int (nI pr.length)])), (pb, .inl (dA 0, M, .inl g))]) belowR ([.ref o] : List Value).toArray sR AR 0 0 := ⟨_, rfl⟩
  rw [← hQ]
  refine jv_aload_n C (jd D_Rd_character 0 rfl) rfl 0 rfl ?_
  refine jv_aload_n C (jd D_Rd_character 1 rfl) rfl 0 rfl ?_
  refine jv_get C fl_Rd_46 0 rfl rfl (jd D_Rd_character 2 rfl) ?_
  refine jv_callV (wr := [(pp, .inr (0, [.ref pb, .int (nI pr.length)])), (pb, .inl (dA 0, M, .inl g))]) C cl_Rd_153 (c_Rd_unitAt o tp pp nn ob nb dp ub pl i tb N f t i hl hN ht (by have := js_ub_pos t i; omega)) [0, 1, 2] [3, 4] rfl rfl rfl rfl (by decide) rfl rfl 0 rfl ⟨Nat.le_of_ble_eq_true rfl, Nat.le_of_ble_eq_true rfl⟩ ⟨Nat.le_of_ble_eq_true rfl, Nat.le_of_ble_eq_true rfl⟩ rfl rfl (Nat.le_of_ble_eq_true rfl) (jd D_Rd_character 3 rfl) (fun v1 _ k1 => ?_)
  obtain ⟨r1, rfl, k1⟩ := k1
  refine jv_fix [2, 3, 4, 0, 1] [(o, .inr (2, [.ref tp, .ref pp, .ref nn, .ref ob, .ref nb, .int dp, .int (nI i), .int (nI (js_ub t i)), .int pl])), (tp, .inr (0, [.ref tb, .int (nI t.length)])), (tb, .inl (dA 0, N, .inl f)), (pp, .inr (0, [.ref pb, .int (nI pr.length)])), (pb, .inl (dA 0, M, .inl g))] [.int r1] 0 0 rfl rfl rfl (Nat.le_refl _) (Nat.le_refl _) ?_
  subst k1
  refine jv_istore_n C [(1, .int (js_ua t i)), (0, .ref o)] (jd D_Rd_character 4 rfl) rfl (by decide) rfl ?_
  refine jv_iconst (v := -1) C (jd D_Rd_character 5 rfl) (by decide) ?_
  refine jv_istore_n C [(2, .int (-1)), (1, .int (js_ua t i)), (0, .ref o)] (jd D_Rd_character 6 rfl) rfl (by decide) rfl ?_
  refine jv_aload_n C (jd D_Rd_character 7 rfl) rfl 2 rfl ?_
  refine jv_get C fl_Rd_156 0 rfl rfl (jd D_Rd_character 8 rfl) ?_
  refine jv_istore_n C [(3, .int (nI (js_ub t i))), (2, .int (-1)), (1, .int (js_ua t i)), (0, .ref o)] (jd D_Rd_character 9 rfl) rfl (by decide) rfl ?_
  refine jv_iload_n C (jd D_Rd_character 10 rfl) rfl 2 rfl ?_
  refine jv_iconst (v := -1) C (jd D_Rd_character 11 rfl) (by decide) ?_
  have hJ2 : jv_V pR l eR (jv_rm 4 0 0) sR mR ([.ref o] : List Value).toArray belowR methR cR 0 0 QR D AR 6 [(o, .inr (2, [.ref tp, .ref pp, .ref nn, .ref ob, .ref nb, .int dp, .int (nI i), .int (nI (js_ub t i)), .int pl])), (tp, .inr (0, [.ref tb, .int (nI t.length)])), (tb, .inl (dA 0, N, .inl f)), (pp, .inr (0, [.ref pb, .int (nI pr.length)])), (pb, .inl (dA 0, M, .inl g))] [(3, .int (nI (js_ub t i))), (2, .int (-1)), (1, .int (js_ua t i)), (0, .ref o)] 26 [.int (if js_ua t i = -1 then (1 : Int32) else 0)] := by
    refine jv_istore C [(4, .int (if js_ua t i = -1 then (1 : Int32) else 0)), (3, .int (nI (js_ub t i))), (2, .int (-1)), (1, .int (js_ua t i)), (0, .ref o)] (jd D_Rd_character 16 rfl) (by decide) rfl ?_
    refine jv_iload_n C (jd D_Rd_character 17 rfl) rfl 3 rfl ?_
    have hJ3 : jv_V pR l eR (jv_rm 4 0 0) sR mR ([.ref o] : List Value).toArray belowR methR cR 0 0 QR D AR 6 [(o, .inr (2, [.ref tp, .ref pp, .ref nn, .ref ob, .ref nb, .int dp, .int (nI i), .int (nI (js_ub t i)), .int pl])), (tp, .inr (0, [.ref tb, .int (nI t.length)])), (tb, .inl (dA 0, N, .inl f)), (pp, .inr (0, [.ref pb, .int (nI pr.length)])), (pb, .inl (dA 0, M, .inl g))] [(4, .int (if js_ua t i = -1 then (1 : Int32) else 0)), (3, .int (nI (js_ub t i))), (2, .int (-1)), (1, .int (js_ua t i)), (0, .ref o)] 44 [.int (if js_ua t i < 0 then (0 : Int32) else if fn_Rd_isSecondOfTwo (js_ua t i) = 0 then 1 else 0)] := by
      refine jv_istore C [(5, .int (if js_ua t i < 0 then (0 : Int32) else if fn_Rd_isSecondOfTwo (js_ua t i) = 0 then 1 else 0)), (4, .int (if js_ua t i = -1 then (1 : Int32) else 0)), (3, .int (nI (js_ub t i))), (2, .int (-1)), (1, .int (js_ua t i)), (0, .ref o)] (jd D_Rd_character 25 rfl) (by decide) rfl ?_
      refine jv_iload_n C (jd D_Rd_character 26 rfl) rfl 4 rfl ?_
      refine jv_callS (wr := [(o, .inr (2, [.ref tp, .ref pp, .ref nn, .ref ob, .ref nb, .int dp, .int (nI i), .int (nI (js_ub t i)), .int pl])), (tp, .inr (0, [.ref tb, .int (nI t.length)])), (tb, .inl (dA 0, N, .inl f)), (pp, .inr (0, [.ref pb, .int (nI pr.length)])), (pb, .inl (dA 0, M, .inl g))]) C cl_Rd_162 (c_Rd_isFirstOfTwo (js_ua t i)) [] [0, 1, 2, 3, 4] rfl rfl rfl rfl (by decide) ⟨Nat.le_of_ble_eq_true rfl, Nat.le_of_ble_eq_true rfl⟩ ⟨Nat.le_of_ble_eq_true rfl, Nat.le_of_ble_eq_true rfl⟩ rfl rfl (Nat.le_of_ble_eq_true rfl) (jd D_Rd_character 27 rfl) (fun v4 _ k3 => ?_)
      obtain ⟨r3, rfl, k3⟩ := k3
      refine jv_fix [0, 1, 2, 3, 4] [(o, .inr (2, [.ref tp, .ref pp, .ref nn, .ref ob, .ref nb, .int dp, .int (nI i), .int (nI (js_ub t i)), .int pl])), (tp, .inr (0, [.ref tb, .int (nI t.length)])), (tb, .inl (dA 0, N, .inl f)), (pp, .inr (0, [.ref pb, .int (nI pr.length)])), (pb, .inl (dA 0, M, .inl g))] [.int r3] 0 0 rfl rfl rfl (Nat.le_refl _) (Nat.le_refl _) ?_
      subst k3
      refine jv_if_eq (tgt := 89) C (jd D_Rd_character 28 rfl) (by decide) (fun c50 => ?_) (fun c50 => ?_)
      · refine jv_iload C (jd D_Rd_character 51 rfl) 0 rfl ?_
        refine jv_if_ne (tgt := 120) C (jd D_Rd_character 52 rfl) (by decide) (fun c91 => ?_) (fun c91 => ?_)
        · have z : ¬ js_ua t i < 0 := fun y => c91 (if_pos y)
          rw [if_neg z] at c91
          have z2 : fn_Rd_isSecondOfTwo (js_ua t i) = 0 := by
            by_cases y : fn_Rd_isSecondOfTwo (js_ua t i) = 0
            · exact y
            · exact absurd (if_neg y) c91
          rw [js_ch, if_pos c50, if_neg z, if_pos z2] at hch
          cases hch
        · have hqe : q = if js_ua t i = -1 then t.length else i := by
            have e := hch
            rw [js_ch, if_pos c50] at e
            by_cases z : js_ua t i < 0
            · rw [if_pos z] at e
              exact (Sum.inl.inj e).symm
            · rw [if_neg z] at e c91
              by_cases z2 : fn_Rd_isSecondOfTwo (js_ua t i) = 0
              · rw [if_pos z2] at c91
                exact absurd c91 (by decide)
              · rw [if_neg z2] at e
                rw [if_neg (fun y => z (by rw [y]; decide))]
                exact (Sum.inl.inj e).symm
          refine jv_aload_n C (jd D_Rd_character 53 rfl) rfl 5 rfl ?_
          refine jv_iload C (jd D_Rd_character 54 rfl) 1 rfl ?_
          refine jv_if_eq (tgt := 110) C (jd D_Rd_character 55 rfl) (by decide) (fun c97 => ?_) (fun c97 => ?_)
          · have hqi : q = i := by
              by_cases z : js_ua t i = -1
              · rw [if_pos z] at c97
                exact absurd c97 (by decide)
              · rw [hqe, if_neg z]
            refine jv_aload_n C (jd D_Rd_character 60 rfl) rfl 5 rfl ?_
            refine jv_get C fl_Rd_46 0 rfl rfl (jd D_Rd_character 61 rfl) ?_
            refine jv_callV (wr := [(tp, .inr (0, [.ref tb, .int (nI t.length)])), (tb, .inl (dA 0, N, .inl f)), (pp, .inr (0, [.ref pb, .int (nI pr.length)])), (pb, .inl (dA 0, M, .inl g))]) C cl_Rd_109 (c_Rd_breakAt o tp pp nn ob nb dp (nI (js_ub t i)) pl i (nI i)) [0] [1, 2, 3, 4] rfl rfl rfl rfl (by decide) rfl rfl 0 rfl ⟨Nat.le_of_ble_eq_true rfl, Nat.le_of_ble_eq_true rfl⟩ ⟨Nat.le_of_ble_eq_true rfl, Nat.le_of_ble_eq_true rfl⟩ rfl rfl (Nat.le_of_ble_eq_true rfl) (jd D_Rd_character 62 rfl) (fun v5 _ k7 => ?_)
            obtain ⟨r7, rfl, k7⟩ := k7
            refine jv_fix [4, 0, 1, 2, 3] [(o, .inr (2, [.ref tp, .ref pp, .ref nn, .ref ob, .ref nb, .int dp, .int (nI i), .int (nI (js_ub t i)), .int (nI i)])), (tp, .inr (0, [.ref tb, .int (nI t.length)])), (tb, .inl (dA 0, N, .inl f)), (pp, .inr (0, [.ref pb, .int (nI pr.length)])), (pb, .inl (dA 0, M, .inl g))] [.int r7] 0 0 rfl rfl rfl (Nat.le_refl _) (Nat.le_refl _) ?_
            refine jv_pop C (jd D_Rd_character 63 rfl) rfl ?_
            refine jv_iconst (v := 0) C (jd D_Rd_character 64 rfl) (by decide) ?_
            refine jv_weq (ws' := [(o, .inr (2, [.ref tp, .ref pp, .ref nn, .ref ob, .ref nb, .int dp, .int (nI i), .int (nI (js_ub t i)), .int (nI q)])), (tp, .inr (0, [.ref tb, .int (nI t.length)])), (tb, .inl (dA 0, N, .inl f)), (pp, .inr (0, [.ref pb, .int (nI pr.length)])), (pb, .inl (dA 0, M, .inl g))]) (by rw [hqi]) ?_
            rw [hQ]
            exact jv_iret C hr (nI (js_ub t i)) (rfl) rfl [0, 1, 2, 3, 4] rfl rfl (Nat.le_of_ble_eq_true rfl) (Nat.le_of_ble_eq_true rfl) (jd D_Rd_character 65 rfl)
          · have hqi : q = t.length := by
              by_cases z : js_ua t i = -1
              · rw [hqe, if_pos z]
              · exact absurd (if_neg z) c97
            refine jv_aload_n C (jd D_Rd_character 56 rfl) rfl 5 rfl ?_
            refine jv_get C fl_Rd_9 0 rfl rfl (jd D_Rd_character 57 rfl) ?_
            refine jv_callV (wr := [(o, .inr (2, [.ref tp, .ref pp, .ref nn, .ref ob, .ref nb, .int dp, .int (nI i), .int (nI (js_ub t i)), .int pl])), (pp, .inr (0, [.ref pb, .int (nI pr.length)])), (pb, .inl (dA 0, M, .inl g))]) C cl_Rd_78 (c_Tx_length tp tb N f t) [1, 2] [0, 3, 4] rfl rfl rfl rfl (by decide) rfl rfl 0 rfl ⟨Nat.le_of_ble_eq_true rfl, Nat.le_of_ble_eq_true rfl⟩ ⟨Nat.le_of_ble_eq_true rfl, Nat.le_of_ble_eq_true rfl⟩ rfl rfl (Nat.le_of_ble_eq_true rfl) (jd D_Rd_character 58 rfl) (fun v6 _ k6 => ?_)
            obtain ⟨r6, rfl, k6⟩ := k6
            refine jv_fix [0, 3, 4, 1, 2] [(o, .inr (2, [.ref tp, .ref pp, .ref nn, .ref ob, .ref nb, .int dp, .int (nI i), .int (nI (js_ub t i)), .int pl])), (tp, .inr (0, [.ref tb, .int (nI t.length)])), (tb, .inl (dA 0, N, .inl f)), (pp, .inr (0, [.ref pb, .int (nI pr.length)])), (pb, .inl (dA 0, M, .inl g))] [.int r6, .ref o] 0 0 rfl rfl rfl (Nat.le_refl _) (Nat.le_refl _) ?_
            subst k6
            refine jv_goto (tgt := 114) C (jd D_Rd_character 59 rfl) (by decide) ?_
            refine jv_callV (wr := [(tp, .inr (0, [.ref tb, .int (nI t.length)])), (tb, .inl (dA 0, N, .inl f)), (pp, .inr (0, [.ref pb, .int (nI pr.length)])), (pb, .inl (dA 0, M, .inl g))]) C cl_Rd_109 (c_Rd_breakAt o tp pp nn ob nb dp (nI (js_ub t i)) pl i (nI t.length)) [0] [1, 2, 3, 4] rfl rfl rfl rfl (by decide) rfl rfl 0 rfl ⟨Nat.le_of_ble_eq_true rfl, Nat.le_of_ble_eq_true rfl⟩ ⟨Nat.le_of_ble_eq_true rfl, Nat.le_of_ble_eq_true rfl⟩ rfl rfl (Nat.le_of_ble_eq_true rfl) (jd D_Rd_character 62 rfl) (fun v7 _ k7 => ?_)
            obtain ⟨r7, rfl, k7⟩ := k7
            refine jv_fix [4, 0, 1, 2, 3] [(o, .inr (2, [.ref tp, .ref pp, .ref nn, .ref ob, .ref nb, .int dp, .int (nI i), .int (nI (js_ub t i)), .int (nI t.length)])), (tp, .inr (0, [.ref tb, .int (nI t.length)])), (tb, .inl (dA 0, N, .inl f)), (pp, .inr (0, [.ref pb, .int (nI pr.length)])), (pb, .inl (dA 0, M, .inl g))] [.int r7] 0 0 rfl rfl rfl (Nat.le_refl _) (Nat.le_refl _) ?_
            refine jv_pop C (jd D_Rd_character 63 rfl) rfl ?_
            refine jv_iconst (v := 0) C (jd D_Rd_character 64 rfl) (by decide) ?_
            refine jv_weq (ws' := [(o, .inr (2, [.ref tp, .ref pp, .ref nn, .ref ob, .ref nb, .int dp, .int (nI i), .int (nI (js_ub t i)), .int (nI q)])), (tp, .inr (0, [.ref tb, .int (nI t.length)])), (tb, .inl (dA 0, N, .inl f)), (pp, .inr (0, [.ref pb, .int (nI pr.length)])), (pb, .inl (dA 0, M, .inl g))]) (by rw [hqi]) ?_
            rw [hQ]
            exact jv_iret C hr (nI (js_ub t i)) (rfl) rfl [0, 1, 2, 3, 4] rfl rfl (Nat.le_of_ble_eq_true rfl) (Nat.le_of_ble_eq_true rfl) (jd D_Rd_character 65 rfl)
      · refine jv_aload_n C (jd D_Rd_character 29 rfl) rfl 5 rfl ?_
        refine jv_aload_n C (jd D_Rd_character 30 rfl) rfl 5 rfl ?_
        refine jv_get C fl_Rd_46 0 rfl rfl (jd D_Rd_character 31 rfl) ?_
        refine jv_iload_n C (jd D_Rd_character 32 rfl) rfl 2 rfl ?_
        refine jv_iadd C (jd D_Rd_character 33 rfl) ?_
        refine jv_ati (y := nI (i + js_ub t i)) (nI_add _ _) ?_
        refine jv_callV (wr := [(pp, .inr (0, [.ref pb, .int (nI pr.length)])), (pb, .inl (dA 0, M, .inl g))]) C cl_Rd_153 (c_Rd_unitAt o tp pp nn ob nb dp (nI (js_ub t i)) pl i tb N f t (i + js_ub t i) hl hN ht (by have := js_ub_pos t i; omega)) [0, 1, 2] [3, 4] rfl rfl rfl rfl (by decide) rfl rfl 0 rfl ⟨Nat.le_of_ble_eq_true rfl, Nat.le_of_ble_eq_true rfl⟩ ⟨Nat.le_of_ble_eq_true rfl, Nat.le_of_ble_eq_true rfl⟩ rfl rfl (Nat.le_of_ble_eq_true rfl) (jd D_Rd_character 34 rfl) (fun v8 _ k4 => ?_)
        obtain ⟨r4, rfl, k4⟩ := k4
        refine jv_fix [2, 3, 4, 0, 1] [(o, .inr (2, [.ref tp, .ref pp, .ref nn, .ref ob, .ref nb, .int dp, .int (nI i), .int (nI (js_ub t (i + js_ub t i))), .int pl])), (tp, .inr (0, [.ref tb, .int (nI t.length)])), (tb, .inl (dA 0, N, .inl f)), (pp, .inr (0, [.ref pb, .int (nI pr.length)])), (pb, .inl (dA 0, M, .inl g))] [.int r4] 0 0 rfl rfl rfl (Nat.le_refl _) (Nat.le_refl _) ?_
        subst k4
        refine jv_istore_n C [(2, .int (js_ua t (i + js_ub t i))), (5, .int (if js_ua t i < 0 then (0 : Int32) else if fn_Rd_isSecondOfTwo (js_ua t i) = 0 then 1 else 0)), (4, .int (if js_ua t i = -1 then (1 : Int32) else 0)), (3, .int (nI (js_ub t i))), (1, .int (js_ua t i)), (0, .ref o)] (jd D_Rd_character 35 rfl) rfl (by decide) rfl ?_
        refine jv_iload_n C (jd D_Rd_character 36 rfl) rfl 3 rfl ?_
        refine jv_aload_n C (jd D_Rd_character 37 rfl) rfl 5 rfl ?_
        refine jv_get C fl_Rd_156 0 rfl rfl (jd D_Rd_character 38 rfl) ?_
        refine jv_iadd C (jd D_Rd_character 39 rfl) ?_
        refine jv_ati (y := nI (js_ub t i + js_ub t (i + js_ub t i))) (nI_add _ _) ?_
        refine jv_istore_n C [(3, .int (nI (js_ub t i + js_ub t (i + js_ub t i)))), (2, .int (js_ua t (i + js_ub t i))), (5, .int (if js_ua t i < 0 then (0 : Int32) else if fn_Rd_isSecondOfTwo (js_ua t i) = 0 then 1 else 0)), (4, .int (if js_ua t i = -1 then (1 : Int32) else 0)), (1, .int (js_ua t i)), (0, .ref o)] (jd D_Rd_character 40 rfl) rfl (by decide) rfl ?_
        refine jv_iload_n C (jd D_Rd_character 41 rfl) rfl 1 rfl ?_
        refine jv_iconst (v := -1) C (jd D_Rd_character 42 rfl) (by decide) ?_
        have hJ9 : jv_V pR l eR (jv_rm 4 0 0) sR mR ([.ref o] : List Value).toArray belowR methR cR 0 0 QR D AR 6 [(o, .inr (2, [.ref tp, .ref pp, .ref nn, .ref ob, .ref nb, .int dp, .int (nI i), .int (nI (js_ub t (i + js_ub t i))), .int pl])), (tp, .inr (0, [.ref tb, .int (nI t.length)])), (tb, .inl (dA 0, N, .inl f)), (pp, .inr (0, [.ref pb, .int (nI pr.length)])), (pb, .inl (dA 0, M, .inl g))] [(3, .int (nI (js_ub t i + js_ub t (i + js_ub t i)))), (2, .int (js_ua t (i + js_ub t i))), (5, .int (if js_ua t i < 0 then (0 : Int32) else if fn_Rd_isSecondOfTwo (js_ua t i) = 0 then 1 else 0)), (4, .int (if js_ua t i = -1 then (1 : Int32) else 0)), (1, .int (js_ua t i)), (0, .ref o)] 81 [.int (if js_ua t (i + js_ub t i) = -1 then (1 : Int32) else 0)] := by
          refine jv_istore C [(4, .int (if js_ua t (i + js_ub t i) = -1 then (1 : Int32) else 0)), (3, .int (nI (js_ub t i + js_ub t (i + js_ub t i)))), (2, .int (js_ua t (i + js_ub t i))), (5, .int (if js_ua t i < 0 then (0 : Int32) else if fn_Rd_isSecondOfTwo (js_ua t i) = 0 then 1 else 0)), (1, .int (js_ua t i)), (0, .ref o)] (jd D_Rd_character 47 rfl) (by decide) rfl ?_
          refine jv_iload_n C (jd D_Rd_character 48 rfl) rfl 2 rfl ?_
          refine jv_callS (wr := [(o, .inr (2, [.ref tp, .ref pp, .ref nn, .ref ob, .ref nb, .int dp, .int (nI i), .int (nI (js_ub t (i + js_ub t i))), .int pl])), (tp, .inr (0, [.ref tb, .int (nI t.length)])), (tb, .inl (dA 0, N, .inl f)), (pp, .inr (0, [.ref pb, .int (nI pr.length)])), (pb, .inl (dA 0, M, .inl g))]) C cl_Rd_159 (c_Rd_isSecondOfTwo (js_ua t (i + js_ub t i))) [] [0, 1, 2, 3, 4] rfl rfl rfl rfl (by decide) ⟨Nat.le_of_ble_eq_true rfl, Nat.le_of_ble_eq_true rfl⟩ ⟨Nat.le_of_ble_eq_true rfl, Nat.le_of_ble_eq_true rfl⟩ rfl rfl (Nat.le_of_ble_eq_true rfl) (jd D_Rd_character 49 rfl) (fun v10 _ k5 => ?_)
          obtain ⟨r5, rfl, k5⟩ := k5
          refine jv_fix [0, 1, 2, 3, 4] [(o, .inr (2, [.ref tp, .ref pp, .ref nn, .ref ob, .ref nb, .int dp, .int (nI i), .int (nI (js_ub t (i + js_ub t i))), .int pl])), (tp, .inr (0, [.ref tb, .int (nI t.length)])), (tb, .inl (dA 0, N, .inl f)), (pp, .inr (0, [.ref pb, .int (nI pr.length)])), (pb, .inl (dA 0, M, .inl g))] [.int r5] 0 0 rfl rfl rfl (Nat.le_refl _) (Nat.le_refl _) ?_
          subst k5
          refine jv_istore C [(5, .int (fn_Rd_isSecondOfTwo (js_ua t (i + js_ub t i)))), (4, .int (if js_ua t (i + js_ub t i) = -1 then (1 : Int32) else 0)), (3, .int (nI (js_ub t i + js_ub t (i + js_ub t i)))), (2, .int (js_ua t (i + js_ub t i))), (1, .int (js_ua t i)), (0, .ref o)] (jd D_Rd_character 50 rfl) (by decide) rfl ?_
          refine jv_iload C (jd D_Rd_character 51 rfl) 0 rfl ?_
          refine jv_if_ne (tgt := 120) C (jd D_Rd_character 52 rfl) (by decide) (fun c91 => ?_) (fun c91 => ?_)
          · rw [js_ch, if_neg c50, if_neg c91] at hch
            cases hch
          · have hqe : q = if js_ua t (i + js_ub t i) = -1 then t.length else i := by
              have e := hch
              rw [js_ch, if_neg c50, if_pos c91] at e
              exact (Sum.inl.inj e).symm
            refine jv_aload_n C (jd D_Rd_character 53 rfl) rfl 5 rfl ?_
            refine jv_iload C (jd D_Rd_character 54 rfl) 1 rfl ?_
            refine jv_if_eq (tgt := 110) C (jd D_Rd_character 55 rfl) (by decide) (fun c97 => ?_) (fun c97 => ?_)
            · have hqi : q = i := by
                by_cases z : js_ua t (i + js_ub t i) = -1
                · rw [if_pos z] at c97
                  exact absurd c97 (by decide)
                · rw [hqe, if_neg z]
              refine jv_aload_n C (jd D_Rd_character 60 rfl) rfl 5 rfl ?_
              refine jv_get C fl_Rd_46 0 rfl rfl (jd D_Rd_character 61 rfl) ?_
              refine jv_callV (wr := [(tp, .inr (0, [.ref tb, .int (nI t.length)])), (tb, .inl (dA 0, N, .inl f)), (pp, .inr (0, [.ref pb, .int (nI pr.length)])), (pb, .inl (dA 0, M, .inl g))]) C cl_Rd_109 (c_Rd_breakAt o tp pp nn ob nb dp (nI (js_ub t (i + js_ub t i))) pl i (nI i)) [0] [1, 2, 3, 4] rfl rfl rfl rfl (by decide) rfl rfl 0 rfl ⟨Nat.le_of_ble_eq_true rfl, Nat.le_of_ble_eq_true rfl⟩ ⟨Nat.le_of_ble_eq_true rfl, Nat.le_of_ble_eq_true rfl⟩ rfl rfl (Nat.le_of_ble_eq_true rfl) (jd D_Rd_character 62 rfl) (fun v11 _ k7 => ?_)
              obtain ⟨r7, rfl, k7⟩ := k7
              refine jv_fix [4, 0, 1, 2, 3] [(o, .inr (2, [.ref tp, .ref pp, .ref nn, .ref ob, .ref nb, .int dp, .int (nI i), .int (nI (js_ub t (i + js_ub t i))), .int (nI i)])), (tp, .inr (0, [.ref tb, .int (nI t.length)])), (tb, .inl (dA 0, N, .inl f)), (pp, .inr (0, [.ref pb, .int (nI pr.length)])), (pb, .inl (dA 0, M, .inl g))] [.int r7] 0 0 rfl rfl rfl (Nat.le_refl _) (Nat.le_refl _) ?_
              refine jv_pop C (jd D_Rd_character 63 rfl) rfl ?_
              refine jv_iconst (v := 0) C (jd D_Rd_character 64 rfl) (by decide) ?_
              refine jv_weq (ws' := [(o, .inr (2, [.ref tp, .ref pp, .ref nn, .ref ob, .ref nb, .int dp, .int (nI i), .int (nI (js_ub t (i + js_ub t i))), .int (nI q)])), (tp, .inr (0, [.ref tb, .int (nI t.length)])), (tb, .inl (dA 0, N, .inl f)), (pp, .inr (0, [.ref pb, .int (nI pr.length)])), (pb, .inl (dA 0, M, .inl g))]) (by rw [hqi]) ?_
              rw [hQ]
              exact jv_iret C hr (nI (js_ub t (i + js_ub t i))) (rfl) rfl [0, 1, 2, 3, 4] rfl rfl (Nat.le_of_ble_eq_true rfl) (Nat.le_of_ble_eq_true rfl) (jd D_Rd_character 65 rfl)
            · have hqi : q = t.length := by
                by_cases z : js_ua t (i + js_ub t i) = -1
                · rw [hqe, if_pos z]
                · exact absurd (if_neg z) c97
              refine jv_aload_n C (jd D_Rd_character 56 rfl) rfl 5 rfl ?_
              refine jv_get C fl_Rd_9 0 rfl rfl (jd D_Rd_character 57 rfl) ?_
              refine jv_callV (wr := [(o, .inr (2, [.ref tp, .ref pp, .ref nn, .ref ob, .ref nb, .int dp, .int (nI i), .int (nI (js_ub t (i + js_ub t i))), .int pl])), (pp, .inr (0, [.ref pb, .int (nI pr.length)])), (pb, .inl (dA 0, M, .inl g))]) C cl_Rd_78 (c_Tx_length tp tb N f t) [1, 2] [0, 3, 4] rfl rfl rfl rfl (by decide) rfl rfl 0 rfl ⟨Nat.le_of_ble_eq_true rfl, Nat.le_of_ble_eq_true rfl⟩ ⟨Nat.le_of_ble_eq_true rfl, Nat.le_of_ble_eq_true rfl⟩ rfl rfl (Nat.le_of_ble_eq_true rfl) (jd D_Rd_character 58 rfl) (fun v12 _ k6 => ?_)
              obtain ⟨r6, rfl, k6⟩ := k6
              refine jv_fix [0, 3, 4, 1, 2] [(o, .inr (2, [.ref tp, .ref pp, .ref nn, .ref ob, .ref nb, .int dp, .int (nI i), .int (nI (js_ub t (i + js_ub t i))), .int pl])), (tp, .inr (0, [.ref tb, .int (nI t.length)])), (tb, .inl (dA 0, N, .inl f)), (pp, .inr (0, [.ref pb, .int (nI pr.length)])), (pb, .inl (dA 0, M, .inl g))] [.int r6, .ref o] 0 0 rfl rfl rfl (Nat.le_refl _) (Nat.le_refl _) ?_
              subst k6
              refine jv_goto (tgt := 114) C (jd D_Rd_character 59 rfl) (by decide) ?_
              refine jv_callV (wr := [(tp, .inr (0, [.ref tb, .int (nI t.length)])), (tb, .inl (dA 0, N, .inl f)), (pp, .inr (0, [.ref pb, .int (nI pr.length)])), (pb, .inl (dA 0, M, .inl g))]) C cl_Rd_109 (c_Rd_breakAt o tp pp nn ob nb dp (nI (js_ub t (i + js_ub t i))) pl i (nI t.length)) [0] [1, 2, 3, 4] rfl rfl rfl rfl (by decide) rfl rfl 0 rfl ⟨Nat.le_of_ble_eq_true rfl, Nat.le_of_ble_eq_true rfl⟩ ⟨Nat.le_of_ble_eq_true rfl, Nat.le_of_ble_eq_true rfl⟩ rfl rfl (Nat.le_of_ble_eq_true rfl) (jd D_Rd_character 62 rfl) (fun v13 _ k7 => ?_)
              obtain ⟨r7, rfl, k7⟩ := k7
              refine jv_fix [4, 0, 1, 2, 3] [(o, .inr (2, [.ref tp, .ref pp, .ref nn, .ref ob, .ref nb, .int dp, .int (nI i), .int (nI (js_ub t (i + js_ub t i))), .int (nI t.length)])), (tp, .inr (0, [.ref tb, .int (nI t.length)])), (tb, .inl (dA 0, N, .inl f)), (pp, .inr (0, [.ref pb, .int (nI pr.length)])), (pb, .inl (dA 0, M, .inl g))] [.int r7] 0 0 rfl rfl rfl (Nat.le_refl _) (Nat.le_refl _) ?_
              refine jv_pop C (jd D_Rd_character 63 rfl) rfl ?_
              refine jv_iconst (v := 0) C (jd D_Rd_character 64 rfl) (by decide) ?_
              refine jv_weq (ws' := [(o, .inr (2, [.ref tp, .ref pp, .ref nn, .ref ob, .ref nb, .int dp, .int (nI i), .int (nI (js_ub t (i + js_ub t i))), .int (nI q)])), (tp, .inr (0, [.ref tb, .int (nI t.length)])), (tb, .inl (dA 0, N, .inl f)), (pp, .inr (0, [.ref pb, .int (nI pr.length)])), (pb, .inl (dA 0, M, .inl g))]) (by rw [hqi]) ?_
              rw [hQ]
              exact jv_iret C hr (nI (js_ub t (i + js_ub t i))) (rfl) rfl [0, 1, 2, 3, 4] rfl rfl (Nat.le_of_ble_eq_true rfl) (Nat.le_of_ble_eq_true rfl) (jd D_Rd_character 65 rfl)
        refine jv_icmp_ne (tgt := 80) C (jd D_Rd_character 43 rfl) (by decide) (fun c73 => ?_) (fun c73 => ?_)
        · refine jv_iconst (v := 0) C (jd D_Rd_character 46 rfl) (by decide) ?_
          refine jv_ati (y := if js_ua t (i + js_ub t i) = -1 then (1 : Int32) else 0) ((if_neg c73).symm) ?_
          exact hJ9
        · refine jv_iconst (v := 1) C (jd D_Rd_character 44 rfl) (by decide) ?_
          refine jv_goto (tgt := 81) C (jd D_Rd_character 45 rfl) (by decide) ?_
          refine jv_ati (y := if js_ua t (i + js_ub t i) = -1 then (1 : Int32) else 0) ((if_pos c73).symm) ?_
          exact hJ9
    refine jv_if_lt (tgt := 43) C (jd D_Rd_character 18 rfl) (by decide) (fun c29 => ?_) (fun c29 => ?_)
    · refine jv_iconst (v := 0) C (jd D_Rd_character 24 rfl) (by decide) ?_
      refine jv_ati (y := if js_ua t i < 0 then (0 : Int32) else if fn_Rd_isSecondOfTwo (js_ua t i) = 0 then 1 else 0) (by rw [if_pos c29]) ?_
      exact hJ3
    · refine jv_iload_n C (jd D_Rd_character 19 rfl) rfl 3 rfl ?_
      refine jv_callS (wr := [(o, .inr (2, [.ref tp, .ref pp, .ref nn, .ref ob, .ref nb, .int dp, .int (nI i), .int (nI (js_ub t i)), .int pl])), (tp, .inr (0, [.ref tb, .int (nI t.length)])), (tb, .inl (dA 0, N, .inl f)), (pp, .inr (0, [.ref pb, .int (nI pr.length)])), (pb, .inl (dA 0, M, .inl g))]) C cl_Rd_159 (c_Rd_isSecondOfTwo (js_ua t i)) [] [0, 1, 2, 3, 4] rfl rfl rfl rfl (by decide) ⟨Nat.le_of_ble_eq_true rfl, Nat.le_of_ble_eq_true rfl⟩ ⟨Nat.le_of_ble_eq_true rfl, Nat.le_of_ble_eq_true rfl⟩ rfl rfl (Nat.le_of_ble_eq_true rfl) (jd D_Rd_character 20 rfl) (fun v14 _ k2 => ?_)
      obtain ⟨r2, rfl, k2⟩ := k2
      refine jv_fix [0, 1, 2, 3, 4] [(o, .inr (2, [.ref tp, .ref pp, .ref nn, .ref ob, .ref nb, .int dp, .int (nI i), .int (nI (js_ub t i)), .int pl])), (tp, .inr (0, [.ref tb, .int (nI t.length)])), (tb, .inl (dA 0, N, .inl f)), (pp, .inr (0, [.ref pb, .int (nI pr.length)])), (pb, .inl (dA 0, M, .inl g))] [.int r2] 0 0 rfl rfl rfl (Nat.le_refl _) (Nat.le_refl _) ?_
      subst k2
      refine jv_if_ne (tgt := 43) C (jd D_Rd_character 21 rfl) (by decide) (fun c36 => ?_) (fun c36 => ?_)
      · refine jv_iconst (v := 0) C (jd D_Rd_character 24 rfl) (by decide) ?_
        refine jv_ati (y := if js_ua t i < 0 then (0 : Int32) else if fn_Rd_isSecondOfTwo (js_ua t i) = 0 then 1 else 0) (by rw [if_neg c29, if_neg c36]) ?_
        exact hJ3
      · refine jv_iconst (v := 1) C (jd D_Rd_character 22 rfl) (by decide) ?_
        refine jv_goto (tgt := 44) C (jd D_Rd_character 23 rfl) (by decide) ?_
        refine jv_ati (y := if js_ua t i < 0 then (0 : Int32) else if fn_Rd_isSecondOfTwo (js_ua t i) = 0 then 1 else 0) (by rw [if_neg c29, if_pos c36]) ?_
        exact hJ3
  refine jv_icmp_ne (tgt := 25) C (jd D_Rd_character 12 rfl) (by decide) (fun c18 => ?_) (fun c18 => ?_)
  · refine jv_iconst (v := 0) C (jd D_Rd_character 15 rfl) (by decide) ?_
    refine jv_ati (y := if js_ua t i = -1 then (1 : Int32) else 0) ((if_neg c18).symm) ?_
    exact hJ2
  · refine jv_iconst (v := 1) C (jd D_Rd_character 13 rfl) (by decide) ?_
    refine jv_goto (tgt := 26) C (jd D_Rd_character 14 rfl) (by decide) ?_
    refine jv_ati (y := if js_ua t i = -1 then (1 : Int32) else 0) ((if_pos c18).symm) ?_
    exact hJ2

set_option maxHeartbeats 4000000 in
set_option maxRecDepth 100000 in
/-- Reader.character(), where it is one -/
theorem c_Rd_character_ok {l : Launch} {D : va_G} {dA : Nat → ClassId} {zz : (Nat → Nat) × (Nat → Nat)} (o tp pp nn ob nb : Nat) (dp ub pl : Int32) (i : Nat) (tb N : Nat) (f : Nat → Int32) (t : List Nat) (pb M : Nat) (g : Nat → Int32) (pr : List Nat) (us : List Nat) (n : Nat) (hl : t.length ≤ N) (hN : N < 2 ^ 30) (ht : js_tx f t) (hM : M < 2 ^ 30) (htp : js_tx g pr) (hi : i < 2 ^ 30 - 10) (hch : js_ch t i = .inr (us, n)) (hp : pr.length + n ≤ M) : jv_M l D dA zz y_Rd_character b_Rd_character 6 (some (FieldType.boolean)) 4 [.ref o] [(o, .inr (2, [.ref tp, .ref pp, .ref nn, .ref ob, .ref nb, .int dp, .int (nI i), .int ub, .int pl])), (tp, .inr (0, [.ref tb, .int (nI t.length)])), (tb, .inl (dA 0, N, .inl f)), (pp, .inr (0, [.ref pb, .int (nI pr.length)])), (pb, .inl (dA 0, M, .inl g))] (jv_pi fun r (u : Int32 × (Nat → Int32)) => r = 1 ∧ js_tx u.2 (pr ++ us.flatMap js_pu)) (fun u => [(o, .inr (2, [.ref tp, .ref pp, .ref nn, .ref ob, .ref nb, .int dp, .int (nI (i + n)), .int u.1, .int pl])), (tp, .inr (0, [.ref tb, .int (nI t.length)])), (tb, .inl (dA 0, N, .inl f)), (pp, .inr (0, [.ref pb, .int (nI (pr ++ us.flatMap js_pu).length)])), (pb, .inl (dA 0, M, .inl u.2))]) 0 0 := by
  refine jv_M.of [(0, .ref o)] (by decide) (Nat.le_of_ble_eq_true rfl) rfl ?_
  intro pR eR sR mR belowR methR cR AR C hr hin
  obtain ⟨QR, hQ⟩ : ∃ QR, QR = jv_E D (jv_pi fun r (u : Int32 × (Nat → Int32)) => r = 1 ∧ js_tx u.2 (pr ++ us.flatMap js_pu)) (fun u => [(o, .inr (2, [.ref tp, .ref pp, .ref nn, .ref ob, .ref nb, .int dp, .int (nI (i + n)), .int u.1, .int pl])), (tp, .inr (0, [.ref tb, .int (nI t.length)])), (tb, .inl (dA 0, N, .inl f)), (pp, .inr (0, [.ref pb, .int (nI (pr ++ us.flatMap js_pu).length)])), (pb, .inl (dA 0, M, .inl u.2))]) belowR ([.ref o] : List Value).toArray sR AR 0 0 := ⟨_, rfl⟩
  rw [← hQ]
  refine jv_aload_n C (jd D_Rd_character 0 rfl) rfl 0 rfl ?_
  refine jv_aload_n C (jd D_Rd_character 1 rfl) rfl 0 rfl ?_
  refine jv_get C fl_Rd_46 0 rfl rfl (jd D_Rd_character 2 rfl) ?_
  refine jv_callV (wr := [(pp, .inr (0, [.ref pb, .int (nI pr.length)])), (pb, .inl (dA 0, M, .inl g))]) C cl_Rd_153 (c_Rd_unitAt o tp pp nn ob nb dp ub pl i tb N f t i hl hN ht (by have := js_ub_pos t i; omega)) [0, 1, 2] [3, 4] rfl rfl rfl rfl (by decide) rfl rfl 0 rfl ⟨Nat.le_of_ble_eq_true rfl, Nat.le_of_ble_eq_true rfl⟩ ⟨Nat.le_of_ble_eq_true rfl, Nat.le_of_ble_eq_true rfl⟩ rfl rfl (Nat.le_of_ble_eq_true rfl) (jd D_Rd_character 3 rfl) (fun v1 _ k1 => ?_)
  obtain ⟨r1, rfl, k1⟩ := k1
  refine jv_fix [2, 3, 4, 0, 1] [(o, .inr (2, [.ref tp, .ref pp, .ref nn, .ref ob, .ref nb, .int dp, .int (nI i), .int (nI (js_ub t i)), .int pl])), (tp, .inr (0, [.ref tb, .int (nI t.length)])), (tb, .inl (dA 0, N, .inl f)), (pp, .inr (0, [.ref pb, .int (nI pr.length)])), (pb, .inl (dA 0, M, .inl g))] [.int r1] 0 0 rfl rfl rfl (Nat.le_refl _) (Nat.le_refl _) ?_
  subst k1
  refine jv_istore_n C [(1, .int (js_ua t i)), (0, .ref o)] (jd D_Rd_character 4 rfl) rfl (by decide) rfl ?_
  refine jv_iconst (v := -1) C (jd D_Rd_character 5 rfl) (by decide) ?_
  refine jv_istore_n C [(2, .int (-1)), (1, .int (js_ua t i)), (0, .ref o)] (jd D_Rd_character 6 rfl) rfl (by decide) rfl ?_
  refine jv_aload_n C (jd D_Rd_character 7 rfl) rfl 2 rfl ?_
  refine jv_get C fl_Rd_156 0 rfl rfl (jd D_Rd_character 8 rfl) ?_
  refine jv_istore_n C [(3, .int (nI (js_ub t i))), (2, .int (-1)), (1, .int (js_ua t i)), (0, .ref o)] (jd D_Rd_character 9 rfl) rfl (by decide) rfl ?_
  refine jv_iload_n C (jd D_Rd_character 10 rfl) rfl 2 rfl ?_
  refine jv_iconst (v := -1) C (jd D_Rd_character 11 rfl) (by decide) ?_
  have hJ2 : jv_V pR l eR (jv_rm 4 0 0) sR mR ([.ref o] : List Value).toArray belowR methR cR 0 0 QR D AR 6 [(o, .inr (2, [.ref tp, .ref pp, .ref nn, .ref ob, .ref nb, .int dp, .int (nI i), .int (nI (js_ub t i)), .int pl])), (tp, .inr (0, [.ref tb, .int (nI t.length)])), (tb, .inl (dA 0, N, .inl f)), (pp, .inr (0, [.ref pb, .int (nI pr.length)])), (pb, .inl (dA 0, M, .inl g))] [(3, .int (nI (js_ub t i))), (2, .int (-1)), (1, .int (js_ua t i)), (0, .ref o)] 26 [.int (if js_ua t i = -1 then (1 : Int32) else 0)] := by
    refine jv_istore C [(4, .int (if js_ua t i = -1 then (1 : Int32) else 0)), (3, .int (nI (js_ub t i))), (2, .int (-1)), (1, .int (js_ua t i)), (0, .ref o)] (jd D_Rd_character 16 rfl) (by decide) rfl ?_
    refine jv_iload_n C (jd D_Rd_character 17 rfl) rfl 3 rfl ?_
    have hJ3 : jv_V pR l eR (jv_rm 4 0 0) sR mR ([.ref o] : List Value).toArray belowR methR cR 0 0 QR D AR 6 [(o, .inr (2, [.ref tp, .ref pp, .ref nn, .ref ob, .ref nb, .int dp, .int (nI i), .int (nI (js_ub t i)), .int pl])), (tp, .inr (0, [.ref tb, .int (nI t.length)])), (tb, .inl (dA 0, N, .inl f)), (pp, .inr (0, [.ref pb, .int (nI pr.length)])), (pb, .inl (dA 0, M, .inl g))] [(4, .int (if js_ua t i = -1 then (1 : Int32) else 0)), (3, .int (nI (js_ub t i))), (2, .int (-1)), (1, .int (js_ua t i)), (0, .ref o)] 44 [.int (if js_ua t i < 0 then (0 : Int32) else if fn_Rd_isSecondOfTwo (js_ua t i) = 0 then 1 else 0)] := by
      refine jv_istore C [(5, .int (if js_ua t i < 0 then (0 : Int32) else if fn_Rd_isSecondOfTwo (js_ua t i) = 0 then 1 else 0)), (4, .int (if js_ua t i = -1 then (1 : Int32) else 0)), (3, .int (nI (js_ub t i))), (2, .int (-1)), (1, .int (js_ua t i)), (0, .ref o)] (jd D_Rd_character 25 rfl) (by decide) rfl ?_
      refine jv_iload_n C (jd D_Rd_character 26 rfl) rfl 4 rfl ?_
      refine jv_callS (wr := [(o, .inr (2, [.ref tp, .ref pp, .ref nn, .ref ob, .ref nb, .int dp, .int (nI i), .int (nI (js_ub t i)), .int pl])), (tp, .inr (0, [.ref tb, .int (nI t.length)])), (tb, .inl (dA 0, N, .inl f)), (pp, .inr (0, [.ref pb, .int (nI pr.length)])), (pb, .inl (dA 0, M, .inl g))]) C cl_Rd_162 (c_Rd_isFirstOfTwo (js_ua t i)) [] [0, 1, 2, 3, 4] rfl rfl rfl rfl (by decide) ⟨Nat.le_of_ble_eq_true rfl, Nat.le_of_ble_eq_true rfl⟩ ⟨Nat.le_of_ble_eq_true rfl, Nat.le_of_ble_eq_true rfl⟩ rfl rfl (Nat.le_of_ble_eq_true rfl) (jd D_Rd_character 27 rfl) (fun v4 _ k3 => ?_)
      obtain ⟨r3, rfl, k3⟩ := k3
      refine jv_fix [0, 1, 2, 3, 4] [(o, .inr (2, [.ref tp, .ref pp, .ref nn, .ref ob, .ref nb, .int dp, .int (nI i), .int (nI (js_ub t i)), .int pl])), (tp, .inr (0, [.ref tb, .int (nI t.length)])), (tb, .inl (dA 0, N, .inl f)), (pp, .inr (0, [.ref pb, .int (nI pr.length)])), (pb, .inl (dA 0, M, .inl g))] [.int r3] 0 0 rfl rfl rfl (Nat.le_refl _) (Nat.le_refl _) ?_
      subst k3
      refine jv_if_eq (tgt := 89) C (jd D_Rd_character 28 rfl) (by decide) (fun c50 => ?_) (fun c50 => ?_)
      · refine jv_iload C (jd D_Rd_character 51 rfl) 0 rfl ?_
        refine jv_if_ne (tgt := 120) C (jd D_Rd_character 52 rfl) (by decide) (fun c91 => ?_) (fun c91 => ?_)
        · have z : ¬ js_ua t i < 0 := fun y => c91 (if_pos y)
          rw [if_neg z] at c91
          have z2 : fn_Rd_isSecondOfTwo (js_ua t i) = 0 := by
            by_cases y : fn_Rd_isSecondOfTwo (js_ua t i) = 0
            · exact y
            · exact absurd (if_neg y) c91
          rw [js_ch, if_pos c50, if_neg z, if_pos z2] at hch
          cases hch
          obtain ⟨u, hu, eu, eu2⟩ := js_ua_nat ht.by z
          have hlen := js_pu_len ht.by z
          rw [eu2] at hlen
          rw [eu]
          refine jv_aload_n C (jd D_Rd_character 66 rfl) rfl 5 rfl ?_
          refine jv_iload_n C (jd D_Rd_character 67 rfl) rfl 4 rfl ?_
          refine jv_callV (wr := [(tp, .inr (0, [.ref tb, .int (nI t.length)])), (tb, .inl (dA 0, N, .inl f))]) C cl_Rd_165 (c_Rd_addUnit o tp pp nn ob nb dp (nI (js_ub t i)) pl i pb M g pr u hu (by first | omega | (simp only [List.length_append]; omega)) hM htp) [0, 3, 4] [1, 2] rfl rfl rfl rfl (by decide) rfl rfl 0 rfl ⟨Nat.le_of_ble_eq_true rfl, Nat.le_of_ble_eq_true rfl⟩ ⟨Nat.le_of_ble_eq_true rfl, Nat.le_of_ble_eq_true rfl⟩ rfl rfl (Nat.le_of_ble_eq_true rfl) (jd D_Rd_character 68 rfl) (fun v5 g8 k8 => ?_)
          obtain ⟨rfl, k8⟩ := k8
          refine jv_fix [2, 0, 1, 3, 4] [(o, .inr (2, [.ref tp, .ref pp, .ref nn, .ref ob, .ref nb, .int dp, .int (nI i), .int (nI (js_ub t i)), .int pl])), (tp, .inr (0, [.ref tb, .int (nI t.length)])), (tb, .inl (dA 0, N, .inl f)), (pp, .inr (0, [.ref pb, .int (nI (pr ++ js_pu u).length)])), (pb, .inl (dA 0, M, .inl g8))] [] 0 0 rfl rfl rfl (Nat.le_refl _) (Nat.le_refl _) ?_
          refine jv_iload_n C (jd D_Rd_character 69 rfl) rfl 3 rfl ?_
          refine jv_iconst (v := -1) C (jd D_Rd_character 70 rfl) (by decide) ?_
          refine jv_icmp_eq (tgt := 135) C (jd D_Rd_character 71 rfl) (by decide) (fun c127 => ?_) (fun c127 => absurd (rfl) c127)
          refine jv_aload_n C (jd D_Rd_character 75 rfl) rfl 5 rfl ?_
          refine jv_dup C (jd D_Rd_character 76 rfl) rfl ?_
          refine jv_get C fl_Rd_46 0 rfl rfl (jd D_Rd_character 77 rfl) ?_
          refine jv_iload_n C (jd D_Rd_character 78 rfl) rfl 2 rfl ?_
          refine jv_iadd C (jd D_Rd_character 79 rfl) ?_
          refine jv_ati (y := nI (i + js_ub t i)) (nI_add _ _) ?_
          refine jv_put C fl_Rd_46 Y_Rd rfl 0 [(o, .inr (2, [.ref tp, .ref pp, .ref nn, .ref ob, .ref nb, .int dp, .int (nI (i + js_ub t i)), .int (nI (js_ub t i)), .int pl])), (tp, .inr (0, [.ref tb, .int (nI t.length)])), (tb, .inl (dA 0, N, .inl f)), (pp, .inr (0, [.ref pb, .int (nI (pr ++ js_pu u).length)])), (pb, .inl (dA 0, M, .inl g8))] rfl rfl rfl (Nat.le_of_ble_eq_true rfl) rfl rfl (jd D_Rd_character 80 rfl) ?_
          refine jv_iconst (v := 1) C (jd D_Rd_character 81 rfl) (by decide) ?_
          have heq : pr ++ js_pu u = pr ++ List.flatMap js_pu [(js_ua t i).toNatClampNeg] := by rw [eu2]; simp
          rw [heq] at k8
          refine jv_weq (ws' := [(o, .inr (2, [.ref tp, .ref pp, .ref nn, .ref ob, .ref nb, .int dp, .int (nI (i + js_ub t i)), .int (nI (js_ub t i)), .int pl])), (tp, .inr (0, [.ref tb, .int (nI t.length)])), (tb, .inl (dA 0, N, .inl f)), (pp, .inr (0, [.ref pb, .int (nI (pr ++ List.flatMap js_pu [(js_ua t i).toNatClampNeg]).length)])), (pb, .inl (dA 0, M, .inl g8))]) (by rw [heq]) ?_
          rw [hQ]
          exact jv_iret C hr ((nI (js_ub t i)), g8) (⟨rfl, k8⟩) rfl [0, 1, 2, 3, 4] rfl rfl (Nat.le_of_ble_eq_true rfl) (Nat.le_of_ble_eq_true rfl) (jd D_Rd_character 82 rfl)
        · rw [js_ch, if_pos c50] at hch
          by_cases z : js_ua t i < 0
          · rw [if_pos z] at hch
            cases hch
          · rw [if_neg z] at hch c91
            by_cases z2 : fn_Rd_isSecondOfTwo (js_ua t i) = 0
            · rw [if_pos z2] at c91
              exact absurd c91 (by decide)
            · rw [if_neg z2] at hch
              cases hch
      · refine jv_aload_n C (jd D_Rd_character 29 rfl) rfl 5 rfl ?_
        refine jv_aload_n C (jd D_Rd_character 30 rfl) rfl 5 rfl ?_
        refine jv_get C fl_Rd_46 0 rfl rfl (jd D_Rd_character 31 rfl) ?_
        refine jv_iload_n C (jd D_Rd_character 32 rfl) rfl 2 rfl ?_
        refine jv_iadd C (jd D_Rd_character 33 rfl) ?_
        refine jv_ati (y := nI (i + js_ub t i)) (nI_add _ _) ?_
        refine jv_callV (wr := [(pp, .inr (0, [.ref pb, .int (nI pr.length)])), (pb, .inl (dA 0, M, .inl g))]) C cl_Rd_153 (c_Rd_unitAt o tp pp nn ob nb dp (nI (js_ub t i)) pl i tb N f t (i + js_ub t i) hl hN ht (by have := js_ub_pos t i; omega)) [0, 1, 2] [3, 4] rfl rfl rfl rfl (by decide) rfl rfl 0 rfl ⟨Nat.le_of_ble_eq_true rfl, Nat.le_of_ble_eq_true rfl⟩ ⟨Nat.le_of_ble_eq_true rfl, Nat.le_of_ble_eq_true rfl⟩ rfl rfl (Nat.le_of_ble_eq_true rfl) (jd D_Rd_character 34 rfl) (fun v6 _ k4 => ?_)
        obtain ⟨r4, rfl, k4⟩ := k4
        refine jv_fix [2, 3, 4, 0, 1] [(o, .inr (2, [.ref tp, .ref pp, .ref nn, .ref ob, .ref nb, .int dp, .int (nI i), .int (nI (js_ub t (i + js_ub t i))), .int pl])), (tp, .inr (0, [.ref tb, .int (nI t.length)])), (tb, .inl (dA 0, N, .inl f)), (pp, .inr (0, [.ref pb, .int (nI pr.length)])), (pb, .inl (dA 0, M, .inl g))] [.int r4] 0 0 rfl rfl rfl (Nat.le_refl _) (Nat.le_refl _) ?_
        subst k4
        refine jv_istore_n C [(2, .int (js_ua t (i + js_ub t i))), (5, .int (if js_ua t i < 0 then (0 : Int32) else if fn_Rd_isSecondOfTwo (js_ua t i) = 0 then 1 else 0)), (4, .int (if js_ua t i = -1 then (1 : Int32) else 0)), (3, .int (nI (js_ub t i))), (1, .int (js_ua t i)), (0, .ref o)] (jd D_Rd_character 35 rfl) rfl (by decide) rfl ?_
        refine jv_iload_n C (jd D_Rd_character 36 rfl) rfl 3 rfl ?_
        refine jv_aload_n C (jd D_Rd_character 37 rfl) rfl 5 rfl ?_
        refine jv_get C fl_Rd_156 0 rfl rfl (jd D_Rd_character 38 rfl) ?_
        refine jv_iadd C (jd D_Rd_character 39 rfl) ?_
        refine jv_ati (y := nI (js_ub t i + js_ub t (i + js_ub t i))) (nI_add _ _) ?_
        refine jv_istore_n C [(3, .int (nI (js_ub t i + js_ub t (i + js_ub t i)))), (2, .int (js_ua t (i + js_ub t i))), (5, .int (if js_ua t i < 0 then (0 : Int32) else if fn_Rd_isSecondOfTwo (js_ua t i) = 0 then 1 else 0)), (4, .int (if js_ua t i = -1 then (1 : Int32) else 0)), (1, .int (js_ua t i)), (0, .ref o)] (jd D_Rd_character 40 rfl) rfl (by decide) rfl ?_
        refine jv_iload_n C (jd D_Rd_character 41 rfl) rfl 1 rfl ?_
        refine jv_iconst (v := -1) C (jd D_Rd_character 42 rfl) (by decide) ?_
        have hJ7 : jv_V pR l eR (jv_rm 4 0 0) sR mR ([.ref o] : List Value).toArray belowR methR cR 0 0 QR D AR 6 [(o, .inr (2, [.ref tp, .ref pp, .ref nn, .ref ob, .ref nb, .int dp, .int (nI i), .int (nI (js_ub t (i + js_ub t i))), .int pl])), (tp, .inr (0, [.ref tb, .int (nI t.length)])), (tb, .inl (dA 0, N, .inl f)), (pp, .inr (0, [.ref pb, .int (nI pr.length)])), (pb, .inl (dA 0, M, .inl g))] [(3, .int (nI (js_ub t i + js_ub t (i + js_ub t i)))), (2, .int (js_ua t (i + js_ub t i))), (5, .int (if js_ua t i < 0 then (0 : Int32) else if fn_Rd_isSecondOfTwo (js_ua t i) = 0 then 1 else 0)), (4, .int (if js_ua t i = -1 then (1 : Int32) else 0)), (1, .int (js_ua t i)), (0, .ref o)] 81 [.int (if js_ua t (i + js_ub t i) = -1 then (1 : Int32) else 0)] := by
          refine jv_istore C [(4, .int (if js_ua t (i + js_ub t i) = -1 then (1 : Int32) else 0)), (3, .int (nI (js_ub t i + js_ub t (i + js_ub t i)))), (2, .int (js_ua t (i + js_ub t i))), (5, .int (if js_ua t i < 0 then (0 : Int32) else if fn_Rd_isSecondOfTwo (js_ua t i) = 0 then 1 else 0)), (1, .int (js_ua t i)), (0, .ref o)] (jd D_Rd_character 47 rfl) (by decide) rfl ?_
          refine jv_iload_n C (jd D_Rd_character 48 rfl) rfl 2 rfl ?_
          refine jv_callS (wr := [(o, .inr (2, [.ref tp, .ref pp, .ref nn, .ref ob, .ref nb, .int dp, .int (nI i), .int (nI (js_ub t (i + js_ub t i))), .int pl])), (tp, .inr (0, [.ref tb, .int (nI t.length)])), (tb, .inl (dA 0, N, .inl f)), (pp, .inr (0, [.ref pb, .int (nI pr.length)])), (pb, .inl (dA 0, M, .inl g))]) C cl_Rd_159 (c_Rd_isSecondOfTwo (js_ua t (i + js_ub t i))) [] [0, 1, 2, 3, 4] rfl rfl rfl rfl (by decide) ⟨Nat.le_of_ble_eq_true rfl, Nat.le_of_ble_eq_true rfl⟩ ⟨Nat.le_of_ble_eq_true rfl, Nat.le_of_ble_eq_true rfl⟩ rfl rfl (Nat.le_of_ble_eq_true rfl) (jd D_Rd_character 49 rfl) (fun v8 _ k5 => ?_)
          obtain ⟨r5, rfl, k5⟩ := k5
          refine jv_fix [0, 1, 2, 3, 4] [(o, .inr (2, [.ref tp, .ref pp, .ref nn, .ref ob, .ref nb, .int dp, .int (nI i), .int (nI (js_ub t (i + js_ub t i))), .int pl])), (tp, .inr (0, [.ref tb, .int (nI t.length)])), (tb, .inl (dA 0, N, .inl f)), (pp, .inr (0, [.ref pb, .int (nI pr.length)])), (pb, .inl (dA 0, M, .inl g))] [.int r5] 0 0 rfl rfl rfl (Nat.le_refl _) (Nat.le_refl _) ?_
          subst k5
          refine jv_istore C [(5, .int (fn_Rd_isSecondOfTwo (js_ua t (i + js_ub t i)))), (4, .int (if js_ua t (i + js_ub t i) = -1 then (1 : Int32) else 0)), (3, .int (nI (js_ub t i + js_ub t (i + js_ub t i)))), (2, .int (js_ua t (i + js_ub t i))), (1, .int (js_ua t i)), (0, .ref o)] (jd D_Rd_character 50 rfl) (by decide) rfl ?_
          refine jv_iload C (jd D_Rd_character 51 rfl) 0 rfl ?_
          refine jv_if_ne (tgt := 120) C (jd D_Rd_character 52 rfl) (by decide) (fun c91 => ?_) (fun c91 => ?_)
          · rw [js_ch, if_neg c50, if_neg c91] at hch
            cases hch
            have z := (js_first c50).1
            have z2 := (js_second c91).1
            have z3 := (js_second c91).2
            obtain ⟨u, hu, eu, eu2⟩ := js_ua_nat ht.by z
            obtain ⟨u2, hu2, ev, ev2⟩ := js_ua_nat ht.by z2
            have hlen := js_pu_len ht.by z
            have hlen2 := js_pu_len ht.by z2
            rw [eu2] at hlen
            rw [ev2] at hlen2
            rw [eu, ev]
            refine jv_aload_n C (jd D_Rd_character 66 rfl) rfl 5 rfl ?_
            refine jv_iload_n C (jd D_Rd_character 67 rfl) rfl 4 rfl ?_
            refine jv_callV (wr := [(tp, .inr (0, [.ref tb, .int (nI t.length)])), (tb, .inl (dA 0, N, .inl f))]) C cl_Rd_165 (c_Rd_addUnit o tp pp nn ob nb dp (nI (js_ub t (i + js_ub t i))) pl i pb M g pr u hu (by first | omega | (simp only [List.length_append]; omega)) hM htp) [0, 3, 4] [1, 2] rfl rfl rfl rfl (by decide) rfl rfl 0 rfl ⟨Nat.le_of_ble_eq_true rfl, Nat.le_of_ble_eq_true rfl⟩ ⟨Nat.le_of_ble_eq_true rfl, Nat.le_of_ble_eq_true rfl⟩ rfl rfl (Nat.le_of_ble_eq_true rfl) (jd D_Rd_character 68 rfl) (fun v9 g8 k8 => ?_)
            obtain ⟨rfl, k8⟩ := k8
            refine jv_fix [2, 0, 1, 3, 4] [(o, .inr (2, [.ref tp, .ref pp, .ref nn, .ref ob, .ref nb, .int dp, .int (nI i), .int (nI (js_ub t (i + js_ub t i))), .int pl])), (tp, .inr (0, [.ref tb, .int (nI t.length)])), (tb, .inl (dA 0, N, .inl f)), (pp, .inr (0, [.ref pb, .int (nI (pr ++ js_pu u).length)])), (pb, .inl (dA 0, M, .inl g8))] [] 0 0 rfl rfl rfl (Nat.le_refl _) (Nat.le_refl _) ?_
            refine jv_iload_n C (jd D_Rd_character 69 rfl) rfl 3 rfl ?_
            refine jv_iconst (v := -1) C (jd D_Rd_character 70 rfl) (by decide) ?_
            refine jv_icmp_eq (tgt := 135) C (jd D_Rd_character 71 rfl) (by decide) (fun c127 => absurd c127 (by rw [ev] at z3; exact z3)) (fun c127 => ?_)
            refine jv_aload_n C (jd D_Rd_character 72 rfl) rfl 5 rfl ?_
            refine jv_iload_n C (jd D_Rd_character 73 rfl) rfl 3 rfl ?_
            refine jv_callV (wr := [(tp, .inr (0, [.ref tb, .int (nI t.length)])), (tb, .inl (dA 0, N, .inl f))]) C cl_Rd_165 (c_Rd_addUnit o tp pp nn ob nb dp (nI (js_ub t (i + js_ub t i))) pl i pb M g8 (pr ++ js_pu u) u2 hu2 (by first | omega | (simp only [List.length_append]; omega)) hM k8) [0, 3, 4] [1, 2] rfl rfl rfl rfl (by decide) rfl rfl 0 rfl ⟨Nat.le_of_ble_eq_true rfl, Nat.le_of_ble_eq_true rfl⟩ ⟨Nat.le_of_ble_eq_true rfl, Nat.le_of_ble_eq_true rfl⟩ rfl rfl (Nat.le_of_ble_eq_true rfl) (jd D_Rd_character 74 rfl) (fun v10 g9 k9 => ?_)
            obtain ⟨rfl, k9⟩ := k9
            refine jv_fix [2, 0, 1, 3, 4] [(o, .inr (2, [.ref tp, .ref pp, .ref nn, .ref ob, .ref nb, .int dp, .int (nI i), .int (nI (js_ub t (i + js_ub t i))), .int pl])), (tp, .inr (0, [.ref tb, .int (nI t.length)])), (tb, .inl (dA 0, N, .inl f)), (pp, .inr (0, [.ref pb, .int (nI (pr ++ js_pu u ++ js_pu u2).length)])), (pb, .inl (dA 0, M, .inl g9))] [] 0 0 rfl rfl rfl (Nat.le_refl _) (Nat.le_refl _) ?_
            refine jv_aload_n C (jd D_Rd_character 75 rfl) rfl 5 rfl ?_
            refine jv_dup C (jd D_Rd_character 76 rfl) rfl ?_
            refine jv_get C fl_Rd_46 0 rfl rfl (jd D_Rd_character 77 rfl) ?_
            refine jv_iload_n C (jd D_Rd_character 78 rfl) rfl 2 rfl ?_
            refine jv_iadd C (jd D_Rd_character 79 rfl) ?_
            refine jv_ati (y := nI (i + (js_ub t i + js_ub t (i + js_ub t i)))) (nI_add _ _) ?_
            refine jv_put C fl_Rd_46 Y_Rd rfl 0 [(o, .inr (2, [.ref tp, .ref pp, .ref nn, .ref ob, .ref nb, .int dp, .int (nI (i + (js_ub t i + js_ub t (i + js_ub t i)))), .int (nI (js_ub t (i + js_ub t i))), .int pl])), (tp, .inr (0, [.ref tb, .int (nI t.length)])), (tb, .inl (dA 0, N, .inl f)), (pp, .inr (0, [.ref pb, .int (nI (pr ++ js_pu u ++ js_pu u2).length)])), (pb, .inl (dA 0, M, .inl g9))] rfl rfl rfl (Nat.le_of_ble_eq_true rfl) rfl rfl (jd D_Rd_character 80 rfl) ?_
            refine jv_iconst (v := 1) C (jd D_Rd_character 81 rfl) (by decide) ?_
            have heq : pr ++ js_pu u ++ js_pu u2 = pr ++ List.flatMap js_pu [(js_ua t i).toNatClampNeg, (js_ua t (i + js_ub t i)).toNatClampNeg] := by rw [eu2, ev2]; simp
            rw [heq] at k9
            refine jv_weq (ws' := [(o, .inr (2, [.ref tp, .ref pp, .ref nn, .ref ob, .ref nb, .int dp, .int (nI (i + (js_ub t i + js_ub t (i + js_ub t i)))), .int (nI (js_ub t (i + js_ub t i))), .int pl])), (tp, .inr (0, [.ref tb, .int (nI t.length)])), (tb, .inl (dA 0, N, .inl f)), (pp, .inr (0, [.ref pb, .int (nI (pr ++ List.flatMap js_pu [(js_ua t i).toNatClampNeg, (js_ua t (i + js_ub t i)).toNatClampNeg]).length)])), (pb, .inl (dA 0, M, .inl g9))]) (by rw [heq]) ?_
            rw [hQ]
            exact jv_iret C hr ((nI (js_ub t (i + js_ub t i))), g9) (⟨rfl, k9⟩) rfl [0, 1, 2, 3, 4] rfl rfl (Nat.le_of_ble_eq_true rfl) (Nat.le_of_ble_eq_true rfl) (jd D_Rd_character 82 rfl)
          · rw [js_ch, if_neg c50, if_pos c91] at hch
            cases hch
        refine jv_icmp_ne (tgt := 80) C (jd D_Rd_character 43 rfl) (by decide) (fun c73 => ?_) (fun c73 => ?_)
        · refine jv_iconst (v := 0) C (jd D_Rd_character 46 rfl) (by decide) ?_
          refine jv_ati (y := if js_ua t (i + js_ub t i) = -1 then (1 : Int32) else 0) ((if_neg c73).symm) ?_
          exact hJ7
        · refine jv_iconst (v := 1) C (jd D_Rd_character 44 rfl) (by decide) ?_
          refine jv_goto (tgt := 81) C (jd D_Rd_character 45 rfl) (by decide) ?_
          refine jv_ati (y := if js_ua t (i + js_ub t i) = -1 then (1 : Int32) else 0) ((if_pos c73).symm) ?_
          exact hJ7
    refine jv_if_lt (tgt := 43) C (jd D_Rd_character 18 rfl) (by decide) (fun c29 => ?_) (fun c29 => ?_)
    · refine jv_iconst (v := 0) C (jd D_Rd_character 24 rfl) (by decide) ?_
      refine jv_ati (y := if js_ua t i < 0 then (0 : Int32) else if fn_Rd_isSecondOfTwo (js_ua t i) = 0 then 1 else 0) (by rw [if_pos c29]) ?_
      exact hJ3
    · refine jv_iload_n C (jd D_Rd_character 19 rfl) rfl 3 rfl ?_
      refine jv_callS (wr := [(o, .inr (2, [.ref tp, .ref pp, .ref nn, .ref ob, .ref nb, .int dp, .int (nI i), .int (nI (js_ub t i)), .int pl])), (tp, .inr (0, [.ref tb, .int (nI t.length)])), (tb, .inl (dA 0, N, .inl f)), (pp, .inr (0, [.ref pb, .int (nI pr.length)])), (pb, .inl (dA 0, M, .inl g))]) C cl_Rd_159 (c_Rd_isSecondOfTwo (js_ua t i)) [] [0, 1, 2, 3, 4] rfl rfl rfl rfl (by decide) ⟨Nat.le_of_ble_eq_true rfl, Nat.le_of_ble_eq_true rfl⟩ ⟨Nat.le_of_ble_eq_true rfl, Nat.le_of_ble_eq_true rfl⟩ rfl rfl (Nat.le_of_ble_eq_true rfl) (jd D_Rd_character 20 rfl) (fun v11 _ k2 => ?_)
      obtain ⟨r2, rfl, k2⟩ := k2
      refine jv_fix [0, 1, 2, 3, 4] [(o, .inr (2, [.ref tp, .ref pp, .ref nn, .ref ob, .ref nb, .int dp, .int (nI i), .int (nI (js_ub t i)), .int pl])), (tp, .inr (0, [.ref tb, .int (nI t.length)])), (tb, .inl (dA 0, N, .inl f)), (pp, .inr (0, [.ref pb, .int (nI pr.length)])), (pb, .inl (dA 0, M, .inl g))] [.int r2] 0 0 rfl rfl rfl (Nat.le_refl _) (Nat.le_refl _) ?_
      subst k2
      refine jv_if_ne (tgt := 43) C (jd D_Rd_character 21 rfl) (by decide) (fun c36 => ?_) (fun c36 => ?_)
      · refine jv_iconst (v := 0) C (jd D_Rd_character 24 rfl) (by decide) ?_
        refine jv_ati (y := if js_ua t i < 0 then (0 : Int32) else if fn_Rd_isSecondOfTwo (js_ua t i) = 0 then 1 else 0) (by rw [if_neg c29, if_neg c36]) ?_
        exact hJ3
      · refine jv_iconst (v := 1) C (jd D_Rd_character 22 rfl) (by decide) ?_
        refine jv_goto (tgt := 44) C (jd D_Rd_character 23 rfl) (by decide) ?_
        refine jv_ati (y := if js_ua t i < 0 then (0 : Int32) else if fn_Rd_isSecondOfTwo (js_ua t i) = 0 then 1 else 0) (by rw [if_neg c29, if_pos c36]) ?_
        exact hJ3
  refine jv_icmp_ne (tgt := 25) C (jd D_Rd_character 12 rfl) (by decide) (fun c18 => ?_) (fun c18 => ?_)
  · refine jv_iconst (v := 0) C (jd D_Rd_character 15 rfl) (by decide) ?_
    refine jv_ati (y := if js_ua t i = -1 then (1 : Int32) else 0) ((if_neg c18).symm) ?_
    exact hJ2
  · refine jv_iconst (v := 1) C (jd D_Rd_character 13 rfl) (by decide) ?_
    refine jv_goto (tgt := 26) C (jd D_Rd_character 14 rfl) (by decide) ?_
    refine jv_ati (y := if js_ua t i = -1 then (1 : Int32) else 0) ((if_pos c18).symm) ?_
    exact hJ2
