set_option maxHeartbeats 4000000 in
set_option maxRecDepth 100000 in
/-- Text.length() -/
theorem c_Tx_length {l : Launch} {D : va_G} {dA : Nat → ClassId} (h b N : Nat) (f : Nat → Int32) (t : List Nat)  : jv_M l D dA y_Tx_length b_Tx_length 1 (some (FieldType.int)) 1 [.ref h] [(h, .inr (0, [.ref b, .int (nI t.length)])), (b, .inl (dA 0, N, .inl f))] (jv_pi fun r (_ : Unit) => r = nI t.length) (fun _ => [(h, .inr (0, [.ref b, .int (nI t.length)])), (b, .inl (dA 0, N, .inl f))]) 0 0 := by
  refine jv_M.of [(0, .ref h)] (by decide) (Nat.le_of_ble_eq_true rfl) rfl ?_
  intro p e s m below meth c A C hr hin
  refine jv_aload_n C (jd D_Tx_length 0 rfl) rfl 0 rfl ?_
  refine jv_get C fl_Tx_15 0 rfl rfl (jd D_Tx_length 1 rfl) ?_
  exact jv_iret C hr () (rfl) rfl [0, 1] rfl rfl (Nat.le_of_ble_eq_true rfl) (Nat.le_of_ble_eq_true rfl) (jd D_Tx_length 2 rfl)

set_option maxHeartbeats 4000000 in
set_option maxRecDepth 100000 in
/-- Text.at(i): the byte, or -1 -/
theorem c_Tx_at {l : Launch} {D : va_G} {dA : Nat → ClassId} (h b N : Nat) (f : Nat → Int32) (t : List Nat) (i : Int32) (hl : t.length ≤ N) (hN : N < 2 ^ 31) (ht : js_tx f t) : jv_M l D dA y_Tx_at b_Tx_at 2 (some (FieldType.int)) 1 [.ref h, .int i] [(h, .inr (0, [.ref b, .int (nI t.length)])), (b, .inl (dA 0, N, .inl f))] (jv_pi fun r (_ : Unit) => r = js_at t i) (fun _ => [(h, .inr (0, [.ref b, .int (nI t.length)])), (b, .inl (dA 0, N, .inl f))]) 0 0 := by
  refine jv_M.of [(0, .ref h), (1, .int i)] (by decide) (Nat.le_of_ble_eq_true rfl) rfl ?_
  intro p e s m below meth c A C hr hin
  refine jv_iload_n C (jd D_Tx_at 0 rfl) rfl 1 rfl ?_
  refine jv_if_lt (tgt := 25) C (jd D_Tx_at 1 rfl) (by decide) (fun c1 => ?_) (fun c1 => ?_)
  · refine jv_iconst (v := -1) C (jd D_Tx_at 13 rfl) (by decide) ?_
    exact jv_iret C hr () (js_at_neg c1) rfl [0, 1] rfl rfl (Nat.le_of_ble_eq_true rfl) (Nat.le_of_ble_eq_true rfl) (jd D_Tx_at 14 rfl)
  · refine jv_iload_n C (jd D_Tx_at 2 rfl) rfl 1 rfl ?_
    refine jv_aload_n C (jd D_Tx_at 3 rfl) rfl 0 rfl ?_
    refine jv_get C fl_Tx_15 0 rfl rfl (jd D_Tx_at 4 rfl) ?_
    refine jv_icmp_ge (tgt := 25) C (jd D_Tx_at 5 rfl) (by decide) (fun c9 => ?_) (fun c9 => ?_)
    · refine jv_iconst (v := -1) C (jd D_Tx_at 13 rfl) (by decide) ?_
      exact jv_iret C hr () (js_at_ge c1 c9) rfl [0, 1] rfl rfl (Nat.le_of_ble_eq_true rfl) (Nat.le_of_ble_eq_true rfl) (jd D_Tx_at 14 rfl)
    · refine jv_aload_n C (jd D_Tx_at 6 rfl) rfl 0 rfl ?_
      refine jv_get C fl_Tx_9 0 rfl rfl (jd D_Tx_at 7 rfl) ?_
      refine jv_iload_n C (jd D_Tx_at 8 rfl) rfl 1 rfl ?_
      refine jv_bald C 1 rfl (js_vin c1 c9 hl hN) (jd D_Tx_at 9 rfl) ?_
      refine jv_sipush (v := 255) C (jd D_Tx_at 10 rfl) (by decide) ?_
      refine jv_iand C (jd D_Tx_at 11 rfl) ?_
      refine jv_goto (tgt := 26) C (jd D_Tx_at 12 rfl) (by decide) ?_
      exact jv_iret C hr () (js_at_in ht c1 c9 hl hN) rfl [0, 1] rfl rfl (Nat.le_of_ble_eq_true rfl) (Nat.le_of_ble_eq_true rfl) (jd D_Tx_at 14 rfl)
