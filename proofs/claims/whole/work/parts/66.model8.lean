set_option maxHeartbeats 4000000 in
set_option maxRecDepth 100000 in
/-- thrown() -/
theorem c_Md_thrown {l : Launch} {D : va_G} {dA : Nat → ClassId} {zz : (Nat → Nat) × (Nat → Nat)} (o : Nat) (Q : Nat → Nat) (K : Nat → Int32) (vt : Value)  : jv_M l D dA zz y_Md_thrown b_Md_thrown 1 (some (FieldType.int)) 1 [.ref o] [(o, .inr (7, [.ref (Q 0), .int (K 1), .ref (Q 2), .int (K 3), .int (K 4), .int (K 5), vt, .int (K 7), .int (K 8), .int (K 9), .ref (Q 10), .int (K 11), .int (K 12), .ref (Q 13), .ref (Q 14), .ref (Q 15), .ref (Q 16), .ref (Q 17)]))] (jv_pi fun r (_ : Unit) => r = K 4) (fun _ => [(o, .inr (7, [.ref (Q 0), .int (K 1), .ref (Q 2), .int (K 3), .int (K 4), .int (K 5), vt, .int (K 7), .int (K 8), .int (K 9), .ref (Q 10), .int (K 11), .int (K 12), .ref (Q 13), .ref (Q 14), .ref (Q 15), .ref (Q 16), .ref (Q 17)]))]) 0 0 := by
  refine jv_M.of [(0, .ref o)] (by decide) (Nat.le_of_ble_eq_true rfl) rfl ?_
  intro pR eR sR mR belowR methR cR AR C hr hin
  refine jv_aload_n C (jd D_Md_thrown 0 rfl) rfl 0 rfl ?_
  refine jv_get C fl_Md_98 0 rfl rfl (jd D_Md_thrown 1 rfl) ?_
  exact jv_iret C hr () (rfl) rfl [0] rfl rfl (Nat.le_of_ble_eq_true rfl) (Nat.le_of_ble_eq_true rfl) (jd D_Md_thrown 2 rfl)

set_option maxHeartbeats 4000000 in
set_option maxRecDepth 100000 in
/-- good -/
theorem c_Md_good_1 {l : Launch} {D : va_G} {dA : Nat → ClassId} {zz : (Nat → Nat) × (Nat → Nat)} (o : Nat) (Q : Nat → Nat) (K : Nat → Int32) (vt : Value) (w : Int32)  : jv_M l D dA zz y_Md_good b_Md_good 3 (some (FieldType.boolean)) 1 [.ref o, .int 1, .int w] [(o, .inr (7, [.ref (Q 0), .int (K 1), .ref (Q 2), .int (K 3), .int (K 4), .int (K 5), vt, .int (K 7), .int (K 8), .int (K 9), .ref (Q 10), .int (K 11), .int (K 12), .ref (Q 13), .ref (Q 14), .ref (Q 15), .ref (Q 16), .ref (Q 17)]))] (jv_pi fun r (_ : Unit) => r = 1) (fun _ => [(o, .inr (7, [.ref (Q 0), .int (K 1), .ref (Q 2), .int (K 3), .int 0, .int (K 5), vt, .int (K 7), .int (K 8), .int (K 9), .ref (Q 10), .int (K 11), .int (K 12), .ref (Q 13), .ref (Q 14), .ref (Q 15), .ref (Q 16), .ref (Q 17)]))]) 0 0 := by
  refine jv_M.of [(0, .ref o), (1, .int 1), (2, .int w)] (by decide) (Nat.le_of_ble_eq_true rfl) rfl ?_
  intro pR eR sR mR belowR methR cR AR C hr hin
  refine jv_aload_n C (jd D_Md_good 0 rfl) rfl 0 rfl ?_
  refine jv_iload_n C (jd D_Md_good 1 rfl) rfl 1 rfl ?_
  refine jv_if_eq (tgt := 9) C (jd D_Md_good 2 rfl) (by decide) (fun c2 => absurd c2 (by decide)) (fun c2 => ?_)
  refine jv_iconst (v := 0) C (jd D_Md_good 3 rfl) (by decide) ?_
  refine jv_goto (tgt := 10) C (jd D_Md_good 4 rfl) (by decide) ?_
  refine jv_put C fl_Md_98 Y_Md rfl 0 [(o, .inr (7, [.ref (Q 0), .int (K 1), .ref (Q 2), .int (K 3), .int 0, .int (K 5), vt, .int (K 7), .int (K 8), .int (K 9), .ref (Q 10), .int (K 11), .int (K 12), .ref (Q 13), .ref (Q 14), .ref (Q 15), .ref (Q 16), .ref (Q 17)]))] rfl rfl rfl (Nat.le_of_ble_eq_true rfl) rfl rfl (jd D_Md_good 6 rfl) ?_
  refine jv_iload_n C (jd D_Md_good 7 rfl) rfl 1 rfl ?_
  exact jv_iret C hr () (rfl) rfl [0] rfl rfl (Nat.le_of_ble_eq_true rfl) (Nat.le_of_ble_eq_true rfl) (jd D_Md_good 8 rfl)

set_option maxHeartbeats 4000000 in
set_option maxRecDepth 100000 in
/-- good -/
theorem c_Md_good_0 {l : Launch} {D : va_G} {dA : Nat → ClassId} {zz : (Nat → Nat) × (Nat → Nat)} (o : Nat) (Q : Nat → Nat) (K : Nat → Int32) (vt : Value) (w : Int32)  : jv_M l D dA zz y_Md_good b_Md_good 3 (some (FieldType.boolean)) 1 [.ref o, .int 0, .int w] [(o, .inr (7, [.ref (Q 0), .int (K 1), .ref (Q 2), .int (K 3), .int (K 4), .int (K 5), vt, .int (K 7), .int (K 8), .int (K 9), .ref (Q 10), .int (K 11), .int (K 12), .ref (Q 13), .ref (Q 14), .ref (Q 15), .ref (Q 16), .ref (Q 17)]))] (jv_pi fun r (_ : Unit) => r = 0) (fun _ => [(o, .inr (7, [.ref (Q 0), .int (K 1), .ref (Q 2), .int (K 3), .int w, .int (K 5), vt, .int (K 7), .int (K 8), .int (K 9), .ref (Q 10), .int (K 11), .int (K 12), .ref (Q 13), .ref (Q 14), .ref (Q 15), .ref (Q 16), .ref (Q 17)]))]) 0 0 := by
  refine jv_M.of [(0, .ref o), (1, .int 0), (2, .int w)] (by decide) (Nat.le_of_ble_eq_true rfl) rfl ?_
  intro pR eR sR mR belowR methR cR AR C hr hin
  refine jv_aload_n C (jd D_Md_good 0 rfl) rfl 0 rfl ?_
  refine jv_iload_n C (jd D_Md_good 1 rfl) rfl 1 rfl ?_
  refine jv_if_eq (tgt := 9) C (jd D_Md_good 2 rfl) (by decide) (fun c2 => ?_) (fun c2 => absurd (rfl) c2)
  refine jv_iload_n C (jd D_Md_good 5 rfl) rfl 2 rfl ?_
  refine jv_put C fl_Md_98 Y_Md rfl 0 [(o, .inr (7, [.ref (Q 0), .int (K 1), .ref (Q 2), .int (K 3), .int w, .int (K 5), vt, .int (K 7), .int (K 8), .int (K 9), .ref (Q 10), .int (K 11), .int (K 12), .ref (Q 13), .ref (Q 14), .ref (Q 15), .ref (Q 16), .ref (Q 17)]))] rfl rfl rfl (Nat.le_of_ble_eq_true rfl) rfl rfl (jd D_Md_good 6 rfl) ?_
  refine jv_iload_n C (jd D_Md_good 7 rfl) rfl 1 rfl ?_
  exact jv_iret C hr () (rfl) rfl [0] rfl rfl (Nat.le_of_ble_eq_true rfl) (Nat.le_of_ble_eq_true rfl) (jd D_Md_good 8 rfl)

set_option maxHeartbeats 4000000 in
set_option maxRecDepth 100000 in
/-- four(v) -/
theorem c_Md_four {l : Launch} {D : va_G} {dA : Nat → ClassId} {zz : (Nat → Nat) × (Nat → Nat)} (o : Nat) (Q : Nat → Nat) (K : Nat → Int32) (vt : Value) (f : Nat → Int32) (t : List Nat) (v : Int32) (ht : js_tx f t) (hl : t.length + 4 ≤ 4096) : jv_M l D dA zz y_Md_four b_Md_four 3 none 1 [.ref o, .int v] [(o, .inr (7, [.ref (Q 0), .int (nI t.length), .ref (Q 2), .int (K 3), .int (K 4), .int (K 5), vt, .int (K 7), .int (K 8), .int (K 9), .ref (Q 10), .int (K 11), .int (K 12), .ref (Q 13), .ref (Q 14), .ref (Q 15), .ref (Q 16), .ref (Q 17)])), ((Q 0), .inl (dA 0, 4096, .inl f))] (jv_pv fun g => js_tx g (t ++ js_i4 v)) (fun g => [(o, .inr (7, [.ref (Q 0), .int (nI (t ++ js_i4 v).length), .ref (Q 2), .int (K 3), .int (K 4), .int (K 5), vt, .int (K 7), .int (K 8), .int (K 9), .ref (Q 10), .int (K 11), .int (K 12), .ref (Q 13), .ref (Q 14), .ref (Q 15), .ref (Q 16), .ref (Q 17)])), ((Q 0), .inl (dA 0, 4096, .inl g))]) 0 0 := by
  refine jv_M.of [(0, .ref o), (1, .int v)] (by decide) (Nat.le_of_ble_eq_true rfl) rfl ?_
  intro pR eR sR mR belowR methR cR AR C hr hin
  refine jv_bipush (v := 24) C (jd D_Md_four 0 rfl) (by decide) ?_
  refine jv_istore_n C [(2, .int 24), (0, .ref o), (1, .int v)] (jd D_Md_four 1 rfl) rfl (by decide) rfl ?_
  refine jv_iload_n C (jd D_Md_four 2 rfl) rfl 0 rfl ?_
  refine jv_if_lt (tgt := 36) C (jd D_Md_four 3 rfl) (by decide) (fun c4 => absurd c4 (by decide)) (fun c4 => ?_)
  refine jv_aload_n C (jd D_Md_four 4 rfl) rfl 1 rfl ?_
  refine jv_get C fl_Md_7 0 rfl rfl (jd D_Md_four 5 rfl) ?_
  refine jv_aload_n C (jd D_Md_four 6 rfl) rfl 1 rfl ?_
  refine jv_get C fl_Md_101 0 rfl rfl (jd D_Md_four 7 rfl) ?_
  refine jv_iload_n C (jd D_Md_four 8 rfl) rfl 2 rfl ?_
  refine jv_iload_n C (jd D_Md_four 9 rfl) rfl 0 rfl ?_
  refine jv_ishr C (jd D_Md_four 10 rfl) ?_
  refine jv_ati (y := v >>> ((24 : Int32) &&& 31)) (rfl) ?_
  refine jv_i2b C (jd D_Md_four 11 rfl) ?_
  refine jv_bast C 1 [(o, .inr (7, [.ref (Q 0), .int (nI t.length), .ref (Q 2), .int (K 3), .int (K 4), .int (K 5), vt, .int (K 7), .int (K 8), .int (K 9), .ref (Q 10), .int (K 11), .int (K 12), .ref (Q 13), .ref (Q 14), .ref (Q 15), .ref (Q 16), .ref (Q 17)])), ((Q 0), .inl (dA 0, 4096, .inl (upd f (nI t.length).toNatClampNeg ((v >>> ((24 : Int32) &&& 31)).toInt8.toInt32).toInt8.toInt32)))] rfl rfl (vp_in_nI (by first | omega | (simp only [List.length_append, List.length_cons, List.length_nil]; omega)) (by decide)) (jd D_Md_four 12 rfl) ?_
  refine jv_weq (ws' := [(o, .inr (7, [.ref (Q 0), .int (nI t.length), .ref (Q 2), .int (K 3), .int (K 4), .int (K 5), vt, .int (K 7), .int (K 8), .int (K 9), .ref (Q 10), .int (K 11), .int (K 12), .ref (Q 13), .ref (Q 14), .ref (Q 15), .ref (Q 16), .ref (Q 17)])), ((Q 0), .inl (dA 0, 4096, .inl (upd f t.length (v >>> ((24 : Int32) &&& 31)).toInt8.toInt32)))]) (by rw [nI_clamp (by first | omega | (simp only [List.length_append, List.length_cons, List.length_nil]; omega)), js_b8]) ?_
  refine jv_aload_n C (jd D_Md_four 13 rfl) rfl 1 rfl ?_
  refine jv_dup C (jd D_Md_four 14 rfl) rfl ?_
  refine jv_get C fl_Md_101 0 rfl rfl (jd D_Md_four 15 rfl) ?_
  refine jv_iconst (v := 1) C (jd D_Md_four 16 rfl) (by decide) ?_
  refine jv_iadd C (jd D_Md_four 17 rfl) ?_
  refine jv_ati (y := nI (t ++ [(v >>> ((24 : Int32) &&& 31)).toBitVec.toNat % 256]).length) (js_len1 _ _) ?_
  refine jv_put C fl_Md_101 Y_Md rfl 0 [(o, .inr (7, [.ref (Q 0), .int (nI (t ++ [(v >>> ((24 : Int32) &&& 31)).toBitVec.toNat % 256]).length), .ref (Q 2), .int (K 3), .int (K 4), .int (K 5), vt, .int (K 7), .int (K 8), .int (K 9), .ref (Q 10), .int (K 11), .int (K 12), .ref (Q 13), .ref (Q 14), .ref (Q 15), .ref (Q 16), .ref (Q 17)])), ((Q 0), .inl (dA 0, 4096, .inl (upd f t.length (v >>> ((24 : Int32) &&& 31)).toInt8.toInt32)))] rfl rfl rfl (Nat.le_of_ble_eq_true rfl) rfl rfl (jd D_Md_four 18 rfl) ?_
  refine jv_iinc (v := 16) C [(2, .int 16), (0, .ref o), (1, .int v)] (jd D_Md_four 19 rfl) 0 rfl (by decide) (by decide) rfl ?_
  refine jv_goto (tgt := 3) C (jd D_Md_four 20 rfl) (by decide) ?_
  refine jv_iload_n C (jd D_Md_four 2 rfl) rfl 0 rfl ?_
  refine jv_if_lt (tgt := 36) C (jd D_Md_four 3 rfl) (by decide) (fun c4 => absurd c4 (by decide)) (fun c4 => ?_)
  refine jv_aload_n C (jd D_Md_four 4 rfl) rfl 1 rfl ?_
  refine jv_get C fl_Md_7 0 rfl rfl (jd D_Md_four 5 rfl) ?_
  refine jv_aload_n C (jd D_Md_four 6 rfl) rfl 1 rfl ?_
  refine jv_get C fl_Md_101 0 rfl rfl (jd D_Md_four 7 rfl) ?_
  refine jv_iload_n C (jd D_Md_four 8 rfl) rfl 2 rfl ?_
  refine jv_iload_n C (jd D_Md_four 9 rfl) rfl 0 rfl ?_
  refine jv_ishr C (jd D_Md_four 10 rfl) ?_
  refine jv_ati (y := v >>> ((16 : Int32) &&& 31)) (rfl) ?_
  refine jv_i2b C (jd D_Md_four 11 rfl) ?_
  refine jv_bast C 1 [(o, .inr (7, [.ref (Q 0), .int (nI (t ++ [(v >>> ((24 : Int32) &&& 31)).toBitVec.toNat % 256]).length), .ref (Q 2), .int (K 3), .int (K 4), .int (K 5), vt, .int (K 7), .int (K 8), .int (K 9), .ref (Q 10), .int (K 11), .int (K 12), .ref (Q 13), .ref (Q 14), .ref (Q 15), .ref (Q 16), .ref (Q 17)])), ((Q 0), .inl (dA 0, 4096, .inl (upd (upd f t.length (v >>> ((24 : Int32) &&& 31)).toInt8.toInt32) (nI (t ++ [(v >>> ((24 : Int32) &&& 31)).toBitVec.toNat % 256]).length).toNatClampNeg ((v >>> ((16 : Int32) &&& 31)).toInt8.toInt32).toInt8.toInt32)))] rfl rfl (vp_in_nI (by first | omega | (simp only [List.length_append, List.length_cons, List.length_nil]; omega)) (by decide)) (jd D_Md_four 12 rfl) ?_
  refine jv_weq (ws' := [(o, .inr (7, [.ref (Q 0), .int (nI (t ++ [(v >>> ((24 : Int32) &&& 31)).toBitVec.toNat % 256]).length), .ref (Q 2), .int (K 3), .int (K 4), .int (K 5), vt, .int (K 7), .int (K 8), .int (K 9), .ref (Q 10), .int (K 11), .int (K 12), .ref (Q 13), .ref (Q 14), .ref (Q 15), .ref (Q 16), .ref (Q 17)])), ((Q 0), .inl (dA 0, 4096, .inl (upd (upd f t.length (v >>> ((24 : Int32) &&& 31)).toInt8.toInt32) (t ++ [(v >>> ((24 : Int32) &&& 31)).toBitVec.toNat % 256]).length (v >>> ((16 : Int32) &&& 31)).toInt8.toInt32)))]) (by rw [nI_clamp (by first | omega | (simp only [List.length_append, List.length_cons, List.length_nil]; omega)), js_b8]) ?_
  refine jv_aload_n C (jd D_Md_four 13 rfl) rfl 1 rfl ?_
  refine jv_dup C (jd D_Md_four 14 rfl) rfl ?_
  refine jv_get C fl_Md_101 0 rfl rfl (jd D_Md_four 15 rfl) ?_
  refine jv_iconst (v := 1) C (jd D_Md_four 16 rfl) (by decide) ?_
  refine jv_iadd C (jd D_Md_four 17 rfl) ?_
  refine jv_ati (y := nI ((t ++ [(v >>> ((24 : Int32) &&& 31)).toBitVec.toNat % 256]) ++ [(v >>> ((16 : Int32) &&& 31)).toBitVec.toNat % 256]).length) (js_len1 _ _) ?_
  refine jv_put C fl_Md_101 Y_Md rfl 0 [(o, .inr (7, [.ref (Q 0), .int (nI ((t ++ [(v >>> ((24 : Int32) &&& 31)).toBitVec.toNat % 256]) ++ [(v >>> ((16 : Int32) &&& 31)).toBitVec.toNat % 256]).length), .ref (Q 2), .int (K 3), .int (K 4), .int (K 5), vt, .int (K 7), .int (K 8), .int (K 9), .ref (Q 10), .int (K 11), .int (K 12), .ref (Q 13), .ref (Q 14), .ref (Q 15), .ref (Q 16), .ref (Q 17)])), ((Q 0), .inl (dA 0, 4096, .inl (upd (upd f t.length (v >>> ((24 : Int32) &&& 31)).toInt8.toInt32) (t ++ [(v >>> ((24 : Int32) &&& 31)).toBitVec.toNat % 256]).length (v >>> ((16 : Int32) &&& 31)).toInt8.toInt32)))] rfl rfl rfl (Nat.le_of_ble_eq_true rfl) rfl rfl (jd D_Md_four 18 rfl) ?_
  refine jv_iinc (v := 8) C [(2, .int 8), (0, .ref o), (1, .int v)] (jd D_Md_four 19 rfl) 0 rfl (by decide) (by decide) rfl ?_
  refine jv_goto (tgt := 3) C (jd D_Md_four 20 rfl) (by decide) ?_
  refine jv_iload_n C (jd D_Md_four 2 rfl) rfl 0 rfl ?_
  refine jv_if_lt (tgt := 36) C (jd D_Md_four 3 rfl) (by decide) (fun c4 => absurd c4 (by decide)) (fun c4 => ?_)
  refine jv_aload_n C (jd D_Md_four 4 rfl) rfl 1 rfl ?_
  refine jv_get C fl_Md_7 0 rfl rfl (jd D_Md_four 5 rfl) ?_
  refine jv_aload_n C (jd D_Md_four 6 rfl) rfl 1 rfl ?_
  refine jv_get C fl_Md_101 0 rfl rfl (jd D_Md_four 7 rfl) ?_
  refine jv_iload_n C (jd D_Md_four 8 rfl) rfl 2 rfl ?_
  refine jv_iload_n C (jd D_Md_four 9 rfl) rfl 0 rfl ?_
  refine jv_ishr C (jd D_Md_four 10 rfl) ?_
  refine jv_ati (y := v >>> ((8 : Int32) &&& 31)) (rfl) ?_
  refine jv_i2b C (jd D_Md_four 11 rfl) ?_
  refine jv_bast C 1 [(o, .inr (7, [.ref (Q 0), .int (nI ((t ++ [(v >>> ((24 : Int32) &&& 31)).toBitVec.toNat % 256]) ++ [(v >>> ((16 : Int32) &&& 31)).toBitVec.toNat % 256]).length), .ref (Q 2), .int (K 3), .int (K 4), .int (K 5), vt, .int (K 7), .int (K 8), .int (K 9), .ref (Q 10), .int (K 11), .int (K 12), .ref (Q 13), .ref (Q 14), .ref (Q 15), .ref (Q 16), .ref (Q 17)])), ((Q 0), .inl (dA 0, 4096, .inl (upd (upd (upd f t.length (v >>> ((24 : Int32) &&& 31)).toInt8.toInt32) (t ++ [(v >>> ((24 : Int32) &&& 31)).toBitVec.toNat % 256]).length (v >>> ((16 : Int32) &&& 31)).toInt8.toInt32) (nI ((t ++ [(v >>> ((24 : Int32) &&& 31)).toBitVec.toNat % 256]) ++ [(v >>> ((16 : Int32) &&& 31)).toBitVec.toNat % 256]).length).toNatClampNeg ((v >>> ((8 : Int32) &&& 31)).toInt8.toInt32).toInt8.toInt32)))] rfl rfl (vp_in_nI (by first | omega | (simp only [List.length_append, List.length_cons, List.length_nil]; omega)) (by decide)) (jd D_Md_four 12 rfl) ?_
  refine jv_weq (ws' := [(o, .inr (7, [.ref (Q 0), .int (nI ((t ++ [(v >>> ((24 : Int32) &&& 31)).toBitVec.toNat % 256]) ++ [(v >>> ((16 : Int32) &&& 31)).toBitVec.toNat % 256]).length), .ref (Q 2), .int (K 3), .int (K 4), .int (K 5), vt, .int (K 7), .int (K 8), .int (K 9), .ref (Q 10), .int (K 11), .int (K 12), .ref (Q 13), .ref (Q 14), .ref (Q 15), .ref (Q 16), .ref (Q 17)])), ((Q 0), .inl (dA 0, 4096, .inl (upd (upd (upd f t.length (v >>> ((24 : Int32) &&& 31)).toInt8.toInt32) (t ++ [(v >>> ((24 : Int32) &&& 31)).toBitVec.toNat % 256]).length (v >>> ((16 : Int32) &&& 31)).toInt8.toInt32) ((t ++ [(v >>> ((24 : Int32) &&& 31)).toBitVec.toNat % 256]) ++ [(v >>> ((16 : Int32) &&& 31)).toBitVec.toNat % 256]).length (v >>> ((8 : Int32) &&& 31)).toInt8.toInt32)))]) (by rw [nI_clamp (by first | omega | (simp only [List.length_append, List.length_cons, List.length_nil]; omega)), js_b8]) ?_
  refine jv_aload_n C (jd D_Md_four 13 rfl) rfl 1 rfl ?_
  refine jv_dup C (jd D_Md_four 14 rfl) rfl ?_
  refine jv_get C fl_Md_101 0 rfl rfl (jd D_Md_four 15 rfl) ?_
  refine jv_iconst (v := 1) C (jd D_Md_four 16 rfl) (by decide) ?_
  refine jv_iadd C (jd D_Md_four 17 rfl) ?_
  refine jv_ati (y := nI (((t ++ [(v >>> ((24 : Int32) &&& 31)).toBitVec.toNat % 256]) ++ [(v >>> ((16 : Int32) &&& 31)).toBitVec.toNat % 256]) ++ [(v >>> ((8 : Int32) &&& 31)).toBitVec.toNat % 256]).length) (js_len1 _ _) ?_
  refine jv_put C fl_Md_101 Y_Md rfl 0 [(o, .inr (7, [.ref (Q 0), .int (nI (((t ++ [(v >>> ((24 : Int32) &&& 31)).toBitVec.toNat % 256]) ++ [(v >>> ((16 : Int32) &&& 31)).toBitVec.toNat % 256]) ++ [(v >>> ((8 : Int32) &&& 31)).toBitVec.toNat % 256]).length), .ref (Q 2), .int (K 3), .int (K 4), .int (K 5), vt, .int (K 7), .int (K 8), .int (K 9), .ref (Q 10), .int (K 11), .int (K 12), .ref (Q 13), .ref (Q 14), .ref (Q 15), .ref (Q 16), .ref (Q 17)])), ((Q 0), .inl (dA 0, 4096, .inl (upd (upd (upd f t.length (v >>> ((24 : Int32) &&& 31)).toInt8.toInt32) (t ++ [(v >>> ((24 : Int32) &&& 31)).toBitVec.toNat % 256]).length (v >>> ((16 : Int32) &&& 31)).toInt8.toInt32) ((t ++ [(v >>> ((24 : Int32) &&& 31)).toBitVec.toNat % 256]) ++ [(v >>> ((16 : Int32) &&& 31)).toBitVec.toNat % 256]).length (v >>> ((8 : Int32) &&& 31)).toInt8.toInt32)))] rfl rfl rfl (Nat.le_of_ble_eq_true rfl) rfl rfl (jd D_Md_four 18 rfl) ?_
  refine jv_iinc (v := 0) C [(2, .int 0), (0, .ref o), (1, .int v)] (jd D_Md_four 19 rfl) 0 rfl (by decide) (by decide) rfl ?_
  refine jv_goto (tgt := 3) C (jd D_Md_four 20 rfl) (by decide) ?_
  refine jv_iload_n C (jd D_Md_four 2 rfl) rfl 0 rfl ?_
  refine jv_if_lt (tgt := 36) C (jd D_Md_four 3 rfl) (by decide) (fun c4 => absurd c4 (by decide)) (fun c4 => ?_)
  refine jv_aload_n C (jd D_Md_four 4 rfl) rfl 1 rfl ?_
  refine jv_get C fl_Md_7 0 rfl rfl (jd D_Md_four 5 rfl) ?_
  refine jv_aload_n C (jd D_Md_four 6 rfl) rfl 1 rfl ?_
  refine jv_get C fl_Md_101 0 rfl rfl (jd D_Md_four 7 rfl) ?_
  refine jv_iload_n C (jd D_Md_four 8 rfl) rfl 2 rfl ?_
  refine jv_iload_n C (jd D_Md_four 9 rfl) rfl 0 rfl ?_
  refine jv_ishr C (jd D_Md_four 10 rfl) ?_
  refine jv_ati (y := v >>> ((0 : Int32) &&& 31)) (rfl) ?_
  refine jv_i2b C (jd D_Md_four 11 rfl) ?_
  refine jv_bast C 1 [(o, .inr (7, [.ref (Q 0), .int (nI (((t ++ [(v >>> ((24 : Int32) &&& 31)).toBitVec.toNat % 256]) ++ [(v >>> ((16 : Int32) &&& 31)).toBitVec.toNat % 256]) ++ [(v >>> ((8 : Int32) &&& 31)).toBitVec.toNat % 256]).length), .ref (Q 2), .int (K 3), .int (K 4), .int (K 5), vt, .int (K 7), .int (K 8), .int (K 9), .ref (Q 10), .int (K 11), .int (K 12), .ref (Q 13), .ref (Q 14), .ref (Q 15), .ref (Q 16), .ref (Q 17)])), ((Q 0), .inl (dA 0, 4096, .inl (upd (upd (upd (upd f t.length (v >>> ((24 : Int32) &&& 31)).toInt8.toInt32) (t ++ [(v >>> ((24 : Int32) &&& 31)).toBitVec.toNat % 256]).length (v >>> ((16 : Int32) &&& 31)).toInt8.toInt32) ((t ++ [(v >>> ((24 : Int32) &&& 31)).toBitVec.toNat % 256]) ++ [(v >>> ((16 : Int32) &&& 31)).toBitVec.toNat % 256]).length (v >>> ((8 : Int32) &&& 31)).toInt8.toInt32) (nI (((t ++ [(v >>> ((24 : Int32) &&& 31)).toBitVec.toNat % 256]) ++ [(v >>> ((16 : Int32) &&& 31)).toBitVec.toNat % 256]) ++ [(v >>> ((8 : Int32) &&& 31)).toBitVec.toNat % 256]).length).toNatClampNeg ((v >>> ((0 : Int32) &&& 31)).toInt8.toInt32).toInt8.toInt32)))] rfl rfl (vp_in_nI (by first | omega | (simp only [List.length_append, List.length_cons, List.length_nil]; omega)) (by decide)) (jd D_Md_four 12 rfl) ?_
  refine jv_weq (ws' := [(o, .inr (7, [.ref (Q 0), .int (nI (((t ++ [(v >>> ((24 : Int32) &&& 31)).toBitVec.toNat % 256]) ++ [(v >>> ((16 : Int32) &&& 31)).toBitVec.toNat % 256]) ++ [(v >>> ((8 : Int32) &&& 31)).toBitVec.toNat % 256]).length), .ref (Q 2), .int (K 3), .int (K 4), .int (K 5), vt, .int (K 7), .int (K 8), .int (K 9), .ref (Q 10), .int (K 11), .int (K 12), .ref (Q 13), .ref (Q 14), .ref (Q 15), .ref (Q 16), .ref (Q 17)])), ((Q 0), .inl (dA 0, 4096, .inl (upd (upd (upd (upd f t.length (v >>> ((24 : Int32) &&& 31)).toInt8.toInt32) (t ++ [(v >>> ((24 : Int32) &&& 31)).toBitVec.toNat % 256]).length (v >>> ((16 : Int32) &&& 31)).toInt8.toInt32) ((t ++ [(v >>> ((24 : Int32) &&& 31)).toBitVec.toNat % 256]) ++ [(v >>> ((16 : Int32) &&& 31)).toBitVec.toNat % 256]).length (v >>> ((8 : Int32) &&& 31)).toInt8.toInt32) (((t ++ [(v >>> ((24 : Int32) &&& 31)).toBitVec.toNat % 256]) ++ [(v >>> ((16 : Int32) &&& 31)).toBitVec.toNat % 256]) ++ [(v >>> ((8 : Int32) &&& 31)).toBitVec.toNat % 256]).length (v >>> ((0 : Int32) &&& 31)).toInt8.toInt32)))]) (by rw [nI_clamp (by first | omega | (simp only [List.length_append, List.length_cons, List.length_nil]; omega)), js_b8]) ?_
  refine jv_aload_n C (jd D_Md_four 13 rfl) rfl 1 rfl ?_
  refine jv_dup C (jd D_Md_four 14 rfl) rfl ?_
  refine jv_get C fl_Md_101 0 rfl rfl (jd D_Md_four 15 rfl) ?_
  refine jv_iconst (v := 1) C (jd D_Md_four 16 rfl) (by decide) ?_
  refine jv_iadd C (jd D_Md_four 17 rfl) ?_
  refine jv_ati (y := nI ((((t ++ [(v >>> ((24 : Int32) &&& 31)).toBitVec.toNat % 256]) ++ [(v >>> ((16 : Int32) &&& 31)).toBitVec.toNat % 256]) ++ [(v >>> ((8 : Int32) &&& 31)).toBitVec.toNat % 256]) ++ [(v >>> ((0 : Int32) &&& 31)).toBitVec.toNat % 256]).length) (js_len1 _ _) ?_
  refine jv_put C fl_Md_101 Y_Md rfl 0 [(o, .inr (7, [.ref (Q 0), .int (nI ((((t ++ [(v >>> ((24 : Int32) &&& 31)).toBitVec.toNat % 256]) ++ [(v >>> ((16 : Int32) &&& 31)).toBitVec.toNat % 256]) ++ [(v >>> ((8 : Int32) &&& 31)).toBitVec.toNat % 256]) ++ [(v >>> ((0 : Int32) &&& 31)).toBitVec.toNat % 256]).length), .ref (Q 2), .int (K 3), .int (K 4), .int (K 5), vt, .int (K 7), .int (K 8), .int (K 9), .ref (Q 10), .int (K 11), .int (K 12), .ref (Q 13), .ref (Q 14), .ref (Q 15), .ref (Q 16), .ref (Q 17)])), ((Q 0), .inl (dA 0, 4096, .inl (upd (upd (upd (upd f t.length (v >>> ((24 : Int32) &&& 31)).toInt8.toInt32) (t ++ [(v >>> ((24 : Int32) &&& 31)).toBitVec.toNat % 256]).length (v >>> ((16 : Int32) &&& 31)).toInt8.toInt32) ((t ++ [(v >>> ((24 : Int32) &&& 31)).toBitVec.toNat % 256]) ++ [(v >>> ((16 : Int32) &&& 31)).toBitVec.toNat % 256]).length (v >>> ((8 : Int32) &&& 31)).toInt8.toInt32) (((t ++ [(v >>> ((24 : Int32) &&& 31)).toBitVec.toNat % 256]) ++ [(v >>> ((16 : Int32) &&& 31)).toBitVec.toNat % 256]) ++ [(v >>> ((8 : Int32) &&& 31)).toBitVec.toNat % 256]).length (v >>> ((0 : Int32) &&& 31)).toInt8.toInt32)))] rfl rfl rfl (Nat.le_of_ble_eq_true rfl) rfl rfl (jd D_Md_four 18 rfl) ?_
  refine jv_iinc (v := (-8)) C [(2, .int (-8)), (0, .ref o), (1, .int v)] (jd D_Md_four 19 rfl) 0 rfl (by decide) (by decide) rfl ?_
  refine jv_goto (tgt := 3) C (jd D_Md_four 20 rfl) (by decide) ?_
  refine jv_iload_n C (jd D_Md_four 2 rfl) rfl 0 rfl ?_
  refine jv_if_lt (tgt := 36) C (jd D_Md_four 3 rfl) (by decide) (fun c4 => ?_) (fun c4 => absurd (by decide) c4)
  have e4 : ((((t ++ [(v >>> ((24 : Int32) &&& 31)).toBitVec.toNat % 256]) ++ [(v >>> ((16 : Int32) &&& 31)).toBitVec.toNat % 256]) ++ [(v >>> ((8 : Int32) &&& 31)).toBitVec.toNat % 256]) ++ [(v >>> ((0 : Int32) &&& 31)).toBitVec.toNat % 256]) = t ++ js_i4 v := by
    rw [js_sar v _ 24 (by decide) (Or.inl rfl), js_sar v _ 16 (by decide) (Or.inr (Or.inl rfl)), js_sar v _ 8 (by decide) (Or.inr (Or.inr (Or.inl rfl))), js_sar v _ 0 (by decide) (Or.inr (Or.inr (Or.inr rfl)))]
    simp [js_i4]
  have h4 := js_tx_push (x := v >>> ((0 : Int32) &&& 31)) (js_tx_push (x := v >>> ((8 : Int32) &&& 31)) (js_tx_push (x := v >>> ((16 : Int32) &&& 31)) (js_tx_push (x := v >>> ((24 : Int32) &&& 31)) ht)))
  rw [e4] at h4
  refine jv_weq (ws' := [(o, .inr (7, [.ref (Q 0), .int (nI (t ++ js_i4 v).length), .ref (Q 2), .int (K 3), .int (K 4), .int (K 5), vt, .int (K 7), .int (K 8), .int (K 9), .ref (Q 10), .int (K 11), .int (K 12), .ref (Q 13), .ref (Q 14), .ref (Q 15), .ref (Q 16), .ref (Q 17)])), ((Q 0), .inl (dA 0, 4096, .inl (upd (upd (upd (upd f t.length (v >>> ((24 : Int32) &&& 31)).toInt8.toInt32) (t ++ [(v >>> ((24 : Int32) &&& 31)).toBitVec.toNat % 256]).length (v >>> ((16 : Int32) &&& 31)).toInt8.toInt32) ((t ++ [(v >>> ((24 : Int32) &&& 31)).toBitVec.toNat % 256]) ++ [(v >>> ((16 : Int32) &&& 31)).toBitVec.toNat % 256]).length (v >>> ((8 : Int32) &&& 31)).toInt8.toInt32) (((t ++ [(v >>> ((24 : Int32) &&& 31)).toBitVec.toNat % 256]) ++ [(v >>> ((16 : Int32) &&& 31)).toBitVec.toNat % 256]) ++ [(v >>> ((8 : Int32) &&& 31)).toBitVec.toNat % 256]).length (v >>> ((0 : Int32) &&& 31)).toInt8.toInt32)))]) (by rw [e4]) ?_
  exact jv_vret C hr (upd (upd (upd (upd f t.length (v >>> ((24 : Int32) &&& 31)).toInt8.toInt32) (t ++ [(v >>> ((24 : Int32) &&& 31)).toBitVec.toNat % 256]).length (v >>> ((16 : Int32) &&& 31)).toInt8.toInt32) ((t ++ [(v >>> ((24 : Int32) &&& 31)).toBitVec.toNat % 256]) ++ [(v >>> ((16 : Int32) &&& 31)).toBitVec.toNat % 256]).length (v >>> ((8 : Int32) &&& 31)).toInt8.toInt32) (((t ++ [(v >>> ((24 : Int32) &&& 31)).toBitVec.toNat % 256]) ++ [(v >>> ((16 : Int32) &&& 31)).toBitVec.toNat % 256]) ++ [(v >>> ((8 : Int32) &&& 31)).toBitVec.toNat % 256]).length (v >>> ((0 : Int32) &&& 31)).toInt8.toInt32) (h4) [0, 1] rfl rfl (Nat.le_of_ble_eq_true rfl) (Nat.le_of_ble_eq_true rfl) (jd D_Md_four 21 rfl)

set_option maxHeartbeats 4000000 in
set_option maxRecDepth 100000 in
/-- feed -/
theorem c_Md_feed_ok {l : Launch} {D : va_G} {dA : Nat → ClassId} {zz : (Nat → Nat) × (Nat → Nat)} (o : Nat) (Q : Nat → Nat) (K : Nat → Int32) (vt : Value) (f : Nat → Int32) (t : List Nat) (a b c d e : Int32) (ht : js_tx f t) (hl : t.length + 20 ≤ 4096) : jv_M l D dA zz y_Md_feed b_Md_feed 6 (some (FieldType.int)) 2 [.ref o, .int a, .int b, .int c, .int d, .int e] [(o, .inr (7, [.ref (Q 0), .int (nI t.length), .ref (Q 2), .int (K 3), .int (K 4), .int (K 5), vt, .int (K 7), .int (K 8), .int (K 9), .ref (Q 10), .int (K 11), .int (K 12), .ref (Q 13), .ref (Q 14), .ref (Q 15), .ref (Q 16), .ref (Q 17)])), ((Q 0), .inl (dA 0, 4096, .inl f))] (jv_pi fun r g => r = nI (t ++ js_i4 a ++ js_i4 b ++ js_i4 c ++ js_i4 d ++ js_i4 e).length ∧ js_tx g (t ++ js_i4 a ++ js_i4 b ++ js_i4 c ++ js_i4 d ++ js_i4 e)) (fun g => [(o, .inr (7, [.ref (Q 0), .int (nI (t ++ js_i4 a ++ js_i4 b ++ js_i4 c ++ js_i4 d ++ js_i4 e).length), .ref (Q 2), .int (K 3), .int 0, .int (K 5), vt, .int (K 7), .int (K 8), .int (K 9), .ref (Q 10), .int (K 11), .int (K 12), .ref (Q 13), .ref (Q 14), .ref (Q 15), .ref (Q 16), .ref (Q 17)])), ((Q 0), .inl (dA 0, 4096, .inl g))]) 0 0 := by
  refine jv_M.of [(0, .ref o), (1, .int a), (2, .int b), (3, .int c), (4, .int d), (5, .int e)] (by decide) (Nat.le_of_ble_eq_true rfl) rfl ?_
  intro pR eR sR mR belowR methR cR AR C hr hin
  refine jv_aload_n C (jd D_Md_feed 0 rfl) rfl 0 rfl ?_
  refine jv_aload_n C (jd D_Md_feed 1 rfl) rfl 0 rfl ?_
  refine jv_get C fl_Md_101 0 rfl rfl (jd D_Md_feed 2 rfl) ?_
  refine jv_bipush (v := 20) C (jd D_Md_feed 3 rfl) (by decide) ?_
  refine jv_iadd C (jd D_Md_feed 4 rfl) ?_
  refine jv_ati (y := nI (t.length + 20)) (nI_add _ 20) ?_
  refine jv_sipush (v := 4096) C (jd D_Md_feed 5 rfl) (by decide) ?_
  refine jv_icmp_gt (tgt := 18) C (jd D_Md_feed 6 rfl) (by decide) (fun c11 => absurd c11 (nI_nlt (b := t.length + 20) (a := 4096) hl (by decide))) (fun c11 => ?_)
  refine jv_iconst (v := 1) C (jd D_Md_feed 7 rfl) (by decide) ?_
  refine jv_goto (tgt := 19) C (jd D_Md_feed 8 rfl) (by decide) ?_
  refine jv_iconst (v := 1) C (jd D_Md_feed 10 rfl) (by decide) ?_
  refine jv_callV (wr := [((Q 0), .inl (dA 0, 4096, .inl f))]) C cl_Md_104 (c_Md_good_1 o Q (js_rows [0, (nI t.length), 0, (K 3), (K 4), (K 5), 0, (K 7), (K 8), (K 9), 0, (K 11), (K 12), 0, 0, 0, 0, 0] 0) vt 1) [0] [1] rfl rfl rfl rfl (by decide) rfl rfl 0 rfl ⟨Nat.le_of_ble_eq_true rfl, Nat.le_of_ble_eq_true rfl⟩ ⟨Nat.le_of_ble_eq_true rfl, Nat.le_of_ble_eq_true rfl⟩ rfl rfl (Nat.le_of_ble_eq_true rfl) (jd D_Md_feed 11 rfl) (fun v1 _ kg9 => ?_)
  obtain ⟨rg9, rfl, kg9⟩ := kg9
  refine jv_fix [1, 0] [(o, .inr (7, [.ref (Q 0), .int (nI t.length), .ref (Q 2), .int (K 3), .int 0, .int (K 5), vt, .int (K 7), .int (K 8), .int (K 9), .ref (Q 10), .int (K 11), .int (K 12), .ref (Q 13), .ref (Q 14), .ref (Q 15), .ref (Q 16), .ref (Q 17)])), ((Q 0), .inl (dA 0, 4096, .inl f))] [.int rg9] 0 0 rfl rfl rfl (Nat.le_refl _) (Nat.le_refl _) ?_
  subst kg9
  refine jv_if_ne (tgt := 28) C (jd D_Md_feed 12 rfl) (by decide) (fun c23 => ?_) (fun c23 => absurd c23 (by decide))
  refine jv_aload_n C (jd D_Md_feed 15 rfl) rfl 0 rfl ?_
  refine jv_iload_n C (jd D_Md_feed 16 rfl) rfl 1 rfl ?_
  refine jv_callV (wr := []) C cl_Md_108 (c_Md_four o Q (js_rows [0, (nI t.length), 0, (K 3), 0, (K 5), 0, (K 7), (K 8), (K 9), 0, (K 11), (K 12), 0, 0, 0, 0, 0] 0) vt f t a ht (by first | omega | (simp only [List.length_append, js_i4_len]; omega))) [0, 1] [] rfl rfl rfl rfl (by decide) rfl rfl 0 rfl ⟨Nat.le_of_ble_eq_true rfl, Nat.le_of_ble_eq_true rfl⟩ ⟨Nat.le_of_ble_eq_true rfl, Nat.le_of_ble_eq_true rfl⟩ rfl rfl (Nat.le_of_ble_eq_true rfl) (jd D_Md_feed 17 rfl) (fun v2 g1 h1 => ?_)
  obtain ⟨rfl, h1⟩ := h1
  refine jv_fix [0, 1] [(o, .inr (7, [.ref (Q 0), .int (nI (t ++ js_i4 a).length), .ref (Q 2), .int (K 3), .int 0, .int (K 5), vt, .int (K 7), .int (K 8), .int (K 9), .ref (Q 10), .int (K 11), .int (K 12), .ref (Q 13), .ref (Q 14), .ref (Q 15), .ref (Q 16), .ref (Q 17)])), ((Q 0), .inl (dA 0, 4096, .inl g1))] [] 0 0 rfl rfl rfl (Nat.le_refl _) (Nat.le_refl _) ?_
  refine jv_aload_n C (jd D_Md_feed 18 rfl) rfl 0 rfl ?_
  refine jv_iload_n C (jd D_Md_feed 19 rfl) rfl 2 rfl ?_
  refine jv_callV (wr := []) C cl_Md_108 (c_Md_four o Q (js_rows [0, (nI (t ++ js_i4 a).length), 0, (K 3), 0, (K 5), 0, (K 7), (K 8), (K 9), 0, (K 11), (K 12), 0, 0, 0, 0, 0] 0) vt g1 (t ++ js_i4 a) b h1 (by first | omega | (simp only [List.length_append, js_i4_len]; omega))) [0, 1] [] rfl rfl rfl rfl (by decide) rfl rfl 0 rfl ⟨Nat.le_of_ble_eq_true rfl, Nat.le_of_ble_eq_true rfl⟩ ⟨Nat.le_of_ble_eq_true rfl, Nat.le_of_ble_eq_true rfl⟩ rfl rfl (Nat.le_of_ble_eq_true rfl) (jd D_Md_feed 20 rfl) (fun v3 g2 h2 => ?_)
  obtain ⟨rfl, h2⟩ := h2
  refine jv_fix [0, 1] [(o, .inr (7, [.ref (Q 0), .int (nI (t ++ js_i4 a ++ js_i4 b).length), .ref (Q 2), .int (K 3), .int 0, .int (K 5), vt, .int (K 7), .int (K 8), .int (K 9), .ref (Q 10), .int (K 11), .int (K 12), .ref (Q 13), .ref (Q 14), .ref (Q 15), .ref (Q 16), .ref (Q 17)])), ((Q 0), .inl (dA 0, 4096, .inl g2))] [] 0 0 rfl rfl rfl (Nat.le_refl _) (Nat.le_refl _) ?_
  refine jv_aload_n C (jd D_Md_feed 21 rfl) rfl 0 rfl ?_
  refine jv_iload_n C (jd D_Md_feed 22 rfl) rfl 3 rfl ?_
  refine jv_callV (wr := []) C cl_Md_108 (c_Md_four o Q (js_rows [0, (nI (t ++ js_i4 a ++ js_i4 b).length), 0, (K 3), 0, (K 5), 0, (K 7), (K 8), (K 9), 0, (K 11), (K 12), 0, 0, 0, 0, 0] 0) vt g2 (t ++ js_i4 a ++ js_i4 b) c h2 (by first | omega | (simp only [List.length_append, js_i4_len]; omega))) [0, 1] [] rfl rfl rfl rfl (by decide) rfl rfl 0 rfl ⟨Nat.le_of_ble_eq_true rfl, Nat.le_of_ble_eq_true rfl⟩ ⟨Nat.le_of_ble_eq_true rfl, Nat.le_of_ble_eq_true rfl⟩ rfl rfl (Nat.le_of_ble_eq_true rfl) (jd D_Md_feed 23 rfl) (fun v4 g3 h3 => ?_)
  obtain ⟨rfl, h3⟩ := h3
  refine jv_fix [0, 1] [(o, .inr (7, [.ref (Q 0), .int (nI (t ++ js_i4 a ++ js_i4 b ++ js_i4 c).length), .ref (Q 2), .int (K 3), .int 0, .int (K 5), vt, .int (K 7), .int (K 8), .int (K 9), .ref (Q 10), .int (K 11), .int (K 12), .ref (Q 13), .ref (Q 14), .ref (Q 15), .ref (Q 16), .ref (Q 17)])), ((Q 0), .inl (dA 0, 4096, .inl g3))] [] 0 0 rfl rfl rfl (Nat.le_refl _) (Nat.le_refl _) ?_
  refine jv_aload_n C (jd D_Md_feed 24 rfl) rfl 0 rfl ?_
  refine jv_iload C (jd D_Md_feed 25 rfl) 4 rfl ?_
  refine jv_callV (wr := []) C cl_Md_108 (c_Md_four o Q (js_rows [0, (nI (t ++ js_i4 a ++ js_i4 b ++ js_i4 c).length), 0, (K 3), 0, (K 5), 0, (K 7), (K 8), (K 9), 0, (K 11), (K 12), 0, 0, 0, 0, 0] 0) vt g3 (t ++ js_i4 a ++ js_i4 b ++ js_i4 c) d h3 (by first | omega | (simp only [List.length_append, js_i4_len]; omega))) [0, 1] [] rfl rfl rfl rfl (by decide) rfl rfl 0 rfl ⟨Nat.le_of_ble_eq_true rfl, Nat.le_of_ble_eq_true rfl⟩ ⟨Nat.le_of_ble_eq_true rfl, Nat.le_of_ble_eq_true rfl⟩ rfl rfl (Nat.le_of_ble_eq_true rfl) (jd D_Md_feed 26 rfl) (fun v5 g4 h4 => ?_)
  obtain ⟨rfl, h4⟩ := h4
  refine jv_fix [0, 1] [(o, .inr (7, [.ref (Q 0), .int (nI (t ++ js_i4 a ++ js_i4 b ++ js_i4 c ++ js_i4 d).length), .ref (Q 2), .int (K 3), .int 0, .int (K 5), vt, .int (K 7), .int (K 8), .int (K 9), .ref (Q 10), .int (K 11), .int (K 12), .ref (Q 13), .ref (Q 14), .ref (Q 15), .ref (Q 16), .ref (Q 17)])), ((Q 0), .inl (dA 0, 4096, .inl g4))] [] 0 0 rfl rfl rfl (Nat.le_refl _) (Nat.le_refl _) ?_
  refine jv_aload_n C (jd D_Md_feed 27 rfl) rfl 0 rfl ?_
  refine jv_iload C (jd D_Md_feed 28 rfl) 5 rfl ?_
  refine jv_callV (wr := []) C cl_Md_108 (c_Md_four o Q (js_rows [0, (nI (t ++ js_i4 a ++ js_i4 b ++ js_i4 c ++ js_i4 d).length), 0, (K 3), 0, (K 5), 0, (K 7), (K 8), (K 9), 0, (K 11), (K 12), 0, 0, 0, 0, 0] 0) vt g4 (t ++ js_i4 a ++ js_i4 b ++ js_i4 c ++ js_i4 d) e h4 (by first | omega | (simp only [List.length_append, js_i4_len]; omega))) [0, 1] [] rfl rfl rfl rfl (by decide) rfl rfl 0 rfl ⟨Nat.le_of_ble_eq_true rfl, Nat.le_of_ble_eq_true rfl⟩ ⟨Nat.le_of_ble_eq_true rfl, Nat.le_of_ble_eq_true rfl⟩ rfl rfl (Nat.le_of_ble_eq_true rfl) (jd D_Md_feed 29 rfl) (fun v6 g5 h5 => ?_)
  obtain ⟨rfl, h5⟩ := h5
  refine jv_fix [0, 1] [(o, .inr (7, [.ref (Q 0), .int (nI (t ++ js_i4 a ++ js_i4 b ++ js_i4 c ++ js_i4 d ++ js_i4 e).length), .ref (Q 2), .int (K 3), .int 0, .int (K 5), vt, .int (K 7), .int (K 8), .int (K 9), .ref (Q 10), .int (K 11), .int (K 12), .ref (Q 13), .ref (Q 14), .ref (Q 15), .ref (Q 16), .ref (Q 17)])), ((Q 0), .inl (dA 0, 4096, .inl g5))] [] 0 0 rfl rfl rfl (Nat.le_refl _) (Nat.le_refl _) ?_
  refine jv_aload_n C (jd D_Md_feed 30 rfl) rfl 0 rfl ?_
  refine jv_get C fl_Md_101 0 rfl rfl (jd D_Md_feed 31 rfl) ?_
  exact jv_iret C hr g5 (⟨rfl, h5⟩) rfl [0, 1] rfl rfl (Nat.le_of_ble_eq_true rfl) (Nat.le_of_ble_eq_true rfl) (jd D_Md_feed 32 rfl)

set_option maxHeartbeats 4000000 in
set_option maxRecDepth 100000 in
/-- feed, no room -/
theorem c_Md_feed_no {l : Launch} {D : va_G} {dA : Nat → ClassId} {zz : (Nat → Nat) × (Nat → Nat)} (o : Nat) (Q : Nat → Nat) (K : Nat → Int32) (vt : Value) (t : List Nat) (a b c d e : Int32) (hl : 4096 < t.length + 20) (h4 : t.length ≤ 4096) : jv_M l D dA zz y_Md_feed b_Md_feed 6 (some (FieldType.int)) 2 [.ref o, .int a, .int b, .int c, .int d, .int e] [(o, .inr (7, [.ref (Q 0), .int (nI t.length), .ref (Q 2), .int (K 3), .int (K 4), .int (K 5), vt, .int (K 7), .int (K 8), .int (K 9), .ref (Q 10), .int (K 11), .int (K 12), .ref (Q 13), .ref (Q 14), .ref (Q 15), .ref (Q 16), .ref (Q 17)]))] (jv_pi fun r (_ : Unit) => r = 0) (fun _ => [(o, .inr (7, [.ref (Q 0), .int (nI t.length), .ref (Q 2), .int (K 3), .int 1, .int (K 5), vt, .int (K 7), .int (K 8), .int (K 9), .ref (Q 10), .int (K 11), .int (K 12), .ref (Q 13), .ref (Q 14), .ref (Q 15), .ref (Q 16), .ref (Q 17)]))]) 0 0 := by
  refine jv_M.of [(0, .ref o), (1, .int a), (2, .int b), (3, .int c), (4, .int d), (5, .int e)] (by decide) (Nat.le_of_ble_eq_true rfl) rfl ?_
  intro pR eR sR mR belowR methR cR AR C hr hin
  refine jv_aload_n C (jd D_Md_feed 0 rfl) rfl 0 rfl ?_
  refine jv_aload_n C (jd D_Md_feed 1 rfl) rfl 0 rfl ?_
  refine jv_get C fl_Md_101 0 rfl rfl (jd D_Md_feed 2 rfl) ?_
  refine jv_bipush (v := 20) C (jd D_Md_feed 3 rfl) (by decide) ?_
  refine jv_iadd C (jd D_Md_feed 4 rfl) ?_
  refine jv_ati (y := nI (t.length + 20)) (nI_add _ 20) ?_
  refine jv_sipush (v := 4096) C (jd D_Md_feed 5 rfl) (by decide) ?_
  refine jv_icmp_gt (tgt := 18) C (jd D_Md_feed 6 rfl) (by decide) (fun c11 => ?_) (fun c11 => absurd (nI_lt (a := 4096) hl (by omega)) c11)
  refine jv_iconst (v := 0) C (jd D_Md_feed 9 rfl) (by decide) ?_
  refine jv_iconst (v := 1) C (jd D_Md_feed 10 rfl) (by decide) ?_
  refine jv_callV (wr := []) C cl_Md_104 (c_Md_good_0 o Q (js_rows [0, (nI t.length), 0, (K 3), (K 4), (K 5), 0, (K 7), (K 8), (K 9), 0, (K 11), (K 12), 0, 0, 0, 0, 0] 0) vt 1) [0] [] rfl rfl rfl rfl (by decide) rfl rfl 0 rfl ⟨Nat.le_of_ble_eq_true rfl, Nat.le_of_ble_eq_true rfl⟩ ⟨Nat.le_of_ble_eq_true rfl, Nat.le_of_ble_eq_true rfl⟩ rfl rfl (Nat.le_of_ble_eq_true rfl) (jd D_Md_feed 11 rfl) (fun v1 _ kg9 => ?_)
  obtain ⟨rg9, rfl, kg9⟩ := kg9
  refine jv_fix [0] [(o, .inr (7, [.ref (Q 0), .int (nI t.length), .ref (Q 2), .int (K 3), .int 1, .int (K 5), vt, .int (K 7), .int (K 8), .int (K 9), .ref (Q 10), .int (K 11), .int (K 12), .ref (Q 13), .ref (Q 14), .ref (Q 15), .ref (Q 16), .ref (Q 17)]))] [.int rg9] 0 0 rfl rfl rfl (Nat.le_refl _) (Nat.le_refl _) ?_
  subst kg9
  refine jv_if_ne (tgt := 28) C (jd D_Md_feed 12 rfl) (by decide) (fun c23 => absurd c23 (fun z => z rfl)) (fun c23 => ?_)
  refine jv_iconst (v := 0) C (jd D_Md_feed 13 rfl) (by decide) ?_
  exact jv_iret C hr () (rfl) rfl [0] rfl rfl (Nat.le_of_ble_eq_true rfl) (Nat.le_of_ble_eq_true rfl) (jd D_Md_feed 14 rfl)

set_option maxHeartbeats 4000000 in
set_option maxRecDepth 100000 in
/-- end -/
theorem c_Md_end_ok {l : Launch} {D : va_G} {dA : Nat → ClassId} {zz : (Nat → Nat) × (Nat → Nat)} (o : Nat) (Q : Nat → Nat) (K : Nat → Int32) (vt : Value) (t : List Nat) (k : Nat) (hk : k ≤ t.length) (h4 : t.length ≤ 4096) : jv_M l D dA zz y_Md_end b_Md_end 2 (some (FieldType.int)) 2 [.ref o, .int (nI k)] [(o, .inr (7, [.ref (Q 0), .int (nI t.length), .ref (Q 2), .int (K 3), .int (K 4), .int (K 5), vt, .int (K 7), .int (K 8), .int (K 9), .ref (Q 10), .int (K 11), .int (K 12), .ref (Q 13), .ref (Q 14), .ref (Q 15), .ref (Q 16), .ref (Q 17)]))] (jv_pi fun r (_ : Unit) => r = nI k) (fun _ => [(o, .inr (7, [.ref (Q 0), .int (nI k), .ref (Q 2), .int (K 3), .int 0, .int (K 5), vt, .int (K 7), .int (K 8), .int (K 9), .ref (Q 10), .int (K 11), .int (K 12), .ref (Q 13), .ref (Q 14), .ref (Q 15), .ref (Q 16), .ref (Q 17)]))]) 0 0 := by
  refine jv_M.of [(0, .ref o), (1, .int (nI k))] (by decide) (Nat.le_of_ble_eq_true rfl) rfl ?_
  intro pR eR sR mR belowR methR cR AR C hr hin
  refine jv_aload_n C (jd D_Md_end 0 rfl) rfl 0 rfl ?_
  refine jv_iload_n C (jd D_Md_end 1 rfl) rfl 1 rfl ?_
  refine jv_if_lt (tgt := 17) C (jd D_Md_end 2 rfl) (by decide) (fun c2 => absurd c2 (nI_pos (by omega))) (fun c2 => ?_)
  refine jv_iload_n C (jd D_Md_end 3 rfl) rfl 1 rfl ?_
  refine jv_aload_n C (jd D_Md_end 4 rfl) rfl 0 rfl ?_
  refine jv_get C fl_Md_101 0 rfl rfl (jd D_Md_end 5 rfl) ?_
  refine jv_icmp_gt (tgt := 17) C (jd D_Md_end 6 rfl) (by decide) (fun c10 => absurd c10 (nI_nlt hk (by omega))) (fun c10 => ?_)
  refine jv_iconst (v := 1) C (jd D_Md_end 7 rfl) (by decide) ?_
  refine jv_goto (tgt := 18) C (jd D_Md_end 8 rfl) (by decide) ?_
  refine jv_iconst (v := 1) C (jd D_Md_end 10 rfl) (by decide) ?_
  refine jv_callV (wr := []) C cl_Md_104 (c_Md_good_1 o Q (js_rows [0, (nI t.length), 0, (K 3), (K 4), (K 5), 0, (K 7), (K 8), (K 9), 0, (K 11), (K 12), 0, 0, 0, 0, 0] 0) vt 1) [0] [] rfl rfl rfl rfl (by decide) rfl rfl 0 rfl ⟨Nat.le_of_ble_eq_true rfl, Nat.le_of_ble_eq_true rfl⟩ ⟨Nat.le_of_ble_eq_true rfl, Nat.le_of_ble_eq_true rfl⟩ rfl rfl (Nat.le_of_ble_eq_true rfl) (jd D_Md_end 11 rfl) (fun v1 _ kg9 => ?_)
  obtain ⟨rg9, rfl, kg9⟩ := kg9
  refine jv_fix [0] [(o, .inr (7, [.ref (Q 0), .int (nI t.length), .ref (Q 2), .int (K 3), .int 0, .int (K 5), vt, .int (K 7), .int (K 8), .int (K 9), .ref (Q 10), .int (K 11), .int (K 12), .ref (Q 13), .ref (Q 14), .ref (Q 15), .ref (Q 16), .ref (Q 17)]))] [.int rg9] 0 0 rfl rfl rfl (Nat.le_refl _) (Nat.le_refl _) ?_
  subst kg9
  refine jv_if_ne (tgt := 27) C (jd D_Md_end 12 rfl) (by decide) (fun c22 => ?_) (fun c22 => absurd c22 (by decide))
  refine jv_aload_n C (jd D_Md_end 15 rfl) rfl 0 rfl ?_
  refine jv_iload_n C (jd D_Md_end 16 rfl) rfl 1 rfl ?_
  refine jv_put C fl_Md_101 Y_Md rfl 0 [(o, .inr (7, [.ref (Q 0), .int (nI k), .ref (Q 2), .int (K 3), .int 0, .int (K 5), vt, .int (K 7), .int (K 8), .int (K 9), .ref (Q 10), .int (K 11), .int (K 12), .ref (Q 13), .ref (Q 14), .ref (Q 15), .ref (Q 16), .ref (Q 17)]))] rfl rfl rfl (Nat.le_of_ble_eq_true rfl) rfl rfl (jd D_Md_end 17 rfl) ?_
  refine jv_iload_n C (jd D_Md_end 18 rfl) rfl 1 rfl ?_
  exact jv_iret C hr () (rfl) rfl [0] rfl rfl (Nat.le_of_ble_eq_true rfl) (Nat.le_of_ble_eq_true rfl) (jd D_Md_end 19 rfl)

set_option maxHeartbeats 4000000 in
set_option maxRecDepth 100000 in
/-- end, out of the tape -/
theorem c_Md_end_no {l : Launch} {D : va_G} {dA : Nat → ClassId} {zz : (Nat → Nat) × (Nat → Nat)} (o : Nat) (Q : Nat → Nat) (K : Nat → Int32) (vt : Value) (t : List Nat) (i : Int32) (hb : i < 0 ∨ nI t.length < i) : jv_M l D dA zz y_Md_end b_Md_end 2 (some (FieldType.int)) 2 [.ref o, .int i] [(o, .inr (7, [.ref (Q 0), .int (nI t.length), .ref (Q 2), .int (K 3), .int (K 4), .int (K 5), vt, .int (K 7), .int (K 8), .int (K 9), .ref (Q 10), .int (K 11), .int (K 12), .ref (Q 13), .ref (Q 14), .ref (Q 15), .ref (Q 16), .ref (Q 17)]))] (jv_pi fun r (_ : Unit) => r = 0) (fun _ => [(o, .inr (7, [.ref (Q 0), .int (nI t.length), .ref (Q 2), .int (K 3), .int 1, .int (K 5), vt, .int (K 7), .int (K 8), .int (K 9), .ref (Q 10), .int (K 11), .int (K 12), .ref (Q 13), .ref (Q 14), .ref (Q 15), .ref (Q 16), .ref (Q 17)]))]) 0 0 := by
  refine jv_M.of [(0, .ref o), (1, .int i)] (by decide) (Nat.le_of_ble_eq_true rfl) rfl ?_
  intro pR eR sR mR belowR methR cR AR C hr hin
  refine jv_aload_n C (jd D_Md_end 0 rfl) rfl 0 rfl ?_
  refine jv_iload_n C (jd D_Md_end 1 rfl) rfl 1 rfl ?_
  refine jv_if_lt (tgt := 17) C (jd D_Md_end 2 rfl) (by decide) (fun c2 => ?_) (fun c2 => ?_)
  · refine jv_iconst (v := 0) C (jd D_Md_end 9 rfl) (by decide) ?_
    refine jv_iconst (v := 1) C (jd D_Md_end 10 rfl) (by decide) ?_
    refine jv_callV (wr := []) C cl_Md_104 (c_Md_good_0 o Q (js_rows [0, (nI t.length), 0, (K 3), (K 4), (K 5), 0, (K 7), (K 8), (K 9), 0, (K 11), (K 12), 0, 0, 0, 0, 0] 0) vt 1) [0] [] rfl rfl rfl rfl (by decide) rfl rfl 0 rfl ⟨Nat.le_of_ble_eq_true rfl, Nat.le_of_ble_eq_true rfl⟩ ⟨Nat.le_of_ble_eq_true rfl, Nat.le_of_ble_eq_true rfl⟩ rfl rfl (Nat.le_of_ble_eq_true rfl) (jd D_Md_end 11 rfl) (fun v1 _ kg9 => ?_)
    obtain ⟨rg9, rfl, kg9⟩ := kg9
    refine jv_fix [0] [(o, .inr (7, [.ref (Q 0), .int (nI t.length), .ref (Q 2), .int (K 3), .int 1, .int (K 5), vt, .int (K 7), .int (K 8), .int (K 9), .ref (Q 10), .int (K 11), .int (K 12), .ref (Q 13), .ref (Q 14), .ref (Q 15), .ref (Q 16), .ref (Q 17)]))] [.int rg9] 0 0 rfl rfl rfl (Nat.le_refl _) (Nat.le_refl _) ?_
    subst kg9
    refine jv_if_ne (tgt := 27) C (jd D_Md_end 12 rfl) (by decide) (fun c22 => absurd c22 (fun z => z rfl)) (fun c22 => ?_)
    refine jv_iconst (v := 0) C (jd D_Md_end 13 rfl) (by decide) ?_
    exact jv_iret C hr () (rfl) rfl [0] rfl rfl (Nat.le_of_ble_eq_true rfl) (Nat.le_of_ble_eq_true rfl) (jd D_Md_end 14 rfl)
  · refine jv_iload_n C (jd D_Md_end 3 rfl) rfl 1 rfl ?_
    refine jv_aload_n C (jd D_Md_end 4 rfl) rfl 0 rfl ?_
    refine jv_get C fl_Md_101 0 rfl rfl (jd D_Md_end 5 rfl) ?_
    refine jv_icmp_gt (tgt := 17) C (jd D_Md_end 6 rfl) (by decide) (fun c10 => ?_) (fun c10 => absurd ((hb.resolve_left c2)) c10)
    refine jv_iconst (v := 0) C (jd D_Md_end 9 rfl) (by decide) ?_
    refine jv_iconst (v := 1) C (jd D_Md_end 10 rfl) (by decide) ?_
    refine jv_callV (wr := []) C cl_Md_104 (c_Md_good_0 o Q (js_rows [0, (nI t.length), 0, (K 3), (K 4), (K 5), 0, (K 7), (K 8), (K 9), 0, (K 11), (K 12), 0, 0, 0, 0, 0] 0) vt 1) [0] [] rfl rfl rfl rfl (by decide) rfl rfl 0 rfl ⟨Nat.le_of_ble_eq_true rfl, Nat.le_of_ble_eq_true rfl⟩ ⟨Nat.le_of_ble_eq_true rfl, Nat.le_of_ble_eq_true rfl⟩ rfl rfl (Nat.le_of_ble_eq_true rfl) (jd D_Md_end 11 rfl) (fun v2 _ kg9 => ?_)
    obtain ⟨rg9, rfl, kg9⟩ := kg9
    refine jv_fix [0] [(o, .inr (7, [.ref (Q 0), .int (nI t.length), .ref (Q 2), .int (K 3), .int 1, .int (K 5), vt, .int (K 7), .int (K 8), .int (K 9), .ref (Q 10), .int (K 11), .int (K 12), .ref (Q 13), .ref (Q 14), .ref (Q 15), .ref (Q 16), .ref (Q 17)]))] [.int rg9] 0 0 rfl rfl rfl (Nat.le_refl _) (Nat.le_refl _) ?_
    subst kg9
    refine jv_if_ne (tgt := 27) C (jd D_Md_end 12 rfl) (by decide) (fun c22 => absurd c22 (fun z => z rfl)) (fun c22 => ?_)
    refine jv_iconst (v := 0) C (jd D_Md_end 13 rfl) (by decide) ?_
    exact jv_iret C hr () (rfl) rfl [0] rfl rfl (Nat.le_of_ble_eq_true rfl) (Nat.le_of_ble_eq_true rfl) (jd D_Md_end 14 rfl)

set_option maxHeartbeats 4000000 in
set_option maxRecDepth 100000 in
/-- word -/
theorem c_Md_word_ok {l : Launch} {D : va_G} {dA : Nat → ClassId} {zz : (Nat → Nat) × (Nat → Nat)} (o : Nat) (Q : Nat → Nat) (K : Nat → Int32) (vt : Value) (f : Nat → Int32) (t : List Nat) (k : Nat) (ht : js_tx f t) (h4 : t.length ≤ 4096) (hk : k < t.length) : jv_M l D dA zz y_Md_word b_Md_word 5 (some (FieldType.long)) 2 [.ref o, .int (nI k)] [(o, .inr (7, [.ref (Q 0), .int (K 1), .ref (Q 2), .int (nI t.length), .int (K 4), .int (K 5), vt, .int (K 7), .int (K 8), .int (K 9), .ref (Q 10), .int (K 11), .int (K 12), .ref (Q 13), .ref (Q 14), .ref (Q 15), .ref (Q 16), .ref (Q 17)])), ((Q 2), .inl (dA 0, 16384, .inl f))] (jv_pl fun r (_ : Unit) => r = js_w8 t k 8) (fun _ => [(o, .inr (7, [.ref (Q 0), .int (K 1), .ref (Q 2), .int (nI t.length), .int 0, .int (K 5), vt, .int (K 7), .int (K 8), .int (K 9), .ref (Q 10), .int (K 11), .int (K 12), .ref (Q 13), .ref (Q 14), .ref (Q 15), .ref (Q 16), .ref (Q 17)])), ((Q 2), .inl (dA 0, 16384, .inl f))]) 0 0 := by
  refine jv_M.of [(0, .ref o), (1, .int (nI k))] (by decide) (Nat.le_of_ble_eq_true rfl) rfl ?_
  intro pR eR sR mR belowR methR cR AR C hr hin
  obtain ⟨QR, hQ⟩ : ∃ QR, QR = jv_E D (jv_pl fun r (_ : Unit) => r = js_w8 t k 8) (fun _ => [(o, .inr (7, [.ref (Q 0), .int (K 1), .ref (Q 2), .int (nI t.length), .int 0, .int (K 5), vt, .int (K 7), .int (K 8), .int (K 9), .ref (Q 10), .int (K 11), .int (K 12), .ref (Q 13), .ref (Q 14), .ref (Q 15), .ref (Q 16), .ref (Q 17)])), ((Q 2), .inl (dA 0, 16384, .inl f))]) belowR ([.ref o, .int (nI k)] : List Value).toArray sR AR 0 0 := ⟨_, rfl⟩
  rw [← hQ]
  refine jv_aload_n C (jd D_Md_word 0 rfl) rfl 0 rfl ?_
  refine jv_iload_n C (jd D_Md_word 1 rfl) rfl 1 rfl ?_
  refine jv_if_lt (tgt := 17) C (jd D_Md_word 2 rfl) (by decide) (fun c2 => absurd c2 (nI_pos (by omega))) (fun c2 => ?_)
  refine jv_iload_n C (jd D_Md_word 3 rfl) rfl 1 rfl ?_
  refine jv_aload_n C (jd D_Md_word 4 rfl) rfl 0 rfl ?_
  refine jv_get C fl_Md_112 0 rfl rfl (jd D_Md_word 5 rfl) ?_
  refine jv_icmp_ge (tgt := 17) C (jd D_Md_word 6 rfl) (by decide) (fun c10 => absurd c10 (nI_ge hk (by omega))) (fun c10 => ?_)
  refine jv_iconst (v := 1) C (jd D_Md_word 7 rfl) (by decide) ?_
  refine jv_goto (tgt := 18) C (jd D_Md_word 8 rfl) (by decide) ?_
  refine jv_iconst (v := 1) C (jd D_Md_word 10 rfl) (by decide) ?_
  refine jv_callV (wr := [((Q 2), .inl (dA 0, 16384, .inl f))]) C cl_Md_104 (c_Md_good_1 o Q (js_rows [0, (K 1), 0, (nI t.length), (K 4), (K 5), 0, (K 7), (K 8), (K 9), 0, (K 11), (K 12), 0, 0, 0, 0, 0] 0) vt 1) [0] [1] rfl rfl rfl rfl (by decide) rfl rfl 0 rfl ⟨Nat.le_of_ble_eq_true rfl, Nat.le_of_ble_eq_true rfl⟩ ⟨Nat.le_of_ble_eq_true rfl, Nat.le_of_ble_eq_true rfl⟩ rfl rfl (Nat.le_of_ble_eq_true rfl) (jd D_Md_word 11 rfl) (fun v1 _ kg9 => ?_)
  obtain ⟨rg9, rfl, kg9⟩ := kg9
  refine jv_fix [1, 0] [(o, .inr (7, [.ref (Q 0), .int (K 1), .ref (Q 2), .int (nI t.length), .int 0, .int (K 5), vt, .int (K 7), .int (K 8), .int (K 9), .ref (Q 10), .int (K 11), .int (K 12), .ref (Q 13), .ref (Q 14), .ref (Q 15), .ref (Q 16), .ref (Q 17)])), ((Q 2), .inl (dA 0, 16384, .inl f))] [.int rg9] 0 0 rfl rfl rfl (Nat.le_refl _) (Nat.le_refl _) ?_
  subst kg9
  refine jv_if_ne (tgt := 27) C (jd D_Md_word 12 rfl) (by decide) (fun c22 => ?_) (fun c22 => absurd c22 (by decide))
  refine jv_lconst (v := 0) C (jd D_Md_word 15 rfl) (by decide) ?_
  refine jv_lstore_n C [(2, .long 0), (0, .ref o), (1, .int (nI k))] (jd D_Md_word 16 rfl) rfl (by decide) rfl ?_
  refine jv_iload_n C (jd D_Md_word 17 rfl) rfl 2 rfl ?_
  refine jv_istore C [(4, .int (nI k)), (2, .long 0), (0, .ref o), (1, .int (nI k))] (jd D_Md_word 18 rfl) (by decide) rfl ?_
  have hL32 : ∀ (n : Nat) (j0 : Nat), j0 ≤ 8 → 9 ≤ j0 + n → jv_V pR l eR (jv_rm 2 0 0) sR mR ([.ref o, .int (nI k)] : List Value).toArray belowR methR cR 0 0 QR D AR 5 [(o, .inr (7, [.ref (Q 0), .int (K 1), .ref (Q 2), .int (nI t.length), .int 0, .int (K 5), vt, .int (K 7), .int (K 8), .int (K 9), .ref (Q 10), .int (K 11), .int (K 12), .ref (Q 13), .ref (Q 14), .ref (Q 15), .ref (Q 16), .ref (Q 17)])), ((Q 2), .inl (dA 0, 16384, .inl f))] [(0, .ref o), (1, .int (nI k)), (2, .long (js_w8 t k j0)), (4, .int (nI (k + j0)))] 32 [] := by
    intro n
    induction n with
    | zero =>
      intro j0 h0 h1
      exact absurd h1 (by omega)
    | succ n ih =>
      intro j0 hj0 hm
      refine jv_iload C (jd D_Md_word 19 rfl) 3 rfl ?_
      refine jv_iload_n C (jd D_Md_word 20 rfl) rfl 1 rfl ?_
      refine jv_bipush (v := 8) C (jd D_Md_word 21 rfl) (by decide) ?_
      refine jv_iadd C (jd D_Md_word 22 rfl) ?_
      refine jv_ati (y := nI (k + 8)) (nI_add k 8) ?_
      refine jv_icmp_ge (tgt := 78) C (jd D_Md_word 23 rfl) (by decide) (fun c38 => ?_) (fun c38 => ?_)
      · refine jv_lload_n C (jd D_Md_word 44 rfl) rfl 2 rfl ?_
        have h8 : j0 = 8 := by
          have := (nI_leI (a := k + 8) (b := k + j0) (by omega) (by omega)).mp c38
          omega
        rw [hQ]
        exact jv_lret C hr () (by rw [h8]) [0, 1] rfl rfl (Nat.le_of_ble_eq_true rfl) (Nat.le_of_ble_eq_true rfl) (jd D_Md_word 45 rfl)
      · have hlt8 : j0 < 8 := by
          rcases Nat.lt_or_ge j0 8 with q | q
          · exact q
          · exact absurd (nI_le (show k + 8 ≤ k + j0 by omega) (by omega)) c38
        refine jv_lload_n C (jd D_Md_word 24 rfl) rfl 2 rfl ?_
        refine jv_bipush (v := 8) C (jd D_Md_word 25 rfl) (by decide) ?_
        refine jv_lshl C (jd D_Md_word 26 rfl) ?_
        refine jv_iload C (jd D_Md_word 27 rfl) 3 rfl ?_
        refine jv_aload_n C (jd D_Md_word 28 rfl) rfl 0 rfl ?_
        refine jv_get C fl_Md_112 0 rfl rfl (jd D_Md_word 29 rfl) ?_
        refine jv_icmp_ge (tgt := 69) C (jd D_Md_word 30 rfl) (by decide) (fun c51 => ?_) (fun c51 => ?_)
        · have hend : js_b t (k + j0) = -1 := js_b_end ((nI_leI (by omega) (by omega)).mp c51)
          refine jv_lconst (v := 0) C (jd D_Md_word 39 rfl) (by decide) ?_
          refine jv_lor C (jd D_Md_word 40 rfl) ?_
          refine jv_atl (y := js_w8 t k (j0 + 1)) (by rw [js_w8, if_pos hend]; rfl) ?_
          refine jv_lstore_n C [(2, .long (js_w8 t k (j0 + 1))), (0, .ref o), (1, .int (nI k)), (4, .int (nI (k + j0)))] (jd D_Md_word 41 rfl) rfl (by decide) rfl ?_
          refine jv_iinc (v := nI (k + (j0 + 1))) C [(4, .int (nI (k + (j0 + 1)))), (2, .long (js_w8 t k (j0 + 1))), (0, .ref o), (1, .int (nI k))] (jd D_Md_word 42 rfl) 3 rfl (nI_1 (k + j0)) (by decide) rfl ?_
          refine jv_goto (tgt := 32) C (jd D_Md_word 43 rfl) (by decide) ?_
          refine jv_lvsub [2, 3, 1, 0] rfl ?_
          exact ih (j0 + 1) (by omega) (by omega)
        · have hlt : k + j0 < t.length := by
            rcases Nat.lt_or_ge (k + j0) t.length with q | q
            · exact q
            · exact absurd (nI_le q (by omega)) c51
          refine jv_aload_n C (jd D_Md_word 31 rfl) rfl 0 rfl ?_
          refine jv_get C fl_Md_13 0 rfl rfl (jd D_Md_word 32 rfl) ?_
          refine jv_iload C (jd D_Md_word 33 rfl) 3 rfl ?_
          refine jv_bald C 1 rfl (vp_in_nI (by omega) (by decide)) (jd D_Md_word 34 rfl) ?_
          refine jv_ati (y := f (k + j0)) (by rw [nI_clamp (by omega)]) ?_
          refine jv_i2l C (jd D_Md_word 35 rfl) ?_
          refine jv_ldc2_w (v := 255) C (jm4 (List.mem_of_getElem? (i := 147) rfl)) (jd D_Md_word 36 rfl) ?_
          refine jv_land C (jd D_Md_word 37 rfl) ?_
          refine jv_atl (y := (if js_b t (k + j0) = -1 then 0 else js_b t (k + j0)).toInt64) (js_w1 ht hlt) ?_
          refine jv_goto (tgt := 70) C (jd D_Md_word 38 rfl) (by decide) ?_
          refine jv_lor C (jd D_Md_word 40 rfl) ?_
          refine jv_atl (y := js_w8 t k (j0 + 1)) (rfl) ?_
          refine jv_lstore_n C [(2, .long (js_w8 t k (j0 + 1))), (0, .ref o), (1, .int (nI k)), (4, .int (nI (k + j0)))] (jd D_Md_word 41 rfl) rfl (by decide) rfl ?_
          refine jv_iinc (v := nI (k + (j0 + 1))) C [(4, .int (nI (k + (j0 + 1)))), (2, .long (js_w8 t k (j0 + 1))), (0, .ref o), (1, .int (nI k))] (jd D_Md_word 42 rfl) 3 rfl (nI_1 (k + j0)) (by decide) rfl ?_
          refine jv_goto (tgt := 32) C (jd D_Md_word 43 rfl) (by decide) ?_
          refine jv_lvsub [2, 3, 1, 0] rfl ?_
          exact ih (j0 + 1) (by omega) (by omega)
  refine jv_lvsub [2, 3, 1, 0] rfl ?_
  exact hL32 9 0 (by omega) (by omega)

set_option maxHeartbeats 4000000 in
set_option maxRecDepth 100000 in
/-- word, none -/
theorem c_Md_word_no {l : Launch} {D : va_G} {dA : Nat → ClassId} {zz : (Nat → Nat) × (Nat → Nat)} (o : Nat) (Q : Nat → Nat) (K : Nat → Int32) (vt : Value) (t : List Nat) (i : Int32) (hb : i < 0 ∨ nI t.length ≤ i) : jv_M l D dA zz y_Md_word b_Md_word 5 (some (FieldType.long)) 2 [.ref o, .int i] [(o, .inr (7, [.ref (Q 0), .int (K 1), .ref (Q 2), .int (nI t.length), .int (K 4), .int (K 5), vt, .int (K 7), .int (K 8), .int (K 9), .ref (Q 10), .int (K 11), .int (K 12), .ref (Q 13), .ref (Q 14), .ref (Q 15), .ref (Q 16), .ref (Q 17)]))] (jv_pl fun r (_ : Unit) => r = 0) (fun _ => [(o, .inr (7, [.ref (Q 0), .int (K 1), .ref (Q 2), .int (nI t.length), .int 1, .int (K 5), vt, .int (K 7), .int (K 8), .int (K 9), .ref (Q 10), .int (K 11), .int (K 12), .ref (Q 13), .ref (Q 14), .ref (Q 15), .ref (Q 16), .ref (Q 17)]))]) 0 0 := by
  refine jv_M.of [(0, .ref o), (1, .int i)] (by decide) (Nat.le_of_ble_eq_true rfl) rfl ?_
  intro pR eR sR mR belowR methR cR AR C hr hin
  refine jv_aload_n C (jd D_Md_word 0 rfl) rfl 0 rfl ?_
  refine jv_iload_n C (jd D_Md_word 1 rfl) rfl 1 rfl ?_
  refine jv_if_lt (tgt := 17) C (jd D_Md_word 2 rfl) (by decide) (fun c2 => ?_) (fun c2 => ?_)
  · refine jv_iconst (v := 0) C (jd D_Md_word 9 rfl) (by decide) ?_
    refine jv_iconst (v := 1) C (jd D_Md_word 10 rfl) (by decide) ?_
    refine jv_callV (wr := []) C cl_Md_104 (c_Md_good_0 o Q (js_rows [0, (K 1), 0, (nI t.length), (K 4), (K 5), 0, (K 7), (K 8), (K 9), 0, (K 11), (K 12), 0, 0, 0, 0, 0] 0) vt 1) [0] [] rfl rfl rfl rfl (by decide) rfl rfl 0 rfl ⟨Nat.le_of_ble_eq_true rfl, Nat.le_of_ble_eq_true rfl⟩ ⟨Nat.le_of_ble_eq_true rfl, Nat.le_of_ble_eq_true rfl⟩ rfl rfl (Nat.le_of_ble_eq_true rfl) (jd D_Md_word 11 rfl) (fun v1 _ kg9 => ?_)
    obtain ⟨rg9, rfl, kg9⟩ := kg9
    refine jv_fix [0] [(o, .inr (7, [.ref (Q 0), .int (K 1), .ref (Q 2), .int (nI t.length), .int 1, .int (K 5), vt, .int (K 7), .int (K 8), .int (K 9), .ref (Q 10), .int (K 11), .int (K 12), .ref (Q 13), .ref (Q 14), .ref (Q 15), .ref (Q 16), .ref (Q 17)]))] [.int rg9] 0 0 rfl rfl rfl (Nat.le_refl _) (Nat.le_refl _) ?_
    subst kg9
    refine jv_if_ne (tgt := 27) C (jd D_Md_word 12 rfl) (by decide) (fun c22 => absurd c22 (fun z => z rfl)) (fun c22 => ?_)
    refine jv_lconst (v := 0) C (jd D_Md_word 13 rfl) (by decide) ?_
    exact jv_lret C hr () (rfl) [0] rfl rfl (Nat.le_of_ble_eq_true rfl) (Nat.le_of_ble_eq_true rfl) (jd D_Md_word 14 rfl)
  · refine jv_iload_n C (jd D_Md_word 3 rfl) rfl 1 rfl ?_
    refine jv_aload_n C (jd D_Md_word 4 rfl) rfl 0 rfl ?_
    refine jv_get C fl_Md_112 0 rfl rfl (jd D_Md_word 5 rfl) ?_
    refine jv_icmp_ge (tgt := 17) C (jd D_Md_word 6 rfl) (by decide) (fun c10 => ?_) (fun c10 => absurd ((hb.resolve_left c2)) c10)
    refine jv_iconst (v := 0) C (jd D_Md_word 9 rfl) (by decide) ?_
    refine jv_iconst (v := 1) C (jd D_Md_word 10 rfl) (by decide) ?_
    refine jv_callV (wr := []) C cl_Md_104 (c_Md_good_0 o Q (js_rows [0, (K 1), 0, (nI t.length), (K 4), (K 5), 0, (K 7), (K 8), (K 9), 0, (K 11), (K 12), 0, 0, 0, 0, 0] 0) vt 1) [0] [] rfl rfl rfl rfl (by decide) rfl rfl 0 rfl ⟨Nat.le_of_ble_eq_true rfl, Nat.le_of_ble_eq_true rfl⟩ ⟨Nat.le_of_ble_eq_true rfl, Nat.le_of_ble_eq_true rfl⟩ rfl rfl (Nat.le_of_ble_eq_true rfl) (jd D_Md_word 11 rfl) (fun v2 _ kg9 => ?_)
    obtain ⟨rg9, rfl, kg9⟩ := kg9
    refine jv_fix [0] [(o, .inr (7, [.ref (Q 0), .int (K 1), .ref (Q 2), .int (nI t.length), .int 1, .int (K 5), vt, .int (K 7), .int (K 8), .int (K 9), .ref (Q 10), .int (K 11), .int (K 12), .ref (Q 13), .ref (Q 14), .ref (Q 15), .ref (Q 16), .ref (Q 17)]))] [.int rg9] 0 0 rfl rfl rfl (Nat.le_refl _) (Nat.le_refl _) ?_
    subst kg9
    refine jv_if_ne (tgt := 27) C (jd D_Md_word 12 rfl) (by decide) (fun c22 => absurd c22 (fun z => z rfl)) (fun c22 => ?_)
    refine jv_lconst (v := 0) C (jd D_Md_word 13 rfl) (by decide) ?_
    exact jv_lret C hr () (rfl) [0] rfl rfl (Nat.le_of_ble_eq_true rfl) (Nat.le_of_ble_eq_true rfl) (jd D_Md_word 14 rfl)

set_option maxHeartbeats 4000000 in
set_option maxRecDepth 100000 in
/-- used() -/
theorem c_Md_used {l : Launch} {D : va_G} {dA : Nat → ClassId} {zz : (Nat → Nat) × (Nat → Nat)} (o : Nat) (Q : Nat → Nat) (K : Nat → Int32) (vt : Value)  : jv_M l D dA zz y_Md_used b_Md_used 2 (some (FieldType.int)) 1 [.ref o] [(o, .inr (7, [.ref (Q 0), .int (K 1), .ref (Q 2), .int (K 3), .int (K 4), .int (K 5), vt, .int (K 7), .int (K 8), .int (K 9), .ref (Q 10), .int (K 11), .int (K 12), .ref (Q 13), .ref (Q 14), .ref (Q 15), .ref (Q 16), .ref (Q 17)]))] (jv_pi fun r (_ : Unit) => r = K 1) (fun _ => [(o, .inr (7, [.ref (Q 0), .int 0, .ref (Q 2), .int (K 3), .int (K 4), .int (K 5), vt, .int (K 7), .int (K 8), .int (K 9), .ref (Q 10), .int (K 11), .int (K 12), .ref (Q 13), .ref (Q 14), .ref (Q 15), .ref (Q 16), .ref (Q 17)]))]) 0 0 := by
  refine jv_M.of [(0, .ref o)] (by decide) (Nat.le_of_ble_eq_true rfl) rfl ?_
  intro pR eR sR mR belowR methR cR AR C hr hin
  refine jv_aload_n C (jd D_Md_used 0 rfl) rfl 0 rfl ?_
  refine jv_get C fl_Md_101 0 rfl rfl (jd D_Md_used 1 rfl) ?_
  refine jv_istore_n C [(1, .int (K 1)), (0, .ref o)] (jd D_Md_used 2 rfl) rfl (by decide) rfl ?_
  refine jv_aload_n C (jd D_Md_used 3 rfl) rfl 1 rfl ?_
  refine jv_iconst (v := 0) C (jd D_Md_used 4 rfl) (by decide) ?_
  refine jv_put C fl_Md_101 Y_Md rfl 0 [(o, .inr (7, [.ref (Q 0), .int 0, .ref (Q 2), .int (K 3), .int (K 4), .int (K 5), vt, .int (K 7), .int (K 8), .int (K 9), .ref (Q 10), .int (K 11), .int (K 12), .ref (Q 13), .ref (Q 14), .ref (Q 15), .ref (Q 16), .ref (Q 17)]))] rfl rfl rfl (Nat.le_of_ble_eq_true rfl) rfl rfl (jd D_Md_used 5 rfl) ?_
  refine jv_iload_n C (jd D_Md_used 6 rfl) rfl 0 rfl ?_
  exact jv_iret C hr () (rfl) rfl [0] rfl rfl (Nat.le_of_ble_eq_true rfl) (Nat.le_of_ble_eq_true rfl) (jd D_Md_used 7 rfl)

set_option maxHeartbeats 4000000 in
set_option maxRecDepth 100000 in
/-- count -/
theorem c_Md_count_ok {l : Launch} {D : va_G} {dA : Nat → ClassId} {zz : (Nat → Nat) × (Nat → Nat)} (o : Nat) (Q : Nat → Nat) (K : Nat → Int32) (vt : Value) (i : Int32) (h0 : ¬ i < 0) (h2 : i ≤ 2) : jv_M l D dA zz y_Md_count b_Md_count 2 (some (FieldType.int)) 2 [.ref o, .int i] [(o, .inr (7, [.ref (Q 0), .int (K 1), .ref (Q 2), .int (K 3), .int (K 4), .int (K 5), vt, .int (K 7), .int (K 8), .int (K 9), .ref (Q 10), .int (K 11), .int (K 12), .ref (Q 13), .ref (Q 14), .ref (Q 15), .ref (Q 16), .ref (Q 17)]))] (jv_pi fun r (_ : Unit) => r = (if i = 0 then K 1 else if i = 1 then K 3 else K 5)) (fun _ => [(o, .inr (7, [.ref (Q 0), .int (K 1), .ref (Q 2), .int (K 3), .int 0, .int (K 5), vt, .int (K 7), .int (K 8), .int (K 9), .ref (Q 10), .int (K 11), .int (K 12), .ref (Q 13), .ref (Q 14), .ref (Q 15), .ref (Q 16), .ref (Q 17)]))]) 0 0 := by
  refine jv_M.of [(0, .ref o), (1, .int i)] (by decide) (Nat.le_of_ble_eq_true rfl) rfl ?_
  intro pR eR sR mR belowR methR cR AR C hr hin
  refine jv_aload_n C (jd D_Md_count 0 rfl) rfl 0 rfl ?_
  refine jv_iload_n C (jd D_Md_count 1 rfl) rfl 1 rfl ?_
  refine jv_if_lt (tgt := 14) C (jd D_Md_count 2 rfl) (by decide) (fun c2 => absurd c2 (h0)) (fun c2 => ?_)
  refine jv_iload_n C (jd D_Md_count 3 rfl) rfl 1 rfl ?_
  refine jv_iconst (v := 2) C (jd D_Md_count 4 rfl) (by decide) ?_
  refine jv_icmp_gt (tgt := 14) C (jd D_Md_count 5 rfl) (by decide) (fun c7 => absurd c7 (Int32.not_lt.mpr h2)) (fun c7 => ?_)
  refine jv_iconst (v := 1) C (jd D_Md_count 6 rfl) (by decide) ?_
  refine jv_goto (tgt := 15) C (jd D_Md_count 7 rfl) (by decide) ?_
  refine jv_iconst (v := 1) C (jd D_Md_count 9 rfl) (by decide) ?_
  refine jv_callV (wr := []) C cl_Md_104 (c_Md_good_1 o Q (js_rows [0, (K 1), 0, (K 3), (K 4), (K 5), 0, (K 7), (K 8), (K 9), 0, (K 11), (K 12), 0, 0, 0, 0, 0] 0) vt 1) [0] [] rfl rfl rfl rfl (by decide) rfl rfl 0 rfl ⟨Nat.le_of_ble_eq_true rfl, Nat.le_of_ble_eq_true rfl⟩ ⟨Nat.le_of_ble_eq_true rfl, Nat.le_of_ble_eq_true rfl⟩ rfl rfl (Nat.le_of_ble_eq_true rfl) (jd D_Md_count 10 rfl) (fun v1 _ kg9 => ?_)
  obtain ⟨rg9, rfl, kg9⟩ := kg9
  refine jv_fix [0] [(o, .inr (7, [.ref (Q 0), .int (K 1), .ref (Q 2), .int (K 3), .int 0, .int (K 5), vt, .int (K 7), .int (K 8), .int (K 9), .ref (Q 10), .int (K 11), .int (K 12), .ref (Q 13), .ref (Q 14), .ref (Q 15), .ref (Q 16), .ref (Q 17)]))] [.int rg9] 0 0 rfl rfl rfl (Nat.le_refl _) (Nat.le_refl _) ?_
  subst kg9
  refine jv_if_ne (tgt := 24) C (jd D_Md_count 11 rfl) (by decide) (fun c19 => ?_) (fun c19 => absurd c19 (by decide))
  refine jv_iload_n C (jd D_Md_count 14 rfl) rfl 1 rfl ?_
  refine jv_if_ne (tgt := 35) C (jd D_Md_count 15 rfl) (by decide) (fun c25 => ?_) (fun c25 => ?_)
  · refine jv_iload_n C (jd D_Md_count 19 rfl) rfl 1 rfl ?_
    refine jv_iconst (v := 1) C (jd D_Md_count 20 rfl) (by decide) ?_
    refine jv_icmp_ne (tgt := 47) C (jd D_Md_count 21 rfl) (by decide) (fun c37 => ?_) (fun c37 => ?_)
    · refine jv_aload_n C (jd D_Md_count 25 rfl) rfl 0 rfl ?_
      refine jv_get C fl_Md_16 0 rfl rfl (jd D_Md_count 26 rfl) ?_
      exact jv_iret C hr () (by rw [if_neg c25, if_neg c37]) rfl [0] rfl rfl (Nat.le_of_ble_eq_true rfl) (Nat.le_of_ble_eq_true rfl) (jd D_Md_count 27 rfl)
    · refine jv_aload_n C (jd D_Md_count 22 rfl) rfl 0 rfl ?_
      refine jv_get C fl_Md_112 0 rfl rfl (jd D_Md_count 23 rfl) ?_
      refine jv_goto (tgt := 51) C (jd D_Md_count 24 rfl) (by decide) ?_
      exact jv_iret C hr () (by rw [if_neg c25, if_pos c37]) rfl [0] rfl rfl (Nat.le_of_ble_eq_true rfl) (Nat.le_of_ble_eq_true rfl) (jd D_Md_count 27 rfl)
  · refine jv_aload_n C (jd D_Md_count 16 rfl) rfl 0 rfl ?_
    refine jv_get C fl_Md_101 0 rfl rfl (jd D_Md_count 17 rfl) ?_
    refine jv_goto (tgt := 51) C (jd D_Md_count 18 rfl) (by decide) ?_
    exact jv_iret C hr () (by rw [if_pos c25]) rfl [0] rfl rfl (Nat.le_of_ble_eq_true rfl) (Nat.le_of_ble_eq_true rfl) (jd D_Md_count 27 rfl)

set_option maxHeartbeats 4000000 in
set_option maxRecDepth 100000 in
/-- count, none -/
theorem c_Md_count_no {l : Launch} {D : va_G} {dA : Nat → ClassId} {zz : (Nat → Nat) × (Nat → Nat)} (o : Nat) (Q : Nat → Nat) (K : Nat → Int32) (vt : Value) (i : Int32) (hb : i < 0 ∨ 2 < i) : jv_M l D dA zz y_Md_count b_Md_count 2 (some (FieldType.int)) 2 [.ref o, .int i] [(o, .inr (7, [.ref (Q 0), .int (K 1), .ref (Q 2), .int (K 3), .int (K 4), .int (K 5), vt, .int (K 7), .int (K 8), .int (K 9), .ref (Q 10), .int (K 11), .int (K 12), .ref (Q 13), .ref (Q 14), .ref (Q 15), .ref (Q 16), .ref (Q 17)]))] (jv_pi fun r (_ : Unit) => r = 0) (fun _ => [(o, .inr (7, [.ref (Q 0), .int (K 1), .ref (Q 2), .int (K 3), .int 1, .int (K 5), vt, .int (K 7), .int (K 8), .int (K 9), .ref (Q 10), .int (K 11), .int (K 12), .ref (Q 13), .ref (Q 14), .ref (Q 15), .ref (Q 16), .ref (Q 17)]))]) 0 0 := by
  refine jv_M.of [(0, .ref o), (1, .int i)] (by decide) (Nat.le_of_ble_eq_true rfl) rfl ?_
  intro pR eR sR mR belowR methR cR AR C hr hin
  refine jv_aload_n C (jd D_Md_count 0 rfl) rfl 0 rfl ?_
  refine jv_iload_n C (jd D_Md_count 1 rfl) rfl 1 rfl ?_
  refine jv_if_lt (tgt := 14) C (jd D_Md_count 2 rfl) (by decide) (fun c2 => ?_) (fun c2 => ?_)
  · refine jv_iconst (v := 0) C (jd D_Md_count 8 rfl) (by decide) ?_
    refine jv_iconst (v := 1) C (jd D_Md_count 9 rfl) (by decide) ?_
    refine jv_callV (wr := []) C cl_Md_104 (c_Md_good_0 o Q (js_rows [0, (K 1), 0, (K 3), (K 4), (K 5), 0, (K 7), (K 8), (K 9), 0, (K 11), (K 12), 0, 0, 0, 0, 0] 0) vt 1) [0] [] rfl rfl rfl rfl (by decide) rfl rfl 0 rfl ⟨Nat.le_of_ble_eq_true rfl, Nat.le_of_ble_eq_true rfl⟩ ⟨Nat.le_of_ble_eq_true rfl, Nat.le_of_ble_eq_true rfl⟩ rfl rfl (Nat.le_of_ble_eq_true rfl) (jd D_Md_count 10 rfl) (fun v1 _ kg9 => ?_)
    obtain ⟨rg9, rfl, kg9⟩ := kg9
    refine jv_fix [0] [(o, .inr (7, [.ref (Q 0), .int (K 1), .ref (Q 2), .int (K 3), .int 1, .int (K 5), vt, .int (K 7), .int (K 8), .int (K 9), .ref (Q 10), .int (K 11), .int (K 12), .ref (Q 13), .ref (Q 14), .ref (Q 15), .ref (Q 16), .ref (Q 17)]))] [.int rg9] 0 0 rfl rfl rfl (Nat.le_refl _) (Nat.le_refl _) ?_
    subst kg9
    refine jv_if_ne (tgt := 24) C (jd D_Md_count 11 rfl) (by decide) (fun c19 => absurd c19 (fun z => z rfl)) (fun c19 => ?_)
    refine jv_iconst (v := 0) C (jd D_Md_count 12 rfl) (by decide) ?_
    exact jv_iret C hr () (rfl) rfl [0] rfl rfl (Nat.le_of_ble_eq_true rfl) (Nat.le_of_ble_eq_true rfl) (jd D_Md_count 13 rfl)
  · refine jv_iload_n C (jd D_Md_count 3 rfl) rfl 1 rfl ?_
    refine jv_iconst (v := 2) C (jd D_Md_count 4 rfl) (by decide) ?_
    refine jv_icmp_gt (tgt := 14) C (jd D_Md_count 5 rfl) (by decide) (fun c7 => ?_) (fun c7 => absurd ((hb.resolve_left c2)) c7)
    refine jv_iconst (v := 0) C (jd D_Md_count 8 rfl) (by decide) ?_
    refine jv_iconst (v := 1) C (jd D_Md_count 9 rfl) (by decide) ?_
    refine jv_callV (wr := []) C cl_Md_104 (c_Md_good_0 o Q (js_rows [0, (K 1), 0, (K 3), (K 4), (K 5), 0, (K 7), (K 8), (K 9), 0, (K 11), (K 12), 0, 0, 0, 0, 0] 0) vt 1) [0] [] rfl rfl rfl rfl (by decide) rfl rfl 0 rfl ⟨Nat.le_of_ble_eq_true rfl, Nat.le_of_ble_eq_true rfl⟩ ⟨Nat.le_of_ble_eq_true rfl, Nat.le_of_ble_eq_true rfl⟩ rfl rfl (Nat.le_of_ble_eq_true rfl) (jd D_Md_count 10 rfl) (fun v2 _ kg9 => ?_)
    obtain ⟨rg9, rfl, kg9⟩ := kg9
    refine jv_fix [0] [(o, .inr (7, [.ref (Q 0), .int (K 1), .ref (Q 2), .int (K 3), .int 1, .int (K 5), vt, .int (K 7), .int (K 8), .int (K 9), .ref (Q 10), .int (K 11), .int (K 12), .ref (Q 13), .ref (Q 14), .ref (Q 15), .ref (Q 16), .ref (Q 17)]))] [.int rg9] 0 0 rfl rfl rfl (Nat.le_refl _) (Nat.le_refl _) ?_
    subst kg9
    refine jv_if_ne (tgt := 24) C (jd D_Md_count 11 rfl) (by decide) (fun c19 => absurd c19 (fun z => z rfl)) (fun c19 => ?_)
    refine jv_iconst (v := 0) C (jd D_Md_count 12 rfl) (by decide) ?_
    exact jv_iret C hr () (rfl) rfl [0] rfl rfl (Nat.le_of_ble_eq_true rfl) (Nat.le_of_ble_eq_true rfl) (jd D_Md_count 13 rfl)

set_option maxHeartbeats 4000000 in
set_option maxRecDepth 100000 in
/-- begin() -/
theorem c_Md_begin {l : Launch} {D : va_G} {dA : Nat → ClassId} {zz : (Nat → Nat) × (Nat → Nat)} (o : Nat) (Q : Nat → Nat) (K : Nat → Int32) (vt : Value)  : jv_M l D dA zz y_Md_begin b_Md_begin 1 none 1 [.ref o] [(o, .inr (7, [.ref (Q 0), .int (K 1), .ref (Q 2), .int (K 3), .int (K 4), .int (K 5), vt, .int (K 7), .int (K 8), .int (K 9), .ref (Q 10), .int (K 11), .int (K 12), .ref (Q 13), .ref (Q 14), .ref (Q 15), .ref (Q 16), .ref (Q 17)]))] (jv_pv fun (_ : Unit) => True) (fun _ => [(o, .inr (7, [.ref (Q 0), .int (K 1), .ref (Q 2), .int (K 3), .int (K 4), .int (K 5), vt, .int (K 7), .int (K 8), .int (K 9), .ref (Q 10), .int 0, .int 0, .ref (Q 13), .ref (Q 14), .ref (Q 15), .ref (Q 16), .ref (Q 17)]))]) 0 0 := by
  refine jv_M.of [(0, .ref o)] (by decide) (Nat.le_of_ble_eq_true rfl) rfl ?_
  intro pR eR sR mR belowR methR cR AR C hr hin
  refine jv_aload_n C (jd D_Md_begin 0 rfl) rfl 0 rfl ?_
  refine jv_iconst (v := 0) C (jd D_Md_begin 1 rfl) (by decide) ?_
  refine jv_put C fl_Md_214 Y_Md rfl 0 [(o, .inr (7, [.ref (Q 0), .int (K 1), .ref (Q 2), .int (K 3), .int (K 4), .int (K 5), vt, .int (K 7), .int (K 8), .int (K 9), .ref (Q 10), .int 0, .int (K 12), .ref (Q 13), .ref (Q 14), .ref (Q 15), .ref (Q 16), .ref (Q 17)]))] rfl rfl rfl (Nat.le_of_ble_eq_true rfl) rfl rfl (jd D_Md_begin 2 rfl) ?_
  refine jv_aload_n C (jd D_Md_begin 3 rfl) rfl 0 rfl ?_
  refine jv_iconst (v := 0) C (jd D_Md_begin 4 rfl) (by decide) ?_
  refine jv_put C fl_Md_217 Y_Md rfl 0 [(o, .inr (7, [.ref (Q 0), .int (K 1), .ref (Q 2), .int (K 3), .int (K 4), .int (K 5), vt, .int (K 7), .int (K 8), .int (K 9), .ref (Q 10), .int 0, .int 0, .ref (Q 13), .ref (Q 14), .ref (Q 15), .ref (Q 16), .ref (Q 17)]))] rfl rfl rfl (Nat.le_of_ble_eq_true rfl) rfl rfl (jd D_Md_begin 5 rfl) ?_
  exact jv_vret C hr () (trivial) [0] rfl rfl (Nat.le_of_ble_eq_true rfl) (Nat.le_of_ble_eq_true rfl) (jd D_Md_begin 6 rfl)
