set_option maxHeartbeats 4000000 in
set_option maxRecDepth 100000 in
/-- Text.length() -/
theorem c_Tx_length {l : Launch} {D : va_G} {dA : Nat → ClassId} (h b N : Nat) (f : Nat → Int32) (t : List Nat)  : jv_M l D dA y_Tx_length b_Tx_length 1 (some (FieldType.int)) 1 [.ref h] [(h, .inr (0, [.ref b, .int (nI t.length)])), (b, .inl (dA 0, N, .inl f))] (jv_pi fun r (_ : Unit) => r = nI t.length) (fun _ => [(h, .inr (0, [.ref b, .int (nI t.length)])), (b, .inl (dA 0, N, .inl f))]) 0 0 := by
  refine jv_M.of [(0, .ref h)] (by decide) (Nat.le_of_ble_eq_true rfl) rfl ?_
  intro p e s m below meth c A C hr hin
  refine jv_aload_n C (jd D_Tx_length 0 rfl) rfl 0 rfl ?_
  refine jv_get C fl_Tx_15 0 rfl rfl (jd D_Tx_length 1 rfl) ?_
  exact jv_iret C hr () (rfl) rfl [0, 1] rfl rfl (Nat.le_of_ble_eq_true rfl) (Nat.le_of_ble_eq_true rfl) (jd D_Tx_length 2 rfl)

set_option maxHeartbeats 4000000 in
set_option maxRecDepth 100000 in
/-- Text.at(i): the byte, or -1 -/
theorem c_Tx_at {l : Launch} {D : va_G} {dA : Nat → ClassId} (h b N : Nat) (f : Nat → Int32) (t : List Nat) (i : Int32) (hl : t.length ≤ N) (hN : N < 2 ^ 31) (ht : js_tx f t) : jv_M l D dA y_Tx_at b_Tx_at 2 (some (FieldType.int)) 1 [.ref h, .int i] [(h, .inr (0, [.ref b, .int (nI t.length)])), (b, .inl (dA 0, N, .inl f))] (jv_pi fun r (_ : Unit) => r = js_at t i) (fun _ => [(h, .inr (0, [.ref b, .int (nI t.length)])), (b, .inl (dA 0, N, .inl f))]) 0 0 := by
  refine jv_M.of [(0, .ref h), (1, .int i)] (by decide) (Nat.le_of_ble_eq_true rfl) rfl ?_
  intro p e s m below meth c A C hr hin
  refine jv_iload_n C (jd D_Tx_at 0 rfl) rfl 1 rfl ?_
  refine jv_if_lt (tgt := 25) C (jd D_Tx_at 1 rfl) (by decide) (fun c1 => ?_) (fun c1 => ?_)
  · refine jv_iconst (v := -1) C (jd D_Tx_at 13 rfl) (by decide) ?_
    exact jv_iret C hr () (js_at_neg c1) rfl [0, 1] rfl rfl (Nat.le_of_ble_eq_true rfl) (Nat.le_of_ble_eq_true rfl) (jd D_Tx_at 14 rfl)
  · refine jv_iload_n C (jd D_Tx_at 2 rfl) rfl 1 rfl ?_
    refine jv_aload_n C (jd D_Tx_at 3 rfl) rfl 0 rfl ?_
    refine jv_get C fl_Tx_15 0 rfl rfl (jd D_Tx_at 4 rfl) ?_
    refine jv_icmp_ge (tgt := 25) C (jd D_Tx_at 5 rfl) (by decide) (fun c9 => ?_) (fun c9 => ?_)
    · refine jv_iconst (v := -1) C (jd D_Tx_at 13 rfl) (by decide) ?_
      exact jv_iret C hr () (js_at_ge c1 c9) rfl [0, 1] rfl rfl (Nat.le_of_ble_eq_true rfl) (Nat.le_of_ble_eq_true rfl) (jd D_Tx_at 14 rfl)
    · refine jv_aload_n C (jd D_Tx_at 6 rfl) rfl 0 rfl ?_
      refine jv_get C fl_Tx_9 0 rfl rfl (jd D_Tx_at 7 rfl) ?_
      refine jv_iload_n C (jd D_Tx_at 8 rfl) rfl 1 rfl ?_
      refine jv_bald C 1 rfl (js_vin c1 c9 hl hN) (jd D_Tx_at 9 rfl) ?_
      refine jv_sipush (v := 255) C (jd D_Tx_at 10 rfl) (by decide) ?_
      refine jv_iand C (jd D_Tx_at 11 rfl) ?_
      refine jv_goto (tgt := 26) C (jd D_Tx_at 12 rfl) (by decide) ?_
      exact jv_iret C hr () (js_at_in ht c1 c9 hl hN) rfl [0, 1] rfl rfl (Nat.le_of_ble_eq_true rfl) (Nat.le_of_ble_eq_true rfl) (jd D_Tx_at 14 rfl)

set_option maxHeartbeats 4000000 in
set_option maxRecDepth 100000 in
/-- Text.add(b), where there is room -/
theorem c_Tx_add {l : Launch} {D : va_G} {dA : Nat → ClassId} (h b N : Nat) (f : Nat → Int32) (t : List Nat) (x : Int32) (hl : t.length < N) (hN : N < 2 ^ 31) (ht : js_tx f t) : jv_M l D dA y_Tx_add b_Tx_add 2 none 1 [.ref h, .int x] [(h, .inr (0, [.ref b, .int (nI t.length)])), (b, .inl (dA 0, N, .inl f))] (jv_pv fun g => js_tx g (t ++ [x.toBitVec.toNat % 256])) (fun g => [(h, .inr (0, [.ref b, .int (nI (t ++ [x.toBitVec.toNat % 256]).length)])), (b, .inl (dA 0, N, .inl g))]) 0 0 := by
  refine jv_M.of [(0, .ref h), (1, .int x)] (by decide) (Nat.le_of_ble_eq_true rfl) rfl ?_
  intro p e s m below meth c A C hr hin
  refine jv_aload_n C (jd D_Tx_add 0 rfl) rfl 0 rfl ?_
  refine jv_get C fl_Tx_15 0 rfl rfl (jd D_Tx_add 1 rfl) ?_
  refine jv_aload_n C (jd D_Tx_add 2 rfl) rfl 0 rfl ?_
  refine jv_get C fl_Tx_9 0 rfl rfl (jd D_Tx_add 3 rfl) ?_
  refine jv_alen C 1 0 rfl rfl (jd D_Tx_add 4 rfl) ?_
  refine jv_icmp_ge (tgt := 33) C (jd D_Tx_add 5 rfl) (by decide) (fun c9 => absurd c9 (nI_ge hl hN)) (fun c9 => ?_)
  refine jv_aload_n C (jd D_Tx_add 6 rfl) rfl 0 rfl ?_
  refine jv_get C fl_Tx_9 0 rfl rfl (jd D_Tx_add 7 rfl) ?_
  refine jv_aload_n C (jd D_Tx_add 8 rfl) rfl 0 rfl ?_
  refine jv_get C fl_Tx_15 0 rfl rfl (jd D_Tx_add 9 rfl) ?_
  refine jv_iload_n C (jd D_Tx_add 10 rfl) rfl 1 rfl ?_
  refine jv_i2b C (jd D_Tx_add 11 rfl) ?_
  refine jv_bast C 1 [(h, .inr (0, [.ref b, .int (nI t.length)])), (b, .inl (dA 0, N, .inl (upd f (nI t.length).toNatClampNeg x.toInt8.toInt32.toInt8.toInt32)))] rfl rfl (vp_in_nI hl hN) (jd D_Tx_add 12 rfl) ?_
  obtain ⟨g, e_g⟩ : ∃ z, z = (upd f (nI t.length).toNatClampNeg x.toInt8.toInt32.toInt8.toInt32) := ⟨_, rfl⟩
  rw [← e_g]
  refine jv_aload_n C (jd D_Tx_add 13 rfl) rfl 0 rfl ?_
  refine jv_dup C (jd D_Tx_add 14 rfl) rfl ?_
  refine jv_get C fl_Tx_15 0 rfl rfl (jd D_Tx_add 15 rfl) ?_
  refine jv_iconst (v := 1) C (jd D_Tx_add 16 rfl) (by decide) ?_
  refine jv_iadd C (jd D_Tx_add 17 rfl) ?_
  refine jv_ati (y := nI (t ++ [x.toBitVec.toNat % 256]).length) (js_len1 _ _) ?_
  refine jv_put C fl_Tx_15 Y_Tx rfl 0 [(h, .inr (0, [.ref b, .int (nI (t ++ [x.toBitVec.toNat % 256]).length)])), (b, .inl (dA 0, N, .inl g))] rfl rfl rfl (Nat.le_of_ble_eq_true rfl) rfl rfl (jd D_Tx_add 18 rfl) ?_
  exact jv_vret C hr g (by rw [e_g, js_b8, nI_clamp (by omega)]; exact js_tx_push ht) [0, 1] rfl rfl (Nat.le_of_ble_eq_true rfl) (Nat.le_of_ble_eq_true rfl) (jd D_Tx_add 19 rfl)

set_option maxHeartbeats 4000000 in
set_option maxRecDepth 100000 in
/-- Text.addInt(v), where there is room -/
theorem c_Tx_addInt {l : Launch} {D : va_G} {dA : Nat → ClassId} (h b N : Nat) (f : Nat → Int32) (t : List Nat) (x : Int32) (hl : t.length + 4 ≤ N) (hN : N < 2 ^ 31) (ht : js_tx f t) : jv_M l D dA y_Tx_addInt b_Tx_addInt 2 none 2 [.ref h, .int x] [(h, .inr (0, [.ref b, .int (nI t.length)])), (b, .inl (dA 0, N, .inl f))] (jv_pv fun g => js_tx g (t ++ js_i4 x)) (fun g => [(h, .inr (0, [.ref b, .int (nI (t ++ js_i4 x).length)])), (b, .inl (dA 0, N, .inl g))]) 0 0 := by
  refine jv_M.of [(0, .ref h), (1, .int x)] (by decide) (Nat.le_of_ble_eq_true rfl) rfl ?_
  intro p e s m below meth c A C hr hin
  refine jv_aload_n C (jd D_Tx_addInt 0 rfl) rfl 0 rfl ?_
  refine jv_iload_n C (jd D_Tx_addInt 1 rfl) rfl 1 rfl ?_
  refine jv_bipush (v := 24) C (jd D_Tx_addInt 2 rfl) (by decide) ?_
  refine jv_iushr C (jd D_Tx_addInt 3 rfl) ?_
  refine jv_callV (wr := []) C cl_Tx_19 (c_Tx_add h b N f t ((x.toUInt32 >>> ((24 : Int32).toUInt32 &&& Int32.toUInt32 31)).toInt32) (by first | omega | (simp only [List.length_append, List.length_cons, List.length_nil]; omega)) hN ht) [0, 1] [] rfl rfl rfl rfl (by decide) rfl rfl 0 rfl ⟨by decide, by decide⟩ ⟨Nat.le_of_ble_eq_true rfl, Nat.le_of_ble_eq_true rfl⟩ rfl rfl (Nat.le_of_ble_eq_true rfl) (jd D_Tx_addInt 4 rfl) (fun v1 g1 k1 => ?_)
  obtain ⟨rfl, k1⟩ := k1
  refine jv_fix [0, 1] [(h, .inr (0, [.ref b, .int (nI (t ++ [((x.toUInt32 >>> ((24 : Int32).toUInt32 &&& Int32.toUInt32 31)).toInt32).toBitVec.toNat % 256]).length)])), (b, .inl (dA 0, N, .inl g1))] [] 0 0 rfl rfl rfl (Nat.le_refl _) (Nat.le_refl _) ?_
  refine jv_aload_n C (jd D_Tx_addInt 5 rfl) rfl 0 rfl ?_
  refine jv_iload_n C (jd D_Tx_addInt 6 rfl) rfl 1 rfl ?_
  refine jv_bipush (v := 16) C (jd D_Tx_addInt 7 rfl) (by decide) ?_
  refine jv_iushr C (jd D_Tx_addInt 8 rfl) ?_
  refine jv_callV (wr := []) C cl_Tx_19 (c_Tx_add h b N g1 (t ++ [((x.toUInt32 >>> ((24 : Int32).toUInt32 &&& Int32.toUInt32 31)).toInt32).toBitVec.toNat % 256]) ((x.toUInt32 >>> ((16 : Int32).toUInt32 &&& Int32.toUInt32 31)).toInt32) (by first | omega | (simp only [List.length_append, List.length_cons, List.length_nil]; omega)) hN k1) [0, 1] [] rfl rfl rfl rfl (by decide) rfl rfl 0 rfl ⟨by decide, by decide⟩ ⟨Nat.le_of_ble_eq_true rfl, Nat.le_of_ble_eq_true rfl⟩ rfl rfl (Nat.le_of_ble_eq_true rfl) (jd D_Tx_addInt 9 rfl) (fun v2 g2 k2 => ?_)
  obtain ⟨rfl, k2⟩ := k2
  refine jv_fix [0, 1] [(h, .inr (0, [.ref b, .int (nI (t ++ [((x.toUInt32 >>> ((24 : Int32).toUInt32 &&& Int32.toUInt32 31)).toInt32).toBitVec.toNat % 256] ++ [((x.toUInt32 >>> ((16 : Int32).toUInt32 &&& Int32.toUInt32 31)).toInt32).toBitVec.toNat % 256]).length)])), (b, .inl (dA 0, N, .inl g2))] [] 0 0 rfl rfl rfl (Nat.le_refl _) (Nat.le_refl _) ?_
  refine jv_aload_n C (jd D_Tx_addInt 10 rfl) rfl 0 rfl ?_
  refine jv_iload_n C (jd D_Tx_addInt 11 rfl) rfl 1 rfl ?_
  refine jv_bipush (v := 8) C (jd D_Tx_addInt 12 rfl) (by decide) ?_
  refine jv_iushr C (jd D_Tx_addInt 13 rfl) ?_
  refine jv_callV (wr := []) C cl_Tx_19 (c_Tx_add h b N g2 (t ++ [((x.toUInt32 >>> ((24 : Int32).toUInt32 &&& Int32.toUInt32 31)).toInt32).toBitVec.toNat % 256] ++ [((x.toUInt32 >>> ((16 : Int32).toUInt32 &&& Int32.toUInt32 31)).toInt32).toBitVec.toNat % 256]) ((x.toUInt32 >>> ((8 : Int32).toUInt32 &&& Int32.toUInt32 31)).toInt32) (by first | omega | (simp only [List.length_append, List.length_cons, List.length_nil]; omega)) hN k2) [0, 1] [] rfl rfl rfl rfl (by decide) rfl rfl 0 rfl ⟨by decide, by decide⟩ ⟨Nat.le_of_ble_eq_true rfl, Nat.le_of_ble_eq_true rfl⟩ rfl rfl (Nat.le_of_ble_eq_true rfl) (jd D_Tx_addInt 14 rfl) (fun v3 g3 k3 => ?_)
  obtain ⟨rfl, k3⟩ := k3
  refine jv_fix [0, 1] [(h, .inr (0, [.ref b, .int (nI (t ++ [((x.toUInt32 >>> ((24 : Int32).toUInt32 &&& Int32.toUInt32 31)).toInt32).toBitVec.toNat % 256] ++ [((x.toUInt32 >>> ((16 : Int32).toUInt32 &&& Int32.toUInt32 31)).toInt32).toBitVec.toNat % 256] ++ [((x.toUInt32 >>> ((8 : Int32).toUInt32 &&& Int32.toUInt32 31)).toInt32).toBitVec.toNat % 256]).length)])), (b, .inl (dA 0, N, .inl g3))] [] 0 0 rfl rfl rfl (Nat.le_refl _) (Nat.le_refl _) ?_
  refine jv_aload_n C (jd D_Tx_addInt 15 rfl) rfl 0 rfl ?_
  refine jv_iload_n C (jd D_Tx_addInt 16 rfl) rfl 1 rfl ?_
  refine jv_callV (wr := []) C cl_Tx_19 (c_Tx_add h b N g3 (t ++ [((x.toUInt32 >>> ((24 : Int32).toUInt32 &&& Int32.toUInt32 31)).toInt32).toBitVec.toNat % 256] ++ [((x.toUInt32 >>> ((16 : Int32).toUInt32 &&& Int32.toUInt32 31)).toInt32).toBitVec.toNat % 256] ++ [((x.toUInt32 >>> ((8 : Int32).toUInt32 &&& Int32.toUInt32 31)).toInt32).toBitVec.toNat % 256]) x (by first | omega | (simp only [List.length_append, List.length_cons, List.length_nil]; omega)) hN k3) [0, 1] [] rfl rfl rfl rfl (by decide) rfl rfl 0 rfl ⟨by decide, by decide⟩ ⟨Nat.le_of_ble_eq_true rfl, Nat.le_of_ble_eq_true rfl⟩ rfl rfl (Nat.le_of_ble_eq_true rfl) (jd D_Tx_addInt 17 rfl) (fun v4 g4 k4 => ?_)
  obtain ⟨rfl, k4⟩ := k4
  refine jv_fix [0, 1] [(h, .inr (0, [.ref b, .int (nI (t ++ [((x.toUInt32 >>> ((24 : Int32).toUInt32 &&& Int32.toUInt32 31)).toInt32).toBitVec.toNat % 256] ++ [((x.toUInt32 >>> ((16 : Int32).toUInt32 &&& Int32.toUInt32 31)).toInt32).toBitVec.toNat % 256] ++ [((x.toUInt32 >>> ((8 : Int32).toUInt32 &&& Int32.toUInt32 31)).toInt32).toBitVec.toNat % 256] ++ [x.toBitVec.toNat % 256]).length)])), (b, .inl (dA 0, N, .inl g4))] [] 0 0 rfl rfl rfl (Nat.le_refl _) (Nat.le_refl _) ?_
  refine jv_weq (ws' := [(h, .inr (0, [.ref b, .int (nI (t ++ js_i4 x).length)])), (b, .inl (dA 0, N, .inl g4))]) (by rw [js_i4_eq]) ?_
  exact jv_vret C hr g4 (by rw [← js_i4_eq]; exact k4) [0, 1] rfl rfl (Nat.le_of_ble_eq_true rfl) (Nat.le_of_ble_eq_true rfl) (jd D_Tx_addInt 18 rfl)

set_option maxHeartbeats 4000000 in
set_option maxRecDepth 100000 in
/-- Text.keep(k), k at most its length -/
theorem c_Tx_keep {l : Launch} {D : va_G} {dA : Nat → ClassId} (h b N : Nat) (f : Nat → Int32) (t : List Nat) (k : Nat) (hk : k ≤ t.length) (hl : t.length ≤ N) (hN : N < 2 ^ 31) : jv_M l D dA y_Tx_keep b_Tx_keep 2 none 1 [.ref h, .int (nI k)] [(h, .inr (0, [.ref b, .int (nI t.length)])), (b, .inl (dA 0, N, .inl f))] (jv_pv fun (_ : Unit) => True) (fun _ => [(h, .inr (0, [.ref b, .int (nI (t.take k).length)])), (b, .inl (dA 0, N, .inl f))]) 0 0 := by
  refine jv_M.of [(0, .ref h), (1, .int (nI k))] (by decide) (Nat.le_of_ble_eq_true rfl) rfl ?_
  intro p e s m below meth c A C hr hin
  refine jv_iload_n C (jd D_Tx_keep 0 rfl) rfl 1 rfl ?_
  refine jv_if_lt (tgt := 17) C (jd D_Tx_keep 1 rfl) (by decide) (fun c1 => absurd c1 (nI_pos (by omega))) (fun c1 => ?_)
  refine jv_iload_n C (jd D_Tx_keep 2 rfl) rfl 1 rfl ?_
  refine jv_aload_n C (jd D_Tx_keep 3 rfl) rfl 0 rfl ?_
  refine jv_get C fl_Tx_15 0 rfl rfl (jd D_Tx_keep 4 rfl) ?_
  refine jv_icmp_gt (tgt := 17) C (jd D_Tx_keep 5 rfl) (by decide) (fun c9 => absurd c9 (nI_nlt hk (by omega))) (fun c9 => ?_)
  refine jv_aload_n C (jd D_Tx_keep 6 rfl) rfl 0 rfl ?_
  refine jv_iload_n C (jd D_Tx_keep 7 rfl) rfl 1 rfl ?_
  refine jv_put C fl_Tx_15 Y_Tx rfl 0 [(h, .inr (0, [.ref b, .int (nI k)])), (b, .inl (dA 0, N, .inl f))] rfl rfl rfl (Nat.le_of_ble_eq_true rfl) rfl rfl (jd D_Tx_keep 8 rfl) ?_
  refine jv_weq (ws' := [(h, .inr (0, [.ref b, .int (nI (t.take k).length)])), (b, .inl (dA 0, N, .inl f))]) (by rw [List.length_take, Nat.min_eq_left hk]) ?_
  exact jv_vret C hr () (trivial) [0, 1] rfl rfl (Nat.le_of_ble_eq_true rfl) (Nat.le_of_ble_eq_true rfl) (jd D_Tx_keep 9 rfl)

set_option maxHeartbeats 4000000 in
set_option maxRecDepth 100000 in
/-- Text.hash(a, z) -/
theorem c_Tx_hash {l : Launch} {D : va_G} {dA : Nat → ClassId} (h b N : Nat) (f : Nat → Int32) (t : List Nat) (a z : Nat) (hl : t.length ≤ N) (hN : N < 2 ^ 31) (ht : js_tx f t) (ha : a ≤ z) (hz : z < 2 ^ 31) : jv_M l D dA y_Tx_hash b_Tx_hash 5 (some (FieldType.int)) 2 [.ref h, .int (nI a), .int (nI z)] [(h, .inr (0, [.ref b, .int (nI t.length)])), (b, .inl (dA 0, N, .inl f))] (jv_pi fun r (_ : Unit) => r = js_hash t a (z - a)) (fun _ => [(h, .inr (0, [.ref b, .int (nI t.length)])), (b, .inl (dA 0, N, .inl f))]) 0 0 := by
  refine jv_M.of [(0, .ref h), (1, .int (nI a)), (2, .int (nI z))] (by decide) (Nat.le_of_ble_eq_true rfl) rfl ?_
  intro p e s m below meth c A C hr hin
  obtain ⟨Q, hQ⟩ : ∃ Q, Q = jv_E D (jv_pi fun r (_ : Unit) => r = js_hash t a (z - a)) (fun _ => [(h, .inr (0, [.ref b, .int (nI t.length)])), (b, .inl (dA 0, N, .inl f))]) below ([.ref h, .int (nI a), .int (nI z)] : List Value).toArray s A 0 0 := ⟨_, rfl⟩
  rw [← hQ]
  refine jv_iconst (v := 0) C (jd D_Tx_hash 0 rfl) (by decide) ?_
  refine jv_istore_n C [(3, .int 0), (0, .ref h), (1, .int (nI a)), (2, .int (nI z))] (jd D_Tx_hash 1 rfl) rfl (by decide) rfl ?_
  refine jv_iload_n C (jd D_Tx_hash 2 rfl) rfl 2 rfl ?_
  refine jv_istore C [(4, .int (nI a)), (3, .int 0), (0, .ref h), (1, .int (nI a)), (2, .int (nI z))] (jd D_Tx_hash 3 rfl) (by decide) rfl ?_
  have hL5 : ∀ (n : Nat) (k : Nat), a + k ≤ z → z + 1 ≤ a + k + n → jv_V p l e (jv_rm 2 0 0) s m ([.ref h, .int (nI a), .int (nI z)] : List Value).toArray below meth c 0 0 Q D A 5 [(h, .inr (0, [.ref b, .int (nI t.length)])), (b, .inl (dA 0, N, .inl f))] [(0, .ref h), (1, .int (nI a)), (2, .int (nI z)), (3, .int (js_hash t a k)), (4, .int (nI (a + k)))] 5 [] := by
    intro n
    induction n with
    | zero =>
      intro k h1 h2
      exact absurd h2 (by omega)
    | succ n ih =>
      intro k hk hm
      refine jv_iload C (jd D_Tx_hash 4 rfl) 4 rfl ?_
      refine jv_iload_n C (jd D_Tx_hash 5 rfl) rfl 2 rfl ?_
      refine jv_icmp_ge (tgt := 29) C (jd D_Tx_hash 6 rfl) (by decide) (fun c8 => ?_) (fun c8 => ?_)
      · refine jv_iload_n C (jd D_Tx_hash 17 rfl) rfl 3 rfl ?_
        rw [hQ]
        exact jv_iret C hr () (by rw [show z - a = k by have := nI_leI (a := z) (b := a + k) (by omega) (by omega); have := this.mp c8; omega]) rfl [0, 1] rfl rfl (Nat.le_of_ble_eq_true rfl) (Nat.le_of_ble_eq_true rfl) (jd D_Tx_hash 18 rfl)
      · have hlt : a + k < z := by
          rcases Nat.lt_or_ge (a + k) z with q | q
          · exact q
          · exact absurd (nI_le q (by omega)) c8
        refine jv_iload_n C (jd D_Tx_hash 7 rfl) rfl 3 rfl ?_
        refine jv_bipush (v := 31) C (jd D_Tx_hash 8 rfl) (by decide) ?_
        refine jv_imul C (jd D_Tx_hash 9 rfl) ?_
        refine jv_aload_n C (jd D_Tx_hash 10 rfl) rfl 0 rfl ?_
        refine jv_iload C (jd D_Tx_hash 11 rfl) 4 rfl ?_
        refine jv_callV (wr := []) C cl_Tx_29 (c_Tx_at h b N f t (nI (a + k)) hl hN ht) [0, 1] [] rfl rfl rfl rfl (by decide) rfl rfl 0 rfl ⟨by decide, by decide⟩ ⟨Nat.le_of_ble_eq_true rfl, Nat.le_of_ble_eq_true rfl⟩ rfl rfl (Nat.le_of_ble_eq_true rfl) (jd D_Tx_hash 12 rfl) (fun v1 _ k1 => ?_)
        obtain ⟨r1, rfl, k1⟩ := k1
        refine jv_fix [0, 1] [(h, .inr (0, [.ref b, .int (nI t.length)])), (b, .inl (dA 0, N, .inl f))] [.int r1, .int ((js_hash t a k) * 31)] 0 0 rfl rfl rfl (Nat.le_refl _) (Nat.le_refl _) ?_
        rw [js_at_nat (by omega) (by omega)] at k1
        subst k1
        refine jv_iadd C (jd D_Tx_hash 13 rfl) ?_
        refine jv_istore_n C [(3, .int (((js_hash t a k) * 31) + (js_b t (a + k)))), (0, .ref h), (1, .int (nI a)), (2, .int (nI z)), (4, .int (nI (a + k)))] (jd D_Tx_hash 14 rfl) rfl (by decide) rfl ?_
        refine jv_iinc (v := nI (a + (k + 1))) C [(4, .int (nI (a + (k + 1)))), (3, .int (((js_hash t a k) * 31) + (js_b t (a + k)))), (0, .ref h), (1, .int (nI a)), (2, .int (nI z))] (jd D_Tx_hash 15 rfl) 4 rfl (nI_1 (a + k)) (by decide) rfl ?_
        refine jv_goto (tgt := 5) C (jd D_Tx_hash 16 rfl) (by decide) ?_
        refine jv_lvsub [2, 3, 4, 1, 0] rfl ?_
        exact ih (k + 1) (by omega) (by omega)
  refine jv_lvsub [2, 3, 4, 1, 0] rfl ?_
  exact hL5 (z + 1 - a) 0 (by omega) (by omega)
