set_option maxHeartbeats 4000000 in
set_option maxRecDepth 100000 in
/-- Text.length() -/
theorem c_Tx_length {l : Launch} {D : va_G} {dA : Nat → ClassId} {zz : (Nat → Nat) × (Nat → Nat)} (h b N : Nat) (f : Nat → Int32) (t : List Nat)  : jv_M l D dA zz y_Tx_length b_Tx_length 1 (some (FieldType.int)) 1 [.ref h] [(h, .inr (0, [.ref b, .int (nI t.length)])), (b, .inl (dA 0, N, .inl f))] (jv_pi fun r (_ : Unit) => r = nI t.length) (fun _ => [(h, .inr (0, [.ref b, .int (nI t.length)])), (b, .inl (dA 0, N, .inl f))]) 0 0 := by
  refine jv_M.of [(0, .ref h)] (by decide) (Nat.le_of_ble_eq_true rfl) rfl ?_
  intro pR eR sR mR belowR methR cR AR C hr hin
  refine jv_aload_n C (jd D_Tx_length 0 rfl) rfl 0 rfl ?_
  refine jv_get C fl_Tx_15 0 rfl rfl (jd D_Tx_length 1 rfl) ?_
  exact jv_iret C hr () (rfl) rfl [0, 1] rfl rfl (Nat.le_of_ble_eq_true rfl) (Nat.le_of_ble_eq_true rfl) (jd D_Tx_length 2 rfl)

set_option maxHeartbeats 4000000 in
set_option maxRecDepth 100000 in
/-- Text.at(i): the byte, or -1 -/
theorem c_Tx_at {l : Launch} {D : va_G} {dA : Nat → ClassId} {zz : (Nat → Nat) × (Nat → Nat)} (h b N : Nat) (f : Nat → Int32) (t : List Nat) (i : Int32) (hl : t.length ≤ N) (hN : N < 2 ^ 31) (ht : js_tx f t) : jv_M l D dA zz y_Tx_at b_Tx_at 2 (some (FieldType.int)) 1 [.ref h, .int i] [(h, .inr (0, [.ref b, .int (nI t.length)])), (b, .inl (dA 0, N, .inl f))] (jv_pi fun r (_ : Unit) => r = js_at t i) (fun _ => [(h, .inr (0, [.ref b, .int (nI t.length)])), (b, .inl (dA 0, N, .inl f))]) 0 0 := by
  refine jv_M.of [(0, .ref h), (1, .int i)] (by decide) (Nat.le_of_ble_eq_true rfl) rfl ?_
  intro pR eR sR mR belowR methR cR AR C hr hin
  refine jv_iload_n C (jd D_Tx_at 0 rfl) rfl 1 rfl ?_
  refine jv_if_lt (tgt := 25) C (jd D_Tx_at 1 rfl) (by decide) (fun c1 => ?_) (fun c1 => ?_)
  · refine jv_iconst (v := -1) C (jd D_Tx_at 13 rfl) (by decide) ?_
    exact jv_iret C hr () (js_at_neg c1) rfl [0, 1] rfl rfl (Nat.le_of_ble_eq_true rfl) (Nat.le_of_ble_eq_true rfl) (jd D_Tx_at 14 rfl)
  · refine jv_iload_n C (jd D_Tx_at 2 rfl) rfl 1 rfl ?_
    refine jv_aload_n C (jd D_Tx_at 3 rfl) rfl 0 rfl ?_
    refine jv_get C fl_Tx_15 0 rfl rfl (jd D_Tx_at 4 rfl) ?_
    refine jv_icmp_ge (tgt := 25) C (jd D_Tx_at 5 rfl) (by decide) (fun c9 => ?_) (fun c9 => ?_)
    · refine jv_iconst (v := -1) C (jd D_Tx_at 13 rfl) (by decide) ?_
      exact jv_iret C hr () (js_at_ge c1 c9) rfl [0, 1] rfl rfl (Nat.le_of_ble_eq_true rfl) (Nat.le_of_ble_eq_true rfl) (jd D_Tx_at 14 rfl)
    · refine jv_aload_n C (jd D_Tx_at 6 rfl) rfl 0 rfl ?_
      refine jv_get C fl_Tx_9 0 rfl rfl (jd D_Tx_at 7 rfl) ?_
      refine jv_iload_n C (jd D_Tx_at 8 rfl) rfl 1 rfl ?_
      refine jv_bald C 1 rfl (js_vin c1 c9 hl hN) (jd D_Tx_at 9 rfl) ?_
      refine jv_sipush (v := 255) C (jd D_Tx_at 10 rfl) (by decide) ?_
      refine jv_iand C (jd D_Tx_at 11 rfl) ?_
      refine jv_goto (tgt := 26) C (jd D_Tx_at 12 rfl) (by decide) ?_
      exact jv_iret C hr () (js_at_in ht c1 c9 hl hN) rfl [0, 1] rfl rfl (Nat.le_of_ble_eq_true rfl) (Nat.le_of_ble_eq_true rfl) (jd D_Tx_at 14 rfl)

set_option maxHeartbeats 4000000 in
set_option maxRecDepth 100000 in
/-- Text.add(b), where there is room -/
theorem c_Tx_add {l : Launch} {D : va_G} {dA : Nat → ClassId} {zz : (Nat → Nat) × (Nat → Nat)} (h b N : Nat) (f : Nat → Int32) (t : List Nat) (x : Int32) (hl : t.length < N) (hN : N < 2 ^ 31) (ht : js_tx f t) : jv_M l D dA zz y_Tx_add b_Tx_add 2 none 1 [.ref h, .int x] [(h, .inr (0, [.ref b, .int (nI t.length)])), (b, .inl (dA 0, N, .inl f))] (jv_pv fun g => js_tx g (t ++ [x.toBitVec.toNat % 256])) (fun g => [(h, .inr (0, [.ref b, .int (nI (t ++ [x.toBitVec.toNat % 256]).length)])), (b, .inl (dA 0, N, .inl g))]) 0 0 := by
  refine jv_M.of [(0, .ref h), (1, .int x)] (by decide) (Nat.le_of_ble_eq_true rfl) rfl ?_
  intro pR eR sR mR belowR methR cR AR C hr hin
  refine jv_aload_n C (jd D_Tx_add 0 rfl) rfl 0 rfl ?_
  refine jv_get C fl_Tx_15 0 rfl rfl (jd D_Tx_add 1 rfl) ?_
  refine jv_aload_n C (jd D_Tx_add 2 rfl) rfl 0 rfl ?_
  refine jv_get C fl_Tx_9 0 rfl rfl (jd D_Tx_add 3 rfl) ?_
  refine jv_alen C 1 0 rfl rfl (jd D_Tx_add 4 rfl) ?_
  refine jv_icmp_ge (tgt := 33) C (jd D_Tx_add 5 rfl) (by decide) (fun c9 => absurd c9 (nI_ge hl hN)) (fun c9 => ?_)
  refine jv_aload_n C (jd D_Tx_add 6 rfl) rfl 0 rfl ?_
  refine jv_get C fl_Tx_9 0 rfl rfl (jd D_Tx_add 7 rfl) ?_
  refine jv_aload_n C (jd D_Tx_add 8 rfl) rfl 0 rfl ?_
  refine jv_get C fl_Tx_15 0 rfl rfl (jd D_Tx_add 9 rfl) ?_
  refine jv_iload_n C (jd D_Tx_add 10 rfl) rfl 1 rfl ?_
  refine jv_i2b C (jd D_Tx_add 11 rfl) ?_
  refine jv_bast C 1 [(h, .inr (0, [.ref b, .int (nI t.length)])), (b, .inl (dA 0, N, .inl (upd f (nI t.length).toNatClampNeg x.toInt8.toInt32.toInt8.toInt32)))] rfl rfl (vp_in_nI hl hN) (jd D_Tx_add 12 rfl) ?_
  obtain ⟨g, e_g⟩ : ∃ zz_, zz_ = (upd f (nI t.length).toNatClampNeg x.toInt8.toInt32.toInt8.toInt32) := ⟨_, rfl⟩
  rw [← e_g]
  refine jv_aload_n C (jd D_Tx_add 13 rfl) rfl 0 rfl ?_
  refine jv_dup C (jd D_Tx_add 14 rfl) rfl ?_
  refine jv_get C fl_Tx_15 0 rfl rfl (jd D_Tx_add 15 rfl) ?_
  refine jv_iconst (v := 1) C (jd D_Tx_add 16 rfl) (by decide) ?_
  refine jv_iadd C (jd D_Tx_add 17 rfl) ?_
  refine jv_ati (y := nI (t ++ [x.toBitVec.toNat % 256]).length) (js_len1 _ _) ?_
  refine jv_put C fl_Tx_15 Y_Tx rfl 0 [(h, .inr (0, [.ref b, .int (nI (t ++ [x.toBitVec.toNat % 256]).length)])), (b, .inl (dA 0, N, .inl g))] rfl rfl rfl (Nat.le_of_ble_eq_true rfl) rfl rfl (jd D_Tx_add 18 rfl) ?_
  exact jv_vret C hr g (by rw [e_g, js_b8, nI_clamp (by omega)]; exact js_tx_push ht) [0, 1] rfl rfl (Nat.le_of_ble_eq_true rfl) (Nat.le_of_ble_eq_true rfl) (jd D_Tx_add 19 rfl)

set_option maxHeartbeats 4000000 in
set_option maxRecDepth 100000 in
/-- Text.addInt(v), where there is room -/
theorem c_Tx_addInt {l : Launch} {D : va_G} {dA : Nat → ClassId} {zz : (Nat → Nat) × (Nat → Nat)} (h b N : Nat) (f : Nat → Int32) (t : List Nat) (x : Int32) (hl : t.length + 4 ≤ N) (hN : N < 2 ^ 31) (ht : js_tx f t) : jv_M l D dA zz y_Tx_addInt b_Tx_addInt 2 none 2 [.ref h, .int x] [(h, .inr (0, [.ref b, .int (nI t.length)])), (b, .inl (dA 0, N, .inl f))] (jv_pv fun g => js_tx g (t ++ js_i4 x)) (fun g => [(h, .inr (0, [.ref b, .int (nI (t ++ js_i4 x).length)])), (b, .inl (dA 0, N, .inl g))]) 0 0 := by
  refine jv_M.of [(0, .ref h), (1, .int x)] (by decide) (Nat.le_of_ble_eq_true rfl) rfl ?_
  intro pR eR sR mR belowR methR cR AR C hr hin
  refine jv_aload_n C (jd D_Tx_addInt 0 rfl) rfl 0 rfl ?_
  refine jv_iload_n C (jd D_Tx_addInt 1 rfl) rfl 1 rfl ?_
  refine jv_bipush (v := 24) C (jd D_Tx_addInt 2 rfl) (by decide) ?_
  refine jv_iushr C (jd D_Tx_addInt 3 rfl) ?_
  refine jv_callV (wr := []) C cl_Tx_19 (c_Tx_add h b N f t ((x.toUInt32 >>> ((24 : Int32).toUInt32 &&& Int32.toUInt32 31)).toInt32) (by first | omega | (simp only [List.length_append, List.length_cons, List.length_nil]; omega)) hN ht) [0, 1] [] rfl rfl rfl rfl (by decide) rfl rfl 0 rfl ⟨Nat.le_of_ble_eq_true rfl, Nat.le_of_ble_eq_true rfl⟩ ⟨Nat.le_of_ble_eq_true rfl, Nat.le_of_ble_eq_true rfl⟩ rfl rfl (Nat.le_of_ble_eq_true rfl) (jd D_Tx_addInt 4 rfl) (fun v1 g1 k1 => ?_)
  obtain ⟨rfl, k1⟩ := k1
  refine jv_fix [0, 1] [(h, .inr (0, [.ref b, .int (nI (t ++ [((x.toUInt32 >>> ((24 : Int32).toUInt32 &&& Int32.toUInt32 31)).toInt32).toBitVec.toNat % 256]).length)])), (b, .inl (dA 0, N, .inl g1))] [] 0 0 rfl rfl rfl (Nat.le_refl _) (Nat.le_refl _) ?_
  refine jv_aload_n C (jd D_Tx_addInt 5 rfl) rfl 0 rfl ?_
  refine jv_iload_n C (jd D_Tx_addInt 6 rfl) rfl 1 rfl ?_
  refine jv_bipush (v := 16) C (jd D_Tx_addInt 7 rfl) (by decide) ?_
  refine jv_iushr C (jd D_Tx_addInt 8 rfl) ?_
  refine jv_callV (wr := []) C cl_Tx_19 (c_Tx_add h b N g1 (t ++ [((x.toUInt32 >>> ((24 : Int32).toUInt32 &&& Int32.toUInt32 31)).toInt32).toBitVec.toNat % 256]) ((x.toUInt32 >>> ((16 : Int32).toUInt32 &&& Int32.toUInt32 31)).toInt32) (by first | omega | (simp only [List.length_append, List.length_cons, List.length_nil]; omega)) hN k1) [0, 1] [] rfl rfl rfl rfl (by decide) rfl rfl 0 rfl ⟨Nat.le_of_ble_eq_true rfl, Nat.le_of_ble_eq_true rfl⟩ ⟨Nat.le_of_ble_eq_true rfl, Nat.le_of_ble_eq_true rfl⟩ rfl rfl (Nat.le_of_ble_eq_true rfl) (jd D_Tx_addInt 9 rfl) (fun v2 g2 k2 => ?_)
  obtain ⟨rfl, k2⟩ := k2
  refine jv_fix [0, 1] [(h, .inr (0, [.ref b, .int (nI (t ++ [((x.toUInt32 >>> ((24 : Int32).toUInt32 &&& Int32.toUInt32 31)).toInt32).toBitVec.toNat % 256] ++ [((x.toUInt32 >>> ((16 : Int32).toUInt32 &&& Int32.toUInt32 31)).toInt32).toBitVec.toNat % 256]).length)])), (b, .inl (dA 0, N, .inl g2))] [] 0 0 rfl rfl rfl (Nat.le_refl _) (Nat.le_refl _) ?_
  refine jv_aload_n C (jd D_Tx_addInt 10 rfl) rfl 0 rfl ?_
  refine jv_iload_n C (jd D_Tx_addInt 11 rfl) rfl 1 rfl ?_
  refine jv_bipush (v := 8) C (jd D_Tx_addInt 12 rfl) (by decide) ?_
  refine jv_iushr C (jd D_Tx_addInt 13 rfl) ?_
  refine jv_callV (wr := []) C cl_Tx_19 (c_Tx_add h b N g2 (t ++ [((x.toUInt32 >>> ((24 : Int32).toUInt32 &&& Int32.toUInt32 31)).toInt32).toBitVec.toNat % 256] ++ [((x.toUInt32 >>> ((16 : Int32).toUInt32 &&& Int32.toUInt32 31)).toInt32).toBitVec.toNat % 256]) ((x.toUInt32 >>> ((8 : Int32).toUInt32 &&& Int32.toUInt32 31)).toInt32) (by first | omega | (simp only [List.length_append, List.length_cons, List.length_nil]; omega)) hN k2) [0, 1] [] rfl rfl rfl rfl (by decide) rfl rfl 0 rfl ⟨Nat.le_of_ble_eq_true rfl, Nat.le_of_ble_eq_true rfl⟩ ⟨Nat.le_of_ble_eq_true rfl, Nat.le_of_ble_eq_true rfl⟩ rfl rfl (Nat.le_of_ble_eq_true rfl) (jd D_Tx_addInt 14 rfl) (fun v3 g3 k3 => ?_)
  obtain ⟨rfl, k3⟩ := k3
  refine jv_fix [0, 1] [(h, .inr (0, [.ref b, .int (nI (t ++ [((x.toUInt32 >>> ((24 : Int32).toUInt32 &&& Int32.toUInt32 31)).toInt32).toBitVec.toNat % 256] ++ [((x.toUInt32 >>> ((16 : Int32).toUInt32 &&& Int32.toUInt32 31)).toInt32).toBitVec.toNat % 256] ++ [((x.toUInt32 >>> ((8 : Int32).toUInt32 &&& Int32.toUInt32 31)).toInt32).toBitVec.toNat % 256]).length)])), (b, .inl (dA 0, N, .inl g3))] [] 0 0 rfl rfl rfl (Nat.le_refl _) (Nat.le_refl _) ?_
  refine jv_aload_n C (jd D_Tx_addInt 15 rfl) rfl 0 rfl ?_
  refine jv_iload_n C (jd D_Tx_addInt 16 rfl) rfl 1 rfl ?_
  refine jv_callV (wr := []) C cl_Tx_19 (c_Tx_add h b N g3 (t ++ [((x.toUInt32 >>> ((24 : Int32).toUInt32 &&& Int32.toUInt32 31)).toInt32).toBitVec.toNat % 256] ++ [((x.toUInt32 >>> ((16 : Int32).toUInt32 &&& Int32.toUInt32 31)).toInt32).toBitVec.toNat % 256] ++ [((x.toUInt32 >>> ((8 : Int32).toUInt32 &&& Int32.toUInt32 31)).toInt32).toBitVec.toNat % 256]) x (by first | omega | (simp only [List.length_append, List.length_cons, List.length_nil]; omega)) hN k3) [0, 1] [] rfl rfl rfl rfl (by decide) rfl rfl 0 rfl ⟨Nat.le_of_ble_eq_true rfl, Nat.le_of_ble_eq_true rfl⟩ ⟨Nat.le_of_ble_eq_true rfl, Nat.le_of_ble_eq_true rfl⟩ rfl rfl (Nat.le_of_ble_eq_true rfl) (jd D_Tx_addInt 17 rfl) (fun v4 g4 k4 => ?_)
  obtain ⟨rfl, k4⟩ := k4
  refine jv_fix [0, 1] [(h, .inr (0, [.ref b, .int (nI (t ++ [((x.toUInt32 >>> ((24 : Int32).toUInt32 &&& Int32.toUInt32 31)).toInt32).toBitVec.toNat % 256] ++ [((x.toUInt32 >>> ((16 : Int32).toUInt32 &&& Int32.toUInt32 31)).toInt32).toBitVec.toNat % 256] ++ [((x.toUInt32 >>> ((8 : Int32).toUInt32 &&& Int32.toUInt32 31)).toInt32).toBitVec.toNat % 256] ++ [x.toBitVec.toNat % 256]).length)])), (b, .inl (dA 0, N, .inl g4))] [] 0 0 rfl rfl rfl (Nat.le_refl _) (Nat.le_refl _) ?_
  refine jv_weq (ws' := [(h, .inr (0, [.ref b, .int (nI (t ++ js_i4 x).length)])), (b, .inl (dA 0, N, .inl g4))]) (by rw [js_i4_eq]) ?_
  exact jv_vret C hr g4 (by rw [← js_i4_eq]; exact k4) [0, 1] rfl rfl (Nat.le_of_ble_eq_true rfl) (Nat.le_of_ble_eq_true rfl) (jd D_Tx_addInt 18 rfl)

set_option maxHeartbeats 4000000 in
set_option maxRecDepth 100000 in
/-- Text.keep(k), k at most its length -/
theorem c_Tx_keep {l : Launch} {D : va_G} {dA : Nat → ClassId} {zz : (Nat → Nat) × (Nat → Nat)} (h b N : Nat) (f : Nat → Int32) (t : List Nat) (k : Nat) (hk : k ≤ t.length) (hl : t.length ≤ N) (hN : N < 2 ^ 31) : jv_M l D dA zz y_Tx_keep b_Tx_keep 2 none 1 [.ref h, .int (nI k)] [(h, .inr (0, [.ref b, .int (nI t.length)])), (b, .inl (dA 0, N, .inl f))] (jv_pv fun (_ : Unit) => True) (fun _ => [(h, .inr (0, [.ref b, .int (nI (t.take k).length)])), (b, .inl (dA 0, N, .inl f))]) 0 0 := by
  refine jv_M.of [(0, .ref h), (1, .int (nI k))] (by decide) (Nat.le_of_ble_eq_true rfl) rfl ?_
  intro pR eR sR mR belowR methR cR AR C hr hin
  refine jv_iload_n C (jd D_Tx_keep 0 rfl) rfl 1 rfl ?_
  refine jv_if_lt (tgt := 17) C (jd D_Tx_keep 1 rfl) (by decide) (fun c1 => absurd c1 (nI_pos (by omega))) (fun c1 => ?_)
  refine jv_iload_n C (jd D_Tx_keep 2 rfl) rfl 1 rfl ?_
  refine jv_aload_n C (jd D_Tx_keep 3 rfl) rfl 0 rfl ?_
  refine jv_get C fl_Tx_15 0 rfl rfl (jd D_Tx_keep 4 rfl) ?_
  refine jv_icmp_gt (tgt := 17) C (jd D_Tx_keep 5 rfl) (by decide) (fun c9 => absurd c9 (nI_nlt hk (by omega))) (fun c9 => ?_)
  refine jv_aload_n C (jd D_Tx_keep 6 rfl) rfl 0 rfl ?_
  refine jv_iload_n C (jd D_Tx_keep 7 rfl) rfl 1 rfl ?_
  refine jv_put C fl_Tx_15 Y_Tx rfl 0 [(h, .inr (0, [.ref b, .int (nI k)])), (b, .inl (dA 0, N, .inl f))] rfl rfl rfl (Nat.le_of_ble_eq_true rfl) rfl rfl (jd D_Tx_keep 8 rfl) ?_
  refine jv_weq (ws' := [(h, .inr (0, [.ref b, .int (nI (t.take k).length)])), (b, .inl (dA 0, N, .inl f))]) (by rw [List.length_take, Nat.min_eq_left hk]) ?_
  exact jv_vret C hr () (trivial) [0, 1] rfl rfl (Nat.le_of_ble_eq_true rfl) (Nat.le_of_ble_eq_true rfl) (jd D_Tx_keep 9 rfl)

set_option maxHeartbeats 4000000 in
set_option maxRecDepth 100000 in
/-- Text.hash(a, z) -/
theorem c_Tx_hash {l : Launch} {D : va_G} {dA : Nat → ClassId} {zz : (Nat → Nat) × (Nat → Nat)} (h b N : Nat) (f : Nat → Int32) (t : List Nat) (a z : Nat) (hl : t.length ≤ N) (hN : N < 2 ^ 31) (ht : js_tx f t) (ha : a ≤ z) (hz : z < 2 ^ 31) : jv_M l D dA zz y_Tx_hash b_Tx_hash 5 (some (FieldType.int)) 2 [.ref h, .int (nI a), .int (nI z)] [(h, .inr (0, [.ref b, .int (nI t.length)])), (b, .inl (dA 0, N, .inl f))] (jv_pi fun r (_ : Unit) => r = js_hash t a (z - a)) (fun _ => [(h, .inr (0, [.ref b, .int (nI t.length)])), (b, .inl (dA 0, N, .inl f))]) 0 0 := by
  refine jv_M.of [(0, .ref h), (1, .int (nI a)), (2, .int (nI z))] (by decide) (Nat.le_of_ble_eq_true rfl) rfl ?_
  intro pR eR sR mR belowR methR cR AR C hr hin
  obtain ⟨QR, hQ⟩ : ∃ QR, QR = jv_E D (jv_pi fun r (_ : Unit) => r = js_hash t a (z - a)) (fun _ => [(h, .inr (0, [.ref b, .int (nI t.length)])), (b, .inl (dA 0, N, .inl f))]) belowR ([.ref h, .int (nI a), .int (nI z)] : List Value).toArray sR AR 0 0 := ⟨_, rfl⟩
  rw [← hQ]
  refine jv_iconst (v := 0) C (jd D_Tx_hash 0 rfl) (by decide) ?_
  refine jv_istore_n C [(3, .int 0), (0, .ref h), (1, .int (nI a)), (2, .int (nI z))] (jd D_Tx_hash 1 rfl) rfl (by decide) rfl ?_
  refine jv_iload_n C (jd D_Tx_hash 2 rfl) rfl 2 rfl ?_
  refine jv_istore C [(4, .int (nI a)), (3, .int 0), (0, .ref h), (1, .int (nI a)), (2, .int (nI z))] (jd D_Tx_hash 3 rfl) (by decide) rfl ?_
  have hL5 : ∀ (n : Nat) (k : Nat), a + k ≤ z → z + 1 ≤ a + k + n → jv_V pR l eR (jv_rm 2 0 0) sR mR ([.ref h, .int (nI a), .int (nI z)] : List Value).toArray belowR methR cR 0 0 QR D AR 5 [(h, .inr (0, [.ref b, .int (nI t.length)])), (b, .inl (dA 0, N, .inl f))] [(0, .ref h), (1, .int (nI a)), (2, .int (nI z)), (3, .int (js_hash t a k)), (4, .int (nI (a + k)))] 5 [] := by
    intro n
    induction n with
    | zero =>
      intro k h1 h2
      exact absurd h2 (by omega)
    | succ n ih =>
      intro k hk hm
      refine jv_iload C (jd D_Tx_hash 4 rfl) 4 rfl ?_
      refine jv_iload_n C (jd D_Tx_hash 5 rfl) rfl 2 rfl ?_
      refine jv_icmp_ge (tgt := 29) C (jd D_Tx_hash 6 rfl) (by decide) (fun c8 => ?_) (fun c8 => ?_)
      · refine jv_iload_n C (jd D_Tx_hash 17 rfl) rfl 3 rfl ?_
        rw [hQ]
        exact jv_iret C hr () (by rw [show z - a = k by have := nI_leI (a := z) (b := a + k) (by omega) (by omega); have := this.mp c8; omega]) rfl [0, 1] rfl rfl (Nat.le_of_ble_eq_true rfl) (Nat.le_of_ble_eq_true rfl) (jd D_Tx_hash 18 rfl)
      · have hlt : a + k < z := by
          rcases Nat.lt_or_ge (a + k) z with q | q
          · exact q
          · exact absurd (nI_le q (by omega)) c8
        refine jv_iload_n C (jd D_Tx_hash 7 rfl) rfl 3 rfl ?_
        refine jv_bipush (v := 31) C (jd D_Tx_hash 8 rfl) (by decide) ?_
        refine jv_imul C (jd D_Tx_hash 9 rfl) ?_
        refine jv_aload_n C (jd D_Tx_hash 10 rfl) rfl 0 rfl ?_
        refine jv_iload C (jd D_Tx_hash 11 rfl) 4 rfl ?_
        refine jv_callV (wr := []) C cl_Tx_29 (c_Tx_at h b N f t (nI (a + k)) hl hN ht) [0, 1] [] rfl rfl rfl rfl (by decide) rfl rfl 0 rfl ⟨Nat.le_of_ble_eq_true rfl, Nat.le_of_ble_eq_true rfl⟩ ⟨Nat.le_of_ble_eq_true rfl, Nat.le_of_ble_eq_true rfl⟩ rfl rfl (Nat.le_of_ble_eq_true rfl) (jd D_Tx_hash 12 rfl) (fun v1 _ k1 => ?_)
        obtain ⟨r1, rfl, k1⟩ := k1
        refine jv_fix [0, 1] [(h, .inr (0, [.ref b, .int (nI t.length)])), (b, .inl (dA 0, N, .inl f))] [.int r1, .int ((js_hash t a k) * 31)] 0 0 rfl rfl rfl (Nat.le_refl _) (Nat.le_refl _) ?_
        rw [js_at_nat (by omega) (by omega)] at k1
        subst k1
        refine jv_iadd C (jd D_Tx_hash 13 rfl) ?_
        refine jv_istore_n C [(3, .int (((js_hash t a k) * 31) + (js_b t (a + k)))), (0, .ref h), (1, .int (nI a)), (2, .int (nI z)), (4, .int (nI (a + k)))] (jd D_Tx_hash 14 rfl) rfl (by decide) rfl ?_
        refine jv_iinc (v := nI (a + (k + 1))) C [(4, .int (nI (a + (k + 1)))), (3, .int (((js_hash t a k) * 31) + (js_b t (a + k)))), (0, .ref h), (1, .int (nI a)), (2, .int (nI z))] (jd D_Tx_hash 15 rfl) 4 rfl (nI_1 (a + k)) (by decide) rfl ?_
        refine jv_goto (tgt := 5) C (jd D_Tx_hash 16 rfl) (by decide) ?_
        refine jv_lvsub [2, 3, 4, 1, 0] rfl ?_
        exact ih (k + 1) (by omega) (by omega)
  refine jv_lvsub [2, 3, 4, 1, 0] rfl ?_
  exact hL5 (z + 1 - a) 0 (by omega) (by omega)

set_option maxHeartbeats 4000000 in
set_option maxRecDepth 100000 in
/-- Text.hasSameBytes(a, z, other, c, d) -/
theorem c_Tx_hasSameBytes {l : Launch} {D : va_G} {dA : Nat → ClassId} {zz : (Nat → Nat) × (Nat → Nat)} (h b N : Nat) (f : Nat → Int32) (t : List Nat) (h2 b2 N2 : Nat) (f2 : Nat → Int32) (t2 : List Nat) (a z c d : Nat) (hl : t.length ≤ N) (hN : N < 2 ^ 31) (ht : js_tx f t) (hl2 : t2.length ≤ N2) (hN2 : N2 < 2 ^ 31) (ht2 : js_tx f2 t2) (ha : a ≤ z) (hz : z < 2 ^ 30) (hc : c ≤ d) (hd : d < 2 ^ 30) : jv_M l D dA zz y_Tx_hasSameBytes b_Tx_hasSameBytes 7 (some (FieldType.boolean)) 2 [.ref h, .int (nI a), .int (nI z), .ref h2, .int (nI c), .int (nI d)] [(h, .inr (0, [.ref b, .int (nI t.length)])), (b, .inl (dA 0, N, .inl f)), (h2, .inr (0, [.ref b2, .int (nI t2.length)])), (b2, .inl (dA 0, N2, .inl f2))] (jv_pi fun r (_ : Unit) => js_sm t a z t2 c d r) (fun _ => [(h, .inr (0, [.ref b, .int (nI t.length)])), (b, .inl (dA 0, N, .inl f)), (h2, .inr (0, [.ref b2, .int (nI t2.length)])), (b2, .inl (dA 0, N2, .inl f2))]) 0 0 := by
  refine jv_M.of [(0, .ref h), (1, .int (nI a)), (2, .int (nI z)), (3, .ref h2), (4, .int (nI c)), (5, .int (nI d))] (by decide) (Nat.le_of_ble_eq_true rfl) rfl ?_
  intro pR eR sR mR belowR methR cR AR C hr hin
  obtain ⟨QR, hQ⟩ : ∃ QR, QR = jv_E D (jv_pi fun r (_ : Unit) => js_sm t a z t2 c d r) (fun _ => [(h, .inr (0, [.ref b, .int (nI t.length)])), (b, .inl (dA 0, N, .inl f)), (h2, .inr (0, [.ref b2, .int (nI t2.length)])), (b2, .inl (dA 0, N2, .inl f2))]) belowR ([.ref h, .int (nI a), .int (nI z), .ref h2, .int (nI c), .int (nI d)] : List Value).toArray sR AR 0 0 := ⟨_, rfl⟩
  rw [← hQ]
  refine jv_iload_n C (jd D_Tx_hasSameBytes 0 rfl) rfl 2 rfl ?_
  refine jv_iload_n C (jd D_Tx_hasSameBytes 1 rfl) rfl 1 rfl ?_
  refine jv_isub C (jd D_Tx_hasSameBytes 2 rfl) ?_
  refine jv_ati (y := nI (z - a)) (pk_sub ha) ?_
  refine jv_iload C (jd D_Tx_hasSameBytes 3 rfl) 5 rfl ?_
  refine jv_iload C (jd D_Tx_hasSameBytes 4 rfl) 4 rfl ?_
  refine jv_isub C (jd D_Tx_hasSameBytes 5 rfl) ?_
  refine jv_ati (y := nI (d - c)) (pk_sub hc) ?_
  refine jv_icmp_eq (tgt := 13) C (jd D_Tx_hasSameBytes 6 rfl) (by decide) (fun c8 => ?_) (fun c8 => ?_)
  · have hzd : z - a = d - c := (nI_eq (by omega) (by omega)).mp c8
    refine jv_iconst (v := 0) C (jd D_Tx_hasSameBytes 9 rfl) (by decide) ?_
    refine jv_istore C [(6, .int 0), (0, .ref h), (1, .int (nI a)), (2, .int (nI z)), (3, .ref h2), (4, .int (nI c)), (5, .int (nI d))] (jd D_Tx_hasSameBytes 10 rfl) (by decide) rfl ?_
    have hL16 : ∀ (n : Nat) (k : Nat), k ≤ z - a → z - a + 1 ≤ k + n → js_eqb t a t2 c k → jv_V pR l eR (jv_rm 2 0 0) sR mR ([.ref h, .int (nI a), .int (nI z), .ref h2, .int (nI c), .int (nI d)] : List Value).toArray belowR methR cR 0 0 QR D AR 7 [(h, .inr (0, [.ref b, .int (nI t.length)])), (b, .inl (dA 0, N, .inl f)), (h2, .inr (0, [.ref b2, .int (nI t2.length)])), (b2, .inl (dA 0, N2, .inl f2))] [(0, .ref h), (1, .int (nI a)), (2, .int (nI z)), (3, .ref h2), (4, .int (nI c)), (5, .int (nI d)), (6, .int (nI k))] 16 [] := by
      intro n
      induction n with
      | zero =>
        intro k h1 h2
        exact absurd h2 (by omega)
      | succ n ih =>
        intro k hk hm hi
        refine jv_iload C (jd D_Tx_hasSameBytes 11 rfl) 6 rfl ?_
        refine jv_iload_n C (jd D_Tx_hasSameBytes 12 rfl) rfl 2 rfl ?_
        refine jv_iload_n C (jd D_Tx_hasSameBytes 13 rfl) rfl 1 rfl ?_
        refine jv_isub C (jd D_Tx_hasSameBytes 14 rfl) ?_
        refine jv_ati (y := nI (z - a)) (pk_sub ha) ?_
        refine jv_icmp_ge (tgt := 52) C (jd D_Tx_hasSameBytes 15 rfl) (by decide) (fun c21 => ?_) (fun c21 => ?_)
        · refine jv_iconst (v := 1) C (jd D_Tx_hasSameBytes 31 rfl) (by decide) ?_
          rw [hQ]
          exact jv_iret C hr () (Or.inl ⟨rfl, hzd, by rw [show z - a = k by have := (nI_leI (a := z - a) (b := k) (by omega) (by omega)).mp c21; omega]; exact hi⟩) rfl [0, 1, 2, 3] rfl rfl (Nat.le_of_ble_eq_true rfl) (Nat.le_of_ble_eq_true rfl) (jd D_Tx_hasSameBytes 32 rfl)
        · have hlt : k < z - a := by
            rcases Nat.lt_or_ge k (z - a) with q | q
            · exact q
            · exact absurd (nI_le q (by omega)) c21
          refine jv_aload_n C (jd D_Tx_hasSameBytes 16 rfl) rfl 0 rfl ?_
          refine jv_iload_n C (jd D_Tx_hasSameBytes 17 rfl) rfl 1 rfl ?_
          refine jv_iload C (jd D_Tx_hasSameBytes 18 rfl) 6 rfl ?_
          refine jv_iadd C (jd D_Tx_hasSameBytes 19 rfl) ?_
          refine jv_ati (y := nI (a + k)) (nI_add a k) ?_
          refine jv_callV (wr := [(h2, .inr (0, [.ref b2, .int (nI t2.length)])), (b2, .inl (dA 0, N2, .inl f2))]) C cl_Tx_29 (c_Tx_at h b N f t (nI (a + k)) hl hN ht) [0, 1] [2, 3] rfl rfl rfl rfl (by decide) rfl rfl 0 rfl ⟨Nat.le_of_ble_eq_true rfl, Nat.le_of_ble_eq_true rfl⟩ ⟨Nat.le_of_ble_eq_true rfl, Nat.le_of_ble_eq_true rfl⟩ rfl rfl (Nat.le_of_ble_eq_true rfl) (jd D_Tx_hasSameBytes 20 rfl) (fun v1 _ k1 => ?_)
          obtain ⟨r1, rfl, k1⟩ := k1
          refine jv_fix [2, 3, 0, 1] [(h, .inr (0, [.ref b, .int (nI t.length)])), (b, .inl (dA 0, N, .inl f)), (h2, .inr (0, [.ref b2, .int (nI t2.length)])), (b2, .inl (dA 0, N2, .inl f2))] [.int r1] 0 0 rfl rfl rfl (Nat.le_refl _) (Nat.le_refl _) ?_
          rw [js_at_nat (by omega) (by omega)] at k1
          subst k1
          refine jv_aload_n C (jd D_Tx_hasSameBytes 21 rfl) rfl 3 rfl ?_
          refine jv_iload C (jd D_Tx_hasSameBytes 22 rfl) 4 rfl ?_
          refine jv_iload C (jd D_Tx_hasSameBytes 23 rfl) 6 rfl ?_
          refine jv_iadd C (jd D_Tx_hasSameBytes 24 rfl) ?_
          refine jv_ati (y := nI (c + k)) (nI_add c k) ?_
          refine jv_callV (wr := [(h, .inr (0, [.ref b, .int (nI t.length)])), (b, .inl (dA 0, N, .inl f))]) C cl_Tx_29 (c_Tx_at h2 b2 N2 f2 t2 (nI (c + k)) hl2 hN2 ht2) [2, 3] [0, 1] rfl rfl rfl rfl (by decide) rfl rfl 0 rfl ⟨Nat.le_of_ble_eq_true rfl, Nat.le_of_ble_eq_true rfl⟩ ⟨Nat.le_of_ble_eq_true rfl, Nat.le_of_ble_eq_true rfl⟩ rfl rfl (Nat.le_of_ble_eq_true rfl) (jd D_Tx_hasSameBytes 25 rfl) (fun v2 _ k2 => ?_)
          obtain ⟨r2, rfl, k2⟩ := k2
          refine jv_fix [0, 1, 2, 3] [(h, .inr (0, [.ref b, .int (nI t.length)])), (b, .inl (dA 0, N, .inl f)), (h2, .inr (0, [.ref b2, .int (nI t2.length)])), (b2, .inl (dA 0, N2, .inl f2))] [.int r2, .int (js_b t (a + k))] 0 0 rfl rfl rfl (Nat.le_refl _) (Nat.le_refl _) ?_
          rw [js_at_nat (by omega) (by omega)] at k2
          subst k2
          refine jv_icmp_eq (tgt := 46) C (jd D_Tx_hasSameBytes 26 rfl) (by decide) (fun c41 => ?_) (fun c41 => ?_)
          · refine jv_iinc (v := nI (k + 1)) C [(6, .int (nI (k + 1))), (0, .ref h), (1, .int (nI a)), (2, .int (nI z)), (3, .ref h2), (4, .int (nI c)), (5, .int (nI d))] (jd D_Tx_hasSameBytes 29 rfl) 6 rfl (nI_1 k) (by decide) rfl ?_
            refine jv_goto (tgt := 16) C (jd D_Tx_hasSameBytes 30 rfl) (by decide) ?_
            refine jv_lvsub [1, 2, 3, 4, 5, 6, 0] rfl ?_
            exact ih (k + 1) (by omega) (by omega) (js_eqb_s hi c41)
          · refine jv_iconst (v := 0) C (jd D_Tx_hasSameBytes 27 rfl) (by decide) ?_
            rw [hQ]
            exact jv_iret C hr () (Or.inr ⟨rfl, fun q => c41 (q.2 k hlt)⟩) rfl [0, 1, 2, 3] rfl rfl (Nat.le_of_ble_eq_true rfl) (Nat.le_of_ble_eq_true rfl) (jd D_Tx_hasSameBytes 28 rfl)
    refine jv_lvsub [1, 2, 3, 4, 5, 6, 0] rfl ?_
    exact hL16 (z - a + 1) 0 (by omega) (by omega) js_eqb_0
  · refine jv_iconst (v := 0) C (jd D_Tx_hasSameBytes 7 rfl) (by decide) ?_
    rw [hQ]
    exact jv_iret C hr () (Or.inr ⟨rfl, fun q => c8 (by rw [q.1])⟩) rfl [0, 1, 2, 3] rfl rfl (Nat.le_of_ble_eq_true rfl) (Nat.le_of_ble_eq_true rfl) (jd D_Tx_hasSameBytes 8 rfl)

set_option maxHeartbeats 4000000 in
set_option maxRecDepth 100000 in
/-- Text.hasSameBytes(a, z, other, c, d), the other is itself -/
theorem c_Tx_hasSameBytes_s {l : Launch} {D : va_G} {dA : Nat → ClassId} {zz : (Nat → Nat) × (Nat → Nat)} (h b N : Nat) (f : Nat → Int32) (t : List Nat) (a z c d : Nat) (hl : t.length ≤ N) (hN : N < 2 ^ 31) (ht : js_tx f t) (ha : a ≤ z) (hz : z < 2 ^ 30) (hc : c ≤ d) (hd : d < 2 ^ 30) : jv_M l D dA zz y_Tx_hasSameBytes b_Tx_hasSameBytes 7 (some (FieldType.boolean)) 2 [.ref h, .int (nI a), .int (nI z), .ref h, .int (nI c), .int (nI d)] [(h, .inr (0, [.ref b, .int (nI t.length)])), (b, .inl (dA 0, N, .inl f))] (jv_pi fun r (_ : Unit) => js_sm t a z t c d r) (fun _ => [(h, .inr (0, [.ref b, .int (nI t.length)])), (b, .inl (dA 0, N, .inl f))]) 0 0 := by
  refine jv_M.of [(0, .ref h), (1, .int (nI a)), (2, .int (nI z)), (3, .ref h), (4, .int (nI c)), (5, .int (nI d))] (by decide) (Nat.le_of_ble_eq_true rfl) rfl ?_
  intro pR eR sR mR belowR methR cR AR C hr hin
  obtain ⟨QR, hQ⟩ : ∃ QR, QR = jv_E D (jv_pi fun r (_ : Unit) => js_sm t a z t c d r) (fun _ => [(h, .inr (0, [.ref b, .int (nI t.length)])), (b, .inl (dA 0, N, .inl f))]) belowR ([.ref h, .int (nI a), .int (nI z), .ref h, .int (nI c), .int (nI d)] : List Value).toArray sR AR 0 0 := ⟨_, rfl⟩
  rw [← hQ]
  refine jv_iload_n C (jd D_Tx_hasSameBytes 0 rfl) rfl 2 rfl ?_
  refine jv_iload_n C (jd D_Tx_hasSameBytes 1 rfl) rfl 1 rfl ?_
  refine jv_isub C (jd D_Tx_hasSameBytes 2 rfl) ?_
  refine jv_ati (y := nI (z - a)) (pk_sub ha) ?_
  refine jv_iload C (jd D_Tx_hasSameBytes 3 rfl) 5 rfl ?_
  refine jv_iload C (jd D_Tx_hasSameBytes 4 rfl) 4 rfl ?_
  refine jv_isub C (jd D_Tx_hasSameBytes 5 rfl) ?_
  refine jv_ati (y := nI (d - c)) (pk_sub hc) ?_
  refine jv_icmp_eq (tgt := 13) C (jd D_Tx_hasSameBytes 6 rfl) (by decide) (fun c8 => ?_) (fun c8 => ?_)
  · have hzd : z - a = d - c := (nI_eq (by omega) (by omega)).mp c8
    refine jv_iconst (v := 0) C (jd D_Tx_hasSameBytes 9 rfl) (by decide) ?_
    refine jv_istore C [(6, .int 0), (0, .ref h), (1, .int (nI a)), (2, .int (nI z)), (3, .ref h), (4, .int (nI c)), (5, .int (nI d))] (jd D_Tx_hasSameBytes 10 rfl) (by decide) rfl ?_
    have hL16 : ∀ (n : Nat) (k : Nat), k ≤ z - a → z - a + 1 ≤ k + n → js_eqb t a t c k → jv_V pR l eR (jv_rm 2 0 0) sR mR ([.ref h, .int (nI a), .int (nI z), .ref h, .int (nI c), .int (nI d)] : List Value).toArray belowR methR cR 0 0 QR D AR 7 [(h, .inr (0, [.ref b, .int (nI t.length)])), (b, .inl (dA 0, N, .inl f))] [(0, .ref h), (1, .int (nI a)), (2, .int (nI z)), (3, .ref h), (4, .int (nI c)), (5, .int (nI d)), (6, .int (nI k))] 16 [] := by
      intro n
      induction n with
      | zero =>
        intro k h1 h2
        exact absurd h2 (by omega)
      | succ n ih =>
        intro k hk hm hi
        refine jv_iload C (jd D_Tx_hasSameBytes 11 rfl) 6 rfl ?_
        refine jv_iload_n C (jd D_Tx_hasSameBytes 12 rfl) rfl 2 rfl ?_
        refine jv_iload_n C (jd D_Tx_hasSameBytes 13 rfl) rfl 1 rfl ?_
        refine jv_isub C (jd D_Tx_hasSameBytes 14 rfl) ?_
        refine jv_ati (y := nI (z - a)) (pk_sub ha) ?_
        refine jv_icmp_ge (tgt := 52) C (jd D_Tx_hasSameBytes 15 rfl) (by decide) (fun c21 => ?_) (fun c21 => ?_)
        · refine jv_iconst (v := 1) C (jd D_Tx_hasSameBytes 31 rfl) (by decide) ?_
          rw [hQ]
          exact jv_iret C hr () (Or.inl ⟨rfl, hzd, by rw [show z - a = k by have := (nI_leI (a := z - a) (b := k) (by omega) (by omega)).mp c21; omega]; exact hi⟩) rfl [0, 1] rfl rfl (Nat.le_of_ble_eq_true rfl) (Nat.le_of_ble_eq_true rfl) (jd D_Tx_hasSameBytes 32 rfl)
        · have hlt : k < z - a := by
            rcases Nat.lt_or_ge k (z - a) with q | q
            · exact q
            · exact absurd (nI_le q (by omega)) c21
          refine jv_aload_n C (jd D_Tx_hasSameBytes 16 rfl) rfl 0 rfl ?_
          refine jv_iload_n C (jd D_Tx_hasSameBytes 17 rfl) rfl 1 rfl ?_
          refine jv_iload C (jd D_Tx_hasSameBytes 18 rfl) 6 rfl ?_
          refine jv_iadd C (jd D_Tx_hasSameBytes 19 rfl) ?_
          refine jv_ati (y := nI (a + k)) (nI_add a k) ?_
          refine jv_callV (wr := []) C cl_Tx_29 (c_Tx_at h b N f t (nI (a + k)) hl hN ht) [0, 1] [] rfl rfl rfl rfl (by decide) rfl rfl 0 rfl ⟨Nat.le_of_ble_eq_true rfl, Nat.le_of_ble_eq_true rfl⟩ ⟨Nat.le_of_ble_eq_true rfl, Nat.le_of_ble_eq_true rfl⟩ rfl rfl (Nat.le_of_ble_eq_true rfl) (jd D_Tx_hasSameBytes 20 rfl) (fun v1 _ k1 => ?_)
          obtain ⟨r1, rfl, k1⟩ := k1
          refine jv_fix [0, 1] [(h, .inr (0, [.ref b, .int (nI t.length)])), (b, .inl (dA 0, N, .inl f))] [.int r1] 0 0 rfl rfl rfl (Nat.le_refl _) (Nat.le_refl _) ?_
          rw [js_at_nat (by omega) (by omega)] at k1
          subst k1
          refine jv_aload_n C (jd D_Tx_hasSameBytes 21 rfl) rfl 3 rfl ?_
          refine jv_iload C (jd D_Tx_hasSameBytes 22 rfl) 4 rfl ?_
          refine jv_iload C (jd D_Tx_hasSameBytes 23 rfl) 6 rfl ?_
          refine jv_iadd C (jd D_Tx_hasSameBytes 24 rfl) ?_
          refine jv_ati (y := nI (c + k)) (nI_add c k) ?_
          refine jv_callV (wr := []) C cl_Tx_29 (c_Tx_at h b N f t (nI (c + k)) hl hN ht) [0, 1] [] rfl rfl rfl rfl (by decide) rfl rfl 0 rfl ⟨Nat.le_of_ble_eq_true rfl, Nat.le_of_ble_eq_true rfl⟩ ⟨Nat.le_of_ble_eq_true rfl, Nat.le_of_ble_eq_true rfl⟩ rfl rfl (Nat.le_of_ble_eq_true rfl) (jd D_Tx_hasSameBytes 25 rfl) (fun v2 _ k2 => ?_)
          obtain ⟨r2, rfl, k2⟩ := k2
          refine jv_fix [0, 1] [(h, .inr (0, [.ref b, .int (nI t.length)])), (b, .inl (dA 0, N, .inl f))] [.int r2, .int (js_b t (a + k))] 0 0 rfl rfl rfl (Nat.le_refl _) (Nat.le_refl _) ?_
          rw [js_at_nat (by omega) (by omega)] at k2
          subst k2
          refine jv_icmp_eq (tgt := 46) C (jd D_Tx_hasSameBytes 26 rfl) (by decide) (fun c41 => ?_) (fun c41 => ?_)
          · refine jv_iinc (v := nI (k + 1)) C [(6, .int (nI (k + 1))), (0, .ref h), (1, .int (nI a)), (2, .int (nI z)), (3, .ref h), (4, .int (nI c)), (5, .int (nI d))] (jd D_Tx_hasSameBytes 29 rfl) 6 rfl (nI_1 k) (by decide) rfl ?_
            refine jv_goto (tgt := 16) C (jd D_Tx_hasSameBytes 30 rfl) (by decide) ?_
            refine jv_lvsub [1, 2, 3, 4, 5, 6, 0] rfl ?_
            exact ih (k + 1) (by omega) (by omega) (js_eqb_s hi c41)
          · refine jv_iconst (v := 0) C (jd D_Tx_hasSameBytes 27 rfl) (by decide) ?_
            rw [hQ]
            exact jv_iret C hr () (Or.inr ⟨rfl, fun q => c41 (q.2 k hlt)⟩) rfl [0, 1] rfl rfl (Nat.le_of_ble_eq_true rfl) (Nat.le_of_ble_eq_true rfl) (jd D_Tx_hasSameBytes 28 rfl)
    refine jv_lvsub [1, 2, 3, 4, 5, 6, 0] rfl ?_
    exact hL16 (z - a + 1) 0 (by omega) (by omega) js_eqb_0
  · refine jv_iconst (v := 0) C (jd D_Tx_hasSameBytes 7 rfl) (by decide) ?_
    rw [hQ]
    exact jv_iret C hr () (Or.inr ⟨rfl, fun q => c8 (by rw [q.1])⟩) rfl [0, 1] rfl rfl (Nat.le_of_ble_eq_true rfl) (Nat.le_of_ble_eq_true rfl) (jd D_Tx_hasSameBytes 8 rfl)

set_option maxHeartbeats 4000000 in
set_option maxRecDepth 100000 in
/-- Text.become(other, a, z) -/
theorem c_Tx_become {l : Launch} {D : va_G} {dA : Nat → ClassId} {zz : (Nat → Nat) × (Nat → Nat)} (h b N : Nat) (f : Nat → Int32) (t : List Nat) (h2 b2 N2 : Nat) (f2 : Nat → Int32) (t2 : List Nat) (a z : Nat) (hl : t.length ≤ N) (hN : N < 2 ^ 30) (ht : js_tx f t) (hl2 : t2.length ≤ N2) (hN2 : N2 < 2 ^ 30) (ht2 : js_tx f2 t2) (ha : a ≤ z) (hz : z ≤ t2.length) (hs : z - a ≤ N) : jv_M l D dA zz y_Tx_become b_Tx_become 4 none 1 [.ref h, .ref h2, .int (nI a), .int (nI z)] [(h, .inr (0, [.ref b, .int (nI t.length)])), (b, .inl (dA 0, N, .inl f)), (h2, .inr (0, [.ref b2, .int (nI t2.length)])), (b2, .inl (dA 0, N2, .inl f2))] (jv_pv fun g => js_tx g ((t2.drop a).take (z - a))) (fun g => [(h, .inr (0, [.ref b, .int (nI ((t2.drop a).take (z - a)).length)])), (b, .inl (dA 0, N, .inl g)), (h2, .inr (0, [.ref b2, .int (nI t2.length)])), (b2, .inl (dA 0, N2, .inl f2))]) 0 0 := by
  refine jv_M.of [(0, .ref h), (1, .ref h2), (2, .int (nI a)), (3, .int (nI z))] (by decide) (Nat.le_of_ble_eq_true rfl) rfl ?_
  intro pR eR sR mR belowR methR cR AR C hr hin
  refine jv_iload_n C (jd D_Tx_become 0 rfl) rfl 2 rfl ?_
  refine jv_if_lt (tgt := 51) C (jd D_Tx_become 1 rfl) (by decide) (fun c1 => absurd c1 (nI_pos (by omega))) (fun c1 => ?_)
  refine jv_iload_n C (jd D_Tx_become 2 rfl) rfl 2 rfl ?_
  refine jv_iload_n C (jd D_Tx_become 3 rfl) rfl 3 rfl ?_
  refine jv_icmp_gt (tgt := 51) C (jd D_Tx_become 4 rfl) (by decide) (fun c6 => absurd c6 (nI_nlt ha (by omega))) (fun c6 => ?_)
  refine jv_iload_n C (jd D_Tx_become 5 rfl) rfl 3 rfl ?_
  refine jv_aload_n C (jd D_Tx_become 6 rfl) rfl 1 rfl ?_
  refine jv_get C fl_Tx_15 2 rfl rfl (jd D_Tx_become 7 rfl) ?_
  refine jv_icmp_gt (tgt := 51) C (jd D_Tx_become 8 rfl) (by decide) (fun c14 => absurd c14 (nI_nlt hz (by omega))) (fun c14 => ?_)
  refine jv_iload_n C (jd D_Tx_become 9 rfl) rfl 3 rfl ?_
  refine jv_iload_n C (jd D_Tx_become 10 rfl) rfl 2 rfl ?_
  refine jv_isub C (jd D_Tx_become 11 rfl) ?_
  refine jv_ati (y := nI (z - a)) (pk_sub ha) ?_
  refine jv_aload_n C (jd D_Tx_become 12 rfl) rfl 0 rfl ?_
  refine jv_get C fl_Tx_9 0 rfl rfl (jd D_Tx_become 13 rfl) ?_
  refine jv_alen C 1 0 rfl rfl (jd D_Tx_become 14 rfl) ?_
  refine jv_icmp_gt (tgt := 51) C (jd D_Tx_become 15 rfl) (by decide) (fun c25 => absurd c25 (nI_nlt hs (by omega))) (fun c25 => ?_)
  have q1 : (nI a).toNatClampNeg = a := nI_clamp (by omega)
  have q2 : (nI (z - a)).toNatClampNeg = z - a := nI_clamp (by omega)
  have q3 : ((0 : Int32)).toNatClampNeg = 0 := by decide
  refine jv_aload_n C (jd D_Tx_become 16 rfl) rfl 1 rfl ?_
  refine jv_get C fl_Tx_9 2 rfl rfl (jd D_Tx_become 17 rfl) ?_
  refine jv_iload_n C (jd D_Tx_become 18 rfl) rfl 2 rfl ?_
  refine jv_aload_n C (jd D_Tx_become 19 rfl) rfl 0 rfl ?_
  refine jv_get C fl_Tx_9 0 rfl rfl (jd D_Tx_become 20 rfl) ?_
  refine jv_iconst (v := 0) C (jd D_Tx_become 21 rfl) (by decide) ?_
  refine jv_iload_n C (jd D_Tx_become 22 rfl) rfl 3 rfl ?_
  refine jv_iload_n C (jd D_Tx_become 23 rfl) rfl 2 rfl ?_
  refine jv_isub C (jd D_Tx_become 24 rfl) ?_
  refine jv_ati (y := nI (z - a)) (pk_sub ha) ?_
  refine jv_copyb C (jm3 (List.mem_of_getElem? (i := 46) rfl)) 3 1 [(h, .inr (0, [.ref b, .int (nI t.length)])), (b, .inl (dA 0, N, .inl (va_cpy f2 f (nI a).toNatClampNeg (0 : Int32).toNatClampNeg (nI (z - a)).toNatClampNeg))), (h2, .inr (0, [.ref b2, .int (nI t2.length)])), (b2, .inl (dA 0, N2, .inl f2))] rfl rfl rfl (nI_pos (by omega)) (by decide) (nI_pos (by omega)) (by rw [q1, q2]; omega) (by rw [q2, q3]; omega) (fun i hi => by rw [q2] at hi; rw [q1]; exact js_tx_fit ht2 (by omega)) (Nat.le_of_ble_eq_true rfl) (by simp [nativeFrameWords]) (jd D_Tx_become 25 rfl) ?_
  obtain ⟨g, e_g⟩ : ∃ zz_, zz_ = (va_cpy f2 f (nI a).toNatClampNeg (0 : Int32).toNatClampNeg (nI (z - a)).toNatClampNeg) := ⟨_, rfl⟩
  rw [← e_g]
  refine jv_aload_n C (jd D_Tx_become 26 rfl) rfl 0 rfl ?_
  refine jv_iload_n C (jd D_Tx_become 27 rfl) rfl 3 rfl ?_
  refine jv_iload_n C (jd D_Tx_become 28 rfl) rfl 2 rfl ?_
  refine jv_isub C (jd D_Tx_become 29 rfl) ?_
  refine jv_ati (y := nI (z - a)) (pk_sub ha) ?_
  refine jv_put C fl_Tx_15 Y_Tx rfl 0 [(h, .inr (0, [.ref b, .int (nI (z - a))])), (b, .inl (dA 0, N, .inl g)), (h2, .inr (0, [.ref b2, .int (nI t2.length)])), (b2, .inl (dA 0, N2, .inl f2))] rfl rfl rfl (Nat.le_of_ble_eq_true rfl) rfl rfl (jd D_Tx_become 30 rfl) ?_
  refine jv_weq (ws' := [(h, .inr (0, [.ref b, .int (nI ((t2.drop a).take (z - a)).length)])), (b, .inl (dA 0, N, .inl g)), (h2, .inr (0, [.ref b2, .int (nI t2.length)])), (b2, .inl (dA 0, N2, .inl f2))]) (by rw [js_dt_len hz ha]) ?_
  exact jv_vret C hr g (by rw [e_g, q1, q2, q3]; exact js_tx_cpy ht2 hz) [0, 1, 2, 3] rfl rfl (Nat.le_of_ble_eq_true rfl) (Nat.le_of_ble_eq_true rfl) (jd D_Tx_become 31 rfl)

set_option maxHeartbeats 4000000 in
set_option maxRecDepth 100000 in
/-- Text.become(other, a, z), the other is itself -/
theorem c_Tx_become_s {l : Launch} {D : va_G} {dA : Nat → ClassId} {zz : (Nat → Nat) × (Nat → Nat)} (h b N : Nat) (f : Nat → Int32) (t : List Nat) (a z : Nat) (hl : t.length ≤ N) (hN : N < 2 ^ 30) (ht : js_tx f t) (ha : a ≤ z) (hz : z ≤ t.length) (hs : z - a ≤ N) : jv_M l D dA zz y_Tx_become b_Tx_become 4 none 1 [.ref h, .ref h, .int (nI a), .int (nI z)] [(h, .inr (0, [.ref b, .int (nI t.length)])), (b, .inl (dA 0, N, .inl f))] (jv_pv fun g => js_tx g ((t.drop a).take (z - a))) (fun g => [(h, .inr (0, [.ref b, .int (nI ((t.drop a).take (z - a)).length)])), (b, .inl (dA 0, N, .inl g))]) 0 0 := by
  refine jv_M.of [(0, .ref h), (1, .ref h), (2, .int (nI a)), (3, .int (nI z))] (by decide) (Nat.le_of_ble_eq_true rfl) rfl ?_
  intro pR eR sR mR belowR methR cR AR C hr hin
  refine jv_iload_n C (jd D_Tx_become 0 rfl) rfl 2 rfl ?_
  refine jv_if_lt (tgt := 51) C (jd D_Tx_become 1 rfl) (by decide) (fun c1 => absurd c1 (nI_pos (by omega))) (fun c1 => ?_)
  refine jv_iload_n C (jd D_Tx_become 2 rfl) rfl 2 rfl ?_
  refine jv_iload_n C (jd D_Tx_become 3 rfl) rfl 3 rfl ?_
  refine jv_icmp_gt (tgt := 51) C (jd D_Tx_become 4 rfl) (by decide) (fun c6 => absurd c6 (nI_nlt ha (by omega))) (fun c6 => ?_)
  refine jv_iload_n C (jd D_Tx_become 5 rfl) rfl 3 rfl ?_
  refine jv_aload_n C (jd D_Tx_become 6 rfl) rfl 1 rfl ?_
  refine jv_get C fl_Tx_15 0 rfl rfl (jd D_Tx_become 7 rfl) ?_
  refine jv_icmp_gt (tgt := 51) C (jd D_Tx_become 8 rfl) (by decide) (fun c14 => absurd c14 (nI_nlt hz (by omega))) (fun c14 => ?_)
  refine jv_iload_n C (jd D_Tx_become 9 rfl) rfl 3 rfl ?_
  refine jv_iload_n C (jd D_Tx_become 10 rfl) rfl 2 rfl ?_
  refine jv_isub C (jd D_Tx_become 11 rfl) ?_
  refine jv_ati (y := nI (z - a)) (pk_sub ha) ?_
  refine jv_aload_n C (jd D_Tx_become 12 rfl) rfl 0 rfl ?_
  refine jv_get C fl_Tx_9 0 rfl rfl (jd D_Tx_become 13 rfl) ?_
  refine jv_alen C 1 0 rfl rfl (jd D_Tx_become 14 rfl) ?_
  refine jv_icmp_gt (tgt := 51) C (jd D_Tx_become 15 rfl) (by decide) (fun c25 => absurd c25 (nI_nlt hs (by omega))) (fun c25 => ?_)
  have q1 : (nI a).toNatClampNeg = a := nI_clamp (by omega)
  have q2 : (nI (z - a)).toNatClampNeg = z - a := nI_clamp (by omega)
  have q3 : ((0 : Int32)).toNatClampNeg = 0 := by decide
  refine jv_aload_n C (jd D_Tx_become 16 rfl) rfl 1 rfl ?_
  refine jv_get C fl_Tx_9 0 rfl rfl (jd D_Tx_become 17 rfl) ?_
  refine jv_iload_n C (jd D_Tx_become 18 rfl) rfl 2 rfl ?_
  refine jv_aload_n C (jd D_Tx_become 19 rfl) rfl 0 rfl ?_
  refine jv_get C fl_Tx_9 0 rfl rfl (jd D_Tx_become 20 rfl) ?_
  refine jv_iconst (v := 0) C (jd D_Tx_become 21 rfl) (by decide) ?_
  refine jv_iload_n C (jd D_Tx_become 22 rfl) rfl 3 rfl ?_
  refine jv_iload_n C (jd D_Tx_become 23 rfl) rfl 2 rfl ?_
  refine jv_isub C (jd D_Tx_become 24 rfl) ?_
  refine jv_ati (y := nI (z - a)) (pk_sub ha) ?_
  refine jv_copyb C (jm3 (List.mem_of_getElem? (i := 46) rfl)) 1 1 [(h, .inr (0, [.ref b, .int (nI t.length)])), (b, .inl (dA 0, N, .inl (va_cpy f f (nI a).toNatClampNeg (0 : Int32).toNatClampNeg (nI (z - a)).toNatClampNeg)))] rfl rfl rfl (nI_pos (by omega)) (by decide) (nI_pos (by omega)) (by rw [q1, q2]; omega) (by rw [q2, q3]; omega) (fun i hi => by rw [q2] at hi; rw [q1]; exact js_tx_fit ht (by omega)) (Nat.le_of_ble_eq_true rfl) (by simp [nativeFrameWords]) (jd D_Tx_become 25 rfl) ?_
  obtain ⟨g, e_g⟩ : ∃ zz_, zz_ = (va_cpy f f (nI a).toNatClampNeg (0 : Int32).toNatClampNeg (nI (z - a)).toNatClampNeg) := ⟨_, rfl⟩
  rw [← e_g]
  refine jv_aload_n C (jd D_Tx_become 26 rfl) rfl 0 rfl ?_
  refine jv_iload_n C (jd D_Tx_become 27 rfl) rfl 3 rfl ?_
  refine jv_iload_n C (jd D_Tx_become 28 rfl) rfl 2 rfl ?_
  refine jv_isub C (jd D_Tx_become 29 rfl) ?_
  refine jv_ati (y := nI (z - a)) (pk_sub ha) ?_
  refine jv_put C fl_Tx_15 Y_Tx rfl 0 [(h, .inr (0, [.ref b, .int (nI (z - a))])), (b, .inl (dA 0, N, .inl g))] rfl rfl rfl (Nat.le_of_ble_eq_true rfl) rfl rfl (jd D_Tx_become 30 rfl) ?_
  refine jv_weq (ws' := [(h, .inr (0, [.ref b, .int (nI ((t.drop a).take (z - a)).length)])), (b, .inl (dA 0, N, .inl g))]) (by rw [js_dt_len hz ha]) ?_
  exact jv_vret C hr g (by rw [e_g, q1, q2, q3]; exact js_tx_cpy ht hz) [0, 1] rfl rfl (Nat.le_of_ble_eq_true rfl) (Nat.le_of_ble_eq_true rfl) (jd D_Tx_become 31 rfl)

set_option maxHeartbeats 4000000 in
set_option maxRecDepth 100000 in
/-- new Text(N) -/
theorem c_Tx_init {l : Launch} {D : va_G} {dA : Nat → ClassId} {zz : (Nat → Nat) × (Nat → Nat)} (h N : Nat) (hN : N < 2 ^ 29) : jv_M l D dA zz y_Tx_init b_Tx_init 2 none 1 [.ref h, .int (nI N)] [(h, .inr (0, [.null, .int 0]))] (jv_pv fun (_ : Nat) => True) (fun b => [(h, .inr (0, [.ref b, .int 0])), (b, .inl (dA 0, N, .inl (fun _ => 0)))]) 1 N := by
  refine jv_M.of [(0, .ref h), (1, .int (nI N))] (by decide) (Nat.le_of_ble_eq_true rfl) rfl ?_
  intro pR eR sR mR belowR methR cR AR C hr hin
  refine jv_aload_n C (jd D_Tx_init 0 rfl) rfl 0 rfl ?_
  refine jv_objInit C (jm1 (List.mem_of_getElem? (i := 37) rfl)) (jd D_Tx_init 1 rfl) (Nat.le_of_ble_eq_true rfl) (Nat.le_of_ble_eq_true rfl) ?_
  refine jv_aload_n C (jd D_Tx_init 2 rfl) rfl 0 rfl ?_
  refine jv_iload_n C (jd D_Tx_init 3 rfl) rfl 1 rfl ?_
  refine jv_newag (ar := .inl (fun _ => 0)) (ty := .byte) C 0 rfl (jm1 (List.mem_of_getElem? (i := 45) rfl)) rfl (fun _ h => h) N (fun cA => vp_cell_i cA _ _) (nI_pos (by omega)) (nI_clamp (by omega)) (by show N * 1 ≤ _; omega) (Nat.le_of_ble_eq_true rfl) (by show 0 + N ≤ N; omega) (jd D_Tx_init 4 rfl) (fun b => ?_)
  refine jv_fix [0, 1] [(h, .inr (0, [.null, .int 0])), (b, .inl (dA 0, N, .inl (fun _ => 0)))] [.ref b, .ref h] 1 N rfl rfl rfl (Nat.le_refl _) (by omega) ?_
  refine jv_putF C fl_Tx_9 Y_Tx rfl hin 0 [(h, .inr (0, [.ref b, .int 0])), (b, .inl (dA 0, N, .inl (fun _ => 0)))] rfl rfl rfl (Nat.le_of_ble_eq_true rfl) rfl rfl (jd D_Tx_init 5 rfl) (fun _ _ _ => jv_noNest) ?_
  refine jv_aload_n C (jd D_Tx_init 6 rfl) rfl 0 rfl ?_
  refine jv_iconst (v := 0) C (jd D_Tx_init 7 rfl) (by decide) ?_
  refine jv_put C fl_Tx_15 Y_Tx rfl 0 [(h, .inr (0, [.ref b, .int 0])), (b, .inl (dA 0, N, .inl (fun _ => 0)))] rfl rfl rfl (Nat.le_of_ble_eq_true rfl) rfl rfl (jd D_Tx_init 8 rfl) ?_
  exact jv_vret C hr b (trivial) [0, 1] rfl rfl (Nat.le_of_ble_eq_true rfl) (by omega) (jd D_Tx_init 9 rfl)
