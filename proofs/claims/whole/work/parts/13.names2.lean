set_option maxHeartbeats 4000000 in
set_option maxRecDepth 100000 in
/-- Names.size() -/
theorem c_Nm_size {l : Launch} {D : va_G} {dA : Nat → ClassId} {zz : (Nat → Nat) × (Nat → Nat)} (o th s1 s2 s3 c : Nat) (fS fE fH : Nat → Int32)  : jv_M l D dA zz y_Nm_size b_Nm_size 1 (some (FieldType.int)) 1 [.ref o] [(o, .inr (1, [.ref th, .ref s1, .ref s2, .ref s3, .int (nI c)])), (s1, .inl (dA 1, 1024, .inl fS)), (s2, .inl (dA 1, 1024, .inl fE)), (s3, .inl (dA 1, 1024, .inl fH))] (jv_pi fun r (_ : Unit) => r = nI c) (fun _ => [(o, .inr (1, [.ref th, .ref s1, .ref s2, .ref s3, .int (nI c)])), (s1, .inl (dA 1, 1024, .inl fS)), (s2, .inl (dA 1, 1024, .inl fE)), (s3, .inl (dA 1, 1024, .inl fH))]) 0 0 := by
  refine jv_M.of [(0, .ref o)] (by decide) (Nat.le_of_ble_eq_true rfl) rfl ?_
  intro pR eR sR mR belowR methR cR AR C hr hin
  refine jv_aload_n C (jd D_Nm_size 0 rfl) rfl 0 rfl ?_
  refine jv_get C fl_Nm_25 0 rfl rfl (jd D_Nm_size 1 rfl) ?_
  exact jv_iret C hr () (rfl) rfl [0, 1, 2, 3] rfl rfl (Nat.le_of_ble_eq_true rfl) (Nat.le_of_ble_eq_true rfl) (jd D_Nm_size 2 rfl)

set_option maxHeartbeats 4000000 in
set_option maxRecDepth 100000 in
/-- Names.keep(k), k at most its size -/
theorem c_Nm_keep {l : Launch} {D : va_G} {dA : Nat → ClassId} {zz : (Nat → Nat) × (Nat → Nat)} (o th s1 s2 s3 c : Nat) (fS fE fH : Nat → Int32) (k : Nat) (hk : k ≤ c) (hc : c < 2 ^ 31) : jv_M l D dA zz y_Nm_keep b_Nm_keep 2 none 1 [.ref o, .int (nI k)] [(o, .inr (1, [.ref th, .ref s1, .ref s2, .ref s3, .int (nI c)])), (s1, .inl (dA 1, 1024, .inl fS)), (s2, .inl (dA 1, 1024, .inl fE)), (s3, .inl (dA 1, 1024, .inl fH))] (jv_pv fun (_ : Unit) => True) (fun _ => [(o, .inr (1, [.ref th, .ref s1, .ref s2, .ref s3, .int (nI k)])), (s1, .inl (dA 1, 1024, .inl fS)), (s2, .inl (dA 1, 1024, .inl fE)), (s3, .inl (dA 1, 1024, .inl fH))]) 0 0 := by
  refine jv_M.of [(0, .ref o), (1, .int (nI k))] (by decide) (Nat.le_of_ble_eq_true rfl) rfl ?_
  intro pR eR sR mR belowR methR cR AR C hr hin
  refine jv_iload_n C (jd D_Nm_keep 0 rfl) rfl 1 rfl ?_
  refine jv_if_lt (tgt := 17) C (jd D_Nm_keep 1 rfl) (by decide) (fun c1 => absurd c1 (nI_pos (by omega))) (fun c1 => ?_)
  refine jv_iload_n C (jd D_Nm_keep 2 rfl) rfl 1 rfl ?_
  refine jv_aload_n C (jd D_Nm_keep 3 rfl) rfl 0 rfl ?_
  refine jv_get C fl_Nm_25 0 rfl rfl (jd D_Nm_keep 4 rfl) ?_
  refine jv_icmp_gt (tgt := 17) C (jd D_Nm_keep 5 rfl) (by decide) (fun c9 => absurd c9 (nI_nlt hk (by omega))) (fun c9 => ?_)
  refine jv_aload_n C (jd D_Nm_keep 6 rfl) rfl 0 rfl ?_
  refine jv_iload_n C (jd D_Nm_keep 7 rfl) rfl 1 rfl ?_
  refine jv_put C fl_Nm_25 Y_Nm rfl 0 [(o, .inr (1, [.ref th, .ref s1, .ref s2, .ref s3, .int (nI k)])), (s1, .inl (dA 1, 1024, .inl fS)), (s2, .inl (dA 1, 1024, .inl fE)), (s3, .inl (dA 1, 1024, .inl fH))] rfl rfl rfl (Nat.le_of_ble_eq_true rfl) rfl rfl (jd D_Nm_keep 8 rfl) ?_
  exact jv_vret C hr () (trivial) [0, 1, 2, 3] rfl rfl (Nat.le_of_ble_eq_true rfl) (Nat.le_of_ble_eq_true rfl) (jd D_Nm_keep 9 rfl)

set_option maxHeartbeats 4000000 in
set_option maxRecDepth 100000 in
/-- Names.add(a, z), where there is room -/
theorem c_Nm_add {l : Launch} {D : va_G} {dA : Nat → ClassId} {zz : (Nat → Nat) × (Nat → Nat)} (o th s1 s2 s3 c : Nat) (fS fE fH : Nat → Int32) (b N : Nat) (f : Nat → Int32) (t : List Nat) (a z : Nat) (hl : t.length ≤ N) (hN : N < 2 ^ 31) (ht : js_tx f t) (hc : c < 1024) (ha : a ≤ z) (hz : z < 2 ^ 31) : jv_M l D dA zz y_Nm_add b_Nm_add 3 none 3 [.ref o, .int (nI a), .int (nI z)] [(o, .inr (1, [.ref th, .ref s1, .ref s2, .ref s3, .int (nI c)])), (s1, .inl (dA 1, 1024, .inl fS)), (s2, .inl (dA 1, 1024, .inl fE)), (s3, .inl (dA 1, 1024, .inl fH)), (th, .inr (0, [.ref b, .int (nI t.length)])), (b, .inl (dA 0, N, .inl f))] (jv_pv fun (_ : Unit) => True) (fun _ => [(o, .inr (1, [.ref th, .ref s1, .ref s2, .ref s3, .int (nI (c + 1))])), (s1, .inl (dA 1, 1024, .inl (upd fS c (nI a)))), (s2, .inl (dA 1, 1024, .inl (upd fE c (nI z)))), (s3, .inl (dA 1, 1024, .inl (upd fH c (js_hash t a (z - a))))), (th, .inr (0, [.ref b, .int (nI t.length)])), (b, .inl (dA 0, N, .inl f))]) 0 0 := by
  refine jv_M.of [(0, .ref o), (1, .int (nI a)), (2, .int (nI z))] (by decide) (Nat.le_of_ble_eq_true rfl) rfl ?_
  intro pR eR sR mR belowR methR cR AR C hr hin
  refine jv_aload_n C (jd D_Nm_add 0 rfl) rfl 0 rfl ?_
  refine jv_get C fl_Nm_25 0 rfl rfl (jd D_Nm_add 1 rfl) ?_
  refine jv_sipush (v := 1024) C (jd D_Nm_add 2 rfl) (by decide) ?_
  refine jv_icmp_ge (tgt := 58) C (jd D_Nm_add 3 rfl) (by decide) (fun c7 => absurd c7 (nI_ge (b := 1024) hc (by decide))) (fun c7 => ?_)
  refine jv_aload_n C (jd D_Nm_add 4 rfl) rfl 0 rfl ?_
  refine jv_get C fl_Nm_15 0 rfl rfl (jd D_Nm_add 5 rfl) ?_
  refine jv_aload_n C (jd D_Nm_add 6 rfl) rfl 0 rfl ?_
  refine jv_get C fl_Nm_25 0 rfl rfl (jd D_Nm_add 7 rfl) ?_
  refine jv_iload_n C (jd D_Nm_add 8 rfl) rfl 1 rfl ?_
  refine jv_iast C 1 [(o, .inr (1, [.ref th, .ref s1, .ref s2, .ref s3, .int (nI c)])), (s1, .inl (dA 1, 1024, .inl (upd fS (nI c).toNatClampNeg (nI a)))), (s2, .inl (dA 1, 1024, .inl fE)), (s3, .inl (dA 1, 1024, .inl fH)), (th, .inr (0, [.ref b, .int (nI t.length)])), (b, .inl (dA 0, N, .inl f))] rfl rfl (vp_in_nI hc (by decide)) (jd D_Nm_add 9 rfl) ?_
  refine jv_weq (ws' := [(o, .inr (1, [.ref th, .ref s1, .ref s2, .ref s3, .int (nI c)])), (s1, .inl (dA 1, 1024, .inl (upd fS c (nI a)))), (s2, .inl (dA 1, 1024, .inl fE)), (s3, .inl (dA 1, 1024, .inl fH)), (th, .inr (0, [.ref b, .int (nI t.length)])), (b, .inl (dA 0, N, .inl f))]) (by rw [nI_clamp (by omega)]) ?_
  refine jv_aload_n C (jd D_Nm_add 10 rfl) rfl 0 rfl ?_
  refine jv_get C fl_Nm_19 0 rfl rfl (jd D_Nm_add 11 rfl) ?_
  refine jv_aload_n C (jd D_Nm_add 12 rfl) rfl 0 rfl ?_
  refine jv_get C fl_Nm_25 0 rfl rfl (jd D_Nm_add 13 rfl) ?_
  refine jv_iload_n C (jd D_Nm_add 14 rfl) rfl 2 rfl ?_
  refine jv_iast C 2 [(o, .inr (1, [.ref th, .ref s1, .ref s2, .ref s3, .int (nI c)])), (s1, .inl (dA 1, 1024, .inl (upd fS c (nI a)))), (s2, .inl (dA 1, 1024, .inl (upd fE (nI c).toNatClampNeg (nI z)))), (s3, .inl (dA 1, 1024, .inl fH)), (th, .inr (0, [.ref b, .int (nI t.length)])), (b, .inl (dA 0, N, .inl f))] rfl rfl (vp_in_nI hc (by decide)) (jd D_Nm_add 15 rfl) ?_
  refine jv_weq (ws' := [(o, .inr (1, [.ref th, .ref s1, .ref s2, .ref s3, .int (nI c)])), (s1, .inl (dA 1, 1024, .inl (upd fS c (nI a)))), (s2, .inl (dA 1, 1024, .inl (upd fE c (nI z)))), (s3, .inl (dA 1, 1024, .inl fH)), (th, .inr (0, [.ref b, .int (nI t.length)])), (b, .inl (dA 0, N, .inl f))]) (by rw [nI_clamp (by omega)]) ?_
  refine jv_aload_n C (jd D_Nm_add 16 rfl) rfl 0 rfl ?_
  refine jv_get C fl_Nm_22 0 rfl rfl (jd D_Nm_add 17 rfl) ?_
  refine jv_aload_n C (jd D_Nm_add 18 rfl) rfl 0 rfl ?_
  refine jv_get C fl_Nm_25 0 rfl rfl (jd D_Nm_add 19 rfl) ?_
  refine jv_aload_n C (jd D_Nm_add 20 rfl) rfl 0 rfl ?_
  refine jv_get C fl_Nm_9 0 rfl rfl (jd D_Nm_add 21 rfl) ?_
  refine jv_iload_n C (jd D_Nm_add 22 rfl) rfl 1 rfl ?_
  refine jv_iload_n C (jd D_Nm_add 23 rfl) rfl 2 rfl ?_
  refine jv_callV (wr := [(o, .inr (1, [.ref th, .ref s1, .ref s2, .ref s3, .int (nI c)])), (s1, .inl (dA 1, 1024, .inl (upd fS c (nI a)))), (s2, .inl (dA 1, 1024, .inl (upd fE c (nI z)))), (s3, .inl (dA 1, 1024, .inl fH))]) C cl_Nm_29 (c_Tx_hash th b N f t a z hl hN ht ha hz) [4, 5] [0, 1, 2, 3] rfl rfl rfl rfl (by decide) rfl rfl 0 rfl ⟨Nat.le_of_ble_eq_true rfl, Nat.le_of_ble_eq_true rfl⟩ ⟨Nat.le_of_ble_eq_true rfl, Nat.le_of_ble_eq_true rfl⟩ rfl rfl (Nat.le_of_ble_eq_true rfl) (jd D_Nm_add 24 rfl) (fun v1 _ k1 => ?_)
  obtain ⟨r1, rfl, k1⟩ := k1
  refine jv_fix [0, 1, 2, 3, 4, 5] [(o, .inr (1, [.ref th, .ref s1, .ref s2, .ref s3, .int (nI c)])), (s1, .inl (dA 1, 1024, .inl (upd fS c (nI a)))), (s2, .inl (dA 1, 1024, .inl (upd fE c (nI z)))), (s3, .inl (dA 1, 1024, .inl fH)), (th, .inr (0, [.ref b, .int (nI t.length)])), (b, .inl (dA 0, N, .inl f))] [.int r1, .int (nI c), .ref s3] 0 0 rfl rfl rfl (Nat.le_refl _) (Nat.le_refl _) ?_
  subst k1
  refine jv_iast C 3 [(o, .inr (1, [.ref th, .ref s1, .ref s2, .ref s3, .int (nI c)])), (s1, .inl (dA 1, 1024, .inl (upd fS c (nI a)))), (s2, .inl (dA 1, 1024, .inl (upd fE c (nI z)))), (s3, .inl (dA 1, 1024, .inl (upd fH (nI c).toNatClampNeg (js_hash t a (z - a))))), (th, .inr (0, [.ref b, .int (nI t.length)])), (b, .inl (dA 0, N, .inl f))] rfl rfl (vp_in_nI hc (by decide)) (jd D_Nm_add 25 rfl) ?_
  refine jv_weq (ws' := [(o, .inr (1, [.ref th, .ref s1, .ref s2, .ref s3, .int (nI c)])), (s1, .inl (dA 1, 1024, .inl (upd fS c (nI a)))), (s2, .inl (dA 1, 1024, .inl (upd fE c (nI z)))), (s3, .inl (dA 1, 1024, .inl (upd fH c (js_hash t a (z - a))))), (th, .inr (0, [.ref b, .int (nI t.length)])), (b, .inl (dA 0, N, .inl f))]) (by rw [nI_clamp (by omega)]) ?_
  refine jv_aload_n C (jd D_Nm_add 26 rfl) rfl 0 rfl ?_
  refine jv_dup C (jd D_Nm_add 27 rfl) rfl ?_
  refine jv_get C fl_Nm_25 0 rfl rfl (jd D_Nm_add 28 rfl) ?_
  refine jv_iconst (v := 1) C (jd D_Nm_add 29 rfl) (by decide) ?_
  refine jv_iadd C (jd D_Nm_add 30 rfl) ?_
  refine jv_ati (y := nI (c + 1)) (nI_1 c) ?_
  refine jv_put C fl_Nm_25 Y_Nm rfl 0 [(o, .inr (1, [.ref th, .ref s1, .ref s2, .ref s3, .int (nI (c + 1))])), (s1, .inl (dA 1, 1024, .inl (upd fS c (nI a)))), (s2, .inl (dA 1, 1024, .inl (upd fE c (nI z)))), (s3, .inl (dA 1, 1024, .inl (upd fH c (js_hash t a (z - a))))), (th, .inr (0, [.ref b, .int (nI t.length)])), (b, .inl (dA 0, N, .inl f))] rfl rfl rfl (Nat.le_of_ble_eq_true rfl) rfl rfl (jd D_Nm_add 31 rfl) ?_
  exact jv_vret C hr () (trivial) [0, 1, 2, 3, 4, 5] rfl rfl (Nat.le_of_ble_eq_true rfl) (Nat.le_of_ble_eq_true rfl) (jd D_Nm_add 32 rfl)

set_option maxHeartbeats 4000000 in
set_option maxRecDepth 100000 in
/-- Names.holds(first, a, z) -/
theorem c_Nm_holds {l : Launch} {D : va_G} {dA : Nat → ClassId} {zz : (Nat → Nat) × (Nat → Nat)} (o th s1 s2 s3 c : Nat) (fS fE fH : Nat → Int32) (b N : Nat) (f : Nat → Int32) (t : List Nat) (first a z : Nat) (sa sz : Nat → Nat) (hl : t.length ≤ N) (hN : N < 2 ^ 31) (ht : js_tx f t) (hc : c ≤ 1024) (hf : first ≤ c) (ha : a ≤ z) (hz : z < 2 ^ 30) (hS : ∀ i, i < c → sa i ≤ sz i ∧ sz i < 2 ^ 30 ∧ fS i = nI (sa i) ∧ fE i = nI (sz i) ∧ fH i = js_hash t (sa i) (sz i - sa i)) : jv_M l D dA zz y_Nm_holds b_Nm_holds 6 (some (FieldType.boolean)) 3 [.ref o, .int (nI first), .int (nI a), .int (nI z)] [(o, .inr (1, [.ref th, .ref s1, .ref s2, .ref s3, .int (nI c)])), (s1, .inl (dA 1, 1024, .inl fS)), (s2, .inl (dA 1, 1024, .inl fE)), (s3, .inl (dA 1, 1024, .inl fH)), (th, .inr (0, [.ref b, .int (nI t.length)])), (b, .inl (dA 0, N, .inl f))] (jv_pi fun r (_ : Unit) => js_bool (∃ k, first ≤ k ∧ k < c ∧ sz k - sa k = z - a ∧ js_eqb t (sa k) t a (sz k - sa k)) r) (fun _ => [(o, .inr (1, [.ref th, .ref s1, .ref s2, .ref s3, .int (nI c)])), (s1, .inl (dA 1, 1024, .inl fS)), (s2, .inl (dA 1, 1024, .inl fE)), (s3, .inl (dA 1, 1024, .inl fH)), (th, .inr (0, [.ref b, .int (nI t.length)])), (b, .inl (dA 0, N, .inl f))]) 0 0 := by
  refine jv_M.of [(0, .ref o), (1, .int (nI first)), (2, .int (nI a)), (3, .int (nI z))] (by decide) (Nat.le_of_ble_eq_true rfl) rfl ?_
  intro pR eR sR mR belowR methR cR AR C hr hin
  obtain ⟨QR, hQ⟩ : ∃ QR, QR = jv_E D (jv_pi fun r (_ : Unit) => js_bool (∃ k, first ≤ k ∧ k < c ∧ sz k - sa k = z - a ∧ js_eqb t (sa k) t a (sz k - sa k)) r) (fun _ => [(o, .inr (1, [.ref th, .ref s1, .ref s2, .ref s3, .int (nI c)])), (s1, .inl (dA 1, 1024, .inl fS)), (s2, .inl (dA 1, 1024, .inl fE)), (s3, .inl (dA 1, 1024, .inl fH)), (th, .inr (0, [.ref b, .int (nI t.length)])), (b, .inl (dA 0, N, .inl f))]) belowR ([.ref o, .int (nI first), .int (nI a), .int (nI z)] : List Value).toArray sR AR 0 0 := ⟨_, rfl⟩
  rw [← hQ]
  refine jv_aload_n C (jd D_Nm_holds 0 rfl) rfl 0 rfl ?_
  refine jv_get C fl_Nm_9 0 rfl rfl (jd D_Nm_holds 1 rfl) ?_
  refine jv_iload_n C (jd D_Nm_holds 2 rfl) rfl 2 rfl ?_
  refine jv_iload_n C (jd D_Nm_holds 3 rfl) rfl 3 rfl ?_
  refine jv_callV (wr := [(o, .inr (1, [.ref th, .ref s1, .ref s2, .ref s3, .int (nI c)])), (s1, .inl (dA 1, 1024, .inl fS)), (s2, .inl (dA 1, 1024, .inl fE)), (s3, .inl (dA 1, 1024, .inl fH))]) C cl_Nm_29 (c_Tx_hash th b N f t a z hl hN ht ha (by omega)) [4, 5] [0, 1, 2, 3] rfl rfl rfl rfl (by decide) rfl rfl 0 rfl ⟨Nat.le_of_ble_eq_true rfl, Nat.le_of_ble_eq_true rfl⟩ ⟨Nat.le_of_ble_eq_true rfl, Nat.le_of_ble_eq_true rfl⟩ rfl rfl (Nat.le_of_ble_eq_true rfl) (jd D_Nm_holds 4 rfl) (fun v1 _ k1 => ?_)
  obtain ⟨r1, rfl, k1⟩ := k1
  refine jv_fix [0, 1, 2, 3, 4, 5] [(o, .inr (1, [.ref th, .ref s1, .ref s2, .ref s3, .int (nI c)])), (s1, .inl (dA 1, 1024, .inl fS)), (s2, .inl (dA 1, 1024, .inl fE)), (s3, .inl (dA 1, 1024, .inl fH)), (th, .inr (0, [.ref b, .int (nI t.length)])), (b, .inl (dA 0, N, .inl f))] [.int r1] 0 0 rfl rfl rfl (Nat.le_refl _) (Nat.le_refl _) ?_
  subst k1
  refine jv_istore C [(4, .int (js_hash t a (z - a))), (0, .ref o), (1, .int (nI first)), (2, .int (nI a)), (3, .int (nI z))] (jd D_Nm_holds 5 rfl) (by decide) rfl ?_
  refine jv_iload_n C (jd D_Nm_holds 6 rfl) rfl 2 rfl ?_
  refine jv_iconst (v := 0) C (jd D_Nm_holds 7 rfl) (by decide) ?_
  refine jv_mmax C (jm3 (List.mem_of_getElem? (i := 4) rfl)) (jd D_Nm_holds 8 rfl) (Nat.le_of_ble_eq_true rfl) (Nat.le_of_ble_eq_true rfl) (Nat.le_of_ble_eq_true rfl) (Nat.le_of_ble_eq_true rfl) ?_
  refine jv_ati (y := nI first) (if_neg (nI_pos (by omega))) ?_
  refine jv_istore C [(5, .int (nI first)), (4, .int (js_hash t a (z - a))), (0, .ref o), (1, .int (nI first)), (2, .int (nI a)), (3, .int (nI z))] (jd D_Nm_holds 9 rfl) (by decide) rfl ?_
  have hL18 : ∀ (n : Nat) (k : Nat), first ≤ k → k ≤ c → c + 1 ≤ k + n → (∀ j, first ≤ j → j < k → ¬ (sz j - sa j = z - a ∧ js_eqb t (sa j) t a (sz j - sa j))) → jv_V pR l eR (jv_rm 3 0 0) sR mR ([.ref o, .int (nI first), .int (nI a), .int (nI z)] : List Value).toArray belowR methR cR 0 0 QR D AR 6 [(o, .inr (1, [.ref th, .ref s1, .ref s2, .ref s3, .int (nI c)])), (s1, .inl (dA 1, 1024, .inl fS)), (s2, .inl (dA 1, 1024, .inl fE)), (s3, .inl (dA 1, 1024, .inl fH)), (th, .inr (0, [.ref b, .int (nI t.length)])), (b, .inl (dA 0, N, .inl f))] [(0, .ref o), (1, .int (nI first)), (2, .int (nI a)), (3, .int (nI z)), (4, .int (js_hash t a (z - a))), (5, .int (nI k))] 18 [] := by
    intro n
    induction n with
    | zero =>
      intro k h0 h1 h2
      exact absurd h2 (by omega)
    | succ n ih =>
      intro k hfk hk hm hi
      refine jv_iload C (jd D_Nm_holds 10 rfl) 5 rfl ?_
      refine jv_aload_n C (jd D_Nm_holds 11 rfl) rfl 0 rfl ?_
      refine jv_get C fl_Nm_25 0 rfl rfl (jd D_Nm_holds 12 rfl) ?_
      refine jv_icmp_ge (tgt := 77) C (jd D_Nm_holds 13 rfl) (by decide) (fun c24 => ?_) (fun c24 => ?_)
      · refine jv_iconst (v := 0) C (jd D_Nm_holds 40 rfl) (by decide) ?_
        rw [hQ]
        exact jv_iret C hr () (Or.inr ⟨rfl, fun ⟨j, h1, h2, h3⟩ => hi j h1 (by have := (nI_leI (a := c) (b := k) (by omega) (by omega)).mp c24; omega) h3⟩) rfl [0, 1, 2, 3, 4, 5] rfl rfl (Nat.le_of_ble_eq_true rfl) (Nat.le_of_ble_eq_true rfl) (jd D_Nm_holds 41 rfl)
      · have hlt : k < c := by
          rcases Nat.lt_or_ge k c with q | q
          · exact q
          · exact absurd (nI_le q (by omega)) c24
        obtain ⟨h1, h2, h3, h4, h5⟩ := hS k hlt
        refine jv_aload_n C (jd D_Nm_holds 14 rfl) rfl 0 rfl ?_
        refine jv_get C fl_Nm_22 0 rfl rfl (jd D_Nm_holds 15 rfl) ?_
        refine jv_iload C (jd D_Nm_holds 16 rfl) 5 rfl ?_
        refine jv_iald C 3 rfl (vp_in_nI (by omega) (by decide)) (jd D_Nm_holds 17 rfl) ?_
        refine jv_ati (y := fH k) (by rw [nI_clamp (by omega)]) ?_
        refine jv_iload C (jd D_Nm_holds 18 rfl) 4 rfl ?_
        refine jv_icmp_ne (tgt := 71) C (jd D_Nm_holds 19 rfl) (by decide) (fun c36 => ?_) (fun c36 => ?_)
        · refine jv_iinc (v := nI (k + 1)) C [(5, .int (nI (k + 1))), (0, .ref o), (1, .int (nI first)), (2, .int (nI a)), (3, .int (nI z)), (4, .int (js_hash t a (z - a)))] (jd D_Nm_holds 38 rfl) 5 rfl (nI_1 k) (by decide) rfl ?_
          refine jv_goto (tgt := 18) C (jd D_Nm_holds 39 rfl) (by decide) ?_
          refine jv_lvsub [1, 2, 3, 4, 5, 0] rfl ?_
          exact ih (k + 1) (by omega) (by omega) (by omega) (fun j h1 h2 q => by
            rcases Nat.lt_or_ge j k with y | y
            · exact hi j h1 y q
            · have : j = k := by omega
              subst this
              exact c36 (by rw [h5, q.1]; exact js_hash_eq (by rw [← q.1]; exact q.2)))
        · refine jv_aload_n C (jd D_Nm_holds 20 rfl) rfl 0 rfl ?_
          refine jv_get C fl_Nm_9 0 rfl rfl (jd D_Nm_holds 21 rfl) ?_
          refine jv_aload_n C (jd D_Nm_holds 22 rfl) rfl 0 rfl ?_
          refine jv_get C fl_Nm_15 0 rfl rfl (jd D_Nm_holds 23 rfl) ?_
          refine jv_iload C (jd D_Nm_holds 24 rfl) 5 rfl ?_
          refine jv_iald C 1 rfl (vp_in_nI (by omega) (by decide)) (jd D_Nm_holds 25 rfl) ?_
          refine jv_ati (y := nI (sa k)) (by rw [nI_clamp (by omega)]; exact h3) ?_
          refine jv_aload_n C (jd D_Nm_holds 26 rfl) rfl 0 rfl ?_
          refine jv_get C fl_Nm_19 0 rfl rfl (jd D_Nm_holds 27 rfl) ?_
          refine jv_iload C (jd D_Nm_holds 28 rfl) 5 rfl ?_
          refine jv_iald C 2 rfl (vp_in_nI (by omega) (by decide)) (jd D_Nm_holds 29 rfl) ?_
          refine jv_ati (y := nI (sz k)) (by rw [nI_clamp (by omega)]; exact h4) ?_
          refine jv_aload_n C (jd D_Nm_holds 30 rfl) rfl 0 rfl ?_
          refine jv_get C fl_Nm_9 0 rfl rfl (jd D_Nm_holds 31 rfl) ?_
          refine jv_iload_n C (jd D_Nm_holds 32 rfl) rfl 2 rfl ?_
          refine jv_iload_n C (jd D_Nm_holds 33 rfl) rfl 3 rfl ?_
          refine jv_callV (wr := [(o, .inr (1, [.ref th, .ref s1, .ref s2, .ref s3, .int (nI c)])), (s1, .inl (dA 1, 1024, .inl fS)), (s2, .inl (dA 1, 1024, .inl fE)), (s3, .inl (dA 1, 1024, .inl fH))]) C cl_Nm_40 (c_Tx_hasSameBytes_s th b N f t (sa k) (sz k) a z hl hN ht h1 h2 ha hz) [4, 5] [0, 1, 2, 3] rfl rfl rfl rfl (by decide) rfl rfl 0 rfl ⟨Nat.le_of_ble_eq_true rfl, Nat.le_of_ble_eq_true rfl⟩ ⟨Nat.le_of_ble_eq_true rfl, Nat.le_of_ble_eq_true rfl⟩ rfl rfl (Nat.le_of_ble_eq_true rfl) (jd D_Nm_holds 34 rfl) (fun v2 _ k2 => ?_)
          obtain ⟨r2, rfl, k2⟩ := k2
          refine jv_fix [0, 1, 2, 3, 4, 5] [(o, .inr (1, [.ref th, .ref s1, .ref s2, .ref s3, .int (nI c)])), (s1, .inl (dA 1, 1024, .inl fS)), (s2, .inl (dA 1, 1024, .inl fE)), (s3, .inl (dA 1, 1024, .inl fH)), (th, .inr (0, [.ref b, .int (nI t.length)])), (b, .inl (dA 0, N, .inl f))] [.int r2] 0 0 rfl rfl rfl (Nat.le_refl _) (Nat.le_refl _) ?_
          refine jv_if_eq (tgt := 71) C (jd D_Nm_holds 35 rfl) (by decide) (fun c66 => ?_) (fun c66 => ?_)
          · have hneg : ¬ (sz k - sa k = z - a ∧ js_eqb t (sa k) t a (sz k - sa k)) := by
              rcases k2 with q | q
              · exact absurd (q.1.symm.trans c66) (by decide)
              · exact q.2
            refine jv_iinc (v := nI (k + 1)) C [(5, .int (nI (k + 1))), (0, .ref o), (1, .int (nI first)), (2, .int (nI a)), (3, .int (nI z)), (4, .int (js_hash t a (z - a)))] (jd D_Nm_holds 38 rfl) 5 rfl (nI_1 k) (by decide) rfl ?_
            refine jv_goto (tgt := 18) C (jd D_Nm_holds 39 rfl) (by decide) ?_
            refine jv_lvsub [1, 2, 3, 4, 5, 0] rfl ?_
            exact ih (k + 1) (by omega) (by omega) (by omega) (fun j h1 h2 q => by
              rcases Nat.lt_or_ge j k with y | y
              · exact hi j h1 y q
              · have : j = k := by omega
                subst this
                exact hneg q)
          · have hpos : sz k - sa k = z - a ∧ js_eqb t (sa k) t a (sz k - sa k) := by
              rcases k2 with q | q
              · exact q.2
              · exact absurd q.1 c66
            refine jv_iconst (v := 1) C (jd D_Nm_holds 36 rfl) (by decide) ?_
            rw [hQ]
            exact jv_iret C hr () (Or.inl ⟨rfl, k, hfk, hlt, hpos⟩) rfl [0, 1, 2, 3, 4, 5] rfl rfl (Nat.le_of_ble_eq_true rfl) (Nat.le_of_ble_eq_true rfl) (jd D_Nm_holds 37 rfl)
  refine jv_lvsub [2, 3, 4, 5, 1, 0] rfl ?_
  exact hL18 (c + 1 - first) first (Nat.le_refl _) hf (by omega) (fun j h1 h2 => absurd h1 (by omega))

set_option maxHeartbeats 4000000 in
set_option maxRecDepth 100000 in
/-- new Names(text) -/
theorem c_Nm_init {l : Launch} {D : va_G} {dA : Nat → ClassId} {zz : (Nat → Nat) × (Nat → Nat)} (o th : Nat)  : jv_M l D dA zz y_Nm_init b_Nm_init 2 none 1 [.ref o, .ref th] [(o, .inr (1, [.null, .null, .null, .null, .int 0]))] (jv_pv fun (_ : Nat × Nat × Nat) => True) (fun u => [(o, .inr (1, [.ref th, .ref u.1, .ref u.2.1, .ref u.2.2, .int 0])), (u.1, .inl (dA 1, 1024, .inl (fun _ => 0))), (u.2.1, .inl (dA 1, 1024, .inl (fun _ => 0))), (u.2.2, .inl (dA 1, 1024, .inl (fun _ => 0)))]) 3 3072 := by
  refine jv_M.of [(0, .ref o), (1, .ref th)] (by decide) (Nat.le_of_ble_eq_true rfl) rfl ?_
  intro pR eR sR mR belowR methR cR AR C hr hin
  refine jv_aload_n C (jd D_Nm_init 0 rfl) rfl 0 rfl ?_
  refine jv_objInit C (jm1 (List.mem_of_getElem? (i := 60) rfl)) (jd D_Nm_init 1 rfl) (Nat.le_of_ble_eq_true rfl) (Nat.le_of_ble_eq_true rfl) ?_
  refine jv_aload_n C (jd D_Nm_init 2 rfl) rfl 0 rfl ?_
  refine jv_aload_n C (jd D_Nm_init 3 rfl) rfl 1 rfl ?_
  refine jv_putF C fl_Nm_9 Y_Nm rfl hin 0 [(o, .inr (1, [.ref th, .null, .null, .null, .int 0]))] rfl rfl rfl (Nat.le_of_ble_eq_true rfl) rfl rfl (jd D_Nm_init 4 rfl) (fun _ _ _ => jv_noNest) ?_
  refine jv_aload_n C (jd D_Nm_init 5 rfl) rfl 0 rfl ?_
  refine jv_sipush (v := 1024) C (jd D_Nm_init 6 rfl) (by decide) ?_
  refine jv_newag (ar := .inl (fun _ => 0)) (ty := .int) C 1 rfl (jm1 (List.mem_of_getElem? (i := 77) rfl)) rfl (fun _ h => h) 1024 (fun cA => vp_cell_i cA _ _) (by decide) (by decide) (by decide) (Nat.le_of_ble_eq_true rfl) (Nat.le_of_ble_eq_true rfl) (jd D_Nm_init 7 rfl) (fun q1 => ?_)
  refine jv_fix [0, 1] [(o, .inr (1, [.ref th, .null, .null, .null, .int 0])), (q1, .inl (dA 1, 1024, .inl (fun _ => 0)))] [.ref q1, .ref o] 1 1024 rfl rfl rfl (Nat.le_refl _) (Nat.le_refl _) ?_
  refine jv_putF C fl_Nm_15 Y_Nm rfl hin 0 [(o, .inr (1, [.ref th, .ref q1, .null, .null, .int 0])), (q1, .inl (dA 1, 1024, .inl (fun _ => 0)))] rfl rfl rfl (Nat.le_of_ble_eq_true rfl) rfl rfl (jd D_Nm_init 8 rfl) (fun _ _ _ => jv_noNest) ?_
  refine jv_aload_n C (jd D_Nm_init 9 rfl) rfl 0 rfl ?_
  refine jv_sipush (v := 1024) C (jd D_Nm_init 10 rfl) (by decide) ?_
  refine jv_newag (ar := .inl (fun _ => 0)) (ty := .int) C 1 rfl (jm1 (List.mem_of_getElem? (i := 77) rfl)) rfl (fun _ h => h) 1024 (fun cA => vp_cell_i cA _ _) (by decide) (by decide) (by decide) (Nat.le_of_ble_eq_true rfl) (Nat.le_of_ble_eq_true rfl) (jd D_Nm_init 11 rfl) (fun q2 => ?_)
  refine jv_fix [0, 1, 2] [(o, .inr (1, [.ref th, .ref q1, .null, .null, .int 0])), (q1, .inl (dA 1, 1024, .inl (fun _ => 0))), (q2, .inl (dA 1, 1024, .inl (fun _ => 0)))] [.ref q2, .ref o] 2 2048 rfl rfl rfl (Nat.le_refl _) (Nat.le_refl _) ?_
  refine jv_putF C fl_Nm_19 Y_Nm rfl hin 0 [(o, .inr (1, [.ref th, .ref q1, .ref q2, .null, .int 0])), (q1, .inl (dA 1, 1024, .inl (fun _ => 0))), (q2, .inl (dA 1, 1024, .inl (fun _ => 0)))] rfl rfl rfl (Nat.le_of_ble_eq_true rfl) rfl rfl (jd D_Nm_init 12 rfl) (fun _ _ _ => jv_noNest) ?_
  refine jv_aload_n C (jd D_Nm_init 13 rfl) rfl 0 rfl ?_
  refine jv_sipush (v := 1024) C (jd D_Nm_init 14 rfl) (by decide) ?_
  refine jv_newag (ar := .inl (fun _ => 0)) (ty := .int) C 1 rfl (jm1 (List.mem_of_getElem? (i := 77) rfl)) rfl (fun _ h => h) 1024 (fun cA => vp_cell_i cA _ _) (by decide) (by decide) (by decide) (Nat.le_of_ble_eq_true rfl) (Nat.le_of_ble_eq_true rfl) (jd D_Nm_init 15 rfl) (fun q3 => ?_)
  refine jv_fix [0, 1, 2, 3] [(o, .inr (1, [.ref th, .ref q1, .ref q2, .null, .int 0])), (q1, .inl (dA 1, 1024, .inl (fun _ => 0))), (q2, .inl (dA 1, 1024, .inl (fun _ => 0))), (q3, .inl (dA 1, 1024, .inl (fun _ => 0)))] [.ref q3, .ref o] 3 3072 rfl rfl rfl (Nat.le_refl _) (Nat.le_refl _) ?_
  refine jv_putF C fl_Nm_22 Y_Nm rfl hin 0 [(o, .inr (1, [.ref th, .ref q1, .ref q2, .ref q3, .int 0])), (q1, .inl (dA 1, 1024, .inl (fun _ => 0))), (q2, .inl (dA 1, 1024, .inl (fun _ => 0))), (q3, .inl (dA 1, 1024, .inl (fun _ => 0)))] rfl rfl rfl (Nat.le_of_ble_eq_true rfl) rfl rfl (jd D_Nm_init 16 rfl) (fun _ _ _ => jv_noNest) ?_
  refine jv_aload_n C (jd D_Nm_init 17 rfl) rfl 0 rfl ?_
  refine jv_iconst (v := 0) C (jd D_Nm_init 18 rfl) (by decide) ?_
  refine jv_put C fl_Nm_25 Y_Nm rfl 0 [(o, .inr (1, [.ref th, .ref q1, .ref q2, .ref q3, .int 0])), (q1, .inl (dA 1, 1024, .inl (fun _ => 0))), (q2, .inl (dA 1, 1024, .inl (fun _ => 0))), (q3, .inl (dA 1, 1024, .inl (fun _ => 0)))] rfl rfl rfl (Nat.le_of_ble_eq_true rfl) rfl rfl (jd D_Nm_init 19 rfl) ?_
  exact jv_vret C hr (q1, q2, q3) (trivial) [0, 1, 2, 3] rfl rfl (Nat.le_of_ble_eq_true rfl) (Nat.le_of_ble_eq_true rfl) (jd D_Nm_init 20 rfl)
