set_option maxHeartbeats 4000000 in
set_option maxRecDepth 100000 in
/-- Reader.breakAt(x) -/
theorem c_Rd_breakAt {l : Launch} {D : va_G} {dA : Nat → ClassId} {zz : (Nat → Nat) × (Nat → Nat)} (o tp pp nn ob nb : Nat) (dp ub pl : Int32) (i : Nat) (x : Int32)  : jv_M l D dA zz y_Rd_breakAt b_Rd_breakAt 2 (some (FieldType.int)) 1 [.ref o, .int x] [(o, .inr (2, [.ref tp, .ref pp, .ref nn, .ref ob, .ref nb, .int dp, .int (nI i), .int ub, .int pl]))] (jv_pi fun r (_ : Unit) => r = 6) (fun _ => [(o, .inr (2, [.ref tp, .ref pp, .ref nn, .ref ob, .ref nb, .int dp, .int (nI i), .int ub, .int x]))]) 0 0 := by
  refine jv_M.of [(0, .ref o), (1, .int x)] (by decide) (Nat.le_of_ble_eq_true rfl) rfl ?_
  intro pR eR sR mR belowR methR cR AR C hr hin
  refine jv_aload_n C (jd D_Rd_breakAt 0 rfl) rfl 0 rfl ?_
  refine jv_iload_n C (jd D_Rd_breakAt 1 rfl) rfl 1 rfl ?_
  refine jv_put C fl_Rd_68 Y_Rd rfl 0 [(o, .inr (2, [.ref tp, .ref pp, .ref nn, .ref ob, .ref nb, .int dp, .int (nI i), .int ub, .int x]))] rfl rfl rfl (Nat.le_of_ble_eq_true rfl) rfl rfl (jd D_Rd_breakAt 2 rfl) ?_
  refine jv_bipush (v := 6) C (jd D_Rd_breakAt 3 rfl) (by decide) ?_
  exact jv_iret C hr () (rfl) rfl [0] rfl rfl (Nat.le_of_ble_eq_true rfl) (Nat.le_of_ble_eq_true rfl) (jd D_Rd_breakAt 4 rfl)

set_option maxHeartbeats 4000000 in
set_option maxRecDepth 100000 in
/-- Reader.printed() -/
theorem c_Rd_printed {l : Launch} {D : va_G} {dA : Nat → ClassId} {zz : (Nat → Nat) × (Nat → Nat)} (o tp pp nn ob nb : Nat) (dp ub pl : Int32) (i : Nat)  : jv_M l D dA zz y_Rd_printed b_Rd_printed 1 (some ((FieldType.object "JsonShelf$Text"))) 1 [.ref o] [(o, .inr (2, [.ref tp, .ref pp, .ref nn, .ref ob, .ref nb, .int dp, .int (nI i), .int ub, .int pl]))] (jv_pr fun a (_ : Unit) => a = pp) (fun _ => [(o, .inr (2, [.ref tp, .ref pp, .ref nn, .ref ob, .ref nb, .int dp, .int (nI i), .int ub, .int pl]))]) 0 0 := by
  refine jv_M.of [(0, .ref o)] (by decide) (Nat.le_of_ble_eq_true rfl) rfl ?_
  intro pR eR sR mR belowR methR cR AR C hr hin
  refine jv_aload_n C (jd D_Rd_printed 0 rfl) rfl 0 rfl ?_
  refine jv_get C fl_Rd_20 0 rfl rfl (jd D_Rd_printed 1 rfl) ?_
  exact jv_aret C hr (Or.inl ⟨_, rfl⟩) () (rfl) [0] rfl rfl (Nat.le_of_ble_eq_true rfl) (Nat.le_of_ble_eq_true rfl) (jd D_Rd_printed 2 rfl)

set_option maxHeartbeats 4000000 in
set_option maxRecDepth 100000 in
/-- Reader.pass(b), where there is room -/
theorem c_Rd_pass {l : Launch} {D : va_G} {dA : Nat → ClassId} {zz : (Nat → Nat) × (Nat → Nat)} (o tp pp nn ob nb : Nat) (dp ub pl : Int32) (i : Nat) (pb M : Nat) (g : Nat → Int32) (pr : List Nat) (x : Int32) (hp : pr.length < M) (hM : M < 2 ^ 30) (htp : js_tx g pr) : jv_M l D dA zz y_Rd_pass b_Rd_pass 2 none 2 [.ref o, .int x] [(o, .inr (2, [.ref tp, .ref pp, .ref nn, .ref ob, .ref nb, .int dp, .int (nI i), .int ub, .int pl])), (pp, .inr (0, [.ref pb, .int (nI pr.length)])), (pb, .inl (dA 0, M, .inl g))] (jv_pv fun g2 => js_tx g2 (pr ++ [x.toBitVec.toNat % 256])) (fun g2 => [(o, .inr (2, [.ref tp, .ref pp, .ref nn, .ref ob, .ref nb, .int dp, .int (nI (i + 1)), .int ub, .int pl])), (pp, .inr (0, [.ref pb, .int (nI (pr ++ [x.toBitVec.toNat % 256]).length)])), (pb, .inl (dA 0, M, .inl g2))]) 0 0 := by
  refine jv_M.of [(0, .ref o), (1, .int x)] (by decide) (Nat.le_of_ble_eq_true rfl) rfl ?_
  intro pR eR sR mR belowR methR cR AR C hr hin
  refine jv_aload_n C (jd D_Rd_pass 0 rfl) rfl 0 rfl ?_
  refine jv_get C fl_Rd_20 0 rfl rfl (jd D_Rd_pass 1 rfl) ?_
  refine jv_iload_n C (jd D_Rd_pass 2 rfl) rfl 1 rfl ?_
  refine jv_callV (wr := [(o, .inr (2, [.ref tp, .ref pp, .ref nn, .ref ob, .ref nb, .int dp, .int (nI i), .int ub, .int pl]))]) C cl_Rd_86 (c_Tx_add pp pb M g pr x hp (by omega) htp) [1, 2] [0] rfl rfl rfl rfl (by decide) rfl rfl 0 rfl ⟨Nat.le_of_ble_eq_true rfl, Nat.le_of_ble_eq_true rfl⟩ ⟨Nat.le_of_ble_eq_true rfl, Nat.le_of_ble_eq_true rfl⟩ rfl rfl (Nat.le_of_ble_eq_true rfl) (jd D_Rd_pass 3 rfl) (fun v1 g2 k1 => ?_)
  obtain ⟨rfl, k1⟩ := k1
  refine jv_fix [0, 1, 2] [(o, .inr (2, [.ref tp, .ref pp, .ref nn, .ref ob, .ref nb, .int dp, .int (nI i), .int ub, .int pl])), (pp, .inr (0, [.ref pb, .int (nI (pr ++ [x.toBitVec.toNat % 256]).length)])), (pb, .inl (dA 0, M, .inl g2))] [] 0 0 rfl rfl rfl (Nat.le_refl _) (Nat.le_refl _) ?_
  refine jv_aload_n C (jd D_Rd_pass 4 rfl) rfl 0 rfl ?_
  refine jv_dup C (jd D_Rd_pass 5 rfl) rfl ?_
  refine jv_get C fl_Rd_46 0 rfl rfl (jd D_Rd_pass 6 rfl) ?_
  refine jv_iconst (v := 1) C (jd D_Rd_pass 7 rfl) (by decide) ?_
  refine jv_iadd C (jd D_Rd_pass 8 rfl) ?_
  refine jv_ati (y := nI (i + 1)) (nI_1 i) ?_
  refine jv_put C fl_Rd_46 Y_Rd rfl 0 [(o, .inr (2, [.ref tp, .ref pp, .ref nn, .ref ob, .ref nb, .int dp, .int (nI (i + 1)), .int ub, .int pl])), (pp, .inr (0, [.ref pb, .int (nI (pr ++ [x.toBitVec.toNat % 256]).length)])), (pb, .inl (dA 0, M, .inl g2))] rfl rfl rfl (Nat.le_of_ble_eq_true rfl) rfl rfl (jd D_Rd_pass 9 rfl) ?_
  exact jv_vret C hr g2 (k1) [0, 1, 2] rfl rfl (Nat.le_of_ble_eq_true rfl) (Nat.le_of_ble_eq_true rfl) (jd D_Rd_pass 10 rfl)

set_option maxHeartbeats 4000000 in
set_option maxRecDepth 100000 in
/-- Reader.skipBlanks() -/
theorem c_Rd_skipBlanks {l : Launch} {D : va_G} {dA : Nat → ClassId} {zz : (Nat → Nat) × (Nat → Nat)} (o tp pp nn ob nb : Nat) (dp ub pl : Int32) (i : Nat) (tb N : Nat) (f : Nat → Int32) (t : List Nat) (hl : t.length ≤ N) (hN : N < 2 ^ 30) (ht : js_tx f t) (hi : i ≤ t.length) : jv_M l D dA zz y_Rd_skipBlanks b_Rd_skipBlanks 1 none 2 [.ref o] [(o, .inr (2, [.ref tp, .ref pp, .ref nn, .ref ob, .ref nb, .int dp, .int (nI i), .int ub, .int pl])), (tp, .inr (0, [.ref tb, .int (nI t.length)])), (tb, .inl (dA 0, N, .inl f))] (jv_pv fun (_ : Unit) => True) (fun _ => [(o, .inr (2, [.ref tp, .ref pp, .ref nn, .ref ob, .ref nb, .int dp, .int (nI (js_skip t (t.length - i) i)), .int ub, .int pl])), (tp, .inr (0, [.ref tb, .int (nI t.length)])), (tb, .inl (dA 0, N, .inl f))]) 0 0 := by
  refine jv_M.of [(0, .ref o)] (by decide) (Nat.le_of_ble_eq_true rfl) rfl ?_
  intro pR eR sR mR belowR methR cR AR C hr hin
  obtain ⟨QR, hQ⟩ : ∃ QR, QR = jv_E D (jv_pv fun (_ : Unit) => True) (fun _ => [(o, .inr (2, [.ref tp, .ref pp, .ref nn, .ref ob, .ref nb, .int dp, .int (nI (js_skip t (t.length - i) i)), .int ub, .int pl])), (tp, .inr (0, [.ref tb, .int (nI t.length)])), (tb, .inl (dA 0, N, .inl f))]) belowR ([.ref o] : List Value).toArray sR AR 0 0 := ⟨_, rfl⟩
  rw [← hQ]
  have hL0 : ∀ (n : Nat) (j : Nat), j ≤ t.length → t.length + 1 ≤ j + n → js_skip t (t.length - j) j = js_skip t (t.length - i) i → jv_V pR l eR (jv_rm 2 0 0) sR mR ([.ref o] : List Value).toArray belowR methR cR 0 0 QR D AR 1 [(o, .inr (2, [.ref tp, .ref pp, .ref nn, .ref ob, .ref nb, .int dp, .int (nI j), .int ub, .int pl])), (tp, .inr (0, [.ref tb, .int (nI t.length)])), (tb, .inl (dA 0, N, .inl f))] [(0, .ref o)] 0 [] := by
    intro n
    induction n with
    | zero =>
      intro j h1 h2
      exact absurd h2 (by omega)
    | succ n ih =>
      intro j hj hm he
      refine jv_aload_n C (jd D_Rd_skipBlanks 0 rfl) rfl 0 rfl ?_
      refine jv_get C fl_Rd_46 0 rfl rfl (jd D_Rd_skipBlanks 1 rfl) ?_
      refine jv_aload_n C (jd D_Rd_skipBlanks 2 rfl) rfl 0 rfl ?_
      refine jv_get C fl_Rd_9 0 rfl rfl (jd D_Rd_skipBlanks 3 rfl) ?_
      refine jv_callV (wr := [(o, .inr (2, [.ref tp, .ref pp, .ref nn, .ref ob, .ref nb, .int dp, .int (nI j), .int ub, .int pl]))]) C cl_Rd_78 (c_Tx_length tp tb N f t) [1, 2] [0] rfl rfl rfl rfl (by decide) rfl rfl 0 rfl ⟨Nat.le_of_ble_eq_true rfl, Nat.le_of_ble_eq_true rfl⟩ ⟨Nat.le_of_ble_eq_true rfl, Nat.le_of_ble_eq_true rfl⟩ rfl rfl (Nat.le_of_ble_eq_true rfl) (jd D_Rd_skipBlanks 4 rfl) (fun v1 _ k1 => ?_)
      obtain ⟨r1, rfl, k1⟩ := k1
      refine jv_fix [0, 1, 2] [(o, .inr (2, [.ref tp, .ref pp, .ref nn, .ref ob, .ref nb, .int dp, .int (nI j), .int ub, .int pl])), (tp, .inr (0, [.ref tb, .int (nI t.length)])), (tb, .inl (dA 0, N, .inl f))] [.int r1, .int (nI j)] 0 0 rfl rfl rfl (Nat.le_refl _) (Nat.le_refl _) ?_
      subst k1
      refine jv_icmp_ge (tgt := 44) C (jd D_Rd_skipBlanks 5 rfl) (by decide) (fun c11 => ?_) (fun c11 => ?_)
      · refine jv_weq (ws' := [(o, .inr (2, [.ref tp, .ref pp, .ref nn, .ref ob, .ref nb, .int dp, .int (nI (js_skip t (t.length - i) i)), .int ub, .int pl])), (tp, .inr (0, [.ref tb, .int (nI t.length)])), (tb, .inl (dA 0, N, .inl f))]) (by rw [← he, show t.length - j = 0 from (by have := (nI_leI (a := t.length) (b := j) (by omega) (by omega)).mp c11; omega), js_skip]) ?_
        rw [hQ]
        exact jv_vret C hr () (trivial) [0, 1, 2] rfl rfl (Nat.le_of_ble_eq_true rfl) (Nat.le_of_ble_eq_true rfl) (jd D_Rd_skipBlanks 20 rfl)
      · have hlt : j < t.length := by
          rcases Nat.lt_or_ge j t.length with q | q
          · exact q
          · exact absurd (nI_le q (by omega)) c11
        refine jv_aload_n C (jd D_Rd_skipBlanks 6 rfl) rfl 0 rfl ?_
        refine jv_get C fl_Rd_9 0 rfl rfl (jd D_Rd_skipBlanks 7 rfl) ?_
        refine jv_aload_n C (jd D_Rd_skipBlanks 8 rfl) rfl 0 rfl ?_
        refine jv_get C fl_Rd_46 0 rfl rfl (jd D_Rd_skipBlanks 9 rfl) ?_
        refine jv_callV (wr := [(o, .inr (2, [.ref tp, .ref pp, .ref nn, .ref ob, .ref nb, .int dp, .int (nI j), .int ub, .int pl]))]) C cl_Rd_50 (c_Tx_at tp tb N f t (nI j) hl (by omega) ht) [1, 2] [0] rfl rfl rfl rfl (by decide) rfl rfl 0 rfl ⟨Nat.le_of_ble_eq_true rfl, Nat.le_of_ble_eq_true rfl⟩ ⟨Nat.le_of_ble_eq_true rfl, Nat.le_of_ble_eq_true rfl⟩ rfl rfl (Nat.le_of_ble_eq_true rfl) (jd D_Rd_skipBlanks 10 rfl) (fun v2 _ k2 => ?_)
        obtain ⟨r2, rfl, k2⟩ := k2
        refine jv_fix [0, 1, 2] [(o, .inr (2, [.ref tp, .ref pp, .ref nn, .ref ob, .ref nb, .int dp, .int (nI j), .int ub, .int pl])), (tp, .inr (0, [.ref tb, .int (nI t.length)])), (tb, .inl (dA 0, N, .inl f))] [.int r2] 0 0 rfl rfl rfl (Nat.le_refl _) (Nat.le_refl _) ?_
        rw [js_at_nat (by omega) (by omega)] at k2
        subst k2
        refine jv_callS (wr := [(o, .inr (2, [.ref tp, .ref pp, .ref nn, .ref ob, .ref nb, .int dp, .int (nI j), .int ub, .int pl])), (tp, .inr (0, [.ref tb, .int (nI t.length)])), (tb, .inl (dA 0, N, .inl f))]) C cl_Rd_82 (c_Rd_isBlank (js_b t j)) [] [0, 1, 2] rfl rfl rfl rfl (by decide) ⟨Nat.le_of_ble_eq_true rfl, Nat.le_of_ble_eq_true rfl⟩ ⟨Nat.le_of_ble_eq_true rfl, Nat.le_of_ble_eq_true rfl⟩ rfl rfl (Nat.le_of_ble_eq_true rfl) (jd D_Rd_skipBlanks 11 rfl) (fun v3 _ k3 => ?_)
        obtain ⟨r3, rfl, k3⟩ := k3
        refine jv_fix [0, 1, 2] [(o, .inr (2, [.ref tp, .ref pp, .ref nn, .ref ob, .ref nb, .int dp, .int (nI j), .int ub, .int pl])), (tp, .inr (0, [.ref tb, .int (nI t.length)])), (tb, .inl (dA 0, N, .inl f))] [.int r3] 0 0 rfl rfl rfl (Nat.le_refl _) (Nat.le_refl _) ?_
        subst k3
        refine jv_if_eq (tgt := 44) C (jd D_Rd_skipBlanks 12 rfl) (by decide) (fun c28 => ?_) (fun c28 => ?_)
        · refine jv_weq (ws' := [(o, .inr (2, [.ref tp, .ref pp, .ref nn, .ref ob, .ref nb, .int dp, .int (nI (js_skip t (t.length - i) i)), .int ub, .int pl])), (tp, .inr (0, [.ref tb, .int (nI t.length)])), (tb, .inl (dA 0, N, .inl f))]) (by rw [← he, show t.length - j = (t.length - (j + 1)) + 1 by omega, js_skip, if_pos c28]) ?_
          rw [hQ]
          exact jv_vret C hr () (trivial) [0, 1, 2] rfl rfl (Nat.le_of_ble_eq_true rfl) (Nat.le_of_ble_eq_true rfl) (jd D_Rd_skipBlanks 20 rfl)
        · refine jv_aload_n C (jd D_Rd_skipBlanks 13 rfl) rfl 0 rfl ?_
          refine jv_dup C (jd D_Rd_skipBlanks 14 rfl) rfl ?_
          refine jv_get C fl_Rd_46 0 rfl rfl (jd D_Rd_skipBlanks 15 rfl) ?_
          refine jv_iconst (v := 1) C (jd D_Rd_skipBlanks 16 rfl) (by decide) ?_
          refine jv_iadd C (jd D_Rd_skipBlanks 17 rfl) ?_
          refine jv_ati (y := nI (j + 1)) (nI_1 j) ?_
          refine jv_put C fl_Rd_46 Y_Rd rfl 0 [(o, .inr (2, [.ref tp, .ref pp, .ref nn, .ref ob, .ref nb, .int dp, .int (nI (j + 1)), .int ub, .int pl])), (tp, .inr (0, [.ref tb, .int (nI t.length)])), (tb, .inl (dA 0, N, .inl f))] rfl rfl rfl (Nat.le_of_ble_eq_true rfl) rfl rfl (jd D_Rd_skipBlanks 18 rfl) ?_
          refine jv_goto (tgt := 0) C (jd D_Rd_skipBlanks 19 rfl) (by decide) ?_
          exact ih (j + 1) (by omega) (by omega) (by rw [← he, show t.length - j = (t.length - (j + 1)) + 1 by omega, js_skip, if_neg c28])
  exact hL0 (t.length + 1 - i) i hi (by omega) rfl

set_option maxHeartbeats 4000000 in
set_option maxRecDepth 100000 in
/-- Reader.hexUnit(q) -/
theorem c_Rd_hexUnit {l : Launch} {D : va_G} {dA : Nat → ClassId} {zz : (Nat → Nat) × (Nat → Nat)} (o tp pp nn ob nb : Nat) (dp ub pl : Int32) (i : Nat) (tb N : Nat) (f : Nat → Int32) (t : List Nat) (q : Nat) (hl : t.length ≤ N) (hN : N < 2 ^ 30) (ht : js_tx f t) (hq : q < 2 ^ 30) : jv_M l D dA zz y_Rd_hexUnit b_Rd_hexUnit 6 (some (FieldType.int)) 2 [.ref o, .int (nI q)] [(o, .inr (2, [.ref tp, .ref pp, .ref nn, .ref ob, .ref nb, .int dp, .int (nI i), .int ub, .int pl])), (tp, .inr (0, [.ref tb, .int (nI t.length)])), (tb, .inl (dA 0, N, .inl f))] (jv_pi fun r (_ : Unit) => r = js_hx t 4 q 0) (fun _ => [(o, .inr (2, [.ref tp, .ref pp, .ref nn, .ref ob, .ref nb, .int dp, .int (nI i), .int (if js_hok t 4 q = true then 6 else ub), .int pl])), (tp, .inr (0, [.ref tb, .int (nI t.length)])), (tb, .inl (dA 0, N, .inl f))]) 0 0 := by
  refine jv_M.of [(0, .ref o), (1, .int (nI q))] (by decide) (Nat.le_of_ble_eq_true rfl) rfl ?_
  intro pR eR sR mR belowR methR cR AR C hr hin
  obtain ⟨QR, hQ⟩ : ∃ QR, QR = jv_E D (jv_pi fun r (_ : Unit) => r = js_hx t 4 q 0) (fun _ => [(o, .inr (2, [.ref tp, .ref pp, .ref nn, .ref ob, .ref nb, .int dp, .int (nI i), .int (if js_hok t 4 q = true then 6 else ub), .int pl])), (tp, .inr (0, [.ref tb, .int (nI t.length)])), (tb, .inl (dA 0, N, .inl f))]) belowR ([.ref o, .int (nI q)] : List Value).toArray sR AR 0 0 := ⟨_, rfl⟩
  rw [← hQ]
  refine jv_iconst (v := 0) C (jd D_Rd_hexUnit 0 rfl) (by decide) ?_
  refine jv_istore_n C [(2, .int 0), (0, .ref o), (1, .int (nI q))] (jd D_Rd_hexUnit 1 rfl) rfl (by decide) rfl ?_
  refine jv_iload_n C (jd D_Rd_hexUnit 2 rfl) rfl 2 rfl ?_
  refine jv_istore_n C [(3, .int (nI q)), (2, .int 0), (0, .ref o), (1, .int (nI q))] (jd D_Rd_hexUnit 3 rfl) rfl (by decide) rfl ?_
  have hL4 : ∀ (n : Nat) (j : Nat) (acc : Int32), j ≤ 4 → 5 ≤ j + n → js_hx t (4 - j) (q + j) acc = js_hx t 4 q 0 → js_hok t (4 - j) (q + j) = js_hok t 4 q → jv_V pR l eR (jv_rm 2 0 0) sR mR ([.ref o, .int (nI q)] : List Value).toArray belowR methR cR 0 0 QR D AR 6 [(o, .inr (2, [.ref tp, .ref pp, .ref nn, .ref ob, .ref nb, .int dp, .int (nI i), .int ub, .int pl])), (tp, .inr (0, [.ref tb, .int (nI t.length)])), (tb, .inl (dA 0, N, .inl f))] [(0, .ref o), (1, .int (nI q)), (2, .int acc), (3, .int (nI (q + j)))] 4 [] := by
    intro n
    induction n with
    | zero =>
      intro j acc h1 h2
      exact absurd h2 (by omega)
    | succ n ih =>
      intro j acc hj hm he ho
      refine jv_iload_n C (jd D_Rd_hexUnit 4 rfl) rfl 3 rfl ?_
      refine jv_iload_n C (jd D_Rd_hexUnit 5 rfl) rfl 1 rfl ?_
      refine jv_iconst (v := 4) C (jd D_Rd_hexUnit 6 rfl) (by decide) ?_
      refine jv_iadd C (jd D_Rd_hexUnit 7 rfl) ?_
      refine jv_ati (y := nI (q + 4)) (nI_add q 4) ?_
      refine jv_icmp_ge (tgt := 59) C (jd D_Rd_hexUnit 8 rfl) (by decide) (fun c8 => ?_) (fun c8 => ?_)
      · have hj4 : j = 4 := by have := (nI_leI (a := q + 4) (b := q + j) (by omega) (by omega)).mp c8; omega
        subst hj4
        refine jv_aload_n C (jd D_Rd_hexUnit 35 rfl) rfl 0 rfl ?_
        refine jv_bipush (v := 6) C (jd D_Rd_hexUnit 36 rfl) (by decide) ?_
        refine jv_put C fl_Rd_156 Y_Rd rfl 0 [(o, .inr (2, [.ref tp, .ref pp, .ref nn, .ref ob, .ref nb, .int dp, .int (nI i), .int 6, .int pl])), (tp, .inr (0, [.ref tb, .int (nI t.length)])), (tb, .inl (dA 0, N, .inl f))] rfl rfl rfl (Nat.le_of_ble_eq_true rfl) rfl rfl (jd D_Rd_hexUnit 37 rfl) ?_
        refine jv_iload_n C (jd D_Rd_hexUnit 38 rfl) rfl 2 rfl ?_
        refine jv_weq (ws' := [(o, .inr (2, [.ref tp, .ref pp, .ref nn, .ref ob, .ref nb, .int dp, .int (nI i), .int (if js_hok t 4 q = true then 6 else ub), .int pl])), (tp, .inr (0, [.ref tb, .int (nI t.length)])), (tb, .inl (dA 0, N, .inl f))]) (by rw [← ho]; rfl) ?_
        rw [hQ]
        exact jv_iret C hr () (he) rfl [0, 1, 2] rfl rfl (Nat.le_of_ble_eq_true rfl) (Nat.le_of_ble_eq_true rfl) (jd D_Rd_hexUnit 39 rfl)
      · have hlt : j < 4 := by
          rcases Nat.lt_or_ge j 4 with y | y
          · exact y
          · exact absurd (nI_le (a := q + 4) (b := q + j) (by omega) (by omega)) c8
        refine jv_aload_n C (jd D_Rd_hexUnit 9 rfl) rfl 0 rfl ?_
        refine jv_get C fl_Rd_9 0 rfl rfl (jd D_Rd_hexUnit 10 rfl) ?_
        refine jv_iload_n C (jd D_Rd_hexUnit 11 rfl) rfl 3 rfl ?_
        refine jv_callV (wr := [(o, .inr (2, [.ref tp, .ref pp, .ref nn, .ref ob, .ref nb, .int dp, .int (nI i), .int ub, .int pl]))]) C cl_Rd_50 (c_Tx_at tp tb N f t (nI (q + j)) hl (by omega) ht) [1, 2] [0] rfl rfl rfl rfl (by decide) rfl rfl 0 rfl ⟨Nat.le_of_ble_eq_true rfl, Nat.le_of_ble_eq_true rfl⟩ ⟨Nat.le_of_ble_eq_true rfl, Nat.le_of_ble_eq_true rfl⟩ rfl rfl (Nat.le_of_ble_eq_true rfl) (jd D_Rd_hexUnit 12 rfl) (fun v1 _ k1 => ?_)
        obtain ⟨r1, rfl, k1⟩ := k1
        refine jv_fix [0, 1, 2] [(o, .inr (2, [.ref tp, .ref pp, .ref nn, .ref ob, .ref nb, .int dp, .int (nI i), .int ub, .int pl])), (tp, .inr (0, [.ref tb, .int (nI t.length)])), (tb, .inl (dA 0, N, .inl f))] [.int r1] 0 0 rfl rfl rfl (Nat.le_refl _) (Nat.le_refl _) ?_
        rw [js_at_nat (by omega) (by omega)] at k1
        subst k1
        refine jv_istore C [(4, .int (js_b t (q + j))), (0, .ref o), (1, .int (nI q)), (2, .int acc), (3, .int (nI (q + j)))] (jd D_Rd_hexUnit 13 rfl) (by decide) rfl ?_
        refine jv_iload C (jd D_Rd_hexUnit 14 rfl) 0 rfl ?_
        refine jv_iconst (v := -1) C (jd D_Rd_hexUnit 15 rfl) (by decide) ?_
        refine jv_icmp_ne (tgt := 29) C (jd D_Rd_hexUnit 16 rfl) (by decide) (fun c24 => ?_) (fun c24 => ?_)
        · refine jv_iload C (jd D_Rd_hexUnit 19 rfl) 0 rfl ?_
          refine jv_callS (wr := [(o, .inr (2, [.ref tp, .ref pp, .ref nn, .ref ob, .ref nb, .int dp, .int (nI i), .int ub, .int pl])), (tp, .inr (0, [.ref tb, .int (nI t.length)])), (tb, .inl (dA 0, N, .inl f))]) C cl_Rd_174 (c_Rd_hexDigit (js_b t (q + j))) [] [0, 1, 2] rfl rfl rfl rfl (by decide) ⟨Nat.le_of_ble_eq_true rfl, Nat.le_of_ble_eq_true rfl⟩ ⟨Nat.le_of_ble_eq_true rfl, Nat.le_of_ble_eq_true rfl⟩ rfl rfl (Nat.le_of_ble_eq_true rfl) (jd D_Rd_hexUnit 20 rfl) (fun v2 _ k2 => ?_)
          obtain ⟨r2, rfl, k2⟩ := k2
          refine jv_fix [0, 1, 2] [(o, .inr (2, [.ref tp, .ref pp, .ref nn, .ref ob, .ref nb, .int dp, .int (nI i), .int ub, .int pl])), (tp, .inr (0, [.ref tb, .int (nI t.length)])), (tb, .inl (dA 0, N, .inl f))] [.int r2] 0 0 rfl rfl rfl (Nat.le_refl _) (Nat.le_refl _) ?_
          subst k2
          refine jv_istore C [(5, .int (fn_Rd_hexDigit (js_b t (q + j)))), (4, .int (js_b t (q + j))), (0, .ref o), (1, .int (nI q)), (2, .int acc), (3, .int (nI (q + j)))] (jd D_Rd_hexUnit 21 rfl) (by decide) rfl ?_
          refine jv_iload C (jd D_Rd_hexUnit 22 rfl) 0 rfl ?_
          refine jv_iconst (v := -1) C (jd D_Rd_hexUnit 23 rfl) (by decide) ?_
          refine jv_icmp_ne (tgt := 45) C (jd D_Rd_hexUnit 24 rfl) (by decide) (fun c39 => ?_) (fun c39 => ?_)
          · refine jv_iload_n C (jd D_Rd_hexUnit 27 rfl) rfl 4 rfl ?_
            refine jv_bipush (v := 16) C (jd D_Rd_hexUnit 28 rfl) (by decide) ?_
            refine jv_imul C (jd D_Rd_hexUnit 29 rfl) ?_
            refine jv_iload C (jd D_Rd_hexUnit 30 rfl) 0 rfl ?_
            refine jv_iadd C (jd D_Rd_hexUnit 31 rfl) ?_
            refine jv_istore_n C [(2, .int ((acc * 16) + (fn_Rd_hexDigit (js_b t (q + j))))), (5, .int (fn_Rd_hexDigit (js_b t (q + j)))), (4, .int (js_b t (q + j))), (0, .ref o), (1, .int (nI q)), (3, .int (nI (q + j)))] (jd D_Rd_hexUnit 32 rfl) rfl (by decide) rfl ?_
            refine jv_iinc (v := nI (q + (j + 1))) C [(3, .int (nI (q + (j + 1)))), (2, .int ((acc * 16) + (fn_Rd_hexDigit (js_b t (q + j))))), (5, .int (fn_Rd_hexDigit (js_b t (q + j)))), (4, .int (js_b t (q + j))), (0, .ref o), (1, .int (nI q))] (jd D_Rd_hexUnit 33 rfl) 5 rfl (nI_1 (q + j)) (by decide) rfl ?_
            refine jv_goto (tgt := 4) C (jd D_Rd_hexUnit 34 rfl) (by decide) ?_
            refine jv_lvsub [4, 5, 1, 0] rfl ?_
            exact ih (j + 1) _ (by omega) (by omega) (by rw [← he, show 4 - j = (4 - (j + 1)) + 1 by omega, js_hx, if_neg c24, if_neg c39]; rfl) (by rw [← ho, show 4 - j = (4 - (j + 1)) + 1 by omega, js_hok, if_neg c24, if_neg c39]; rfl)
          · have e1 : js_hx t 4 q 0 = -2 := by rw [← he, show 4 - j = (4 - (j + 1)) + 1 by omega, js_hx, if_neg c24, if_pos c39]
            have e2 : js_hok t 4 q = false := by rw [← ho, show 4 - j = (4 - (j + 1)) + 1 by omega, js_hok, if_neg c24, if_pos c39]
            refine jv_bipush (v := -2) C (jd D_Rd_hexUnit 25 rfl) (by decide) ?_
            refine jv_weq (ws' := [(o, .inr (2, [.ref tp, .ref pp, .ref nn, .ref ob, .ref nb, .int dp, .int (nI i), .int (if js_hok t 4 q = true then 6 else ub), .int pl])), (tp, .inr (0, [.ref tb, .int (nI t.length)])), (tb, .inl (dA 0, N, .inl f))]) (by rw [e2]; rfl) ?_
            rw [hQ]
            exact jv_iret C hr () (e1.symm) rfl [0, 1, 2] rfl rfl (Nat.le_of_ble_eq_true rfl) (Nat.le_of_ble_eq_true rfl) (jd D_Rd_hexUnit 26 rfl)
        · have e1 : js_hx t 4 q 0 = -1 := by rw [← he, show 4 - j = (4 - (j + 1)) + 1 by omega, js_hx, if_pos c24]
          have e2 : js_hok t 4 q = false := by rw [← ho, show 4 - j = (4 - (j + 1)) + 1 by omega, js_hok, if_pos c24]
          refine jv_iconst (v := -1) C (jd D_Rd_hexUnit 17 rfl) (by decide) ?_
          refine jv_weq (ws' := [(o, .inr (2, [.ref tp, .ref pp, .ref nn, .ref ob, .ref nb, .int dp, .int (nI i), .int (if js_hok t 4 q = true then 6 else ub), .int pl])), (tp, .inr (0, [.ref tb, .int (nI t.length)])), (tb, .inl (dA 0, N, .inl f))]) (by rw [e2]; rfl) ?_
          rw [hQ]
          exact jv_iret C hr () (e1.symm) rfl [0, 1, 2] rfl rfl (Nat.le_of_ble_eq_true rfl) (Nat.le_of_ble_eq_true rfl) (jd D_Rd_hexUnit 18 rfl)
  refine jv_lvsub [2, 3, 1, 0] rfl ?_
  exact hL4 5 0 0 (by omega) (by omega) rfl rfl
