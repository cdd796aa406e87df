set_option maxHeartbeats 4000000 in
set_option maxRecDepth 100000 in
/-- Outline.cell(row, j), j in range -/
theorem c_Ol_cell {l : Launch} {D : va_G} {dA : Nat → ClassId} {zz : (Nat → Nat) × (Nat → Nat)} (r n j : Nat) (f : Nat → Int32) (hj : j < n) (hn : n < 2 ^ 31) : jv_M l D dA zz y_Ol_cell b_Ol_cell 2 (some (FieldType.int)) 1 [.ref r, .int (nI j)] [(r, .inl (dA 1, n, .inl f))] (jv_pi fun x (_ : Unit) => x = f j) (fun _ => [(r, .inl (dA 1, n, .inl f))]) 0 0 := by
  refine jv_M.of [(0, .ref r), (1, .int (nI j))] (by decide) (Nat.le_of_ble_eq_true rfl) rfl ?_
  intro pR eR sR mR belowR methR cR AR C hr hin
  refine jv_iload_n C (jd D_Ol_cell 0 rfl) rfl 1 rfl ?_
  refine jv_if_lt (tgt := 16) C (jd D_Ol_cell 1 rfl) (by decide) (fun c1 => absurd c1 (nI_pos (by omega))) (fun c1 => ?_)
  refine jv_iload_n C (jd D_Ol_cell 2 rfl) rfl 1 rfl ?_
  refine jv_aload_n C (jd D_Ol_cell 3 rfl) rfl 0 rfl ?_
  refine jv_alen C 0 1 rfl rfl (jd D_Ol_cell 4 rfl) ?_
  refine jv_icmp_ge (tgt := 16) C (jd D_Ol_cell 5 rfl) (by decide) (fun c7 => absurd c7 (nI_ge hj hn)) (fun c7 => ?_)
  refine jv_aload_n C (jd D_Ol_cell 6 rfl) rfl 0 rfl ?_
  refine jv_iload_n C (jd D_Ol_cell 7 rfl) rfl 1 rfl ?_
  refine jv_iald C 0 rfl (vp_in_nI hj hn) (jd D_Ol_cell 8 rfl) ?_
  refine jv_ati (y := f j) (by rw [nI_clamp (by omega)]) ?_
  refine jv_goto (tgt := 17) C (jd D_Ol_cell 9 rfl) (by decide) ?_
  exact jv_iret C hr () (rfl) rfl [0] rfl rfl (Nat.le_of_ble_eq_true rfl) (Nat.le_of_ble_eq_true rfl) (jd D_Ol_cell 11 rfl)

set_option maxHeartbeats 4000000 in
set_option maxRecDepth 100000 in
/-- Outline.startOf(j) -/
theorem c_Ol_startOf {l : Launch} {D : va_G} {dA : Nat → ClassId} {zz : (Nat → Nat) × (Nat → Nat)} (o s1 s2 s3 s4 s5 s6 s7 th : Nat) (cn dn en : Int32) (j : Nat) (g : Nat → Int32) (hj : j < 2048) : jv_M l D dA zz y_Ol_startOf b_Ol_startOf 2 (some (FieldType.int)) 2 [.ref o, .int (nI j)] [(o, .inr (3, [.ref s1, .ref s2, .ref s3, .ref s4, .ref s5, .ref s6, .ref s7, .ref th, .int cn, .int dn, .int en])), (s1, .inl (dA 1, 2048, .inl g))] (jv_pi fun r (_ : Unit) => r = g j) (fun _ => [(o, .inr (3, [.ref s1, .ref s2, .ref s3, .ref s4, .ref s5, .ref s6, .ref s7, .ref th, .int cn, .int dn, .int en])), (s1, .inl (dA 1, 2048, .inl g))]) 0 0 := by
  refine jv_M.of [(0, .ref o), (1, .int (nI j))] (by decide) (Nat.le_of_ble_eq_true rfl) rfl ?_
  intro pR eR sR mR belowR methR cR AR C hr hin
  refine jv_aload_n C (jd D_Ol_startOf 0 rfl) rfl 0 rfl ?_
  refine jv_get C fl_Ol_11 0 rfl rfl (jd D_Ol_startOf 1 rfl) ?_
  refine jv_iload_n C (jd D_Ol_startOf 2 rfl) rfl 1 rfl ?_
  refine jv_callS (wr := [(o, .inr (3, [.ref s1, .ref s2, .ref s3, .ref s4, .ref s5, .ref s6, .ref s7, .ref th, .int cn, .int dn, .int en]))]) C cl_Ol_79 (c_Ol_cell s1 2048 j g hj (by decide)) [1] [0] rfl rfl rfl rfl (by decide) ⟨Nat.le_of_ble_eq_true rfl, Nat.le_of_ble_eq_true rfl⟩ ⟨Nat.le_of_ble_eq_true rfl, Nat.le_of_ble_eq_true rfl⟩ rfl rfl (Nat.le_of_ble_eq_true rfl) (jd D_Ol_startOf 3 rfl) (fun v1 _ k1 => ?_)
  obtain ⟨r1, rfl, k1⟩ := k1
  refine jv_fix [0, 1] [(o, .inr (3, [.ref s1, .ref s2, .ref s3, .ref s4, .ref s5, .ref s6, .ref s7, .ref th, .int cn, .int dn, .int en])), (s1, .inl (dA 1, 2048, .inl g))] [.int r1] 0 0 rfl rfl rfl (Nat.le_refl _) (Nat.le_refl _) ?_
  subst k1
  exact jv_iret C hr () (rfl) rfl [0, 1] rfl rfl (Nat.le_of_ble_eq_true rfl) (Nat.le_of_ble_eq_true rfl) (jd D_Ol_startOf 4 rfl)

set_option maxHeartbeats 4000000 in
set_option maxRecDepth 100000 in
/-- Outline.endOf(j) -/
theorem c_Ol_endOf {l : Launch} {D : va_G} {dA : Nat → ClassId} {zz : (Nat → Nat) × (Nat → Nat)} (o s1 s2 s3 s4 s5 s6 s7 th : Nat) (cn dn en : Int32) (j : Nat) (g : Nat → Int32) (hj : j < 2048) : jv_M l D dA zz y_Ol_endOf b_Ol_endOf 2 (some (FieldType.int)) 2 [.ref o, .int (nI j)] [(o, .inr (3, [.ref s1, .ref s2, .ref s3, .ref s4, .ref s5, .ref s6, .ref s7, .ref th, .int cn, .int dn, .int en])), (s2, .inl (dA 1, 2048, .inl g))] (jv_pi fun r (_ : Unit) => r = g j) (fun _ => [(o, .inr (3, [.ref s1, .ref s2, .ref s3, .ref s4, .ref s5, .ref s6, .ref s7, .ref th, .int cn, .int dn, .int en])), (s2, .inl (dA 1, 2048, .inl g))]) 0 0 := by
  refine jv_M.of [(0, .ref o), (1, .int (nI j))] (by decide) (Nat.le_of_ble_eq_true rfl) rfl ?_
  intro pR eR sR mR belowR methR cR AR C hr hin
  refine jv_aload_n C (jd D_Ol_endOf 0 rfl) rfl 0 rfl ?_
  refine jv_get C fl_Ol_15 0 rfl rfl (jd D_Ol_endOf 1 rfl) ?_
  refine jv_iload_n C (jd D_Ol_endOf 2 rfl) rfl 1 rfl ?_
  refine jv_callS (wr := [(o, .inr (3, [.ref s1, .ref s2, .ref s3, .ref s4, .ref s5, .ref s6, .ref s7, .ref th, .int cn, .int dn, .int en]))]) C cl_Ol_79 (c_Ol_cell s2 2048 j g hj (by decide)) [1] [0] rfl rfl rfl rfl (by decide) ⟨Nat.le_of_ble_eq_true rfl, Nat.le_of_ble_eq_true rfl⟩ ⟨Nat.le_of_ble_eq_true rfl, Nat.le_of_ble_eq_true rfl⟩ rfl rfl (Nat.le_of_ble_eq_true rfl) (jd D_Ol_endOf 3 rfl) (fun v1 _ k1 => ?_)
  obtain ⟨r1, rfl, k1⟩ := k1
  refine jv_fix [0, 1] [(o, .inr (3, [.ref s1, .ref s2, .ref s3, .ref s4, .ref s5, .ref s6, .ref s7, .ref th, .int cn, .int dn, .int en])), (s2, .inl (dA 1, 2048, .inl g))] [.int r1] 0 0 rfl rfl rfl (Nat.le_refl _) (Nat.le_refl _) ?_
  subst k1
  exact jv_iret C hr () (rfl) rfl [0, 1] rfl rfl (Nat.le_of_ble_eq_true rfl) (Nat.le_of_ble_eq_true rfl) (jd D_Ol_endOf 4 rfl)

set_option maxHeartbeats 4000000 in
set_option maxRecDepth 100000 in
/-- Outline.followerOf(j) -/
theorem c_Ol_followerOf {l : Launch} {D : va_G} {dA : Nat → ClassId} {zz : (Nat → Nat) × (Nat → Nat)} (o s1 s2 s3 s4 s5 s6 s7 th : Nat) (cn dn en : Int32) (j : Nat) (g : Nat → Int32) (hj : j < 2048) : jv_M l D dA zz y_Ol_followerOf b_Ol_followerOf 2 (some (FieldType.int)) 2 [.ref o, .int (nI j)] [(o, .inr (3, [.ref s1, .ref s2, .ref s3, .ref s4, .ref s5, .ref s6, .ref s7, .ref th, .int cn, .int dn, .int en])), (s3, .inl (dA 1, 2048, .inl g))] (jv_pi fun r (_ : Unit) => r = g j) (fun _ => [(o, .inr (3, [.ref s1, .ref s2, .ref s3, .ref s4, .ref s5, .ref s6, .ref s7, .ref th, .int cn, .int dn, .int en])), (s3, .inl (dA 1, 2048, .inl g))]) 0 0 := by
  refine jv_M.of [(0, .ref o), (1, .int (nI j))] (by decide) (Nat.le_of_ble_eq_true rfl) rfl ?_
  intro pR eR sR mR belowR methR cR AR C hr hin
  refine jv_aload_n C (jd D_Ol_followerOf 0 rfl) rfl 0 rfl ?_
  refine jv_get C fl_Ol_18 0 rfl rfl (jd D_Ol_followerOf 1 rfl) ?_
  refine jv_iload_n C (jd D_Ol_followerOf 2 rfl) rfl 1 rfl ?_
  refine jv_callS (wr := [(o, .inr (3, [.ref s1, .ref s2, .ref s3, .ref s4, .ref s5, .ref s6, .ref s7, .ref th, .int cn, .int dn, .int en]))]) C cl_Ol_79 (c_Ol_cell s3 2048 j g hj (by decide)) [1] [0] rfl rfl rfl rfl (by decide) ⟨Nat.le_of_ble_eq_true rfl, Nat.le_of_ble_eq_true rfl⟩ ⟨Nat.le_of_ble_eq_true rfl, Nat.le_of_ble_eq_true rfl⟩ rfl rfl (Nat.le_of_ble_eq_true rfl) (jd D_Ol_followerOf 3 rfl) (fun v1 _ k1 => ?_)
  obtain ⟨r1, rfl, k1⟩ := k1
  refine jv_fix [0, 1] [(o, .inr (3, [.ref s1, .ref s2, .ref s3, .ref s4, .ref s5, .ref s6, .ref s7, .ref th, .int cn, .int dn, .int en])), (s3, .inl (dA 1, 2048, .inl g))] [.int r1] 0 0 rfl rfl rfl (Nat.le_refl _) (Nat.le_refl _) ?_
  subst k1
  exact jv_iret C hr () (rfl) rfl [0, 1] rfl rfl (Nat.le_of_ble_eq_true rfl) (Nat.le_of_ble_eq_true rfl) (jd D_Ol_followerOf 4 rfl)

set_option maxHeartbeats 4000000 in
set_option maxRecDepth 100000 in
/-- Outline.childrenOf(j) -/
theorem c_Ol_childrenOf {l : Launch} {D : va_G} {dA : Nat → ClassId} {zz : (Nat → Nat) × (Nat → Nat)} (o s1 s2 s3 s4 s5 s6 s7 th : Nat) (cn dn en : Int32) (j : Nat) (g : Nat → Int32) (hj : j < 2048) : jv_M l D dA zz y_Ol_childrenOf b_Ol_childrenOf 2 (some (FieldType.int)) 2 [.ref o, .int (nI j)] [(o, .inr (3, [.ref s1, .ref s2, .ref s3, .ref s4, .ref s5, .ref s6, .ref s7, .ref th, .int cn, .int dn, .int en])), (s4, .inl (dA 1, 2048, .inl g))] (jv_pi fun r (_ : Unit) => r = g j) (fun _ => [(o, .inr (3, [.ref s1, .ref s2, .ref s3, .ref s4, .ref s5, .ref s6, .ref s7, .ref th, .int cn, .int dn, .int en])), (s4, .inl (dA 1, 2048, .inl g))]) 0 0 := by
  refine jv_M.of [(0, .ref o), (1, .int (nI j))] (by decide) (Nat.le_of_ble_eq_true rfl) rfl ?_
  intro pR eR sR mR belowR methR cR AR C hr hin
  refine jv_aload_n C (jd D_Ol_childrenOf 0 rfl) rfl 0 rfl ?_
  refine jv_get C fl_Ol_21 0 rfl rfl (jd D_Ol_childrenOf 1 rfl) ?_
  refine jv_iload_n C (jd D_Ol_childrenOf 2 rfl) rfl 1 rfl ?_
  refine jv_callS (wr := [(o, .inr (3, [.ref s1, .ref s2, .ref s3, .ref s4, .ref s5, .ref s6, .ref s7, .ref th, .int cn, .int dn, .int en]))]) C cl_Ol_79 (c_Ol_cell s4 2048 j g hj (by decide)) [1] [0] rfl rfl rfl rfl (by decide) ⟨Nat.le_of_ble_eq_true rfl, Nat.le_of_ble_eq_true rfl⟩ ⟨Nat.le_of_ble_eq_true rfl, Nat.le_of_ble_eq_true rfl⟩ rfl rfl (Nat.le_of_ble_eq_true rfl) (jd D_Ol_childrenOf 3 rfl) (fun v1 _ k1 => ?_)
  obtain ⟨r1, rfl, k1⟩ := k1
  refine jv_fix [0, 1] [(o, .inr (3, [.ref s1, .ref s2, .ref s3, .ref s4, .ref s5, .ref s6, .ref s7, .ref th, .int cn, .int dn, .int en])), (s4, .inl (dA 1, 2048, .inl g))] [.int r1] 0 0 rfl rfl rfl (Nat.le_refl _) (Nat.le_refl _) ?_
  subst k1
  exact jv_iret C hr () (rfl) rfl [0, 1] rfl rfl (Nat.le_of_ble_eq_true rfl) (Nat.le_of_ble_eq_true rfl) (jd D_Ol_childrenOf 4 rfl)

set_option maxHeartbeats 4000000 in
set_option maxRecDepth 100000 in
/-- Outline.deepest() -/
theorem c_Ol_deepest {l : Launch} {D : va_G} {dA : Nat → ClassId} {zz : (Nat → Nat) × (Nat → Nat)} (o s1 s2 s3 s4 s5 s6 s7 th : Nat) (cn dn en : Int32)  : jv_M l D dA zz y_Ol_deepest b_Ol_deepest 1 (some (FieldType.int)) 1 [.ref o] [(o, .inr (3, [.ref s1, .ref s2, .ref s3, .ref s4, .ref s5, .ref s6, .ref s7, .ref th, .int cn, .int dn, .int en]))] (jv_pi fun r (_ : Unit) => r = en) (fun _ => [(o, .inr (3, [.ref s1, .ref s2, .ref s3, .ref s4, .ref s5, .ref s6, .ref s7, .ref th, .int cn, .int dn, .int en]))]) 0 0 := by
  refine jv_M.of [(0, .ref o)] (by decide) (Nat.le_of_ble_eq_true rfl) rfl ?_
  intro pR eR sR mR belowR methR cR AR C hr hin
  refine jv_aload_n C (jd D_Ol_deepest 0 rfl) rfl 0 rfl ?_
  refine jv_get C fl_Ol_49 0 rfl rfl (jd D_Ol_deepest 1 rfl) ?_
  exact jv_iret C hr () (rfl) rfl [0] rfl rfl (Nat.le_of_ble_eq_true rfl) (Nat.le_of_ble_eq_true rfl) (jd D_Ol_deepest 2 rfl)

set_option maxHeartbeats 4000000 in
set_option maxRecDepth 100000 in
/-- Outline.endOfString(p) -/
theorem c_Ol_endOfString {l : Launch} {D : va_G} {dA : Nat → ClassId} {zz : (Nat → Nat) × (Nat → Nat)} (o s1 s2 s3 s4 s5 s6 s7 th b N : Nat) (f : Nat → Int32) (t : List Nat) (cn dn en : Int32) (p : Nat) (hl : t.length ≤ N) (hN : N < 2 ^ 29) (ht : js_tx f t) (hp : p < t.length) : jv_M l D dA zz y_Ol_endOfString b_Ol_endOfString 4 (some (FieldType.int)) 2 [.ref o, .int (nI p)] [(o, .inr (3, [.ref s1, .ref s2, .ref s3, .ref s4, .ref s5, .ref s6, .ref s7, .ref th, .int cn, .int dn, .int en])), (th, .inr (0, [.ref b, .int (nI t.length)])), (b, .inl (dA 0, N, .inl f))] (jv_pi fun r (_ : Unit) => r = nI (js_es t (t.length + 2 - (p + 1)) (p + 1))) (fun _ => [(o, .inr (3, [.ref s1, .ref s2, .ref s3, .ref s4, .ref s5, .ref s6, .ref s7, .ref th, .int cn, .int dn, .int en])), (th, .inr (0, [.ref b, .int (nI t.length)])), (b, .inl (dA 0, N, .inl f))]) 0 0 := by
  refine jv_M.of [(0, .ref o), (1, .int (nI p))] (by decide) (Nat.le_of_ble_eq_true rfl) rfl ?_
  intro pR eR sR mR belowR methR cR AR C hr hin
  obtain ⟨QR, hQ⟩ : ∃ QR, QR = jv_E D (jv_pi fun r (_ : Unit) => r = nI (js_es t (t.length + 2 - (p + 1)) (p + 1))) (fun _ => [(o, .inr (3, [.ref s1, .ref s2, .ref s3, .ref s4, .ref s5, .ref s6, .ref s7, .ref th, .int cn, .int dn, .int en])), (th, .inr (0, [.ref b, .int (nI t.length)])), (b, .inl (dA 0, N, .inl f))]) belowR ([.ref o, .int (nI p)] : List Value).toArray sR AR 0 0 := ⟨_, rfl⟩
  rw [← hQ]
  refine jv_iload_n C (jd D_Ol_endOfString 0 rfl) rfl 1 rfl ?_
  refine jv_iconst (v := 1) C (jd D_Ol_endOfString 1 rfl) (by decide) ?_
  refine jv_iadd C (jd D_Ol_endOfString 2 rfl) ?_
  refine jv_ati (y := nI (p + 1)) (nI_1 p) ?_
  refine jv_istore_n C [(2, .int (nI (p + 1))), (0, .ref o), (1, .int (nI p))] (jd D_Ol_endOfString 3 rfl) rfl (by decide) rfl ?_
  have hL4 : ∀ (n : Nat) (i : Nat), i ≤ t.length + 1 → t.length + 2 ≤ i + n → js_es t (t.length + 2 - i) i = js_es t (t.length + 2 - (p + 1)) (p + 1) → jv_V pR l eR (jv_rm 2 0 0) sR mR ([.ref o, .int (nI p)] : List Value).toArray belowR methR cR 0 0 QR D AR 4 [(o, .inr (3, [.ref s1, .ref s2, .ref s3, .ref s4, .ref s5, .ref s6, .ref s7, .ref th, .int cn, .int dn, .int en])), (th, .inr (0, [.ref b, .int (nI t.length)])), (b, .inl (dA 0, N, .inl f))] [(0, .ref o), (1, .int (nI p)), (2, .int (nI i))] 4 [] := by
    intro n
    induction n with
    | zero =>
      intro i h1 h2
      exact absurd h2 (by omega)
    | succ n ih =>
      intro i hi hm he
      refine jv_iload_n C (jd D_Ol_endOfString 4 rfl) rfl 2 rfl ?_
      refine jv_aload_n C (jd D_Ol_endOfString 5 rfl) rfl 0 rfl ?_
      refine jv_get C fl_Ol_38 0 rfl rfl (jd D_Ol_endOfString 6 rfl) ?_
      refine jv_callV (wr := [(o, .inr (3, [.ref s1, .ref s2, .ref s3, .ref s4, .ref s5, .ref s6, .ref s7, .ref th, .int cn, .int dn, .int en]))]) C cl_Ol_52 (c_Tx_length th b N f t) [1, 2] [0] rfl rfl rfl rfl (by decide) rfl rfl 0 rfl ⟨Nat.le_of_ble_eq_true rfl, Nat.le_of_ble_eq_true rfl⟩ ⟨Nat.le_of_ble_eq_true rfl, Nat.le_of_ble_eq_true rfl⟩ rfl rfl (Nat.le_of_ble_eq_true rfl) (jd D_Ol_endOfString 7 rfl) (fun v1 _ k1 => ?_)
      obtain ⟨r1, rfl, k1⟩ := k1
      refine jv_fix [0, 1, 2] [(o, .inr (3, [.ref s1, .ref s2, .ref s3, .ref s4, .ref s5, .ref s6, .ref s7, .ref th, .int cn, .int dn, .int en])), (th, .inr (0, [.ref b, .int (nI t.length)])), (b, .inl (dA 0, N, .inl f))] [.int r1, .int (nI i)] 0 0 rfl rfl rfl (Nat.le_refl _) (Nat.le_refl _) ?_
      subst k1
      refine jv_icmp_ge (tgt := 49) C (jd D_Ol_endOfString 8 rfl) (by decide) (fun c12 => ?_) (fun c12 => ?_)
      · refine jv_aload_n C (jd D_Ol_endOfString 27 rfl) rfl 0 rfl ?_
        refine jv_get C fl_Ol_38 0 rfl rfl (jd D_Ol_endOfString 28 rfl) ?_
        refine jv_callV (wr := [(o, .inr (3, [.ref s1, .ref s2, .ref s3, .ref s4, .ref s5, .ref s6, .ref s7, .ref th, .int cn, .int dn, .int en]))]) C cl_Ol_52 (c_Tx_length th b N f t) [1, 2] [0] rfl rfl rfl rfl (by decide) rfl rfl 0 rfl ⟨Nat.le_of_ble_eq_true rfl, Nat.le_of_ble_eq_true rfl⟩ ⟨Nat.le_of_ble_eq_true rfl, Nat.le_of_ble_eq_true rfl⟩ rfl rfl (Nat.le_of_ble_eq_true rfl) (jd D_Ol_endOfString 29 rfl) (fun v2 _ k3 => ?_)
        obtain ⟨r3, rfl, k3⟩ := k3
        refine jv_fix [0, 1, 2] [(o, .inr (3, [.ref s1, .ref s2, .ref s3, .ref s4, .ref s5, .ref s6, .ref s7, .ref th, .int cn, .int dn, .int en])), (th, .inr (0, [.ref b, .int (nI t.length)])), (b, .inl (dA 0, N, .inl f))] [.int r3] 0 0 rfl rfl rfl (Nat.le_refl _) (Nat.le_refl _) ?_
        subst k3
        rw [hQ]
        exact jv_iret C hr () (by rw [← he, show t.length + 2 - i = (t.length + 1 - i) + 1 by omega, js_es, if_pos ((nI_leI (a := t.length) (b := i) (by omega) (by omega)).mp c12)]) rfl [0, 1, 2] rfl rfl (Nat.le_of_ble_eq_true rfl) (Nat.le_of_ble_eq_true rfl) (jd D_Ol_endOfString 30 rfl)
      · have hnp : ¬ t.length ≤ i := fun y => c12 (nI_le y (by omega))
        refine jv_aload_n C (jd D_Ol_endOfString 9 rfl) rfl 0 rfl ?_
        refine jv_get C fl_Ol_38 0 rfl rfl (jd D_Ol_endOfString 10 rfl) ?_
        refine jv_iload_n C (jd D_Ol_endOfString 11 rfl) rfl 2 rfl ?_
        refine jv_callV (wr := [(o, .inr (3, [.ref s1, .ref s2, .ref s3, .ref s4, .ref s5, .ref s6, .ref s7, .ref th, .int cn, .int dn, .int en]))]) C cl_Ol_56 (c_Tx_at th b N f t (nI i) hl (by omega) ht) [1, 2] [0] rfl rfl rfl rfl (by decide) rfl rfl 0 rfl ⟨Nat.le_of_ble_eq_true rfl, Nat.le_of_ble_eq_true rfl⟩ ⟨Nat.le_of_ble_eq_true rfl, Nat.le_of_ble_eq_true rfl⟩ rfl rfl (Nat.le_of_ble_eq_true rfl) (jd D_Ol_endOfString 12 rfl) (fun v3 _ k2 => ?_)
        obtain ⟨r2, rfl, k2⟩ := k2
        refine jv_fix [0, 1, 2] [(o, .inr (3, [.ref s1, .ref s2, .ref s3, .ref s4, .ref s5, .ref s6, .ref s7, .ref th, .int cn, .int dn, .int en])), (th, .inr (0, [.ref b, .int (nI t.length)])), (b, .inl (dA 0, N, .inl f))] [.int r2] 0 0 rfl rfl rfl (Nat.le_refl _) (Nat.le_refl _) ?_
        rw [js_at_nat (by omega) (by omega)] at k2
        subst k2
        refine jv_istore_n C [(3, .int (js_b t i)), (0, .ref o), (1, .int (nI p)), (2, .int (nI i))] (jd D_Ol_endOfString 13 rfl) rfl (by decide) rfl ?_
        refine jv_iload_n C (jd D_Ol_endOfString 14 rfl) rfl 0 rfl ?_
        refine jv_bipush (v := 34) C (jd D_Ol_endOfString 15 rfl) (by decide) ?_
        refine jv_icmp_ne (tgt := 34) C (jd D_Ol_endOfString 16 rfl) (by decide) (fun c27 => ?_) (fun c27 => ?_)
        · refine jv_iload_n C (jd D_Ol_endOfString 21 rfl) rfl 0 rfl ?_
          refine jv_bipush (v := 92) C (jd D_Ol_endOfString 22 rfl) (by decide) ?_
          refine jv_icmp_ne (tgt := 43) C (jd D_Ol_endOfString 23 rfl) (by decide) (fun c37 => ?_) (fun c37 => ?_)
          · refine jv_iinc (v := nI (i + 1)) C [(2, .int (nI (i + 1))), (3, .int (js_b t i)), (0, .ref o), (1, .int (nI p))] (jd D_Ol_endOfString 25 rfl) 3 rfl (nI_1 i) (by decide) rfl ?_
            refine jv_goto (tgt := 4) C (jd D_Ol_endOfString 26 rfl) (by decide) ?_
            refine jv_lvsub [2, 3, 0] rfl ?_
            exact ih (i + 1) (by omega) (by omega) (by
              rw [← he, show t.length + 2 - i = (t.length + 1 - i) + 1 by omega, js_es, if_neg hnp, if_neg c27, if_neg c37]
              exact js_es_fuel (by omega) (by omega))
          · refine jv_iinc (v := nI (i + 1)) C [(2, .int (nI (i + 1))), (3, .int (js_b t i)), (0, .ref o), (1, .int (nI p))] (jd D_Ol_endOfString 24 rfl) 3 rfl (nI_1 i) (by decide) rfl ?_
            refine jv_iinc (v := nI (i + 2)) C [(2, .int (nI (i + 2))), (3, .int (js_b t i)), (0, .ref o), (1, .int (nI p))] (jd D_Ol_endOfString 25 rfl) 0 rfl (nI_1 (i + 1)) (by decide) rfl ?_
            refine jv_goto (tgt := 4) C (jd D_Ol_endOfString 26 rfl) (by decide) ?_
            refine jv_lvsub [2, 3, 0] rfl ?_
            exact ih (i + 2) (by omega) (by omega) (by
              rw [← he, show t.length + 2 - i = (t.length + 1 - i) + 1 by omega, js_es, if_neg hnp, if_neg c27, if_pos c37]
              exact js_es_fuel (by omega) (by omega))
        · refine jv_iload_n C (jd D_Ol_endOfString 17 rfl) rfl 3 rfl ?_
          refine jv_iconst (v := 1) C (jd D_Ol_endOfString 18 rfl) (by decide) ?_
          refine jv_iadd C (jd D_Ol_endOfString 19 rfl) ?_
          refine jv_ati (y := nI (i + 1)) (nI_1 i) ?_
          rw [hQ]
          exact jv_iret C hr () (by rw [← he, show t.length + 2 - i = (t.length + 1 - i) + 1 by omega, js_es, if_neg hnp, if_pos c27]) rfl [0, 1, 2] rfl rfl (Nat.le_of_ble_eq_true rfl) (Nat.le_of_ble_eq_true rfl) (jd D_Ol_endOfString 20 rfl)
  refine jv_lvsub [1, 2, 0] rfl ?_
  exact hL4 (t.length + 2) (p + 1) (by omega) (by omega) rfl

set_option maxHeartbeats 4000000 in
set_option maxRecDepth 100000 in
/-- Outline.endOfSign(p) -/
theorem c_Ol_endOfSign {l : Launch} {D : va_G} {dA : Nat → ClassId} {zz : (Nat → Nat) × (Nat → Nat)} (o s1 s2 s3 s4 s5 s6 s7 th b N : Nat) (f : Nat → Int32) (t : List Nat) (cn dn en : Int32) (p : Nat) (hl : t.length ≤ N) (hN : N < 2 ^ 29) (ht : js_tx f t) (hp : p < t.length) : jv_M l D dA zz y_Ol_endOfSign b_Ol_endOfSign 4 (some (FieldType.int)) 3 [.ref o, .int (nI p)] [(o, .inr (3, [.ref s1, .ref s2, .ref s3, .ref s4, .ref s5, .ref s6, .ref s7, .ref th, .int cn, .int dn, .int en])), (th, .inr (0, [.ref b, .int (nI t.length)])), (b, .inl (dA 0, N, .inl f))] (jv_pi fun r (_ : Unit) => r = nI (js_eos t p)) (fun _ => [(o, .inr (3, [.ref s1, .ref s2, .ref s3, .ref s4, .ref s5, .ref s6, .ref s7, .ref th, .int cn, .int dn, .int en])), (th, .inr (0, [.ref b, .int (nI t.length)])), (b, .inl (dA 0, N, .inl f))]) 0 0 := by
  refine jv_M.of [(0, .ref o), (1, .int (nI p))] (by decide) (Nat.le_of_ble_eq_true rfl) rfl ?_
  intro pR eR sR mR belowR methR cR AR C hr hin
  obtain ⟨QR, hQ⟩ : ∃ QR, QR = jv_E D (jv_pi fun r (_ : Unit) => r = nI (js_eos t p)) (fun _ => [(o, .inr (3, [.ref s1, .ref s2, .ref s3, .ref s4, .ref s5, .ref s6, .ref s7, .ref th, .int cn, .int dn, .int en])), (th, .inr (0, [.ref b, .int (nI t.length)])), (b, .inl (dA 0, N, .inl f))]) belowR ([.ref o, .int (nI p)] : List Value).toArray sR AR 0 0 := ⟨_, rfl⟩
  rw [← hQ]
  refine jv_aload_n C (jd D_Ol_endOfSign 0 rfl) rfl 0 rfl ?_
  refine jv_get C fl_Ol_38 0 rfl rfl (jd D_Ol_endOfSign 1 rfl) ?_
  refine jv_iload_n C (jd D_Ol_endOfSign 2 rfl) rfl 1 rfl ?_
  refine jv_callV (wr := [(o, .inr (3, [.ref s1, .ref s2, .ref s3, .ref s4, .ref s5, .ref s6, .ref s7, .ref th, .int cn, .int dn, .int en]))]) C cl_Ol_56 (c_Tx_at th b N f t (nI p) hl (by omega) ht) [1, 2] [0] rfl rfl rfl rfl (by decide) rfl rfl 0 rfl ⟨Nat.le_of_ble_eq_true rfl, Nat.le_of_ble_eq_true rfl⟩ ⟨Nat.le_of_ble_eq_true rfl, Nat.le_of_ble_eq_true rfl⟩ rfl rfl (Nat.le_of_ble_eq_true rfl) (jd D_Ol_endOfSign 3 rfl) (fun v1 _ k1 => ?_)
  obtain ⟨r1, rfl, k1⟩ := k1
  refine jv_fix [0, 1, 2] [(o, .inr (3, [.ref s1, .ref s2, .ref s3, .ref s4, .ref s5, .ref s6, .ref s7, .ref th, .int cn, .int dn, .int en])), (th, .inr (0, [.ref b, .int (nI t.length)])), (b, .inl (dA 0, N, .inl f))] [.int r1] 0 0 rfl rfl rfl (Nat.le_refl _) (Nat.le_refl _) ?_
  rw [js_at_nat (by omega) (by omega)] at k1
  subst k1
  refine jv_istore_n C [(2, .int (js_b t p)), (0, .ref o), (1, .int (nI p))] (jd D_Ol_endOfSign 4 rfl) rfl (by decide) rfl ?_
  refine jv_iload_n C (jd D_Ol_endOfSign 5 rfl) rfl 0 rfl ?_
  refine jv_bipush (v := 34) C (jd D_Ol_endOfSign 6 rfl) (by decide) ?_
  refine jv_icmp_ne (tgt := 21) C (jd D_Ol_endOfSign 7 rfl) (by decide) (fun c12 => ?_) (fun c12 => ?_)
  · refine jv_iload_n C (jd D_Ol_endOfSign 12 rfl) rfl 2 rfl ?_
    refine jv_iconst (v := 1) C (jd D_Ol_endOfSign 13 rfl) (by decide) ?_
    refine jv_iadd C (jd D_Ol_endOfSign 14 rfl) ?_
    refine jv_ati (y := nI (p + 1)) (nI_1 p) ?_
    refine jv_istore_n C [(3, .int (nI (p + 1))), (2, .int (js_b t p)), (0, .ref o), (1, .int (nI p))] (jd D_Ol_endOfSign 15 rfl) rfl (by decide) rfl ?_
    refine jv_iload_n C (jd D_Ol_endOfSign 16 rfl) rfl 1 rfl ?_
    refine jv_callS (wr := [(o, .inr (3, [.ref s1, .ref s2, .ref s3, .ref s4, .ref s5, .ref s6, .ref s7, .ref th, .int cn, .int dn, .int en])), (th, .inr (0, [.ref b, .int (nI t.length)])), (b, .inl (dA 0, N, .inl f))]) C cl_Ol_105 (c_Ol_isMark (js_b t p)) [] [0, 1, 2] rfl rfl rfl rfl (by decide) ⟨Nat.le_of_ble_eq_true rfl, Nat.le_of_ble_eq_true rfl⟩ ⟨Nat.le_of_ble_eq_true rfl, Nat.le_of_ble_eq_true rfl⟩ rfl rfl (Nat.le_of_ble_eq_true rfl) (jd D_Ol_endOfSign 17 rfl) (fun v2 _ k3 => ?_)
    obtain ⟨r3, rfl, k3⟩ := k3
    refine jv_fix [0, 1, 2] [(o, .inr (3, [.ref s1, .ref s2, .ref s3, .ref s4, .ref s5, .ref s6, .ref s7, .ref th, .int cn, .int dn, .int en])), (th, .inr (0, [.ref b, .int (nI t.length)])), (b, .inl (dA 0, N, .inl f))] [.int r3] 0 0 rfl rfl rfl (Nat.le_refl _) (Nat.le_refl _) ?_
    subst k3
    refine jv_if_ne (tgt := 63) C (jd D_Ol_endOfSign 18 rfl) (by decide) (fun c29 => ?_) (fun c29 => ?_)
    · refine jv_iload_n C (jd D_Ol_endOfSign 32 rfl) rfl 0 rfl ?_
      rw [hQ]
      exact jv_iret C hr () (by rw [js_eos, if_neg c12, if_neg c29]) rfl [0, 1, 2] rfl rfl (Nat.le_of_ble_eq_true rfl) (Nat.le_of_ble_eq_true rfl) (jd D_Ol_endOfSign 33 rfl)
    · have hL32 : ∀ (n : Nat) (e : Nat), e ≤ t.length → t.length + 1 ≤ e + n → js_et t (t.length - e) e = js_et t (t.length - (p + 1)) (p + 1) → jv_V pR l eR (jv_rm 3 0 0) sR mR ([.ref o, .int (nI p)] : List Value).toArray belowR methR cR 0 0 QR D AR 4 [(o, .inr (3, [.ref s1, .ref s2, .ref s3, .ref s4, .ref s5, .ref s6, .ref s7, .ref th, .int cn, .int dn, .int en])), (th, .inr (0, [.ref b, .int (nI t.length)])), (b, .inl (dA 0, N, .inl f))] [(0, .ref o), (1, .int (nI p)), (2, .int (js_b t p)), (3, .int (nI e))] 32 [] := by
        intro n
        induction n with
        | zero =>
          intro e h1 h2
          exact absurd h2 (by omega)
        | succ n ih =>
          intro e hi hm he
          refine jv_iload_n C (jd D_Ol_endOfSign 19 rfl) rfl 3 rfl ?_
          refine jv_aload_n C (jd D_Ol_endOfSign 20 rfl) rfl 0 rfl ?_
          refine jv_get C fl_Ol_38 0 rfl rfl (jd D_Ol_endOfSign 21 rfl) ?_
          refine jv_callV (wr := [(o, .inr (3, [.ref s1, .ref s2, .ref s3, .ref s4, .ref s5, .ref s6, .ref s7, .ref th, .int cn, .int dn, .int en]))]) C cl_Ol_52 (c_Tx_length th b N f t) [1, 2] [0] rfl rfl rfl rfl (by decide) rfl rfl 0 rfl ⟨Nat.le_of_ble_eq_true rfl, Nat.le_of_ble_eq_true rfl⟩ ⟨Nat.le_of_ble_eq_true rfl, Nat.le_of_ble_eq_true rfl⟩ rfl rfl (Nat.le_of_ble_eq_true rfl) (jd D_Ol_endOfSign 22 rfl) (fun v3 _ k4 => ?_)
          obtain ⟨r4, rfl, k4⟩ := k4
          refine jv_fix [0, 1, 2] [(o, .inr (3, [.ref s1, .ref s2, .ref s3, .ref s4, .ref s5, .ref s6, .ref s7, .ref th, .int cn, .int dn, .int en])), (th, .inr (0, [.ref b, .int (nI t.length)])), (b, .inl (dA 0, N, .inl f))] [.int r4, .int (nI e)] 0 0 rfl rfl rfl (Nat.le_refl _) (Nat.le_refl _) ?_
          subst k4
          refine jv_icmp_ge (tgt := 63) C (jd D_Ol_endOfSign 23 rfl) (by decide) (fun c40 => ?_) (fun c40 => ?_)
          · refine jv_iload_n C (jd D_Ol_endOfSign 32 rfl) rfl 3 rfl ?_
            rw [hQ]
            exact jv_iret C hr () (by rw [js_eos, if_neg c12, if_pos c29, ← he, show t.length - e = 0 from (by have := (nI_leI (a := t.length) (b := e) (by omega) (by omega)).mp c40; omega), js_et]) rfl [0, 1, 2] rfl rfl (Nat.le_of_ble_eq_true rfl) (Nat.le_of_ble_eq_true rfl) (jd D_Ol_endOfSign 33 rfl)
          · have hlt : e < t.length := by
              rcases Nat.lt_or_ge e t.length with y | y
              · exact y
              · exact absurd (nI_le y (by omega)) c40
            refine jv_aload_n C (jd D_Ol_endOfSign 24 rfl) rfl 0 rfl ?_
            refine jv_get C fl_Ol_38 0 rfl rfl (jd D_Ol_endOfSign 25 rfl) ?_
            refine jv_iload_n C (jd D_Ol_endOfSign 26 rfl) rfl 3 rfl ?_
            refine jv_callV (wr := [(o, .inr (3, [.ref s1, .ref s2, .ref s3, .ref s4, .ref s5, .ref s6, .ref s7, .ref th, .int cn, .int dn, .int en]))]) C cl_Ol_56 (c_Tx_at th b N f t (nI e) hl (by omega) ht) [1, 2] [0] rfl rfl rfl rfl (by decide) rfl rfl 0 rfl ⟨Nat.le_of_ble_eq_true rfl, Nat.le_of_ble_eq_true rfl⟩ ⟨Nat.le_of_ble_eq_true rfl, Nat.le_of_ble_eq_true rfl⟩ rfl rfl (Nat.le_of_ble_eq_true rfl) (jd D_Ol_endOfSign 27 rfl) (fun v4 _ k5 => ?_)
            obtain ⟨r5, rfl, k5⟩ := k5
            refine jv_fix [0, 1, 2] [(o, .inr (3, [.ref s1, .ref s2, .ref s3, .ref s4, .ref s5, .ref s6, .ref s7, .ref th, .int cn, .int dn, .int en])), (th, .inr (0, [.ref b, .int (nI t.length)])), (b, .inl (dA 0, N, .inl f))] [.int r5] 0 0 rfl rfl rfl (Nat.le_refl _) (Nat.le_refl _) ?_
            rw [js_at_nat (by omega) (by omega)] at k5
            subst k5
            refine jv_callS (wr := [(o, .inr (3, [.ref s1, .ref s2, .ref s3, .ref s4, .ref s5, .ref s6, .ref s7, .ref th, .int cn, .int dn, .int en])), (th, .inr (0, [.ref b, .int (nI t.length)])), (b, .inl (dA 0, N, .inl f))]) C cl_Ol_105 (c_Ol_isMark (js_b t e)) [] [0, 1, 2] rfl rfl rfl rfl (by decide) ⟨Nat.le_of_ble_eq_true rfl, Nat.le_of_ble_eq_true rfl⟩ ⟨Nat.le_of_ble_eq_true rfl, Nat.le_of_ble_eq_true rfl⟩ rfl rfl (Nat.le_of_ble_eq_true rfl) (jd D_Ol_endOfSign 28 rfl) (fun v5 _ k6 => ?_)
            obtain ⟨r6, rfl, k6⟩ := k6
            refine jv_fix [0, 1, 2] [(o, .inr (3, [.ref s1, .ref s2, .ref s3, .ref s4, .ref s5, .ref s6, .ref s7, .ref th, .int cn, .int dn, .int en])), (th, .inr (0, [.ref b, .int (nI t.length)])), (b, .inl (dA 0, N, .inl f))] [.int r6] 0 0 rfl rfl rfl (Nat.le_refl _) (Nat.le_refl _) ?_
            subst k6
            refine jv_if_ne (tgt := 63) C (jd D_Ol_endOfSign 29 rfl) (by decide) (fun c54 => ?_) (fun c54 => ?_)
            · refine jv_iload_n C (jd D_Ol_endOfSign 32 rfl) rfl 3 rfl ?_
              rw [hQ]
              exact jv_iret C hr () (by rw [js_eos, if_neg c12, if_pos c29, ← he, show t.length - e = (t.length - (e + 1)) + 1 by omega, js_et, if_neg c54]) rfl [0, 1, 2] rfl rfl (Nat.le_of_ble_eq_true rfl) (Nat.le_of_ble_eq_true rfl) (jd D_Ol_endOfSign 33 rfl)
            · refine jv_iinc (v := nI (e + 1)) C [(3, .int (nI (e + 1))), (0, .ref o), (1, .int (nI p)), (2, .int (js_b t p))] (jd D_Ol_endOfSign 30 rfl) 3 rfl (nI_1 e) (by decide) rfl ?_
              refine jv_goto (tgt := 32) C (jd D_Ol_endOfSign 31 rfl) (by decide) ?_
              refine jv_lvsub [1, 2, 3, 0] rfl ?_
              exact ih (e + 1) (by omega) (by omega) (by rw [← he, show t.length - e = (t.length - (e + 1)) + 1 by omega, js_et, if_pos c54])
      refine jv_lvsub [2, 3, 1, 0] rfl ?_
      exact hL32 (t.length + 1) (p + 1) (by omega) (by omega) rfl
  · refine jv_aload_n C (jd D_Ol_endOfSign 8 rfl) rfl 1 rfl ?_
    refine jv_iload_n C (jd D_Ol_endOfSign 9 rfl) rfl 2 rfl ?_
    refine jv_callV (wr := []) C cl_Ol_102 (c_Ol_endOfString o s1 s2 s3 s4 s5 s6 s7 th b N f t cn dn en p hl hN ht hp) [0, 1, 2] [] rfl rfl rfl rfl (by decide) rfl rfl 0 rfl ⟨Nat.le_of_ble_eq_true rfl, Nat.le_of_ble_eq_true rfl⟩ ⟨Nat.le_of_ble_eq_true rfl, Nat.le_of_ble_eq_true rfl⟩ rfl rfl (Nat.le_of_ble_eq_true rfl) (jd D_Ol_endOfSign 10 rfl) (fun v6 _ k2 => ?_)
    obtain ⟨r2, rfl, k2⟩ := k2
    refine jv_fix [0, 1, 2] [(o, .inr (3, [.ref s1, .ref s2, .ref s3, .ref s4, .ref s5, .ref s6, .ref s7, .ref th, .int cn, .int dn, .int en])), (th, .inr (0, [.ref b, .int (nI t.length)])), (b, .inl (dA 0, N, .inl f))] [.int r2] 0 0 rfl rfl rfl (Nat.le_refl _) (Nat.le_refl _) ?_
    subst k2
    rw [hQ]
    exact jv_iret C hr () (by rw [js_eos, if_pos c12]) rfl [0, 1, 2] rfl rfl (Nat.le_of_ble_eq_true rfl) (Nat.le_of_ble_eq_true rfl) (jd D_Ol_endOfSign 11 rfl)

set_option maxHeartbeats 4000000 in
set_option maxRecDepth 100000 in
/-- Outline.add, no room -/
theorem c_Ol_add_full {l : Launch} {D : va_G} {dA : Nat → ClassId} {zz : (Nat → Nat) × (Nat → Nat)} (o s1 s2 s3 s4 s5 s6 s7 th b N : Nat) (fS fE fF fC fN fH fO f : Nat → Int32) (t : List Nat) (vs : List js_E) (deep s z : Nat) (ob : List Nat) (nmv : Int32) (hv : 2048 ≤ vs.length) (hv2 : vs.length < 2 ^ 31) : jv_M l D dA zz y_Ol_add b_Ol_add 4 none 4 [.ref o, .int (nI s), .int (nI z), .int nmv] [(o, .inr (3, [.ref s1, .ref s2, .ref s3, .ref s4, .ref s5, .ref s6, .ref s7, .ref th, .int (nI vs.length), .int (nI ob.length), .int (nI deep)])), (s1, .inl (dA 1, 2048, .inl fS)), (s2, .inl (dA 1, 2048, .inl fE)), (s3, .inl (dA 1, 2048, .inl fF)), (s4, .inl (dA 1, 2048, .inl fC)), (s5, .inl (dA 1, 2048, .inl fN)), (s6, .inl (dA 1, 2048, .inl fH)), (s7, .inl (dA 1, 32, .inl fO)), (th, .inr (0, [.ref b, .int (nI t.length)])), (b, .inl (dA 0, N, .inl f))] (jv_pv fun (_ : Unit) => True) (fun _ => [(o, .inr (3, [.ref s1, .ref s2, .ref s3, .ref s4, .ref s5, .ref s6, .ref s7, .ref th, .int (nI vs.length), .int (nI ob.length), .int (nI deep)])), (s1, .inl (dA 1, 2048, .inl fS)), (s2, .inl (dA 1, 2048, .inl fE)), (s3, .inl (dA 1, 2048, .inl fF)), (s4, .inl (dA 1, 2048, .inl fC)), (s5, .inl (dA 1, 2048, .inl fN)), (s6, .inl (dA 1, 2048, .inl fH)), (s7, .inl (dA 1, 32, .inl fO)), (th, .inr (0, [.ref b, .int (nI t.length)])), (b, .inl (dA 0, N, .inl f))]) 0 0 := by
  refine jv_M.of [(0, .ref o), (1, .int (nI s)), (2, .int (nI z)), (3, .int nmv)] (by decide) (Nat.le_of_ble_eq_true rfl) rfl ?_
  intro pR eR sR mR belowR methR cR AR C hr hin
  refine jv_aload_n C (jd D_Ol_add 0 rfl) rfl 0 rfl ?_
  refine jv_get C fl_Ol_42 0 rfl rfl (jd D_Ol_add 1 rfl) ?_
  refine jv_sipush (v := 2048) C (jd D_Ol_add 2 rfl) (by decide) ?_
  refine jv_icmp_lt (tgt := 11) C (jd D_Ol_add 3 rfl) (by decide) (fun c7 => absurd c7 (nI_nlt hv hv2)) (fun c7 => ?_)
  exact jv_vret C hr () (trivial) [0, 1, 2, 3, 4, 5, 6, 7, 8, 9] rfl rfl (Nat.le_of_ble_eq_true rfl) (Nat.le_of_ble_eq_true rfl) (jd D_Ol_add 4 rfl)

set_option maxHeartbeats 4000000 in
set_option maxRecDepth 100000 in
/-- Outline.add -/
theorem c_Ol_add_root {l : Launch} {D : va_G} {dA : Nat → ClassId} {zz : (Nat → Nat) × (Nat → Nat)} (o s1 s2 s3 s4 s5 s6 s7 th b N : Nat) (fS fE fF fC fN fH fO f : Nat → Int32) (t : List Nat) (vs : List js_E) (deep s z : Nat) (hl : t.length ≤ N) (hN : N < 2 ^ 29) (ht : js_tx f t) (hR : js_OL vs (([] : List Nat)) fS fE fF fC fN fH fO) (hv : vs.length < 2048) : jv_M l D dA zz y_Ol_add b_Ol_add 4 none 4 [.ref o, .int (nI s), .int (nI z), .int (-1)] [(o, .inr (3, [.ref s1, .ref s2, .ref s3, .ref s4, .ref s5, .ref s6, .ref s7, .ref th, .int (nI vs.length), .int (nI (([] : List Nat)).length), .int (nI deep)])), (s1, .inl (dA 1, 2048, .inl fS)), (s2, .inl (dA 1, 2048, .inl fE)), (s3, .inl (dA 1, 2048, .inl fF)), (s4, .inl (dA 1, 2048, .inl fC)), (s5, .inl (dA 1, 2048, .inl fN)), (s6, .inl (dA 1, 2048, .inl fH)), (s7, .inl (dA 1, 32, .inl fO)), (th, .inr (0, [.ref b, .int (nI t.length)])), (b, .inl (dA 0, N, .inl f))] (jv_pv fun (_ : Unit) => js_OL (js_oadd t vs (([] : List Nat)) s z none) (([] : List Nat)) (upd fS vs.length (nI s)) (upd fE vs.length (nI z)) (upd fF vs.length (nI (vs.length + 1))) (upd fC vs.length (nI 0)) (upd fN vs.length (-1)) (upd fH vs.length 0) fO) (fun _ => [(o, .inr (3, [.ref s1, .ref s2, .ref s3, .ref s4, .ref s5, .ref s6, .ref s7, .ref th, .int (nI (js_oadd t vs (([] : List Nat)) s z none).length), .int (nI (([] : List Nat)).length), .int (nI deep)])), (s1, .inl (dA 1, 2048, .inl (upd fS vs.length (nI s)))), (s2, .inl (dA 1, 2048, .inl (upd fE vs.length (nI z)))), (s3, .inl (dA 1, 2048, .inl (upd fF vs.length (nI (vs.length + 1))))), (s4, .inl (dA 1, 2048, .inl (upd fC vs.length (nI 0)))), (s5, .inl (dA 1, 2048, .inl (upd fN vs.length (-1)))), (s6, .inl (dA 1, 2048, .inl (upd fH vs.length 0))), (s7, .inl (dA 1, 32, .inl fO)), (th, .inr (0, [.ref b, .int (nI t.length)])), (b, .inl (dA 0, N, .inl f))]) 0 0 := by
  refine jv_M.of [(0, .ref o), (1, .int (nI s)), (2, .int (nI z)), (3, .int (-1))] (by decide) (Nat.le_of_ble_eq_true rfl) rfl ?_
  intro pR eR sR mR belowR methR cR AR C hr hin
  refine jv_aload_n C (jd D_Ol_add 0 rfl) rfl 0 rfl ?_
  refine jv_get C fl_Ol_42 0 rfl rfl (jd D_Ol_add 1 rfl) ?_
  refine jv_sipush (v := 2048) C (jd D_Ol_add 2 rfl) (by decide) ?_
  refine jv_icmp_lt (tgt := 11) C (jd D_Ol_add 3 rfl) (by decide) (fun c7 => ?_) (fun c7 => absurd (nI_lt hv (by decide)) c7)
  refine jv_aload_n C (jd D_Ol_add 5 rfl) rfl 0 rfl ?_
  refine jv_get C fl_Ol_46 0 rfl rfl (jd D_Ol_add 6 rfl) ?_
  refine jv_if_le (tgt := 38) C (jd D_Ol_add 7 rfl) (by decide) (fun c15 => ?_) (fun c15 => absurd (by decide) c15)
  refine jv_aload_n C (jd D_Ol_add 22 rfl) rfl 0 rfl ?_
  refine jv_get C fl_Ol_11 0 rfl rfl (jd D_Ol_add 23 rfl) ?_
  refine jv_aload_n C (jd D_Ol_add 24 rfl) rfl 0 rfl ?_
  refine jv_get C fl_Ol_42 0 rfl rfl (jd D_Ol_add 25 rfl) ?_
  refine jv_iload_n C (jd D_Ol_add 26 rfl) rfl 1 rfl ?_
  refine jv_iast C 1 [(o, .inr (3, [.ref s1, .ref s2, .ref s3, .ref s4, .ref s5, .ref s6, .ref s7, .ref th, .int (nI vs.length), .int (nI (([] : List Nat)).length), .int (nI deep)])), (s1, .inl (dA 1, 2048, .inl (upd fS (nI vs.length).toNatClampNeg (nI s)))), (s2, .inl (dA 1, 2048, .inl fE)), (s3, .inl (dA 1, 2048, .inl fF)), (s4, .inl (dA 1, 2048, .inl fC)), (s5, .inl (dA 1, 2048, .inl fN)), (s6, .inl (dA 1, 2048, .inl fH)), (s7, .inl (dA 1, 32, .inl fO)), (th, .inr (0, [.ref b, .int (nI t.length)])), (b, .inl (dA 0, N, .inl f))] rfl rfl (vp_in_nI hv (by decide)) (jd D_Ol_add 27 rfl) ?_
  refine jv_weq (ws' := [(o, .inr (3, [.ref s1, .ref s2, .ref s3, .ref s4, .ref s5, .ref s6, .ref s7, .ref th, .int (nI vs.length), .int (nI (([] : List Nat)).length), .int (nI deep)])), (s1, .inl (dA 1, 2048, .inl (upd fS vs.length (nI s)))), (s2, .inl (dA 1, 2048, .inl fE)), (s3, .inl (dA 1, 2048, .inl fF)), (s4, .inl (dA 1, 2048, .inl fC)), (s5, .inl (dA 1, 2048, .inl fN)), (s6, .inl (dA 1, 2048, .inl fH)), (s7, .inl (dA 1, 32, .inl fO)), (th, .inr (0, [.ref b, .int (nI t.length)])), (b, .inl (dA 0, N, .inl f))]) (by rw [nI_clamp (by omega)]) ?_
  refine jv_aload_n C (jd D_Ol_add 28 rfl) rfl 0 rfl ?_
  refine jv_get C fl_Ol_15 0 rfl rfl (jd D_Ol_add 29 rfl) ?_
  refine jv_aload_n C (jd D_Ol_add 30 rfl) rfl 0 rfl ?_
  refine jv_get C fl_Ol_42 0 rfl rfl (jd D_Ol_add 31 rfl) ?_
  refine jv_iload_n C (jd D_Ol_add 32 rfl) rfl 2 rfl ?_
  refine jv_iast C 2 [(o, .inr (3, [.ref s1, .ref s2, .ref s3, .ref s4, .ref s5, .ref s6, .ref s7, .ref th, .int (nI vs.length), .int (nI (([] : List Nat)).length), .int (nI deep)])), (s1, .inl (dA 1, 2048, .inl (upd fS vs.length (nI s)))), (s2, .inl (dA 1, 2048, .inl (upd fE (nI vs.length).toNatClampNeg (nI z)))), (s3, .inl (dA 1, 2048, .inl fF)), (s4, .inl (dA 1, 2048, .inl fC)), (s5, .inl (dA 1, 2048, .inl fN)), (s6, .inl (dA 1, 2048, .inl fH)), (s7, .inl (dA 1, 32, .inl fO)), (th, .inr (0, [.ref b, .int (nI t.length)])), (b, .inl (dA 0, N, .inl f))] rfl rfl (vp_in_nI hv (by decide)) (jd D_Ol_add 33 rfl) ?_
  refine jv_weq (ws' := [(o, .inr (3, [.ref s1, .ref s2, .ref s3, .ref s4, .ref s5, .ref s6, .ref s7, .ref th, .int (nI vs.length), .int (nI (([] : List Nat)).length), .int (nI deep)])), (s1, .inl (dA 1, 2048, .inl (upd fS vs.length (nI s)))), (s2, .inl (dA 1, 2048, .inl (upd fE vs.length (nI z)))), (s3, .inl (dA 1, 2048, .inl fF)), (s4, .inl (dA 1, 2048, .inl fC)), (s5, .inl (dA 1, 2048, .inl fN)), (s6, .inl (dA 1, 2048, .inl fH)), (s7, .inl (dA 1, 32, .inl fO)), (th, .inr (0, [.ref b, .int (nI t.length)])), (b, .inl (dA 0, N, .inl f))]) (by rw [nI_clamp (by omega)]) ?_
  refine jv_aload_n C (jd D_Ol_add 34 rfl) rfl 0 rfl ?_
  refine jv_get C fl_Ol_18 0 rfl rfl (jd D_Ol_add 35 rfl) ?_
  refine jv_aload_n C (jd D_Ol_add 36 rfl) rfl 0 rfl ?_
  refine jv_get C fl_Ol_42 0 rfl rfl (jd D_Ol_add 37 rfl) ?_
  refine jv_aload_n C (jd D_Ol_add 38 rfl) rfl 0 rfl ?_
  refine jv_get C fl_Ol_42 0 rfl rfl (jd D_Ol_add 39 rfl) ?_
  refine jv_iconst (v := 1) C (jd D_Ol_add 40 rfl) (by decide) ?_
  refine jv_iadd C (jd D_Ol_add 41 rfl) ?_
  refine jv_ati (y := nI (vs.length + 1)) (nI_1 _) ?_
  refine jv_iast C 3 [(o, .inr (3, [.ref s1, .ref s2, .ref s3, .ref s4, .ref s5, .ref s6, .ref s7, .ref th, .int (nI vs.length), .int (nI (([] : List Nat)).length), .int (nI deep)])), (s1, .inl (dA 1, 2048, .inl (upd fS vs.length (nI s)))), (s2, .inl (dA 1, 2048, .inl (upd fE vs.length (nI z)))), (s3, .inl (dA 1, 2048, .inl (upd fF (nI vs.length).toNatClampNeg (nI (vs.length + 1))))), (s4, .inl (dA 1, 2048, .inl fC)), (s5, .inl (dA 1, 2048, .inl fN)), (s6, .inl (dA 1, 2048, .inl fH)), (s7, .inl (dA 1, 32, .inl fO)), (th, .inr (0, [.ref b, .int (nI t.length)])), (b, .inl (dA 0, N, .inl f))] rfl rfl (vp_in_nI hv (by decide)) (jd D_Ol_add 42 rfl) ?_
  refine jv_weq (ws' := [(o, .inr (3, [.ref s1, .ref s2, .ref s3, .ref s4, .ref s5, .ref s6, .ref s7, .ref th, .int (nI vs.length), .int (nI (([] : List Nat)).length), .int (nI deep)])), (s1, .inl (dA 1, 2048, .inl (upd fS vs.length (nI s)))), (s2, .inl (dA 1, 2048, .inl (upd fE vs.length (nI z)))), (s3, .inl (dA 1, 2048, .inl (upd fF vs.length (nI (vs.length + 1))))), (s4, .inl (dA 1, 2048, .inl fC)), (s5, .inl (dA 1, 2048, .inl fN)), (s6, .inl (dA 1, 2048, .inl fH)), (s7, .inl (dA 1, 32, .inl fO)), (th, .inr (0, [.ref b, .int (nI t.length)])), (b, .inl (dA 0, N, .inl f))]) (by rw [nI_clamp (by omega)]) ?_
  refine jv_aload_n C (jd D_Ol_add 43 rfl) rfl 0 rfl ?_
  refine jv_get C fl_Ol_21 0 rfl rfl (jd D_Ol_add 44 rfl) ?_
  refine jv_aload_n C (jd D_Ol_add 45 rfl) rfl 0 rfl ?_
  refine jv_get C fl_Ol_42 0 rfl rfl (jd D_Ol_add 46 rfl) ?_
  refine jv_iconst (v := 0) C (jd D_Ol_add 47 rfl) (by decide) ?_
  refine jv_iast C 4 [(o, .inr (3, [.ref s1, .ref s2, .ref s3, .ref s4, .ref s5, .ref s6, .ref s7, .ref th, .int (nI vs.length), .int (nI (([] : List Nat)).length), .int (nI deep)])), (s1, .inl (dA 1, 2048, .inl (upd fS vs.length (nI s)))), (s2, .inl (dA 1, 2048, .inl (upd fE vs.length (nI z)))), (s3, .inl (dA 1, 2048, .inl (upd fF vs.length (nI (vs.length + 1))))), (s4, .inl (dA 1, 2048, .inl (upd fC (nI vs.length).toNatClampNeg 0))), (s5, .inl (dA 1, 2048, .inl fN)), (s6, .inl (dA 1, 2048, .inl fH)), (s7, .inl (dA 1, 32, .inl fO)), (th, .inr (0, [.ref b, .int (nI t.length)])), (b, .inl (dA 0, N, .inl f))] rfl rfl (vp_in_nI hv (by decide)) (jd D_Ol_add 48 rfl) ?_
  refine jv_weq (ws' := [(o, .inr (3, [.ref s1, .ref s2, .ref s3, .ref s4, .ref s5, .ref s6, .ref s7, .ref th, .int (nI vs.length), .int (nI (([] : List Nat)).length), .int (nI deep)])), (s1, .inl (dA 1, 2048, .inl (upd fS vs.length (nI s)))), (s2, .inl (dA 1, 2048, .inl (upd fE vs.length (nI z)))), (s3, .inl (dA 1, 2048, .inl (upd fF vs.length (nI (vs.length + 1))))), (s4, .inl (dA 1, 2048, .inl (upd fC vs.length (nI 0)))), (s5, .inl (dA 1, 2048, .inl fN)), (s6, .inl (dA 1, 2048, .inl fH)), (s7, .inl (dA 1, 32, .inl fO)), (th, .inr (0, [.ref b, .int (nI t.length)])), (b, .inl (dA 0, N, .inl f))]) (by rw [nI_clamp (by omega)]; rfl) ?_
  refine jv_aload_n C (jd D_Ol_add 49 rfl) rfl 0 rfl ?_
  refine jv_get C fl_Ol_24 0 rfl rfl (jd D_Ol_add 50 rfl) ?_
  refine jv_aload_n C (jd D_Ol_add 51 rfl) rfl 0 rfl ?_
  refine jv_get C fl_Ol_42 0 rfl rfl (jd D_Ol_add 52 rfl) ?_
  refine jv_iload_n C (jd D_Ol_add 53 rfl) rfl 3 rfl ?_
  refine jv_iast C 5 [(o, .inr (3, [.ref s1, .ref s2, .ref s3, .ref s4, .ref s5, .ref s6, .ref s7, .ref th, .int (nI vs.length), .int (nI (([] : List Nat)).length), .int (nI deep)])), (s1, .inl (dA 1, 2048, .inl (upd fS vs.length (nI s)))), (s2, .inl (dA 1, 2048, .inl (upd fE vs.length (nI z)))), (s3, .inl (dA 1, 2048, .inl (upd fF vs.length (nI (vs.length + 1))))), (s4, .inl (dA 1, 2048, .inl (upd fC vs.length (nI 0)))), (s5, .inl (dA 1, 2048, .inl (upd fN (nI vs.length).toNatClampNeg (-1)))), (s6, .inl (dA 1, 2048, .inl fH)), (s7, .inl (dA 1, 32, .inl fO)), (th, .inr (0, [.ref b, .int (nI t.length)])), (b, .inl (dA 0, N, .inl f))] rfl rfl (vp_in_nI hv (by decide)) (jd D_Ol_add 54 rfl) ?_
  refine jv_weq (ws' := [(o, .inr (3, [.ref s1, .ref s2, .ref s3, .ref s4, .ref s5, .ref s6, .ref s7, .ref th, .int (nI vs.length), .int (nI (([] : List Nat)).length), .int (nI deep)])), (s1, .inl (dA 1, 2048, .inl (upd fS vs.length (nI s)))), (s2, .inl (dA 1, 2048, .inl (upd fE vs.length (nI z)))), (s3, .inl (dA 1, 2048, .inl (upd fF vs.length (nI (vs.length + 1))))), (s4, .inl (dA 1, 2048, .inl (upd fC vs.length (nI 0)))), (s5, .inl (dA 1, 2048, .inl (upd fN vs.length (-1)))), (s6, .inl (dA 1, 2048, .inl fH)), (s7, .inl (dA 1, 32, .inl fO)), (th, .inr (0, [.ref b, .int (nI t.length)])), (b, .inl (dA 0, N, .inl f))]) (by rw [nI_clamp (by omega)]) ?_
  refine jv_aload_n C (jd D_Ol_add 55 rfl) rfl 0 rfl ?_
  refine jv_get C fl_Ol_27 0 rfl rfl (jd D_Ol_add 56 rfl) ?_
  refine jv_aload_n C (jd D_Ol_add 57 rfl) rfl 0 rfl ?_
  refine jv_get C fl_Ol_42 0 rfl rfl (jd D_Ol_add 58 rfl) ?_
  refine jv_iload_n C (jd D_Ol_add 59 rfl) rfl 3 rfl ?_
  refine jv_iconst (v := -1) C (jd D_Ol_add 60 rfl) (by decide) ?_
  refine jv_icmp_ne (tgt := 110) C (jd D_Ol_add 61 rfl) (by decide) (fun c103 => absurd c103 (fun y => y rfl)) (fun c103 => ?_)
  refine jv_iconst (v := 0) C (jd D_Ol_add 62 rfl) (by decide) ?_
  refine jv_goto (tgt := 121) C (jd D_Ol_add 63 rfl) (by decide) ?_
  refine jv_iast C 6 [(o, .inr (3, [.ref s1, .ref s2, .ref s3, .ref s4, .ref s5, .ref s6, .ref s7, .ref th, .int (nI vs.length), .int (nI (([] : List Nat)).length), .int (nI deep)])), (s1, .inl (dA 1, 2048, .inl (upd fS vs.length (nI s)))), (s2, .inl (dA 1, 2048, .inl (upd fE vs.length (nI z)))), (s3, .inl (dA 1, 2048, .inl (upd fF vs.length (nI (vs.length + 1))))), (s4, .inl (dA 1, 2048, .inl (upd fC vs.length (nI 0)))), (s5, .inl (dA 1, 2048, .inl (upd fN vs.length (-1)))), (s6, .inl (dA 1, 2048, .inl (upd fH (nI vs.length).toNatClampNeg 0))), (s7, .inl (dA 1, 32, .inl fO)), (th, .inr (0, [.ref b, .int (nI t.length)])), (b, .inl (dA 0, N, .inl f))] rfl rfl (vp_in_nI hv (by decide)) (jd D_Ol_add 71 rfl) ?_
  refine jv_weq (ws' := [(o, .inr (3, [.ref s1, .ref s2, .ref s3, .ref s4, .ref s5, .ref s6, .ref s7, .ref th, .int (nI vs.length), .int (nI (([] : List Nat)).length), .int (nI deep)])), (s1, .inl (dA 1, 2048, .inl (upd fS vs.length (nI s)))), (s2, .inl (dA 1, 2048, .inl (upd fE vs.length (nI z)))), (s3, .inl (dA 1, 2048, .inl (upd fF vs.length (nI (vs.length + 1))))), (s4, .inl (dA 1, 2048, .inl (upd fC vs.length (nI 0)))), (s5, .inl (dA 1, 2048, .inl (upd fN vs.length (-1)))), (s6, .inl (dA 1, 2048, .inl (upd fH vs.length 0))), (s7, .inl (dA 1, 32, .inl fO)), (th, .inr (0, [.ref b, .int (nI t.length)])), (b, .inl (dA 0, N, .inl f))]) (by rw [nI_clamp (by omega)]) ?_
  refine jv_aload_n C (jd D_Ol_add 72 rfl) rfl 0 rfl ?_
  refine jv_dup C (jd D_Ol_add 73 rfl) rfl ?_
  refine jv_get C fl_Ol_42 0 rfl rfl (jd D_Ol_add 74 rfl) ?_
  refine jv_iconst (v := 1) C (jd D_Ol_add 75 rfl) (by decide) ?_
  refine jv_iadd C (jd D_Ol_add 76 rfl) ?_
  refine jv_ati (y := nI (js_oadd t vs (([] : List Nat)) s z none).length) (by rw [js_oadd, if_neg (by omega), List.length_append, js_par_len]; exact nI_1 _) ?_
  refine jv_put C fl_Ol_42 Y_Ol rfl 0 [(o, .inr (3, [.ref s1, .ref s2, .ref s3, .ref s4, .ref s5, .ref s6, .ref s7, .ref th, .int (nI (js_oadd t vs (([] : List Nat)) s z none).length), .int (nI (([] : List Nat)).length), .int (nI deep)])), (s1, .inl (dA 1, 2048, .inl (upd fS vs.length (nI s)))), (s2, .inl (dA 1, 2048, .inl (upd fE vs.length (nI z)))), (s3, .inl (dA 1, 2048, .inl (upd fF vs.length (nI (vs.length + 1))))), (s4, .inl (dA 1, 2048, .inl (upd fC vs.length (nI 0)))), (s5, .inl (dA 1, 2048, .inl (upd fN vs.length (-1)))), (s6, .inl (dA 1, 2048, .inl (upd fH vs.length 0))), (s7, .inl (dA 1, 32, .inl fO)), (th, .inr (0, [.ref b, .int (nI t.length)])), (b, .inl (dA 0, N, .inl f))] rfl rfl rfl (Nat.le_of_ble_eq_true rfl) rfl rfl (jd D_Ol_add 77 rfl) ?_
  exact jv_vret C hr () (by rw [js_oadd, if_neg (by omega)]; exact hR.push hv _ _ _ _ _ _) [0, 1, 2, 3, 4, 5, 6, 7, 8, 9] rfl rfl (Nat.le_of_ble_eq_true rfl) (Nat.le_of_ble_eq_true rfl) (jd D_Ol_add 78 rfl)

set_option maxHeartbeats 4000000 in
set_option maxRecDepth 100000 in
/-- Outline.add -/
theorem c_Ol_add_rootN {l : Launch} {D : va_G} {dA : Nat → ClassId} {zz : (Nat → Nat) × (Nat → Nat)} (o s1 s2 s3 s4 s5 s6 s7 th b N : Nat) (fS fE fF fC fN fH fO f : Nat → Int32) (t : List Nat) (vs : List js_E) (deep s z : Nat) (a : Nat) (hl : t.length ≤ N) (hN : N < 2 ^ 29) (ht : js_tx f t) (hR : js_OL vs (([] : List Nat)) fS fE fF fC fN fH fO) (hv : vs.length < 2048) (ha : a + 1 ≤ s) (hs : s ≤ t.length) : jv_M l D dA zz y_Ol_add b_Ol_add 4 none 4 [.ref o, .int (nI s), .int (nI z), .int (nI a)] [(o, .inr (3, [.ref s1, .ref s2, .ref s3, .ref s4, .ref s5, .ref s6, .ref s7, .ref th, .int (nI vs.length), .int (nI (([] : List Nat)).length), .int (nI deep)])), (s1, .inl (dA 1, 2048, .inl fS)), (s2, .inl (dA 1, 2048, .inl fE)), (s3, .inl (dA 1, 2048, .inl fF)), (s4, .inl (dA 1, 2048, .inl fC)), (s5, .inl (dA 1, 2048, .inl fN)), (s6, .inl (dA 1, 2048, .inl fH)), (s7, .inl (dA 1, 32, .inl fO)), (th, .inr (0, [.ref b, .int (nI t.length)])), (b, .inl (dA 0, N, .inl f))] (jv_pv fun (_ : Unit) => js_OL (js_oadd t vs (([] : List Nat)) s z (some a)) (([] : List Nat)) (upd fS vs.length (nI s)) (upd fE vs.length (nI z)) (upd fF vs.length (nI (vs.length + 1))) (upd fC vs.length (nI 0)) (upd fN vs.length (nI a)) (upd fH vs.length (js_hash t a (s - 1 - a))) fO) (fun _ => [(o, .inr (3, [.ref s1, .ref s2, .ref s3, .ref s4, .ref s5, .ref s6, .ref s7, .ref th, .int (nI (js_oadd t vs (([] : List Nat)) s z (some a)).length), .int (nI (([] : List Nat)).length), .int (nI deep)])), (s1, .inl (dA 1, 2048, .inl (upd fS vs.length (nI s)))), (s2, .inl (dA 1, 2048, .inl (upd fE vs.length (nI z)))), (s3, .inl (dA 1, 2048, .inl (upd fF vs.length (nI (vs.length + 1))))), (s4, .inl (dA 1, 2048, .inl (upd fC vs.length (nI 0)))), (s5, .inl (dA 1, 2048, .inl (upd fN vs.length (nI a)))), (s6, .inl (dA 1, 2048, .inl (upd fH vs.length (js_hash t a (s - 1 - a))))), (s7, .inl (dA 1, 32, .inl fO)), (th, .inr (0, [.ref b, .int (nI t.length)])), (b, .inl (dA 0, N, .inl f))]) 0 0 := by
  refine jv_M.of [(0, .ref o), (1, .int (nI s)), (2, .int (nI z)), (3, .int (nI a))] (by decide) (Nat.le_of_ble_eq_true rfl) rfl ?_
  intro pR eR sR mR belowR methR cR AR C hr hin
  refine jv_aload_n C (jd D_Ol_add 0 rfl) rfl 0 rfl ?_
  refine jv_get C fl_Ol_42 0 rfl rfl (jd D_Ol_add 1 rfl) ?_
  refine jv_sipush (v := 2048) C (jd D_Ol_add 2 rfl) (by decide) ?_
  refine jv_icmp_lt (tgt := 11) C (jd D_Ol_add 3 rfl) (by decide) (fun c7 => ?_) (fun c7 => absurd (nI_lt hv (by decide)) c7)
  refine jv_aload_n C (jd D_Ol_add 5 rfl) rfl 0 rfl ?_
  refine jv_get C fl_Ol_46 0 rfl rfl (jd D_Ol_add 6 rfl) ?_
  refine jv_if_le (tgt := 38) C (jd D_Ol_add 7 rfl) (by decide) (fun c15 => ?_) (fun c15 => absurd (by decide) c15)
  refine jv_aload_n C (jd D_Ol_add 22 rfl) rfl 0 rfl ?_
  refine jv_get C fl_Ol_11 0 rfl rfl (jd D_Ol_add 23 rfl) ?_
  refine jv_aload_n C (jd D_Ol_add 24 rfl) rfl 0 rfl ?_
  refine jv_get C fl_Ol_42 0 rfl rfl (jd D_Ol_add 25 rfl) ?_
  refine jv_iload_n C (jd D_Ol_add 26 rfl) rfl 1 rfl ?_
  refine jv_iast C 1 [(o, .inr (3, [.ref s1, .ref s2, .ref s3, .ref s4, .ref s5, .ref s6, .ref s7, .ref th, .int (nI vs.length), .int (nI (([] : List Nat)).length), .int (nI deep)])), (s1, .inl (dA 1, 2048, .inl (upd fS (nI vs.length).toNatClampNeg (nI s)))), (s2, .inl (dA 1, 2048, .inl fE)), (s3, .inl (dA 1, 2048, .inl fF)), (s4, .inl (dA 1, 2048, .inl fC)), (s5, .inl (dA 1, 2048, .inl fN)), (s6, .inl (dA 1, 2048, .inl fH)), (s7, .inl (dA 1, 32, .inl fO)), (th, .inr (0, [.ref b, .int (nI t.length)])), (b, .inl (dA 0, N, .inl f))] rfl rfl (vp_in_nI hv (by decide)) (jd D_Ol_add 27 rfl) ?_
  refine jv_weq (ws' := [(o, .inr (3, [.ref s1, .ref s2, .ref s3, .ref s4, .ref s5, .ref s6, .ref s7, .ref th, .int (nI vs.length), .int (nI (([] : List Nat)).length), .int (nI deep)])), (s1, .inl (dA 1, 2048, .inl (upd fS vs.length (nI s)))), (s2, .inl (dA 1, 2048, .inl fE)), (s3, .inl (dA 1, 2048, .inl fF)), (s4, .inl (dA 1, 2048, .inl fC)), (s5, .inl (dA 1, 2048, .inl fN)), (s6, .inl (dA 1, 2048, .inl fH)), (s7, .inl (dA 1, 32, .inl fO)), (th, .inr (0, [.ref b, .int (nI t.length)])), (b, .inl (dA 0, N, .inl f))]) (by rw [nI_clamp (by omega)]) ?_
  refine jv_aload_n C (jd D_Ol_add 28 rfl) rfl 0 rfl ?_
  refine jv_get C fl_Ol_15 0 rfl rfl (jd D_Ol_add 29 rfl) ?_
  refine jv_aload_n C (jd D_Ol_add 30 rfl) rfl 0 rfl ?_
  refine jv_get C fl_Ol_42 0 rfl rfl (jd D_Ol_add 31 rfl) ?_
  refine jv_iload_n C (jd D_Ol_add 32 rfl) rfl 2 rfl ?_
  refine jv_iast C 2 [(o, .inr (3, [.ref s1, .ref s2, .ref s3, .ref s4, .ref s5, .ref s6, .ref s7, .ref th, .int (nI vs.length), .int (nI (([] : List Nat)).length), .int (nI deep)])), (s1, .inl (dA 1, 2048, .inl (upd fS vs.length (nI s)))), (s2, .inl (dA 1, 2048, .inl (upd fE (nI vs.length).toNatClampNeg (nI z)))), (s3, .inl (dA 1, 2048, .inl fF)), (s4, .inl (dA 1, 2048, .inl fC)), (s5, .inl (dA 1, 2048, .inl fN)), (s6, .inl (dA 1, 2048, .inl fH)), (s7, .inl (dA 1, 32, .inl fO)), (th, .inr (0, [.ref b, .int (nI t.length)])), (b, .inl (dA 0, N, .inl f))] rfl rfl (vp_in_nI hv (by decide)) (jd D_Ol_add 33 rfl) ?_
  refine jv_weq (ws' := [(o, .inr (3, [.ref s1, .ref s2, .ref s3, .ref s4, .ref s5, .ref s6, .ref s7, .ref th, .int (nI vs.length), .int (nI (([] : List Nat)).length), .int (nI deep)])), (s1, .inl (dA 1, 2048, .inl (upd fS vs.length (nI s)))), (s2, .inl (dA 1, 2048, .inl (upd fE vs.length (nI z)))), (s3, .inl (dA 1, 2048, .inl fF)), (s4, .inl (dA 1, 2048, .inl fC)), (s5, .inl (dA 1, 2048, .inl fN)), (s6, .inl (dA 1, 2048, .inl fH)), (s7, .inl (dA 1, 32, .inl fO)), (th, .inr (0, [.ref b, .int (nI t.length)])), (b, .inl (dA 0, N, .inl f))]) (by rw [nI_clamp (by omega)]) ?_
  refine jv_aload_n C (jd D_Ol_add 34 rfl) rfl 0 rfl ?_
  refine jv_get C fl_Ol_18 0 rfl rfl (jd D_Ol_add 35 rfl) ?_
  refine jv_aload_n C (jd D_Ol_add 36 rfl) rfl 0 rfl ?_
  refine jv_get C fl_Ol_42 0 rfl rfl (jd D_Ol_add 37 rfl) ?_
  refine jv_aload_n C (jd D_Ol_add 38 rfl) rfl 0 rfl ?_
  refine jv_get C fl_Ol_42 0 rfl rfl (jd D_Ol_add 39 rfl) ?_
  refine jv_iconst (v := 1) C (jd D_Ol_add 40 rfl) (by decide) ?_
  refine jv_iadd C (jd D_Ol_add 41 rfl) ?_
  refine jv_ati (y := nI (vs.length + 1)) (nI_1 _) ?_
  refine jv_iast C 3 [(o, .inr (3, [.ref s1, .ref s2, .ref s3, .ref s4, .ref s5, .ref s6, .ref s7, .ref th, .int (nI vs.length), .int (nI (([] : List Nat)).length), .int (nI deep)])), (s1, .inl (dA 1, 2048, .inl (upd fS vs.length (nI s)))), (s2, .inl (dA 1, 2048, .inl (upd fE vs.length (nI z)))), (s3, .inl (dA 1, 2048, .inl (upd fF (nI vs.length).toNatClampNeg (nI (vs.length + 1))))), (s4, .inl (dA 1, 2048, .inl fC)), (s5, .inl (dA 1, 2048, .inl fN)), (s6, .inl (dA 1, 2048, .inl fH)), (s7, .inl (dA 1, 32, .inl fO)), (th, .inr (0, [.ref b, .int (nI t.length)])), (b, .inl (dA 0, N, .inl f))] rfl rfl (vp_in_nI hv (by decide)) (jd D_Ol_add 42 rfl) ?_
  refine jv_weq (ws' := [(o, .inr (3, [.ref s1, .ref s2, .ref s3, .ref s4, .ref s5, .ref s6, .ref s7, .ref th, .int (nI vs.length), .int (nI (([] : List Nat)).length), .int (nI deep)])), (s1, .inl (dA 1, 2048, .inl (upd fS vs.length (nI s)))), (s2, .inl (dA 1, 2048, .inl (upd fE vs.length (nI z)))), (s3, .inl (dA 1, 2048, .inl (upd fF vs.length (nI (vs.length + 1))))), (s4, .inl (dA 1, 2048, .inl fC)), (s5, .inl (dA 1, 2048, .inl fN)), (s6, .inl (dA 1, 2048, .inl fH)), (s7, .inl (dA 1, 32, .inl fO)), (th, .inr (0, [.ref b, .int (nI t.length)])), (b, .inl (dA 0, N, .inl f))]) (by rw [nI_clamp (by omega)]) ?_
  refine jv_aload_n C (jd D_Ol_add 43 rfl) rfl 0 rfl ?_
  refine jv_get C fl_Ol_21 0 rfl rfl (jd D_Ol_add 44 rfl) ?_
  refine jv_aload_n C (jd D_Ol_add 45 rfl) rfl 0 rfl ?_
  refine jv_get C fl_Ol_42 0 rfl rfl (jd D_Ol_add 46 rfl) ?_
  refine jv_iconst (v := 0) C (jd D_Ol_add 47 rfl) (by decide) ?_
  refine jv_iast C 4 [(o, .inr (3, [.ref s1, .ref s2, .ref s3, .ref s4, .ref s5, .ref s6, .ref s7, .ref th, .int (nI vs.length), .int (nI (([] : List Nat)).length), .int (nI deep)])), (s1, .inl (dA 1, 2048, .inl (upd fS vs.length (nI s)))), (s2, .inl (dA 1, 2048, .inl (upd fE vs.length (nI z)))), (s3, .inl (dA 1, 2048, .inl (upd fF vs.length (nI (vs.length + 1))))), (s4, .inl (dA 1, 2048, .inl (upd fC (nI vs.length).toNatClampNeg 0))), (s5, .inl (dA 1, 2048, .inl fN)), (s6, .inl (dA 1, 2048, .inl fH)), (s7, .inl (dA 1, 32, .inl fO)), (th, .inr (0, [.ref b, .int (nI t.length)])), (b, .inl (dA 0, N, .inl f))] rfl rfl (vp_in_nI hv (by decide)) (jd D_Ol_add 48 rfl) ?_
  refine jv_weq (ws' := [(o, .inr (3, [.ref s1, .ref s2, .ref s3, .ref s4, .ref s5, .ref s6, .ref s7, .ref th, .int (nI vs.length), .int (nI (([] : List Nat)).length), .int (nI deep)])), (s1, .inl (dA 1, 2048, .inl (upd fS vs.length (nI s)))), (s2, .inl (dA 1, 2048, .inl (upd fE vs.length (nI z)))), (s3, .inl (dA 1, 2048, .inl (upd fF vs.length (nI (vs.length + 1))))), (s4, .inl (dA 1, 2048, .inl (upd fC vs.length (nI 0)))), (s5, .inl (dA 1, 2048, .inl fN)), (s6, .inl (dA 1, 2048, .inl fH)), (s7, .inl (dA 1, 32, .inl fO)), (th, .inr (0, [.ref b, .int (nI t.length)])), (b, .inl (dA 0, N, .inl f))]) (by rw [nI_clamp (by omega)]; rfl) ?_
  refine jv_aload_n C (jd D_Ol_add 49 rfl) rfl 0 rfl ?_
  refine jv_get C fl_Ol_24 0 rfl rfl (jd D_Ol_add 50 rfl) ?_
  refine jv_aload_n C (jd D_Ol_add 51 rfl) rfl 0 rfl ?_
  refine jv_get C fl_Ol_42 0 rfl rfl (jd D_Ol_add 52 rfl) ?_
  refine jv_iload_n C (jd D_Ol_add 53 rfl) rfl 3 rfl ?_
  refine jv_iast C 5 [(o, .inr (3, [.ref s1, .ref s2, .ref s3, .ref s4, .ref s5, .ref s6, .ref s7, .ref th, .int (nI vs.length), .int (nI (([] : List Nat)).length), .int (nI deep)])), (s1, .inl (dA 1, 2048, .inl (upd fS vs.length (nI s)))), (s2, .inl (dA 1, 2048, .inl (upd fE vs.length (nI z)))), (s3, .inl (dA 1, 2048, .inl (upd fF vs.length (nI (vs.length + 1))))), (s4, .inl (dA 1, 2048, .inl (upd fC vs.length (nI 0)))), (s5, .inl (dA 1, 2048, .inl (upd fN (nI vs.length).toNatClampNeg (nI a)))), (s6, .inl (dA 1, 2048, .inl fH)), (s7, .inl (dA 1, 32, .inl fO)), (th, .inr (0, [.ref b, .int (nI t.length)])), (b, .inl (dA 0, N, .inl f))] rfl rfl (vp_in_nI hv (by decide)) (jd D_Ol_add 54 rfl) ?_
  refine jv_weq (ws' := [(o, .inr (3, [.ref s1, .ref s2, .ref s3, .ref s4, .ref s5, .ref s6, .ref s7, .ref th, .int (nI vs.length), .int (nI (([] : List Nat)).length), .int (nI deep)])), (s1, .inl (dA 1, 2048, .inl (upd fS vs.length (nI s)))), (s2, .inl (dA 1, 2048, .inl (upd fE vs.length (nI z)))), (s3, .inl (dA 1, 2048, .inl (upd fF vs.length (nI (vs.length + 1))))), (s4, .inl (dA 1, 2048, .inl (upd fC vs.length (nI 0)))), (s5, .inl (dA 1, 2048, .inl (upd fN vs.length (nI a)))), (s6, .inl (dA 1, 2048, .inl fH)), (s7, .inl (dA 1, 32, .inl fO)), (th, .inr (0, [.ref b, .int (nI t.length)])), (b, .inl (dA 0, N, .inl f))]) (by rw [nI_clamp (by omega)]) ?_
  refine jv_aload_n C (jd D_Ol_add 55 rfl) rfl 0 rfl ?_
  refine jv_get C fl_Ol_27 0 rfl rfl (jd D_Ol_add 56 rfl) ?_
  refine jv_aload_n C (jd D_Ol_add 57 rfl) rfl 0 rfl ?_
  refine jv_get C fl_Ol_42 0 rfl rfl (jd D_Ol_add 58 rfl) ?_
  refine jv_iload_n C (jd D_Ol_add 59 rfl) rfl 3 rfl ?_
  refine jv_iconst (v := -1) C (jd D_Ol_add 60 rfl) (by decide) ?_
  refine jv_icmp_ne (tgt := 110) C (jd D_Ol_add 61 rfl) (by decide) (fun c103 => ?_) (fun c103 => absurd c103 (js_nm1 (by omega)))
  refine jv_aload_n C (jd D_Ol_add 64 rfl) rfl 0 rfl ?_
  refine jv_get C fl_Ol_38 0 rfl rfl (jd D_Ol_add 65 rfl) ?_
  refine jv_iload_n C (jd D_Ol_add 66 rfl) rfl 3 rfl ?_
  refine jv_iload_n C (jd D_Ol_add 67 rfl) rfl 1 rfl ?_
  refine jv_iconst (v := 1) C (jd D_Ol_add 68 rfl) (by decide) ?_
  refine jv_isub C (jd D_Ol_add 69 rfl) ?_
  refine jv_ati (y := nI (s - 1)) (by rw [show (1 : Int32) = nI 1 from rfl]; exact pk_sub (by omega)) ?_
  refine jv_callV (wr := [(o, .inr (3, [.ref s1, .ref s2, .ref s3, .ref s4, .ref s5, .ref s6, .ref s7, .ref th, .int (nI vs.length), .int (nI (([] : List Nat)).length), .int (nI deep)])), (s1, .inl (dA 1, 2048, .inl (upd fS vs.length (nI s)))), (s2, .inl (dA 1, 2048, .inl (upd fE vs.length (nI z)))), (s3, .inl (dA 1, 2048, .inl (upd fF vs.length (nI (vs.length + 1))))), (s4, .inl (dA 1, 2048, .inl (upd fC vs.length (nI 0)))), (s5, .inl (dA 1, 2048, .inl (upd fN vs.length (nI a)))), (s6, .inl (dA 1, 2048, .inl fH)), (s7, .inl (dA 1, 32, .inl fO))]) C cl_Ol_99 (c_Tx_hash th b N f t a (s - 1) hl (by omega) ht (by omega) (by omega)) [8, 9] [0, 1, 2, 3, 4, 5, 6, 7] rfl rfl rfl rfl (by decide) rfl rfl 0 rfl ⟨Nat.le_of_ble_eq_true rfl, Nat.le_of_ble_eq_true rfl⟩ ⟨Nat.le_of_ble_eq_true rfl, Nat.le_of_ble_eq_true rfl⟩ rfl rfl (Nat.le_of_ble_eq_true rfl) (jd D_Ol_add 70 rfl) (fun v1 _ k1 => ?_)
  obtain ⟨r1, rfl, k1⟩ := k1
  refine jv_fix [0, 1, 2, 3, 4, 5, 6, 7, 8, 9] [(o, .inr (3, [.ref s1, .ref s2, .ref s3, .ref s4, .ref s5, .ref s6, .ref s7, .ref th, .int (nI vs.length), .int (nI (([] : List Nat)).length), .int (nI deep)])), (s1, .inl (dA 1, 2048, .inl (upd fS vs.length (nI s)))), (s2, .inl (dA 1, 2048, .inl (upd fE vs.length (nI z)))), (s3, .inl (dA 1, 2048, .inl (upd fF vs.length (nI (vs.length + 1))))), (s4, .inl (dA 1, 2048, .inl (upd fC vs.length (nI 0)))), (s5, .inl (dA 1, 2048, .inl (upd fN vs.length (nI a)))), (s6, .inl (dA 1, 2048, .inl fH)), (s7, .inl (dA 1, 32, .inl fO)), (th, .inr (0, [.ref b, .int (nI t.length)])), (b, .inl (dA 0, N, .inl f))] [.int r1, .int (nI vs.length), .ref s6] 0 0 rfl rfl rfl (Nat.le_refl _) (Nat.le_refl _) ?_
  subst k1
  refine jv_iast C 6 [(o, .inr (3, [.ref s1, .ref s2, .ref s3, .ref s4, .ref s5, .ref s6, .ref s7, .ref th, .int (nI vs.length), .int (nI (([] : List Nat)).length), .int (nI deep)])), (s1, .inl (dA 1, 2048, .inl (upd fS vs.length (nI s)))), (s2, .inl (dA 1, 2048, .inl (upd fE vs.length (nI z)))), (s3, .inl (dA 1, 2048, .inl (upd fF vs.length (nI (vs.length + 1))))), (s4, .inl (dA 1, 2048, .inl (upd fC vs.length (nI 0)))), (s5, .inl (dA 1, 2048, .inl (upd fN vs.length (nI a)))), (s6, .inl (dA 1, 2048, .inl (upd fH (nI vs.length).toNatClampNeg (js_hash t a (s - 1 - a))))), (s7, .inl (dA 1, 32, .inl fO)), (th, .inr (0, [.ref b, .int (nI t.length)])), (b, .inl (dA 0, N, .inl f))] rfl rfl (vp_in_nI hv (by decide)) (jd D_Ol_add 71 rfl) ?_
  refine jv_weq (ws' := [(o, .inr (3, [.ref s1, .ref s2, .ref s3, .ref s4, .ref s5, .ref s6, .ref s7, .ref th, .int (nI vs.length), .int (nI (([] : List Nat)).length), .int (nI deep)])), (s1, .inl (dA 1, 2048, .inl (upd fS vs.length (nI s)))), (s2, .inl (dA 1, 2048, .inl (upd fE vs.length (nI z)))), (s3, .inl (dA 1, 2048, .inl (upd fF vs.length (nI (vs.length + 1))))), (s4, .inl (dA 1, 2048, .inl (upd fC vs.length (nI 0)))), (s5, .inl (dA 1, 2048, .inl (upd fN vs.length (nI a)))), (s6, .inl (dA 1, 2048, .inl (upd fH vs.length (js_hash t a (s - 1 - a))))), (s7, .inl (dA 1, 32, .inl fO)), (th, .inr (0, [.ref b, .int (nI t.length)])), (b, .inl (dA 0, N, .inl f))]) (by rw [nI_clamp (by omega)]) ?_
  refine jv_aload_n C (jd D_Ol_add 72 rfl) rfl 0 rfl ?_
  refine jv_dup C (jd D_Ol_add 73 rfl) rfl ?_
  refine jv_get C fl_Ol_42 0 rfl rfl (jd D_Ol_add 74 rfl) ?_
  refine jv_iconst (v := 1) C (jd D_Ol_add 75 rfl) (by decide) ?_
  refine jv_iadd C (jd D_Ol_add 76 rfl) ?_
  refine jv_ati (y := nI (js_oadd t vs (([] : List Nat)) s z (some a)).length) (by rw [js_oadd, if_neg (by omega), List.length_append, js_par_len]; exact nI_1 _) ?_
  refine jv_put C fl_Ol_42 Y_Ol rfl 0 [(o, .inr (3, [.ref s1, .ref s2, .ref s3, .ref s4, .ref s5, .ref s6, .ref s7, .ref th, .int (nI (js_oadd t vs (([] : List Nat)) s z (some a)).length), .int (nI (([] : List Nat)).length), .int (nI deep)])), (s1, .inl (dA 1, 2048, .inl (upd fS vs.length (nI s)))), (s2, .inl (dA 1, 2048, .inl (upd fE vs.length (nI z)))), (s3, .inl (dA 1, 2048, .inl (upd fF vs.length (nI (vs.length + 1))))), (s4, .inl (dA 1, 2048, .inl (upd fC vs.length (nI 0)))), (s5, .inl (dA 1, 2048, .inl (upd fN vs.length (nI a)))), (s6, .inl (dA 1, 2048, .inl (upd fH vs.length (js_hash t a (s - 1 - a))))), (s7, .inl (dA 1, 32, .inl fO)), (th, .inr (0, [.ref b, .int (nI t.length)])), (b, .inl (dA 0, N, .inl f))] rfl rfl rfl (Nat.le_of_ble_eq_true rfl) rfl rfl (jd D_Ol_add 77 rfl) ?_
  exact jv_vret C hr () (by rw [js_oadd, if_neg (by omega)]; exact hR.push hv _ _ _ _ _ _) [0, 1, 2, 3, 4, 5, 6, 7, 8, 9] rfl rfl (Nat.le_of_ble_eq_true rfl) (Nat.le_of_ble_eq_true rfl) (jd D_Ol_add 78 rfl)

set_option maxHeartbeats 4000000 in
set_option maxRecDepth 100000 in
/-- Outline.add -/
theorem c_Ol_add_in {l : Launch} {D : va_G} {dA : Nat → ClassId} {zz : (Nat → Nat) × (Nat → Nat)} (o s1 s2 s3 s4 s5 s6 s7 th b N : Nat) (fS fE fF fC fN fH fO f : Nat → Int32) (t : List Nat) (vs : List js_E) (deep s z : Nat) (ob : List Nat) (k : Nat) (hl : t.length ≤ N) (hN : N < 2 ^ 29) (ht : js_tx f t) (hR : js_OL vs (ob ++ [k]) fS fE fF fC fN fH fO) (hv : vs.length < 2048) : jv_M l D dA zz y_Ol_add b_Ol_add 4 none 4 [.ref o, .int (nI s), .int (nI z), .int (-1)] [(o, .inr (3, [.ref s1, .ref s2, .ref s3, .ref s4, .ref s5, .ref s6, .ref s7, .ref th, .int (nI vs.length), .int (nI (ob ++ [k]).length), .int (nI deep)])), (s1, .inl (dA 1, 2048, .inl fS)), (s2, .inl (dA 1, 2048, .inl fE)), (s3, .inl (dA 1, 2048, .inl fF)), (s4, .inl (dA 1, 2048, .inl fC)), (s5, .inl (dA 1, 2048, .inl fN)), (s6, .inl (dA 1, 2048, .inl fH)), (s7, .inl (dA 1, 32, .inl fO)), (th, .inr (0, [.ref b, .int (nI t.length)])), (b, .inl (dA 0, N, .inl f))] (jv_pv fun (_ : Unit) => js_OL (js_oadd t vs (ob ++ [k]) s z none) (ob ++ [k]) (upd fS vs.length (nI s)) (upd fE vs.length (nI z)) (upd fF vs.length (nI (vs.length + 1))) (upd (upd fC k (fC k + 1)) vs.length (nI 0)) (upd fN vs.length (-1)) (upd fH vs.length 0) fO) (fun _ => [(o, .inr (3, [.ref s1, .ref s2, .ref s3, .ref s4, .ref s5, .ref s6, .ref s7, .ref th, .int (nI (js_oadd t vs (ob ++ [k]) s z none).length), .int (nI (ob ++ [k]).length), .int (nI deep)])), (s1, .inl (dA 1, 2048, .inl (upd fS vs.length (nI s)))), (s2, .inl (dA 1, 2048, .inl (upd fE vs.length (nI z)))), (s3, .inl (dA 1, 2048, .inl (upd fF vs.length (nI (vs.length + 1))))), (s4, .inl (dA 1, 2048, .inl (upd (upd fC k (fC k + 1)) vs.length (nI 0)))), (s5, .inl (dA 1, 2048, .inl (upd fN vs.length (-1)))), (s6, .inl (dA 1, 2048, .inl (upd fH vs.length 0))), (s7, .inl (dA 1, 32, .inl fO)), (th, .inr (0, [.ref b, .int (nI t.length)])), (b, .inl (dA 0, N, .inl f))]) 0 0 := by
  refine jv_M.of [(0, .ref o), (1, .int (nI s)), (2, .int (nI z)), (3, .int (-1))] (by decide) (Nat.le_of_ble_eq_true rfl) rfl ?_
  intro pR eR sR mR belowR methR cR AR C hr hin
  refine jv_aload_n C (jd D_Ol_add 0 rfl) rfl 0 rfl ?_
  refine jv_get C fl_Ol_42 0 rfl rfl (jd D_Ol_add 1 rfl) ?_
  refine jv_sipush (v := 2048) C (jd D_Ol_add 2 rfl) (by decide) ?_
  refine jv_icmp_lt (tgt := 11) C (jd D_Ol_add 3 rfl) (by decide) (fun c7 => ?_) (fun c7 => absurd (nI_lt hv (by decide)) c7)
  refine jv_aload_n C (jd D_Ol_add 5 rfl) rfl 0 rfl ?_
  refine jv_get C fl_Ol_46 0 rfl rfl (jd D_Ol_add 6 rfl) ?_
  refine jv_if_le (tgt := 38) C (jd D_Ol_add 7 rfl) (by decide) (fun c15 => absurd c15 (nI_nle (js_lpos _ _) (by have := hR.2.1; omega))) (fun c15 => ?_)
  refine jv_aload_n C (jd D_Ol_add 8 rfl) rfl 0 rfl ?_
  refine jv_get C fl_Ol_21 0 rfl rfl (jd D_Ol_add 9 rfl) ?_
  refine jv_aload_n C (jd D_Ol_add 10 rfl) rfl 0 rfl ?_
  refine jv_get C fl_Ol_30 0 rfl rfl (jd D_Ol_add 11 rfl) ?_
  refine jv_aload_n C (jd D_Ol_add 12 rfl) rfl 0 rfl ?_
  refine jv_get C fl_Ol_46 0 rfl rfl (jd D_Ol_add 13 rfl) ?_
  refine jv_iconst (v := 1) C (jd D_Ol_add 14 rfl) (by decide) ?_
  refine jv_isub C (jd D_Ol_add 15 rfl) ?_
  refine jv_ati (y := nI ob.length) (js_lenm1 _ _) ?_
  refine jv_iald C 7 rfl (vp_in_nI (by have := hR.2.1; rw [List.length_append] at this; exact this) (by decide)) (jd D_Ol_add 16 rfl) ?_
  refine jv_ati (y := nI k) (by rw [nI_clamp (by have := hR.2.1; rw [List.length_append] at this; have h9 : ob.length + 1 ≤ 32 := this; omega)]; exact hR.last.1) ?_
  refine jv_dup2 C (jd D_Ol_add 17 rfl) rfl rfl ?_
  refine jv_iald C 4 rfl (vp_in_nI (by have := hR.last.2; omega) (by decide)) (jd D_Ol_add 18 rfl) ?_
  refine jv_ati (y := fC k) (by rw [nI_clamp (by have := hR.last.2; omega)]) ?_
  refine jv_iconst (v := 1) C (jd D_Ol_add 19 rfl) (by decide) ?_
  refine jv_iadd C (jd D_Ol_add 20 rfl) ?_
  refine jv_iast C 4 [(o, .inr (3, [.ref s1, .ref s2, .ref s3, .ref s4, .ref s5, .ref s6, .ref s7, .ref th, .int (nI vs.length), .int (nI (ob ++ [k]).length), .int (nI deep)])), (s1, .inl (dA 1, 2048, .inl fS)), (s2, .inl (dA 1, 2048, .inl fE)), (s3, .inl (dA 1, 2048, .inl fF)), (s4, .inl (dA 1, 2048, .inl (upd fC (nI k).toNatClampNeg ((fC k) + 1)))), (s5, .inl (dA 1, 2048, .inl fN)), (s6, .inl (dA 1, 2048, .inl fH)), (s7, .inl (dA 1, 32, .inl fO)), (th, .inr (0, [.ref b, .int (nI t.length)])), (b, .inl (dA 0, N, .inl f))] rfl rfl (vp_in_nI (by have := hR.last.2; omega) (by decide)) (jd D_Ol_add 21 rfl) ?_
  refine jv_weq (ws' := [(o, .inr (3, [.ref s1, .ref s2, .ref s3, .ref s4, .ref s5, .ref s6, .ref s7, .ref th, .int (nI vs.length), .int (nI (ob ++ [k]).length), .int (nI deep)])), (s1, .inl (dA 1, 2048, .inl fS)), (s2, .inl (dA 1, 2048, .inl fE)), (s3, .inl (dA 1, 2048, .inl fF)), (s4, .inl (dA 1, 2048, .inl (upd fC k (fC k + 1)))), (s5, .inl (dA 1, 2048, .inl fN)), (s6, .inl (dA 1, 2048, .inl fH)), (s7, .inl (dA 1, 32, .inl fO)), (th, .inr (0, [.ref b, .int (nI t.length)])), (b, .inl (dA 0, N, .inl f))]) (by rw [nI_clamp (by have := hR.last.2; omega)]) ?_
  refine jv_aload_n C (jd D_Ol_add 22 rfl) rfl 0 rfl ?_
  refine jv_get C fl_Ol_11 0 rfl rfl (jd D_Ol_add 23 rfl) ?_
  refine jv_aload_n C (jd D_Ol_add 24 rfl) rfl 0 rfl ?_
  refine jv_get C fl_Ol_42 0 rfl rfl (jd D_Ol_add 25 rfl) ?_
  refine jv_iload_n C (jd D_Ol_add 26 rfl) rfl 1 rfl ?_
  refine jv_iast C 1 [(o, .inr (3, [.ref s1, .ref s2, .ref s3, .ref s4, .ref s5, .ref s6, .ref s7, .ref th, .int (nI vs.length), .int (nI (ob ++ [k]).length), .int (nI deep)])), (s1, .inl (dA 1, 2048, .inl (upd fS (nI vs.length).toNatClampNeg (nI s)))), (s2, .inl (dA 1, 2048, .inl fE)), (s3, .inl (dA 1, 2048, .inl fF)), (s4, .inl (dA 1, 2048, .inl (upd fC k (fC k + 1)))), (s5, .inl (dA 1, 2048, .inl fN)), (s6, .inl (dA 1, 2048, .inl fH)), (s7, .inl (dA 1, 32, .inl fO)), (th, .inr (0, [.ref b, .int (nI t.length)])), (b, .inl (dA 0, N, .inl f))] rfl rfl (vp_in_nI hv (by decide)) (jd D_Ol_add 27 rfl) ?_
  refine jv_weq (ws' := [(o, .inr (3, [.ref s1, .ref s2, .ref s3, .ref s4, .ref s5, .ref s6, .ref s7, .ref th, .int (nI vs.length), .int (nI (ob ++ [k]).length), .int (nI deep)])), (s1, .inl (dA 1, 2048, .inl (upd fS vs.length (nI s)))), (s2, .inl (dA 1, 2048, .inl fE)), (s3, .inl (dA 1, 2048, .inl fF)), (s4, .inl (dA 1, 2048, .inl (upd fC k (fC k + 1)))), (s5, .inl (dA 1, 2048, .inl fN)), (s6, .inl (dA 1, 2048, .inl fH)), (s7, .inl (dA 1, 32, .inl fO)), (th, .inr (0, [.ref b, .int (nI t.length)])), (b, .inl (dA 0, N, .inl f))]) (by rw [nI_clamp (by omega)]) ?_
  refine jv_aload_n C (jd D_Ol_add 28 rfl) rfl 0 rfl ?_
  refine jv_get C fl_Ol_15 0 rfl rfl (jd D_Ol_add 29 rfl) ?_
  refine jv_aload_n C (jd D_Ol_add 30 rfl) rfl 0 rfl ?_
  refine jv_get C fl_Ol_42 0 rfl rfl (jd D_Ol_add 31 rfl) ?_
  refine jv_iload_n C (jd D_Ol_add 32 rfl) rfl 2 rfl ?_
  refine jv_iast C 2 [(o, .inr (3, [.ref s1, .ref s2, .ref s3, .ref s4, .ref s5, .ref s6, .ref s7, .ref th, .int (nI vs.length), .int (nI (ob ++ [k]).length), .int (nI deep)])), (s1, .inl (dA 1, 2048, .inl (upd fS vs.length (nI s)))), (s2, .inl (dA 1, 2048, .inl (upd fE (nI vs.length).toNatClampNeg (nI z)))), (s3, .inl (dA 1, 2048, .inl fF)), (s4, .inl (dA 1, 2048, .inl (upd fC k (fC k + 1)))), (s5, .inl (dA 1, 2048, .inl fN)), (s6, .inl (dA 1, 2048, .inl fH)), (s7, .inl (dA 1, 32, .inl fO)), (th, .inr (0, [.ref b, .int (nI t.length)])), (b, .inl (dA 0, N, .inl f))] rfl rfl (vp_in_nI hv (by decide)) (jd D_Ol_add 33 rfl) ?_
  refine jv_weq (ws' := [(o, .inr (3, [.ref s1, .ref s2, .ref s3, .ref s4, .ref s5, .ref s6, .ref s7, .ref th, .int (nI vs.length), .int (nI (ob ++ [k]).length), .int (nI deep)])), (s1, .inl (dA 1, 2048, .inl (upd fS vs.length (nI s)))), (s2, .inl (dA 1, 2048, .inl (upd fE vs.length (nI z)))), (s3, .inl (dA 1, 2048, .inl fF)), (s4, .inl (dA 1, 2048, .inl (upd fC k (fC k + 1)))), (s5, .inl (dA 1, 2048, .inl fN)), (s6, .inl (dA 1, 2048, .inl fH)), (s7, .inl (dA 1, 32, .inl fO)), (th, .inr (0, [.ref b, .int (nI t.length)])), (b, .inl (dA 0, N, .inl f))]) (by rw [nI_clamp (by omega)]) ?_
  refine jv_aload_n C (jd D_Ol_add 34 rfl) rfl 0 rfl ?_
  refine jv_get C fl_Ol_18 0 rfl rfl (jd D_Ol_add 35 rfl) ?_
  refine jv_aload_n C (jd D_Ol_add 36 rfl) rfl 0 rfl ?_
  refine jv_get C fl_Ol_42 0 rfl rfl (jd D_Ol_add 37 rfl) ?_
  refine jv_aload_n C (jd D_Ol_add 38 rfl) rfl 0 rfl ?_
  refine jv_get C fl_Ol_42 0 rfl rfl (jd D_Ol_add 39 rfl) ?_
  refine jv_iconst (v := 1) C (jd D_Ol_add 40 rfl) (by decide) ?_
  refine jv_iadd C (jd D_Ol_add 41 rfl) ?_
  refine jv_ati (y := nI (vs.length + 1)) (nI_1 _) ?_
  refine jv_iast C 3 [(o, .inr (3, [.ref s1, .ref s2, .ref s3, .ref s4, .ref s5, .ref s6, .ref s7, .ref th, .int (nI vs.length), .int (nI (ob ++ [k]).length), .int (nI deep)])), (s1, .inl (dA 1, 2048, .inl (upd fS vs.length (nI s)))), (s2, .inl (dA 1, 2048, .inl (upd fE vs.length (nI z)))), (s3, .inl (dA 1, 2048, .inl (upd fF (nI vs.length).toNatClampNeg (nI (vs.length + 1))))), (s4, .inl (dA 1, 2048, .inl (upd fC k (fC k + 1)))), (s5, .inl (dA 1, 2048, .inl fN)), (s6, .inl (dA 1, 2048, .inl fH)), (s7, .inl (dA 1, 32, .inl fO)), (th, .inr (0, [.ref b, .int (nI t.length)])), (b, .inl (dA 0, N, .inl f))] rfl rfl (vp_in_nI hv (by decide)) (jd D_Ol_add 42 rfl) ?_
  refine jv_weq (ws' := [(o, .inr (3, [.ref s1, .ref s2, .ref s3, .ref s4, .ref s5, .ref s6, .ref s7, .ref th, .int (nI vs.length), .int (nI (ob ++ [k]).length), .int (nI deep)])), (s1, .inl (dA 1, 2048, .inl (upd fS vs.length (nI s)))), (s2, .inl (dA 1, 2048, .inl (upd fE vs.length (nI z)))), (s3, .inl (dA 1, 2048, .inl (upd fF vs.length (nI (vs.length + 1))))), (s4, .inl (dA 1, 2048, .inl (upd fC k (fC k + 1)))), (s5, .inl (dA 1, 2048, .inl fN)), (s6, .inl (dA 1, 2048, .inl fH)), (s7, .inl (dA 1, 32, .inl fO)), (th, .inr (0, [.ref b, .int (nI t.length)])), (b, .inl (dA 0, N, .inl f))]) (by rw [nI_clamp (by omega)]) ?_
  refine jv_aload_n C (jd D_Ol_add 43 rfl) rfl 0 rfl ?_
  refine jv_get C fl_Ol_21 0 rfl rfl (jd D_Ol_add 44 rfl) ?_
  refine jv_aload_n C (jd D_Ol_add 45 rfl) rfl 0 rfl ?_
  refine jv_get C fl_Ol_42 0 rfl rfl (jd D_Ol_add 46 rfl) ?_
  refine jv_iconst (v := 0) C (jd D_Ol_add 47 rfl) (by decide) ?_
  refine jv_iast C 4 [(o, .inr (3, [.ref s1, .ref s2, .ref s3, .ref s4, .ref s5, .ref s6, .ref s7, .ref th, .int (nI vs.length), .int (nI (ob ++ [k]).length), .int (nI deep)])), (s1, .inl (dA 1, 2048, .inl (upd fS vs.length (nI s)))), (s2, .inl (dA 1, 2048, .inl (upd fE vs.length (nI z)))), (s3, .inl (dA 1, 2048, .inl (upd fF vs.length (nI (vs.length + 1))))), (s4, .inl (dA 1, 2048, .inl (upd (upd fC k (fC k + 1)) (nI vs.length).toNatClampNeg 0))), (s5, .inl (dA 1, 2048, .inl fN)), (s6, .inl (dA 1, 2048, .inl fH)), (s7, .inl (dA 1, 32, .inl fO)), (th, .inr (0, [.ref b, .int (nI t.length)])), (b, .inl (dA 0, N, .inl f))] rfl rfl (vp_in_nI hv (by decide)) (jd D_Ol_add 48 rfl) ?_
  refine jv_weq (ws' := [(o, .inr (3, [.ref s1, .ref s2, .ref s3, .ref s4, .ref s5, .ref s6, .ref s7, .ref th, .int (nI vs.length), .int (nI (ob ++ [k]).length), .int (nI deep)])), (s1, .inl (dA 1, 2048, .inl (upd fS vs.length (nI s)))), (s2, .inl (dA 1, 2048, .inl (upd fE vs.length (nI z)))), (s3, .inl (dA 1, 2048, .inl (upd fF vs.length (nI (vs.length + 1))))), (s4, .inl (dA 1, 2048, .inl (upd (upd fC k (fC k + 1)) vs.length (nI 0)))), (s5, .inl (dA 1, 2048, .inl fN)), (s6, .inl (dA 1, 2048, .inl fH)), (s7, .inl (dA 1, 32, .inl fO)), (th, .inr (0, [.ref b, .int (nI t.length)])), (b, .inl (dA 0, N, .inl f))]) (by rw [nI_clamp (by omega)]; rfl) ?_
  refine jv_aload_n C (jd D_Ol_add 49 rfl) rfl 0 rfl ?_
  refine jv_get C fl_Ol_24 0 rfl rfl (jd D_Ol_add 50 rfl) ?_
  refine jv_aload_n C (jd D_Ol_add 51 rfl) rfl 0 rfl ?_
  refine jv_get C fl_Ol_42 0 rfl rfl (jd D_Ol_add 52 rfl) ?_
  refine jv_iload_n C (jd D_Ol_add 53 rfl) rfl 3 rfl ?_
  refine jv_iast C 5 [(o, .inr (3, [.ref s1, .ref s2, .ref s3, .ref s4, .ref s5, .ref s6, .ref s7, .ref th, .int (nI vs.length), .int (nI (ob ++ [k]).length), .int (nI deep)])), (s1, .inl (dA 1, 2048, .inl (upd fS vs.length (nI s)))), (s2, .inl (dA 1, 2048, .inl (upd fE vs.length (nI z)))), (s3, .inl (dA 1, 2048, .inl (upd fF vs.length (nI (vs.length + 1))))), (s4, .inl (dA 1, 2048, .inl (upd (upd fC k (fC k + 1)) vs.length (nI 0)))), (s5, .inl (dA 1, 2048, .inl (upd fN (nI vs.length).toNatClampNeg (-1)))), (s6, .inl (dA 1, 2048, .inl fH)), (s7, .inl (dA 1, 32, .inl fO)), (th, .inr (0, [.ref b, .int (nI t.length)])), (b, .inl (dA 0, N, .inl f))] rfl rfl (vp_in_nI hv (by decide)) (jd D_Ol_add 54 rfl) ?_
  refine jv_weq (ws' := [(o, .inr (3, [.ref s1, .ref s2, .ref s3, .ref s4, .ref s5, .ref s6, .ref s7, .ref th, .int (nI vs.length), .int (nI (ob ++ [k]).length), .int (nI deep)])), (s1, .inl (dA 1, 2048, .inl (upd fS vs.length (nI s)))), (s2, .inl (dA 1, 2048, .inl (upd fE vs.length (nI z)))), (s3, .inl (dA 1, 2048, .inl (upd fF vs.length (nI (vs.length + 1))))), (s4, .inl (dA 1, 2048, .inl (upd (upd fC k (fC k + 1)) vs.length (nI 0)))), (s5, .inl (dA 1, 2048, .inl (upd fN vs.length (-1)))), (s6, .inl (dA 1, 2048, .inl fH)), (s7, .inl (dA 1, 32, .inl fO)), (th, .inr (0, [.ref b, .int (nI t.length)])), (b, .inl (dA 0, N, .inl f))]) (by rw [nI_clamp (by omega)]) ?_
  refine jv_aload_n C (jd D_Ol_add 55 rfl) rfl 0 rfl ?_
  refine jv_get C fl_Ol_27 0 rfl rfl (jd D_Ol_add 56 rfl) ?_
  refine jv_aload_n C (jd D_Ol_add 57 rfl) rfl 0 rfl ?_
  refine jv_get C fl_Ol_42 0 rfl rfl (jd D_Ol_add 58 rfl) ?_
  refine jv_iload_n C (jd D_Ol_add 59 rfl) rfl 3 rfl ?_
  refine jv_iconst (v := -1) C (jd D_Ol_add 60 rfl) (by decide) ?_
  refine jv_icmp_ne (tgt := 110) C (jd D_Ol_add 61 rfl) (by decide) (fun c103 => absurd c103 (fun y => y rfl)) (fun c103 => ?_)
  refine jv_iconst (v := 0) C (jd D_Ol_add 62 rfl) (by decide) ?_
  refine jv_goto (tgt := 121) C (jd D_Ol_add 63 rfl) (by decide) ?_
  refine jv_iast C 6 [(o, .inr (3, [.ref s1, .ref s2, .ref s3, .ref s4, .ref s5, .ref s6, .ref s7, .ref th, .int (nI vs.length), .int (nI (ob ++ [k]).length), .int (nI deep)])), (s1, .inl (dA 1, 2048, .inl (upd fS vs.length (nI s)))), (s2, .inl (dA 1, 2048, .inl (upd fE vs.length (nI z)))), (s3, .inl (dA 1, 2048, .inl (upd fF vs.length (nI (vs.length + 1))))), (s4, .inl (dA 1, 2048, .inl (upd (upd fC k (fC k + 1)) vs.length (nI 0)))), (s5, .inl (dA 1, 2048, .inl (upd fN vs.length (-1)))), (s6, .inl (dA 1, 2048, .inl (upd fH (nI vs.length).toNatClampNeg 0))), (s7, .inl (dA 1, 32, .inl fO)), (th, .inr (0, [.ref b, .int (nI t.length)])), (b, .inl (dA 0, N, .inl f))] rfl rfl (vp_in_nI hv (by decide)) (jd D_Ol_add 71 rfl) ?_
  refine jv_weq (ws' := [(o, .inr (3, [.ref s1, .ref s2, .ref s3, .ref s4, .ref s5, .ref s6, .ref s7, .ref th, .int (nI vs.length), .int (nI (ob ++ [k]).length), .int (nI deep)])), (s1, .inl (dA 1, 2048, .inl (upd fS vs.length (nI s)))), (s2, .inl (dA 1, 2048, .inl (upd fE vs.length (nI z)))), (s3, .inl (dA 1, 2048, .inl (upd fF vs.length (nI (vs.length + 1))))), (s4, .inl (dA 1, 2048, .inl (upd (upd fC k (fC k + 1)) vs.length (nI 0)))), (s5, .inl (dA 1, 2048, .inl (upd fN vs.length (-1)))), (s6, .inl (dA 1, 2048, .inl (upd fH vs.length 0))), (s7, .inl (dA 1, 32, .inl fO)), (th, .inr (0, [.ref b, .int (nI t.length)])), (b, .inl (dA 0, N, .inl f))]) (by rw [nI_clamp (by omega)]) ?_
  refine jv_aload_n C (jd D_Ol_add 72 rfl) rfl 0 rfl ?_
  refine jv_dup C (jd D_Ol_add 73 rfl) rfl ?_
  refine jv_get C fl_Ol_42 0 rfl rfl (jd D_Ol_add 74 rfl) ?_
  refine jv_iconst (v := 1) C (jd D_Ol_add 75 rfl) (by decide) ?_
  refine jv_iadd C (jd D_Ol_add 76 rfl) ?_
  refine jv_ati (y := nI (js_oadd t vs (ob ++ [k]) s z none).length) (by rw [js_oadd, if_neg (by omega), List.length_append, js_par_len]; exact nI_1 _) ?_
  refine jv_put C fl_Ol_42 Y_Ol rfl 0 [(o, .inr (3, [.ref s1, .ref s2, .ref s3, .ref s4, .ref s5, .ref s6, .ref s7, .ref th, .int (nI (js_oadd t vs (ob ++ [k]) s z none).length), .int (nI (ob ++ [k]).length), .int (nI deep)])), (s1, .inl (dA 1, 2048, .inl (upd fS vs.length (nI s)))), (s2, .inl (dA 1, 2048, .inl (upd fE vs.length (nI z)))), (s3, .inl (dA 1, 2048, .inl (upd fF vs.length (nI (vs.length + 1))))), (s4, .inl (dA 1, 2048, .inl (upd (upd fC k (fC k + 1)) vs.length (nI 0)))), (s5, .inl (dA 1, 2048, .inl (upd fN vs.length (-1)))), (s6, .inl (dA 1, 2048, .inl (upd fH vs.length 0))), (s7, .inl (dA 1, 32, .inl fO)), (th, .inr (0, [.ref b, .int (nI t.length)])), (b, .inl (dA 0, N, .inl f))] rfl rfl rfl (Nat.le_of_ble_eq_true rfl) rfl rfl (jd D_Ol_add 77 rfl) ?_
  exact jv_vret C hr () (by rw [js_oadd, if_neg (by omega), js_par_app]; exact js_OL_pushp (hR.inc hR.last.2) (by rw [List.length_modify]; exact hv) (by rw [List.length_modify]) _ _ _ _ _ _) [0, 1, 2, 3, 4, 5, 6, 7, 8, 9] rfl rfl (Nat.le_of_ble_eq_true rfl) (Nat.le_of_ble_eq_true rfl) (jd D_Ol_add 78 rfl)

set_option maxHeartbeats 4000000 in
set_option maxRecDepth 100000 in
/-- Outline.add -/
theorem c_Ol_add_inN {l : Launch} {D : va_G} {dA : Nat → ClassId} {zz : (Nat → Nat) × (Nat → Nat)} (o s1 s2 s3 s4 s5 s6 s7 th b N : Nat) (fS fE fF fC fN fH fO f : Nat → Int32) (t : List Nat) (vs : List js_E) (deep s z : Nat) (ob : List Nat) (k : Nat) (a : Nat) (hl : t.length ≤ N) (hN : N < 2 ^ 29) (ht : js_tx f t) (hR : js_OL vs (ob ++ [k]) fS fE fF fC fN fH fO) (hv : vs.length < 2048) (ha : a + 1 ≤ s) (hs : s ≤ t.length) : jv_M l D dA zz y_Ol_add b_Ol_add 4 none 4 [.ref o, .int (nI s), .int (nI z), .int (nI a)] [(o, .inr (3, [.ref s1, .ref s2, .ref s3, .ref s4, .ref s5, .ref s6, .ref s7, .ref th, .int (nI vs.length), .int (nI (ob ++ [k]).length), .int (nI deep)])), (s1, .inl (dA 1, 2048, .inl fS)), (s2, .inl (dA 1, 2048, .inl fE)), (s3, .inl (dA 1, 2048, .inl fF)), (s4, .inl (dA 1, 2048, .inl fC)), (s5, .inl (dA 1, 2048, .inl fN)), (s6, .inl (dA 1, 2048, .inl fH)), (s7, .inl (dA 1, 32, .inl fO)), (th, .inr (0, [.ref b, .int (nI t.length)])), (b, .inl (dA 0, N, .inl f))] (jv_pv fun (_ : Unit) => js_OL (js_oadd t vs (ob ++ [k]) s z (some a)) (ob ++ [k]) (upd fS vs.length (nI s)) (upd fE vs.length (nI z)) (upd fF vs.length (nI (vs.length + 1))) (upd (upd fC k (fC k + 1)) vs.length (nI 0)) (upd fN vs.length (nI a)) (upd fH vs.length (js_hash t a (s - 1 - a))) fO) (fun _ => [(o, .inr (3, [.ref s1, .ref s2, .ref s3, .ref s4, .ref s5, .ref s6, .ref s7, .ref th, .int (nI (js_oadd t vs (ob ++ [k]) s z (some a)).length), .int (nI (ob ++ [k]).length), .int (nI deep)])), (s1, .inl (dA 1, 2048, .inl (upd fS vs.length (nI s)))), (s2, .inl (dA 1, 2048, .inl (upd fE vs.length (nI z)))), (s3, .inl (dA 1, 2048, .inl (upd fF vs.length (nI (vs.length + 1))))), (s4, .inl (dA 1, 2048, .inl (upd (upd fC k (fC k + 1)) vs.length (nI 0)))), (s5, .inl (dA 1, 2048, .inl (upd fN vs.length (nI a)))), (s6, .inl (dA 1, 2048, .inl (upd fH vs.length (js_hash t a (s - 1 - a))))), (s7, .inl (dA 1, 32, .inl fO)), (th, .inr (0, [.ref b, .int (nI t.length)])), (b, .inl (dA 0, N, .inl f))]) 0 0 := by
  refine jv_M.of [(0, .ref o), (1, .int (nI s)), (2, .int (nI z)), (3, .int (nI a))] (by decide) (Nat.le_of_ble_eq_true rfl) rfl ?_
  intro pR eR sR mR belowR methR cR AR C hr hin
  refine jv_aload_n C (jd D_Ol_add 0 rfl) rfl 0 rfl ?_
  refine jv_get C fl_Ol_42 0 rfl rfl (jd D_Ol_add 1 rfl) ?_
  refine jv_sipush (v := 2048) C (jd D_Ol_add 2 rfl) (by decide) ?_
  refine jv_icmp_lt (tgt := 11) C (jd D_Ol_add 3 rfl) (by decide) (fun c7 => ?_) (fun c7 => absurd (nI_lt hv (by decide)) c7)
  refine jv_aload_n C (jd D_Ol_add 5 rfl) rfl 0 rfl ?_
  refine jv_get C fl_Ol_46 0 rfl rfl (jd D_Ol_add 6 rfl) ?_
  refine jv_if_le (tgt := 38) C (jd D_Ol_add 7 rfl) (by decide) (fun c15 => absurd c15 (nI_nle (js_lpos _ _) (by have := hR.2.1; omega))) (fun c15 => ?_)
  refine jv_aload_n C (jd D_Ol_add 8 rfl) rfl 0 rfl ?_
  refine jv_get C fl_Ol_21 0 rfl rfl (jd D_Ol_add 9 rfl) ?_
  refine jv_aload_n C (jd D_Ol_add 10 rfl) rfl 0 rfl ?_
  refine jv_get C fl_Ol_30 0 rfl rfl (jd D_Ol_add 11 rfl) ?_
  refine jv_aload_n C (jd D_Ol_add 12 rfl) rfl 0 rfl ?_
  refine jv_get C fl_Ol_46 0 rfl rfl (jd D_Ol_add 13 rfl) ?_
  refine jv_iconst (v := 1) C (jd D_Ol_add 14 rfl) (by decide) ?_
  refine jv_isub C (jd D_Ol_add 15 rfl) ?_
  refine jv_ati (y := nI ob.length) (js_lenm1 _ _) ?_
  refine jv_iald C 7 rfl (vp_in_nI (by have := hR.2.1; rw [List.length_append] at this; exact this) (by decide)) (jd D_Ol_add 16 rfl) ?_
  refine jv_ati (y := nI k) (by rw [nI_clamp (by have := hR.2.1; rw [List.length_append] at this; have h9 : ob.length + 1 ≤ 32 := this; omega)]; exact hR.last.1) ?_
  refine jv_dup2 C (jd D_Ol_add 17 rfl) rfl rfl ?_
  refine jv_iald C 4 rfl (vp_in_nI (by have := hR.last.2; omega) (by decide)) (jd D_Ol_add 18 rfl) ?_
  refine jv_ati (y := fC k) (by rw [nI_clamp (by have := hR.last.2; omega)]) ?_
  refine jv_iconst (v := 1) C (jd D_Ol_add 19 rfl) (by decide) ?_
  refine jv_iadd C (jd D_Ol_add 20 rfl) ?_
  refine jv_iast C 4 [(o, .inr (3, [.ref s1, .ref s2, .ref s3, .ref s4, .ref s5, .ref s6, .ref s7, .ref th, .int (nI vs.length), .int (nI (ob ++ [k]).length), .int (nI deep)])), (s1, .inl (dA 1, 2048, .inl fS)), (s2, .inl (dA 1, 2048, .inl fE)), (s3, .inl (dA 1, 2048, .inl fF)), (s4, .inl (dA 1, 2048, .inl (upd fC (nI k).toNatClampNeg ((fC k) + 1)))), (s5, .inl (dA 1, 2048, .inl fN)), (s6, .inl (dA 1, 2048, .inl fH)), (s7, .inl (dA 1, 32, .inl fO)), (th, .inr (0, [.ref b, .int (nI t.length)])), (b, .inl (dA 0, N, .inl f))] rfl rfl (vp_in_nI (by have := hR.last.2; omega) (by decide)) (jd D_Ol_add 21 rfl) ?_
  refine jv_weq (ws' := [(o, .inr (3, [.ref s1, .ref s2, .ref s3, .ref s4, .ref s5, .ref s6, .ref s7, .ref th, .int (nI vs.length), .int (nI (ob ++ [k]).length), .int (nI deep)])), (s1, .inl (dA 1, 2048, .inl fS)), (s2, .inl (dA 1, 2048, .inl fE)), (s3, .inl (dA 1, 2048, .inl fF)), (s4, .inl (dA 1, 2048, .inl (upd fC k (fC k + 1)))), (s5, .inl (dA 1, 2048, .inl fN)), (s6, .inl (dA 1, 2048, .inl fH)), (s7, .inl (dA 1, 32, .inl fO)), (th, .inr (0, [.ref b, .int (nI t.length)])), (b, .inl (dA 0, N, .inl f))]) (by rw [nI_clamp (by have := hR.last.2; omega)]) ?_
  refine jv_aload_n C (jd D_Ol_add 22 rfl) rfl 0 rfl ?_
  refine jv_get C fl_Ol_11 0 rfl rfl (jd D_Ol_add 23 rfl) ?_
  refine jv_aload_n C (jd D_Ol_add 24 rfl) rfl 0 rfl ?_
  refine jv_get C fl_Ol_42 0 rfl rfl (jd D_Ol_add 25 rfl) ?_
  refine jv_iload_n C (jd D_Ol_add 26 rfl) rfl 1 rfl ?_
  refine jv_iast C 1 [(o, .inr (3, [.ref s1, .ref s2, .ref s3, .ref s4, .ref s5, .ref s6, .ref s7, .ref th, .int (nI vs.length), .int (nI (ob ++ [k]).length), .int (nI deep)])), (s1, .inl (dA 1, 2048, .inl (upd fS (nI vs.length).toNatClampNeg (nI s)))), (s2, .inl (dA 1, 2048, .inl fE)), (s3, .inl (dA 1, 2048, .inl fF)), (s4, .inl (dA 1, 2048, .inl (upd fC k (fC k + 1)))), (s5, .inl (dA 1, 2048, .inl fN)), (s6, .inl (dA 1, 2048, .inl fH)), (s7, .inl (dA 1, 32, .inl fO)), (th, .inr (0, [.ref b, .int (nI t.length)])), (b, .inl (dA 0, N, .inl f))] rfl rfl (vp_in_nI hv (by decide)) (jd D_Ol_add 27 rfl) ?_
  refine jv_weq (ws' := [(o, .inr (3, [.ref s1, .ref s2, .ref s3, .ref s4, .ref s5, .ref s6, .ref s7, .ref th, .int (nI vs.length), .int (nI (ob ++ [k]).length), .int (nI deep)])), (s1, .inl (dA 1, 2048, .inl (upd fS vs.length (nI s)))), (s2, .inl (dA 1, 2048, .inl fE)), (s3, .inl (dA 1, 2048, .inl fF)), (s4, .inl (dA 1, 2048, .inl (upd fC k (fC k + 1)))), (s5, .inl (dA 1, 2048, .inl fN)), (s6, .inl (dA 1, 2048, .inl fH)), (s7, .inl (dA 1, 32, .inl fO)), (th, .inr (0, [.ref b, .int (nI t.length)])), (b, .inl (dA 0, N, .inl f))]) (by rw [nI_clamp (by omega)]) ?_
  refine jv_aload_n C (jd D_Ol_add 28 rfl) rfl 0 rfl ?_
  refine jv_get C fl_Ol_15 0 rfl rfl (jd D_Ol_add 29 rfl) ?_
  refine jv_aload_n C (jd D_Ol_add 30 rfl) rfl 0 rfl ?_
  refine jv_get C fl_Ol_42 0 rfl rfl (jd D_Ol_add 31 rfl) ?_
  refine jv_iload_n C (jd D_Ol_add 32 rfl) rfl 2 rfl ?_
  refine jv_iast C 2 [(o, .inr (3, [.ref s1, .ref s2, .ref s3, .ref s4, .ref s5, .ref s6, .ref s7, .ref th, .int (nI vs.length), .int (nI (ob ++ [k]).length), .int (nI deep)])), (s1, .inl (dA 1, 2048, .inl (upd fS vs.length (nI s)))), (s2, .inl (dA 1, 2048, .inl (upd fE (nI vs.length).toNatClampNeg (nI z)))), (s3, .inl (dA 1, 2048, .inl fF)), (s4, .inl (dA 1, 2048, .inl (upd fC k (fC k + 1)))), (s5, .inl (dA 1, 2048, .inl fN)), (s6, .inl (dA 1, 2048, .inl fH)), (s7, .inl (dA 1, 32, .inl fO)), (th, .inr (0, [.ref b, .int (nI t.length)])), (b, .inl (dA 0, N, .inl f))] rfl rfl (vp_in_nI hv (by decide)) (jd D_Ol_add 33 rfl) ?_
  refine jv_weq (ws' := [(o, .inr (3, [.ref s1, .ref s2, .ref s3, .ref s4, .ref s5, .ref s6, .ref s7, .ref th, .int (nI vs.length), .int (nI (ob ++ [k]).length), .int (nI deep)])), (s1, .inl (dA 1, 2048, .inl (upd fS vs.length (nI s)))), (s2, .inl (dA 1, 2048, .inl (upd fE vs.length (nI z)))), (s3, .inl (dA 1, 2048, .inl fF)), (s4, .inl (dA 1, 2048, .inl (upd fC k (fC k + 1)))), (s5, .inl (dA 1, 2048, .inl fN)), (s6, .inl (dA 1, 2048, .inl fH)), (s7, .inl (dA 1, 32, .inl fO)), (th, .inr (0, [.ref b, .int (nI t.length)])), (b, .inl (dA 0, N, .inl f))]) (by rw [nI_clamp (by omega)]) ?_
  refine jv_aload_n C (jd D_Ol_add 34 rfl) rfl 0 rfl ?_
  refine jv_get C fl_Ol_18 0 rfl rfl (jd D_Ol_add 35 rfl) ?_
  refine jv_aload_n C (jd D_Ol_add 36 rfl) rfl 0 rfl ?_
  refine jv_get C fl_Ol_42 0 rfl rfl (jd D_Ol_add 37 rfl) ?_
  refine jv_aload_n C (jd D_Ol_add 38 rfl) rfl 0 rfl ?_
  refine jv_get C fl_Ol_42 0 rfl rfl (jd D_Ol_add 39 rfl) ?_
  refine jv_iconst (v := 1) C (jd D_Ol_add 40 rfl) (by decide) ?_
  refine jv_iadd C (jd D_Ol_add 41 rfl) ?_
  refine jv_ati (y := nI (vs.length + 1)) (nI_1 _) ?_
  refine jv_iast C 3 [(o, .inr (3, [.ref s1, .ref s2, .ref s3, .ref s4, .ref s5, .ref s6, .ref s7, .ref th, .int (nI vs.length), .int (nI (ob ++ [k]).length), .int (nI deep)])), (s1, .inl (dA 1, 2048, .inl (upd fS vs.length (nI s)))), (s2, .inl (dA 1, 2048, .inl (upd fE vs.length (nI z)))), (s3, .inl (dA 1, 2048, .inl (upd fF (nI vs.length).toNatClampNeg (nI (vs.length + 1))))), (s4, .inl (dA 1, 2048, .inl (upd fC k (fC k + 1)))), (s5, .inl (dA 1, 2048, .inl fN)), (s6, .inl (dA 1, 2048, .inl fH)), (s7, .inl (dA 1, 32, .inl fO)), (th, .inr (0, [.ref b, .int (nI t.length)])), (b, .inl (dA 0, N, .inl f))] rfl rfl (vp_in_nI hv (by decide)) (jd D_Ol_add 42 rfl) ?_
  refine jv_weq (ws' := [(o, .inr (3, [.ref s1, .ref s2, .ref s3, .ref s4, .ref s5, .ref s6, .ref s7, .ref th, .int (nI vs.length), .int (nI (ob ++ [k]).length), .int (nI deep)])), (s1, .inl (dA 1, 2048, .inl (upd fS vs.length (nI s)))), (s2, .inl (dA 1, 2048, .inl (upd fE vs.length (nI z)))), (s3, .inl (dA 1, 2048, .inl (upd fF vs.length (nI (vs.length + 1))))), (s4, .inl (dA 1, 2048, .inl (upd fC k (fC k + 1)))), (s5, .inl (dA 1, 2048, .inl fN)), (s6, .inl (dA 1, 2048, .inl fH)), (s7, .inl (dA 1, 32, .inl fO)), (th, .inr (0, [.ref b, .int (nI t.length)])), (b, .inl (dA 0, N, .inl f))]) (by rw [nI_clamp (by omega)]) ?_
  refine jv_aload_n C (jd D_Ol_add 43 rfl) rfl 0 rfl ?_
  refine jv_get C fl_Ol_21 0 rfl rfl (jd D_Ol_add 44 rfl) ?_
  refine jv_aload_n C (jd D_Ol_add 45 rfl) rfl 0 rfl ?_
  refine jv_get C fl_Ol_42 0 rfl rfl (jd D_Ol_add 46 rfl) ?_
  refine jv_iconst (v := 0) C (jd D_Ol_add 47 rfl) (by decide) ?_
  refine jv_iast C 4 [(o, .inr (3, [.ref s1, .ref s2, .ref s3, .ref s4, .ref s5, .ref s6, .ref s7, .ref th, .int (nI vs.length), .int (nI (ob ++ [k]).length), .int (nI deep)])), (s1, .inl (dA 1, 2048, .inl (upd fS vs.length (nI s)))), (s2, .inl (dA 1, 2048, .inl (upd fE vs.length (nI z)))), (s3, .inl (dA 1, 2048, .inl (upd fF vs.length (nI (vs.length + 1))))), (s4, .inl (dA 1, 2048, .inl (upd (upd fC k (fC k + 1)) (nI vs.length).toNatClampNeg 0))), (s5, .inl (dA 1, 2048, .inl fN)), (s6, .inl (dA 1, 2048, .inl fH)), (s7, .inl (dA 1, 32, .inl fO)), (th, .inr (0, [.ref b, .int (nI t.length)])), (b, .inl (dA 0, N, .inl f))] rfl rfl (vp_in_nI hv (by decide)) (jd D_Ol_add 48 rfl) ?_
  refine jv_weq (ws' := [(o, .inr (3, [.ref s1, .ref s2, .ref s3, .ref s4, .ref s5, .ref s6, .ref s7, .ref th, .int (nI vs.length), .int (nI (ob ++ [k]).length), .int (nI deep)])), (s1, .inl (dA 1, 2048, .inl (upd fS vs.length (nI s)))), (s2, .inl (dA 1, 2048, .inl (upd fE vs.length (nI z)))), (s3, .inl (dA 1, 2048, .inl (upd fF vs.length (nI (vs.length + 1))))), (s4, .inl (dA 1, 2048, .inl (upd (upd fC k (fC k + 1)) vs.length (nI 0)))), (s5, .inl (dA 1, 2048, .inl fN)), (s6, .inl (dA 1, 2048, .inl fH)), (s7, .inl (dA 1, 32, .inl fO)), (th, .inr (0, [.ref b, .int (nI t.length)])), (b, .inl (dA 0, N, .inl f))]) (by rw [nI_clamp (by omega)]; rfl) ?_
  refine jv_aload_n C (jd D_Ol_add 49 rfl) rfl 0 rfl ?_
  refine jv_get C fl_Ol_24 0 rfl rfl (jd D_Ol_add 50 rfl) ?_
  refine jv_aload_n C (jd D_Ol_add 51 rfl) rfl 0 rfl ?_
  refine jv_get C fl_Ol_42 0 rfl rfl (jd D_Ol_add 52 rfl) ?_
  refine jv_iload_n C (jd D_Ol_add 53 rfl) rfl 3 rfl ?_
  refine jv_iast C 5 [(o, .inr (3, [.ref s1, .ref s2, .ref s3, .ref s4, .ref s5, .ref s6, .ref s7, .ref th, .int (nI vs.length), .int (nI (ob ++ [k]).length), .int (nI deep)])), (s1, .inl (dA 1, 2048, .inl (upd fS vs.length (nI s)))), (s2, .inl (dA 1, 2048, .inl (upd fE vs.length (nI z)))), (s3, .inl (dA 1, 2048, .inl (upd fF vs.length (nI (vs.length + 1))))), (s4, .inl (dA 1, 2048, .inl (upd (upd fC k (fC k + 1)) vs.length (nI 0)))), (s5, .inl (dA 1, 2048, .inl (upd fN (nI vs.length).toNatClampNeg (nI a)))), (s6, .inl (dA 1, 2048, .inl fH)), (s7, .inl (dA 1, 32, .inl fO)), (th, .inr (0, [.ref b, .int (nI t.length)])), (b, .inl (dA 0, N, .inl f))] rfl rfl (vp_in_nI hv (by decide)) (jd D_Ol_add 54 rfl) ?_
  refine jv_weq (ws' := [(o, .inr (3, [.ref s1, .ref s2, .ref s3, .ref s4, .ref s5, .ref s6, .ref s7, .ref th, .int (nI vs.length), .int (nI (ob ++ [k]).length), .int (nI deep)])), (s1, .inl (dA 1, 2048, .inl (upd fS vs.length (nI s)))), (s2, .inl (dA 1, 2048, .inl (upd fE vs.length (nI z)))), (s3, .inl (dA 1, 2048, .inl (upd fF vs.length (nI (vs.length + 1))))), (s4, .inl (dA 1, 2048, .inl (upd (upd fC k (fC k + 1)) vs.length (nI 0)))), (s5, .inl (dA 1, 2048, .inl (upd fN vs.length (nI a)))), (s6, .inl (dA 1, 2048, .inl fH)), (s7, .inl (dA 1, 32, .inl fO)), (th, .inr (0, [.ref b, .int (nI t.length)])), (b, .inl (dA 0, N, .inl f))]) (by rw [nI_clamp (by omega)]) ?_
  refine jv_aload_n C (jd D_Ol_add 55 rfl) rfl 0 rfl ?_
  refine jv_get C fl_Ol_27 0 rfl rfl (jd D_Ol_add 56 rfl) ?_
  refine jv_aload_n C (jd D_Ol_add 57 rfl) rfl 0 rfl ?_
  refine jv_get C fl_Ol_42 0 rfl rfl (jd D_Ol_add 58 rfl) ?_
  refine jv_iload_n C (jd D_Ol_add 59 rfl) rfl 3 rfl ?_
  refine jv_iconst (v := -1) C (jd D_Ol_add 60 rfl) (by decide) ?_
  refine jv_icmp_ne (tgt := 110) C (jd D_Ol_add 61 rfl) (by decide) (fun c103 => ?_) (fun c103 => absurd c103 (js_nm1 (by omega)))
  refine jv_aload_n C (jd D_Ol_add 64 rfl) rfl 0 rfl ?_
  refine jv_get C fl_Ol_38 0 rfl rfl (jd D_Ol_add 65 rfl) ?_
  refine jv_iload_n C (jd D_Ol_add 66 rfl) rfl 3 rfl ?_
  refine jv_iload_n C (jd D_Ol_add 67 rfl) rfl 1 rfl ?_
  refine jv_iconst (v := 1) C (jd D_Ol_add 68 rfl) (by decide) ?_
  refine jv_isub C (jd D_Ol_add 69 rfl) ?_
  refine jv_ati (y := nI (s - 1)) (by rw [show (1 : Int32) = nI 1 from rfl]; exact pk_sub (by omega)) ?_
  refine jv_callV (wr := [(o, .inr (3, [.ref s1, .ref s2, .ref s3, .ref s4, .ref s5, .ref s6, .ref s7, .ref th, .int (nI vs.length), .int (nI (ob ++ [k]).length), .int (nI deep)])), (s1, .inl (dA 1, 2048, .inl (upd fS vs.length (nI s)))), (s2, .inl (dA 1, 2048, .inl (upd fE vs.length (nI z)))), (s3, .inl (dA 1, 2048, .inl (upd fF vs.length (nI (vs.length + 1))))), (s4, .inl (dA 1, 2048, .inl (upd (upd fC k (fC k + 1)) vs.length (nI 0)))), (s5, .inl (dA 1, 2048, .inl (upd fN vs.length (nI a)))), (s6, .inl (dA 1, 2048, .inl fH)), (s7, .inl (dA 1, 32, .inl fO))]) C cl_Ol_99 (c_Tx_hash th b N f t a (s - 1) hl (by omega) ht (by omega) (by omega)) [8, 9] [0, 1, 2, 3, 4, 5, 6, 7] rfl rfl rfl rfl (by decide) rfl rfl 0 rfl ⟨Nat.le_of_ble_eq_true rfl, Nat.le_of_ble_eq_true rfl⟩ ⟨Nat.le_of_ble_eq_true rfl, Nat.le_of_ble_eq_true rfl⟩ rfl rfl (Nat.le_of_ble_eq_true rfl) (jd D_Ol_add 70 rfl) (fun v1 _ k1 => ?_)
  obtain ⟨r1, rfl, k1⟩ := k1
  refine jv_fix [0, 1, 2, 3, 4, 5, 6, 7, 8, 9] [(o, .inr (3, [.ref s1, .ref s2, .ref s3, .ref s4, .ref s5, .ref s6, .ref s7, .ref th, .int (nI vs.length), .int (nI (ob ++ [k]).length), .int (nI deep)])), (s1, .inl (dA 1, 2048, .inl (upd fS vs.length (nI s)))), (s2, .inl (dA 1, 2048, .inl (upd fE vs.length (nI z)))), (s3, .inl (dA 1, 2048, .inl (upd fF vs.length (nI (vs.length + 1))))), (s4, .inl (dA 1, 2048, .inl (upd (upd fC k (fC k + 1)) vs.length (nI 0)))), (s5, .inl (dA 1, 2048, .inl (upd fN vs.length (nI a)))), (s6, .inl (dA 1, 2048, .inl fH)), (s7, .inl (dA 1, 32, .inl fO)), (th, .inr (0, [.ref b, .int (nI t.length)])), (b, .inl (dA 0, N, .inl f))] [.int r1, .int (nI vs.length), .ref s6] 0 0 rfl rfl rfl (Nat.le_refl _) (Nat.le_refl _) ?_
  subst k1
  refine jv_iast C 6 [(o, .inr (3, [.ref s1, .ref s2, .ref s3, .ref s4, .ref s5, .ref s6, .ref s7, .ref th, .int (nI vs.length), .int (nI (ob ++ [k]).length), .int (nI deep)])), (s1, .inl (dA 1, 2048, .inl (upd fS vs.length (nI s)))), (s2, .inl (dA 1, 2048, .inl (upd fE vs.length (nI z)))), (s3, .inl (dA 1, 2048, .inl (upd fF vs.length (nI (vs.length + 1))))), (s4, .inl (dA 1, 2048, .inl (upd (upd fC k (fC k + 1)) vs.length (nI 0)))), (s5, .inl (dA 1, 2048, .inl (upd fN vs.length (nI a)))), (s6, .inl (dA 1, 2048, .inl (upd fH (nI vs.length).toNatClampNeg (js_hash t a (s - 1 - a))))), (s7, .inl (dA 1, 32, .inl fO)), (th, .inr (0, [.ref b, .int (nI t.length)])), (b, .inl (dA 0, N, .inl f))] rfl rfl (vp_in_nI hv (by decide)) (jd D_Ol_add 71 rfl) ?_
  refine jv_weq (ws' := [(o, .inr (3, [.ref s1, .ref s2, .ref s3, .ref s4, .ref s5, .ref s6, .ref s7, .ref th, .int (nI vs.length), .int (nI (ob ++ [k]).length), .int (nI deep)])), (s1, .inl (dA 1, 2048, .inl (upd fS vs.length (nI s)))), (s2, .inl (dA 1, 2048, .inl (upd fE vs.length (nI z)))), (s3, .inl (dA 1, 2048, .inl (upd fF vs.length (nI (vs.length + 1))))), (s4, .inl (dA 1, 2048, .inl (upd (upd fC k (fC k + 1)) vs.length (nI 0)))), (s5, .inl (dA 1, 2048, .inl (upd fN vs.length (nI a)))), (s6, .inl (dA 1, 2048, .inl (upd fH vs.length (js_hash t a (s - 1 - a))))), (s7, .inl (dA 1, 32, .inl fO)), (th, .inr (0, [.ref b, .int (nI t.length)])), (b, .inl (dA 0, N, .inl f))]) (by rw [nI_clamp (by omega)]) ?_
  refine jv_aload_n C (jd D_Ol_add 72 rfl) rfl 0 rfl ?_
  refine jv_dup C (jd D_Ol_add 73 rfl) rfl ?_
  refine jv_get C fl_Ol_42 0 rfl rfl (jd D_Ol_add 74 rfl) ?_
  refine jv_iconst (v := 1) C (jd D_Ol_add 75 rfl) (by decide) ?_
  refine jv_iadd C (jd D_Ol_add 76 rfl) ?_
  refine jv_ati (y := nI (js_oadd t vs (ob ++ [k]) s z (some a)).length) (by rw [js_oadd, if_neg (by omega), List.length_append, js_par_len]; exact nI_1 _) ?_
  refine jv_put C fl_Ol_42 Y_Ol rfl 0 [(o, .inr (3, [.ref s1, .ref s2, .ref s3, .ref s4, .ref s5, .ref s6, .ref s7, .ref th, .int (nI (js_oadd t vs (ob ++ [k]) s z (some a)).length), .int (nI (ob ++ [k]).length), .int (nI deep)])), (s1, .inl (dA 1, 2048, .inl (upd fS vs.length (nI s)))), (s2, .inl (dA 1, 2048, .inl (upd fE vs.length (nI z)))), (s3, .inl (dA 1, 2048, .inl (upd fF vs.length (nI (vs.length + 1))))), (s4, .inl (dA 1, 2048, .inl (upd (upd fC k (fC k + 1)) vs.length (nI 0)))), (s5, .inl (dA 1, 2048, .inl (upd fN vs.length (nI a)))), (s6, .inl (dA 1, 2048, .inl (upd fH vs.length (js_hash t a (s - 1 - a))))), (s7, .inl (dA 1, 32, .inl fO)), (th, .inr (0, [.ref b, .int (nI t.length)])), (b, .inl (dA 0, N, .inl f))] rfl rfl rfl (Nat.le_of_ble_eq_true rfl) rfl rfl (jd D_Ol_add 77 rfl) ?_
  exact jv_vret C hr () (by rw [js_oadd, if_neg (by omega), js_par_app]; exact js_OL_pushp (hR.inc hR.last.2) (by rw [List.length_modify]; exact hv) (by rw [List.length_modify]) _ _ _ _ _ _) [0, 1, 2, 3, 4, 5, 6, 7, 8, 9] rfl rfl (Nat.le_of_ble_eq_true rfl) (Nat.le_of_ble_eq_true rfl) (jd D_Ol_add 78 rfl)

set_option maxHeartbeats 4000000 in
set_option maxRecDepth 100000 in
/-- Outline.open() -/
theorem c_Ol_open_ok {l : Launch} {D : va_G} {dA : Nat → ClassId} {zz : (Nat → Nat) × (Nat → Nat)} (o s1 s2 s3 s4 s5 s6 s7 th b N : Nat) (fS fE fF fC fN fH fO f : Nat → Int32) (t : List Nat) (vs : List js_E) (ob : List Nat) (deep : Nat) (h0 : 0 < vs.length) (hv : vs.length ≤ 2048) (hs : ob.length < 32) (hd : deep ≤ 32) : jv_M l D dA zz y_Ol_open b_Ol_open 1 none 2 [.ref o] [(o, .inr (3, [.ref s1, .ref s2, .ref s3, .ref s4, .ref s5, .ref s6, .ref s7, .ref th, .int (nI vs.length), .int (nI ob.length), .int (nI deep)])), (s1, .inl (dA 1, 2048, .inl fS)), (s2, .inl (dA 1, 2048, .inl fE)), (s3, .inl (dA 1, 2048, .inl fF)), (s4, .inl (dA 1, 2048, .inl fC)), (s5, .inl (dA 1, 2048, .inl fN)), (s6, .inl (dA 1, 2048, .inl fH)), (s7, .inl (dA 1, 32, .inl fO)), (th, .inr (0, [.ref b, .int (nI t.length)])), (b, .inl (dA 0, N, .inl f))] (jv_pv fun (_ : Unit) => True) (fun _ => [(o, .inr (3, [.ref s1, .ref s2, .ref s3, .ref s4, .ref s5, .ref s6, .ref s7, .ref th, .int (nI vs.length), .int (nI (ob ++ [vs.length - 1]).length), .int (nI (max deep (ob.length + 1)))])), (s1, .inl (dA 1, 2048, .inl fS)), (s2, .inl (dA 1, 2048, .inl fE)), (s3, .inl (dA 1, 2048, .inl fF)), (s4, .inl (dA 1, 2048, .inl fC)), (s5, .inl (dA 1, 2048, .inl fN)), (s6, .inl (dA 1, 2048, .inl fH)), (s7, .inl (dA 1, 32, .inl (upd fO ob.length (nI (vs.length - 1))))), (th, .inr (0, [.ref b, .int (nI t.length)])), (b, .inl (dA 0, N, .inl f))]) 0 0 := by
  refine jv_M.of [(0, .ref o)] (by decide) (Nat.le_of_ble_eq_true rfl) rfl ?_
  intro pR eR sR mR belowR methR cR AR C hr hin
  refine jv_aload_n C (jd D_Ol_open 0 rfl) rfl 0 rfl ?_
  refine jv_get C fl_Ol_46 0 rfl rfl (jd D_Ol_open 1 rfl) ?_
  refine jv_bipush (v := 32) C (jd D_Ol_open 2 rfl) (by decide) ?_
  refine jv_icmp_ge (tgt := 56) C (jd D_Ol_open 3 rfl) (by decide) (fun c6 => absurd c6 (nI_ge hs (by decide))) (fun c6 => ?_)
  refine jv_aload_n C (jd D_Ol_open 4 rfl) rfl 0 rfl ?_
  refine jv_get C fl_Ol_42 0 rfl rfl (jd D_Ol_open 5 rfl) ?_
  refine jv_if_le (tgt := 56) C (jd D_Ol_open 6 rfl) (by decide) (fun c13 => absurd c13 (nI_nle h0 (by omega))) (fun c13 => ?_)
  refine jv_aload_n C (jd D_Ol_open 7 rfl) rfl 0 rfl ?_
  refine jv_get C fl_Ol_30 0 rfl rfl (jd D_Ol_open 8 rfl) ?_
  refine jv_aload_n C (jd D_Ol_open 9 rfl) rfl 0 rfl ?_
  refine jv_get C fl_Ol_46 0 rfl rfl (jd D_Ol_open 10 rfl) ?_
  refine jv_aload_n C (jd D_Ol_open 11 rfl) rfl 0 rfl ?_
  refine jv_get C fl_Ol_42 0 rfl rfl (jd D_Ol_open 12 rfl) ?_
  refine jv_iconst (v := 1) C (jd D_Ol_open 13 rfl) (by decide) ?_
  refine jv_isub C (jd D_Ol_open 14 rfl) ?_
  refine jv_ati (y := nI (vs.length - 1)) (by rw [show (1 : Int32) = nI 1 from rfl]; exact pk_sub h0) ?_
  refine jv_iast C 7 [(o, .inr (3, [.ref s1, .ref s2, .ref s3, .ref s4, .ref s5, .ref s6, .ref s7, .ref th, .int (nI vs.length), .int (nI ob.length), .int (nI deep)])), (s1, .inl (dA 1, 2048, .inl fS)), (s2, .inl (dA 1, 2048, .inl fE)), (s3, .inl (dA 1, 2048, .inl fF)), (s4, .inl (dA 1, 2048, .inl fC)), (s5, .inl (dA 1, 2048, .inl fN)), (s6, .inl (dA 1, 2048, .inl fH)), (s7, .inl (dA 1, 32, .inl (upd fO (nI ob.length).toNatClampNeg (nI (vs.length - 1))))), (th, .inr (0, [.ref b, .int (nI t.length)])), (b, .inl (dA 0, N, .inl f))] rfl rfl (vp_in_nI hs (by decide)) (jd D_Ol_open 15 rfl) ?_
  refine jv_weq (ws' := [(o, .inr (3, [.ref s1, .ref s2, .ref s3, .ref s4, .ref s5, .ref s6, .ref s7, .ref th, .int (nI vs.length), .int (nI ob.length), .int (nI deep)])), (s1, .inl (dA 1, 2048, .inl fS)), (s2, .inl (dA 1, 2048, .inl fE)), (s3, .inl (dA 1, 2048, .inl fF)), (s4, .inl (dA 1, 2048, .inl fC)), (s5, .inl (dA 1, 2048, .inl fN)), (s6, .inl (dA 1, 2048, .inl fH)), (s7, .inl (dA 1, 32, .inl (upd fO ob.length (nI (vs.length - 1))))), (th, .inr (0, [.ref b, .int (nI t.length)])), (b, .inl (dA 0, N, .inl f))]) (by rw [nI_clamp (by omega)]) ?_
  refine jv_aload_n C (jd D_Ol_open 16 rfl) rfl 0 rfl ?_
  refine jv_dup C (jd D_Ol_open 17 rfl) rfl ?_
  refine jv_get C fl_Ol_46 0 rfl rfl (jd D_Ol_open 18 rfl) ?_
  refine jv_iconst (v := 1) C (jd D_Ol_open 19 rfl) (by decide) ?_
  refine jv_iadd C (jd D_Ol_open 20 rfl) ?_
  refine jv_ati (y := nI (ob ++ [vs.length - 1]).length) (js_len1p _ _) ?_
  refine jv_put C fl_Ol_46 Y_Ol rfl 0 [(o, .inr (3, [.ref s1, .ref s2, .ref s3, .ref s4, .ref s5, .ref s6, .ref s7, .ref th, .int (nI vs.length), .int (nI (ob ++ [vs.length - 1]).length), .int (nI deep)])), (s1, .inl (dA 1, 2048, .inl fS)), (s2, .inl (dA 1, 2048, .inl fE)), (s3, .inl (dA 1, 2048, .inl fF)), (s4, .inl (dA 1, 2048, .inl fC)), (s5, .inl (dA 1, 2048, .inl fN)), (s6, .inl (dA 1, 2048, .inl fH)), (s7, .inl (dA 1, 32, .inl (upd fO ob.length (nI (vs.length - 1))))), (th, .inr (0, [.ref b, .int (nI t.length)])), (b, .inl (dA 0, N, .inl f))] rfl rfl rfl (Nat.le_of_ble_eq_true rfl) rfl rfl (jd D_Ol_open 21 rfl) ?_
  refine jv_aload_n C (jd D_Ol_open 22 rfl) rfl 0 rfl ?_
  refine jv_aload_n C (jd D_Ol_open 23 rfl) rfl 0 rfl ?_
  refine jv_get C fl_Ol_49 0 rfl rfl (jd D_Ol_open 24 rfl) ?_
  refine jv_aload_n C (jd D_Ol_open 25 rfl) rfl 0 rfl ?_
  refine jv_get C fl_Ol_46 0 rfl rfl (jd D_Ol_open 26 rfl) ?_
  refine jv_mmax C (jm3 (List.mem_of_getElem? (i := 103) rfl)) (jd D_Ol_open 27 rfl) (Nat.le_of_ble_eq_true rfl) (Nat.le_of_ble_eq_true rfl) (Nat.le_of_ble_eq_true rfl) (Nat.le_of_ble_eq_true rfl) ?_
  refine jv_ati (y := nI (max deep (ob.length + 1))) (by rw [List.length_append]; exact js_maxI deep (ob.length + 1) (by omega) (by omega)) ?_
  refine jv_put C fl_Ol_49 Y_Ol rfl 0 [(o, .inr (3, [.ref s1, .ref s2, .ref s3, .ref s4, .ref s5, .ref s6, .ref s7, .ref th, .int (nI vs.length), .int (nI (ob ++ [vs.length - 1]).length), .int (nI (max deep (ob.length + 1)))])), (s1, .inl (dA 1, 2048, .inl fS)), (s2, .inl (dA 1, 2048, .inl fE)), (s3, .inl (dA 1, 2048, .inl fF)), (s4, .inl (dA 1, 2048, .inl fC)), (s5, .inl (dA 1, 2048, .inl fN)), (s6, .inl (dA 1, 2048, .inl fH)), (s7, .inl (dA 1, 32, .inl (upd fO ob.length (nI (vs.length - 1))))), (th, .inr (0, [.ref b, .int (nI t.length)])), (b, .inl (dA 0, N, .inl f))] rfl rfl rfl (Nat.le_of_ble_eq_true rfl) rfl rfl (jd D_Ol_open 28 rfl) ?_
  exact jv_vret C hr () (trivial) [0, 1, 2, 3, 4, 5, 6, 7, 8, 9] rfl rfl (Nat.le_of_ble_eq_true rfl) (Nat.le_of_ble_eq_true rfl) (jd D_Ol_open 29 rfl)

set_option maxHeartbeats 4000000 in
set_option maxRecDepth 100000 in
/-- Outline.open(), no room -/
theorem c_Ol_open_no {l : Launch} {D : va_G} {dA : Nat → ClassId} {zz : (Nat → Nat) × (Nat → Nat)} (o s1 s2 s3 s4 s5 s6 s7 th b N : Nat) (fS fE fF fC fN fH fO f : Nat → Int32) (t : List Nat) (vs : List js_E) (ob : List Nat) (deep : Nat) (hn : ¬ (ob.length < 32 ∧ 0 < vs.length)) (hv : vs.length ≤ 2048) (hs : ob.length ≤ 32) : jv_M l D dA zz y_Ol_open b_Ol_open 1 none 2 [.ref o] [(o, .inr (3, [.ref s1, .ref s2, .ref s3, .ref s4, .ref s5, .ref s6, .ref s7, .ref th, .int (nI vs.length), .int (nI ob.length), .int (nI deep)])), (s1, .inl (dA 1, 2048, .inl fS)), (s2, .inl (dA 1, 2048, .inl fE)), (s3, .inl (dA 1, 2048, .inl fF)), (s4, .inl (dA 1, 2048, .inl fC)), (s5, .inl (dA 1, 2048, .inl fN)), (s6, .inl (dA 1, 2048, .inl fH)), (s7, .inl (dA 1, 32, .inl fO)), (th, .inr (0, [.ref b, .int (nI t.length)])), (b, .inl (dA 0, N, .inl f))] (jv_pv fun (_ : Unit) => True) (fun _ => [(o, .inr (3, [.ref s1, .ref s2, .ref s3, .ref s4, .ref s5, .ref s6, .ref s7, .ref th, .int (nI vs.length), .int (nI ob.length), .int (nI deep)])), (s1, .inl (dA 1, 2048, .inl fS)), (s2, .inl (dA 1, 2048, .inl fE)), (s3, .inl (dA 1, 2048, .inl fF)), (s4, .inl (dA 1, 2048, .inl fC)), (s5, .inl (dA 1, 2048, .inl fN)), (s6, .inl (dA 1, 2048, .inl fH)), (s7, .inl (dA 1, 32, .inl fO)), (th, .inr (0, [.ref b, .int (nI t.length)])), (b, .inl (dA 0, N, .inl f))]) 0 0 := by
  refine jv_M.of [(0, .ref o)] (by decide) (Nat.le_of_ble_eq_true rfl) rfl ?_
  intro pR eR sR mR belowR methR cR AR C hr hin
  refine jv_aload_n C (jd D_Ol_open 0 rfl) rfl 0 rfl ?_
  refine jv_get C fl_Ol_46 0 rfl rfl (jd D_Ol_open 1 rfl) ?_
  refine jv_bipush (v := 32) C (jd D_Ol_open 2 rfl) (by decide) ?_
  refine jv_icmp_ge (tgt := 56) C (jd D_Ol_open 3 rfl) (by decide) (fun c6 => ?_) (fun c6 => ?_)
  · exact jv_vret C hr () (trivial) [0, 1, 2, 3, 4, 5, 6, 7, 8, 9] rfl rfl (Nat.le_of_ble_eq_true rfl) (Nat.le_of_ble_eq_true rfl) (jd D_Ol_open 29 rfl)
  · refine jv_aload_n C (jd D_Ol_open 4 rfl) rfl 0 rfl ?_
    refine jv_get C fl_Ol_42 0 rfl rfl (jd D_Ol_open 5 rfl) ?_
    refine jv_if_le (tgt := 56) C (jd D_Ol_open 6 rfl) (by decide) (fun c13 => ?_) (fun c13 => ?_)
    · exact jv_vret C hr () (trivial) [0, 1, 2, 3, 4, 5, 6, 7, 8, 9] rfl rfl (Nat.le_of_ble_eq_true rfl) (Nat.le_of_ble_eq_true rfl) (jd D_Ol_open 29 rfl)
    · exfalso
      refine hn ⟨?_, ?_⟩
      · rcases Nat.lt_or_ge ob.length 32 with y | y
        · exact y
        · exact absurd (nI_le (a := 32) (b := ob.length) y (by omega)) c6
      · rcases Nat.eq_zero_or_pos vs.length with y | y
        · rw [y] at c13
          exact absurd (by decide) c13
        · exact y

set_option maxHeartbeats 4000000 in
set_option maxRecDepth 100000 in
/-- Outline.close(z) -/
theorem c_Ol_close_ok {l : Launch} {D : va_G} {dA : Nat → ClassId} {zz : (Nat → Nat) × (Nat → Nat)} (o s1 s2 s3 s4 s5 s6 s7 th b N : Nat) (fS fE fF fC fN fH fO f : Nat → Int32) (t : List Nat) (vs : List js_E) (ob : List Nat) (deep : Nat) (k z : Nat) (hR : js_OL vs (ob ++ [k]) fS fE fF fC fN fH fO) : jv_M l D dA zz y_Ol_close b_Ol_close 2 none 2 [.ref o, .int (nI z)] [(o, .inr (3, [.ref s1, .ref s2, .ref s3, .ref s4, .ref s5, .ref s6, .ref s7, .ref th, .int (nI vs.length), .int (nI (ob ++ [k]).length), .int (nI deep)])), (s1, .inl (dA 1, 2048, .inl fS)), (s2, .inl (dA 1, 2048, .inl fE)), (s3, .inl (dA 1, 2048, .inl fF)), (s4, .inl (dA 1, 2048, .inl fC)), (s5, .inl (dA 1, 2048, .inl fN)), (s6, .inl (dA 1, 2048, .inl fH)), (s7, .inl (dA 1, 32, .inl fO)), (th, .inr (0, [.ref b, .int (nI t.length)])), (b, .inl (dA 0, N, .inl f))] (jv_pv fun (_ : Unit) => True) (fun _ => [(o, .inr (3, [.ref s1, .ref s2, .ref s3, .ref s4, .ref s5, .ref s6, .ref s7, .ref th, .int (nI vs.length), .int (nI ob.length), .int (nI deep)])), (s1, .inl (dA 1, 2048, .inl fS)), (s2, .inl (dA 1, 2048, .inl (upd fE k (nI z)))), (s3, .inl (dA 1, 2048, .inl (upd fF k (nI vs.length)))), (s4, .inl (dA 1, 2048, .inl fC)), (s5, .inl (dA 1, 2048, .inl fN)), (s6, .inl (dA 1, 2048, .inl fH)), (s7, .inl (dA 1, 32, .inl fO)), (th, .inr (0, [.ref b, .int (nI t.length)])), (b, .inl (dA 0, N, .inl f))]) 0 0 := by
  refine jv_M.of [(0, .ref o), (1, .int (nI z))] (by decide) (Nat.le_of_ble_eq_true rfl) rfl ?_
  intro pR eR sR mR belowR methR cR AR C hr hin
  refine jv_aload_n C (jd D_Ol_close 0 rfl) rfl 0 rfl ?_
  refine jv_get C fl_Ol_46 0 rfl rfl (jd D_Ol_close 1 rfl) ?_
  refine jv_if_le (tgt := 50) C (jd D_Ol_close 2 rfl) (by decide) (fun c4 => absurd c4 (nI_nle (js_lpos _ _) (by have := hR.2.1; omega))) (fun c4 => ?_)
  refine jv_aload_n C (jd D_Ol_close 3 rfl) rfl 0 rfl ?_
  refine jv_dup C (jd D_Ol_close 4 rfl) rfl ?_
  refine jv_get C fl_Ol_46 0 rfl rfl (jd D_Ol_close 5 rfl) ?_
  refine jv_iconst (v := 1) C (jd D_Ol_close 6 rfl) (by decide) ?_
  refine jv_isub C (jd D_Ol_close 7 rfl) ?_
  refine jv_ati (y := nI ob.length) (js_lenm1 _ _) ?_
  refine jv_put C fl_Ol_46 Y_Ol rfl 0 [(o, .inr (3, [.ref s1, .ref s2, .ref s3, .ref s4, .ref s5, .ref s6, .ref s7, .ref th, .int (nI vs.length), .int (nI ob.length), .int (nI deep)])), (s1, .inl (dA 1, 2048, .inl fS)), (s2, .inl (dA 1, 2048, .inl fE)), (s3, .inl (dA 1, 2048, .inl fF)), (s4, .inl (dA 1, 2048, .inl fC)), (s5, .inl (dA 1, 2048, .inl fN)), (s6, .inl (dA 1, 2048, .inl fH)), (s7, .inl (dA 1, 32, .inl fO)), (th, .inr (0, [.ref b, .int (nI t.length)])), (b, .inl (dA 0, N, .inl f))] rfl rfl rfl (Nat.le_of_ble_eq_true rfl) rfl rfl (jd D_Ol_close 8 rfl) ?_
  refine jv_aload_n C (jd D_Ol_close 9 rfl) rfl 0 rfl ?_
  refine jv_get C fl_Ol_15 0 rfl rfl (jd D_Ol_close 10 rfl) ?_
  refine jv_aload_n C (jd D_Ol_close 11 rfl) rfl 0 rfl ?_
  refine jv_get C fl_Ol_30 0 rfl rfl (jd D_Ol_close 12 rfl) ?_
  refine jv_aload_n C (jd D_Ol_close 13 rfl) rfl 0 rfl ?_
  refine jv_get C fl_Ol_46 0 rfl rfl (jd D_Ol_close 14 rfl) ?_
  refine jv_iald C 7 rfl (vp_in_nI (by have := hR.2.1; rw [List.length_append] at this; exact this) (by decide)) (jd D_Ol_close 15 rfl) ?_
  refine jv_ati (y := nI k) (by rw [nI_clamp (by have := hR.2.1; rw [List.length_append] at this; have h9 : ob.length + 1 ≤ 32 := this; omega)]; exact hR.last.1) ?_
  refine jv_iload_n C (jd D_Ol_close 16 rfl) rfl 1 rfl ?_
  refine jv_iast C 2 [(o, .inr (3, [.ref s1, .ref s2, .ref s3, .ref s4, .ref s5, .ref s6, .ref s7, .ref th, .int (nI vs.length), .int (nI ob.length), .int (nI deep)])), (s1, .inl (dA 1, 2048, .inl fS)), (s2, .inl (dA 1, 2048, .inl (upd fE (nI k).toNatClampNeg (nI z)))), (s3, .inl (dA 1, 2048, .inl fF)), (s4, .inl (dA 1, 2048, .inl fC)), (s5, .inl (dA 1, 2048, .inl fN)), (s6, .inl (dA 1, 2048, .inl fH)), (s7, .inl (dA 1, 32, .inl fO)), (th, .inr (0, [.ref b, .int (nI t.length)])), (b, .inl (dA 0, N, .inl f))] rfl rfl (vp_in_nI (by have := hR.last.2; have := hR.1; omega) (by decide)) (jd D_Ol_close 17 rfl) ?_
  refine jv_weq (ws' := [(o, .inr (3, [.ref s1, .ref s2, .ref s3, .ref s4, .ref s5, .ref s6, .ref s7, .ref th, .int (nI vs.length), .int (nI ob.length), .int (nI deep)])), (s1, .inl (dA 1, 2048, .inl fS)), (s2, .inl (dA 1, 2048, .inl (upd fE k (nI z)))), (s3, .inl (dA 1, 2048, .inl fF)), (s4, .inl (dA 1, 2048, .inl fC)), (s5, .inl (dA 1, 2048, .inl fN)), (s6, .inl (dA 1, 2048, .inl fH)), (s7, .inl (dA 1, 32, .inl fO)), (th, .inr (0, [.ref b, .int (nI t.length)])), (b, .inl (dA 0, N, .inl f))]) (by rw [nI_clamp (by have := hR.last.2; have := hR.1; omega)]) ?_
  refine jv_aload_n C (jd D_Ol_close 18 rfl) rfl 0 rfl ?_
  refine jv_get C fl_Ol_18 0 rfl rfl (jd D_Ol_close 19 rfl) ?_
  refine jv_aload_n C (jd D_Ol_close 20 rfl) rfl 0 rfl ?_
  refine jv_get C fl_Ol_30 0 rfl rfl (jd D_Ol_close 21 rfl) ?_
  refine jv_aload_n C (jd D_Ol_close 22 rfl) rfl 0 rfl ?_
  refine jv_get C fl_Ol_46 0 rfl rfl (jd D_Ol_close 23 rfl) ?_
  refine jv_iald C 7 rfl (vp_in_nI (by have := hR.2.1; rw [List.length_append] at this; exact this) (by decide)) (jd D_Ol_close 24 rfl) ?_
  refine jv_ati (y := nI k) (by rw [nI_clamp (by have := hR.2.1; rw [List.length_append] at this; have h9 : ob.length + 1 ≤ 32 := this; omega)]; exact hR.last.1) ?_
  refine jv_aload_n C (jd D_Ol_close 25 rfl) rfl 0 rfl ?_
  refine jv_get C fl_Ol_42 0 rfl rfl (jd D_Ol_close 26 rfl) ?_
  refine jv_iast C 3 [(o, .inr (3, [.ref s1, .ref s2, .ref s3, .ref s4, .ref s5, .ref s6, .ref s7, .ref th, .int (nI vs.length), .int (nI ob.length), .int (nI deep)])), (s1, .inl (dA 1, 2048, .inl fS)), (s2, .inl (dA 1, 2048, .inl (upd fE k (nI z)))), (s3, .inl (dA 1, 2048, .inl (upd fF (nI k).toNatClampNeg (nI vs.length)))), (s4, .inl (dA 1, 2048, .inl fC)), (s5, .inl (dA 1, 2048, .inl fN)), (s6, .inl (dA 1, 2048, .inl fH)), (s7, .inl (dA 1, 32, .inl fO)), (th, .inr (0, [.ref b, .int (nI t.length)])), (b, .inl (dA 0, N, .inl f))] rfl rfl (vp_in_nI (by have := hR.last.2; have := hR.1; omega) (by decide)) (jd D_Ol_close 27 rfl) ?_
  refine jv_weq (ws' := [(o, .inr (3, [.ref s1, .ref s2, .ref s3, .ref s4, .ref s5, .ref s6, .ref s7, .ref th, .int (nI vs.length), .int (nI ob.length), .int (nI deep)])), (s1, .inl (dA 1, 2048, .inl fS)), (s2, .inl (dA 1, 2048, .inl (upd fE k (nI z)))), (s3, .inl (dA 1, 2048, .inl (upd fF k (nI vs.length)))), (s4, .inl (dA 1, 2048, .inl fC)), (s5, .inl (dA 1, 2048, .inl fN)), (s6, .inl (dA 1, 2048, .inl fH)), (s7, .inl (dA 1, 32, .inl fO)), (th, .inr (0, [.ref b, .int (nI t.length)])), (b, .inl (dA 0, N, .inl f))]) (by rw [nI_clamp (by have := hR.last.2; have := hR.1; omega)]) ?_
  exact jv_vret C hr () (trivial) [0, 1, 2, 3, 4, 5, 6, 7, 8, 9] rfl rfl (Nat.le_of_ble_eq_true rfl) (Nat.le_of_ble_eq_true rfl) (jd D_Ol_close 28 rfl)

set_option maxHeartbeats 4000000 in
set_option maxRecDepth 100000 in
/-- Outline.close(z), nothing is open -/
theorem c_Ol_close_no {l : Launch} {D : va_G} {dA : Nat → ClassId} {zz : (Nat → Nat) × (Nat → Nat)} (o s1 s2 s3 s4 s5 s6 s7 th b N : Nat) (fS fE fF fC fN fH fO f : Nat → Int32) (t : List Nat) (vs : List js_E) (ob : List Nat) (deep : Nat) (z : Nat)  : jv_M l D dA zz y_Ol_close b_Ol_close 2 none 2 [.ref o, .int (nI z)] [(o, .inr (3, [.ref s1, .ref s2, .ref s3, .ref s4, .ref s5, .ref s6, .ref s7, .ref th, .int (nI vs.length), .int (nI ([] : List Nat).length), .int (nI deep)])), (s1, .inl (dA 1, 2048, .inl fS)), (s2, .inl (dA 1, 2048, .inl fE)), (s3, .inl (dA 1, 2048, .inl fF)), (s4, .inl (dA 1, 2048, .inl fC)), (s5, .inl (dA 1, 2048, .inl fN)), (s6, .inl (dA 1, 2048, .inl fH)), (s7, .inl (dA 1, 32, .inl fO)), (th, .inr (0, [.ref b, .int (nI t.length)])), (b, .inl (dA 0, N, .inl f))] (jv_pv fun (_ : Unit) => True) (fun _ => [(o, .inr (3, [.ref s1, .ref s2, .ref s3, .ref s4, .ref s5, .ref s6, .ref s7, .ref th, .int (nI vs.length), .int (nI ([] : List Nat).length), .int (nI deep)])), (s1, .inl (dA 1, 2048, .inl fS)), (s2, .inl (dA 1, 2048, .inl fE)), (s3, .inl (dA 1, 2048, .inl fF)), (s4, .inl (dA 1, 2048, .inl fC)), (s5, .inl (dA 1, 2048, .inl fN)), (s6, .inl (dA 1, 2048, .inl fH)), (s7, .inl (dA 1, 32, .inl fO)), (th, .inr (0, [.ref b, .int (nI t.length)])), (b, .inl (dA 0, N, .inl f))]) 0 0 := by
  refine jv_M.of [(0, .ref o), (1, .int (nI z))] (by decide) (Nat.le_of_ble_eq_true rfl) rfl ?_
  intro pR eR sR mR belowR methR cR AR C hr hin
  refine jv_aload_n C (jd D_Ol_close 0 rfl) rfl 0 rfl ?_
  refine jv_get C fl_Ol_46 0 rfl rfl (jd D_Ol_close 1 rfl) ?_
  refine jv_if_le (tgt := 50) C (jd D_Ol_close 2 rfl) (by decide) (fun c4 => ?_) (fun c4 => absurd (by decide) c4)
  exact jv_vret C hr () (trivial) [0, 1, 2, 3, 4, 5, 6, 7, 8, 9] rfl rfl (Nat.le_of_ble_eq_true rfl) (Nat.le_of_ble_eq_true rfl) (jd D_Ol_close 28 rfl)
