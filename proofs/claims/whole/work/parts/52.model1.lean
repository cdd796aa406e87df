theorem js_bb {f : Nat → Int32} {t : List Nat} (ht : js_tx f t) {j : Nat} (hj : j < t.length) : f j &&& 255 = js_b t j := by
  rw [js_byte ht hj, js_b, List.getD_eq_getElem?_getD, List.getElem?_eq_getElem hj]
  rfl
theorem js_b_end {t : List Nat} {p : Nat} (h : t.length ≤ p) : js_b t p = -1 := by rw [js_b, List.getElem?_eq_none h]
theorem js_sk_s {t : List Nat} {p : Nat} (h : ¬ fn_Rd_isBlank (js_b t p) = 0) : js_sk t p = js_sk t (p + 1) := by
  have hp : p < t.length := js_b_lt (fun e => h (by rw [e]; decide))
  unfold js_sk
  rw [show t.length - p = (t.length - (p + 1)) + 1 by omega, js_skip, if_neg h]
theorem js_blk {x : Int32} (h : x = 32 ∨ x = 9 ∨ x = 10 ∨ x = 13) : ¬ fn_Rd_isBlank x = 0 := by rcases h with h | h | h | h <;> rw [h] <;> decide
theorem js_nblk {x : Int32} (h1 : ¬ x = 32) (h2 : ¬ x = 9) (h3 : ¬ x = 10) (h4 : ¬ x = 13) : fn_Rd_isBlank x = 0 := by
  unfold fn_Rd_isBlank
  rw [if_neg h2, if_neg h3, if_neg h4, if_pos h1]

set_option maxHeartbeats 4000000 in
set_option maxRecDepth 100000 in
/-- c() -/
theorem c_Md_c {l : Launch} {D : va_G} {dA : Nat → ClassId} {zz : (Nat → Nat) × (Nat → Nat)} (o : Nat) (Q : Nat → Nat) (K : Nat → Int32) (tb N : Nat) (f : Nat → Int32) (t : List Nat) (p : Nat) (br : Int32) (hl : t.length ≤ N) (hN : N < 2 ^ 29) (ht : js_tx f t) (hp : p < 2 ^ 30) : jv_M l D dA zz y_Md_c b_Md_c 1 (some (FieldType.int)) 1 [.ref o] [(o, .inr (7, [.ref (Q 0), .int (K 1), .ref (Q 2), .int (K 3), .int (K 4), .int (K 5), .ref tb, .int (nI p), .int (nI t.length), .int br, .ref (Q 10), .int (K 11), .int (K 12), .ref (Q 13), .ref (Q 14), .ref (Q 15), .ref (Q 16), .ref (Q 17)])), (tb, .inl (dA 0, N, .inl f))] (jv_pi fun r (_ : Unit) => r = js_b t p) (fun _ => [(o, .inr (7, [.ref (Q 0), .int (K 1), .ref (Q 2), .int (K 3), .int (K 4), .int (K 5), .ref tb, .int (nI p), .int (nI t.length), .int br, .ref (Q 10), .int (K 11), .int (K 12), .ref (Q 13), .ref (Q 14), .ref (Q 15), .ref (Q 16), .ref (Q 17)])), (tb, .inl (dA 0, N, .inl f))]) 0 0 := by
  refine jv_M.of [(0, .ref o)] (by decide) (Nat.le_of_ble_eq_true rfl) rfl ?_
  intro pR eR sR mR belowR methR cR AR C hr hin
  refine jv_aload_n C (jd D_Md_c 0 rfl) rfl 0 rfl ?_
  refine jv_get C fl_Md_117 0 rfl rfl (jd D_Md_c 1 rfl) ?_
  refine jv_aload_n C (jd D_Md_c 2 rfl) rfl 0 rfl ?_
  refine jv_get C fl_Md_120 0 rfl rfl (jd D_Md_c 3 rfl) ?_
  refine jv_icmp_ge (tgt := 27) C (jd D_Md_c 4 rfl) (by decide) (fun c8 => ?_) (fun c8 => ?_)
  · refine jv_iconst (v := -1) C (jd D_Md_c 13 rfl) (by decide) ?_
    exact jv_iret C hr () ((js_b_end ((nI_leI (by omega) (by omega)).mp c8)).symm) rfl [0, 1] rfl rfl (Nat.le_of_ble_eq_true rfl) (Nat.le_of_ble_eq_true rfl) (jd D_Md_c 14 rfl)
  · have hlt : p < t.length := by
      rcases Nat.lt_or_ge p t.length with q | q
      · exact q
      · exact absurd (nI_le q (by omega)) c8
    refine jv_aload_n C (jd D_Md_c 5 rfl) rfl 0 rfl ?_
    refine jv_get C fl_Md_123 0 rfl rfl (jd D_Md_c 6 rfl) ?_
    refine jv_aload_n C (jd D_Md_c 7 rfl) rfl 0 rfl ?_
    refine jv_get C fl_Md_117 0 rfl rfl (jd D_Md_c 8 rfl) ?_
    refine jv_bald C 1 rfl (vp_in_nI (by omega) (by omega)) (jd D_Md_c 9 rfl) ?_
    refine jv_ati (y := f p) (by rw [nI_clamp (by omega)]) ?_
    refine jv_sipush (v := 255) C (jd D_Md_c 10 rfl) (by decide) ?_
    refine jv_iand C (jd D_Md_c 11 rfl) ?_
    refine jv_ati (y := js_b t p) (js_bb ht hlt) ?_
    refine jv_goto (tgt := 28) C (jd D_Md_c 12 rfl) (by decide) ?_
    exact jv_iret C hr () (rfl) rfl [0, 1] rfl rfl (Nat.le_of_ble_eq_true rfl) (Nat.le_of_ble_eq_true rfl) (jd D_Md_c 14 rfl)

set_option maxHeartbeats 4000000 in
set_option maxRecDepth 100000 in
/-- fail(where) -/
theorem c_Md_fail {l : Launch} {D : va_G} {dA : Nat → ClassId} {zz : (Nat → Nat) × (Nat → Nat)} (o : Nat) (Q : Nat → Nat) (K : Nat → Int32) (tb : Nat) (a z w : Int32)  : jv_M l D dA zz y_Md_fail b_Md_fail 2 (some (FieldType.boolean)) 1 [.ref o, .int w] [(o, .inr (7, [.ref (Q 0), .int (K 1), .ref (Q 2), .int (K 3), .int (K 4), .int (K 5), .ref tb, .int a, .int z, .int (-1), .ref (Q 10), .int (K 11), .int (K 12), .ref (Q 13), .ref (Q 14), .ref (Q 15), .ref (Q 16), .ref (Q 17)]))] (jv_pi fun r (_ : Unit) => r = 0) (fun _ => [(o, .inr (7, [.ref (Q 0), .int (K 1), .ref (Q 2), .int (K 3), .int (K 4), .int (K 5), .ref tb, .int a, .int z, .int w, .ref (Q 10), .int (K 11), .int (K 12), .ref (Q 13), .ref (Q 14), .ref (Q 15), .ref (Q 16), .ref (Q 17)]))]) 0 0 := by
  refine jv_M.of [(0, .ref o), (1, .int w)] (by decide) (Nat.le_of_ble_eq_true rfl) rfl ?_
  intro pR eR sR mR belowR methR cR AR C hr hin
  refine jv_aload_n C (jd D_Md_fail 0 rfl) rfl 0 rfl ?_
  refine jv_get C fl_Md_126 0 rfl rfl (jd D_Md_fail 1 rfl) ?_
  refine jv_if_ge (tgt := 12) C (jd D_Md_fail 2 rfl) (by decide) (fun c4 => absurd c4 (by decide)) (fun c4 => ?_)
  refine jv_aload_n C (jd D_Md_fail 3 rfl) rfl 0 rfl ?_
  refine jv_iload_n C (jd D_Md_fail 4 rfl) rfl 1 rfl ?_
  refine jv_put C fl_Md_126 Y_Md rfl 0 [(o, .inr (7, [.ref (Q 0), .int (K 1), .ref (Q 2), .int (K 3), .int (K 4), .int (K 5), .ref tb, .int a, .int z, .int w, .ref (Q 10), .int (K 11), .int (K 12), .ref (Q 13), .ref (Q 14), .ref (Q 15), .ref (Q 16), .ref (Q 17)]))] rfl rfl rfl (Nat.le_of_ble_eq_true rfl) rfl rfl (jd D_Md_fail 5 rfl) ?_
  refine jv_iconst (v := 0) C (jd D_Md_fail 6 rfl) (by decide) ?_
  exact jv_iret C hr () (rfl) rfl [0] rfl rfl (Nat.le_of_ble_eq_true rfl) (Nat.le_of_ble_eq_true rfl) (jd D_Md_fail 7 rfl)

set_option maxHeartbeats 4000000 in
set_option maxRecDepth 100000 in
/-- blanks() -/
theorem c_Md_blanks {l : Launch} {D : va_G} {dA : Nat → ClassId} {zz : (Nat → Nat) × (Nat → Nat)} (o : Nat) (Q : Nat → Nat) (K : Nat → Int32) (tb N : Nat) (f : Nat → Int32) (t : List Nat) (p : Nat) (hl : t.length ≤ N) (hN : N < 2 ^ 29) (ht : js_tx f t) (hp : p ≤ t.length) : jv_M l D dA zz y_Md_blanks b_Md_blanks 1 none 2 [.ref o] [(o, .inr (7, [.ref (Q 0), .int (K 1), .ref (Q 2), .int (K 3), .int (K 4), .int (K 5), .ref tb, .int (nI p), .int (nI t.length), .int (-1), .ref (Q 10), .int (K 11), .int (K 12), .ref (Q 13), .ref (Q 14), .ref (Q 15), .ref (Q 16), .ref (Q 17)])), (tb, .inl (dA 0, N, .inl f))] (jv_pv fun (_ : Unit) => True) (fun _ => [(o, .inr (7, [.ref (Q 0), .int (K 1), .ref (Q 2), .int (K 3), .int (K 4), .int (K 5), .ref tb, .int (nI (js_sk t p)), .int (nI t.length), .int (-1), .ref (Q 10), .int (K 11), .int (K 12), .ref (Q 13), .ref (Q 14), .ref (Q 15), .ref (Q 16), .ref (Q 17)])), (tb, .inl (dA 0, N, .inl f))]) 0 0 := by
  refine jv_M.of [(0, .ref o)] (by decide) (Nat.le_of_ble_eq_true rfl) rfl ?_
  intro pR eR sR mR belowR methR cR AR C hr hin
  obtain ⟨QR, hQ⟩ : ∃ QR, QR = jv_E D (jv_pv fun (_ : Unit) => True) (fun _ => [(o, .inr (7, [.ref (Q 0), .int (K 1), .ref (Q 2), .int (K 3), .int (K 4), .int (K 5), .ref tb, .int (nI (js_sk t p)), .int (nI t.length), .int (-1), .ref (Q 10), .int (K 11), .int (K 12), .ref (Q 13), .ref (Q 14), .ref (Q 15), .ref (Q 16), .ref (Q 17)])), (tb, .inl (dA 0, N, .inl f))]) belowR ([.ref o] : List Value).toArray sR AR 0 0 := ⟨_, rfl⟩
  rw [← hQ]
  have hL0 : ∀ (n : Nat) (i0 : Nat), i0 ≤ t.length → t.length + 1 ≤ i0 + n → js_sk t p = js_sk t i0 → jv_V pR l eR (jv_rm 2 0 0) sR mR ([.ref o] : List Value).toArray belowR methR cR 0 0 QR D AR 1 [(o, .inr (7, [.ref (Q 0), .int (K 1), .ref (Q 2), .int (K 3), .int (K 4), .int (K 5), .ref tb, .int (nI i0), .int (nI t.length), .int (-1), .ref (Q 10), .int (K 11), .int (K 12), .ref (Q 13), .ref (Q 14), .ref (Q 15), .ref (Q 16), .ref (Q 17)])), (tb, .inl (dA 0, N, .inl f))] [(0, .ref o)] 0 [] := by
    intro n
    induction n with
    | zero =>
      intro i0 h0 h1
      exact absurd h1 (by omega)
    | succ n ih =>
      intro i0 hi hm hsk
      refine jv_aload_n C (jd D_Md_blanks 0 rfl) rfl 0 rfl ?_
      refine jv_callV (wr := []) C cl_Md_129 (c_Md_c o Q K tb N f t i0 (-1) hl hN ht (by omega)) [0, 1] [] rfl rfl rfl rfl (by decide) rfl rfl 0 rfl ⟨Nat.le_of_ble_eq_true rfl, Nat.le_of_ble_eq_true rfl⟩ ⟨Nat.le_of_ble_eq_true rfl, Nat.le_of_ble_eq_true rfl⟩ rfl rfl (Nat.le_of_ble_eq_true rfl) (jd D_Md_blanks 1 rfl) (fun v1 _ kc1 => ?_)
      obtain ⟨rc1, rfl, kc1⟩ := kc1
      refine jv_fix [0, 1] [(o, .inr (7, [.ref (Q 0), .int (K 1), .ref (Q 2), .int (K 3), .int (K 4), .int (K 5), .ref tb, .int (nI i0), .int (nI t.length), .int (-1), .ref (Q 10), .int (K 11), .int (K 12), .ref (Q 13), .ref (Q 14), .ref (Q 15), .ref (Q 16), .ref (Q 17)])), (tb, .inl (dA 0, N, .inl f))] [.int rc1] 0 0 rfl rfl rfl (Nat.le_refl _) (Nat.le_refl _) ?_
      subst kc1
      refine jv_bipush (v := 32) C (jd D_Md_blanks 2 rfl) (by decide) ?_
      refine jv_icmp_eq (tgt := 36) C (jd D_Md_blanks 3 rfl) (by decide) (fun c6 => ?_) (fun c6 => ?_)
      · have hbk := js_blk (x := js_b t i0) (Or.inl c6)
        have hi2 : i0 < t.length := js_b_lt (fun e => hbk (by rw [e]; decide))
        refine jv_aload_n C (jd D_Md_blanks 16 rfl) rfl 0 rfl ?_
        refine jv_dup C (jd D_Md_blanks 17 rfl) rfl ?_
        refine jv_get C fl_Md_117 0 rfl rfl (jd D_Md_blanks 18 rfl) ?_
        refine jv_iconst (v := 1) C (jd D_Md_blanks 19 rfl) (by decide) ?_
        refine jv_iadd C (jd D_Md_blanks 20 rfl) ?_
        refine jv_ati (y := nI (i0 + 1)) (nI_1 i0) ?_
        refine jv_put C fl_Md_117 Y_Md rfl 0 [(o, .inr (7, [.ref (Q 0), .int (K 1), .ref (Q 2), .int (K 3), .int (K 4), .int (K 5), .ref tb, .int (nI (i0 + 1)), .int (nI t.length), .int (-1), .ref (Q 10), .int (K 11), .int (K 12), .ref (Q 13), .ref (Q 14), .ref (Q 15), .ref (Q 16), .ref (Q 17)])), (tb, .inl (dA 0, N, .inl f))] rfl rfl rfl (Nat.le_of_ble_eq_true rfl) rfl rfl (jd D_Md_blanks 21 rfl) ?_
        refine jv_goto (tgt := 0) C (jd D_Md_blanks 22 rfl) (by decide) ?_
        exact ih (i0 + 1) (by omega) (by omega) (by rw [hsk, js_sk_s hbk])
      · refine jv_aload_n C (jd D_Md_blanks 4 rfl) rfl 0 rfl ?_
        refine jv_callV (wr := []) C cl_Md_129 (c_Md_c o Q K tb N f t i0 (-1) hl hN ht (by omega)) [0, 1] [] rfl rfl rfl rfl (by decide) rfl rfl 0 rfl ⟨Nat.le_of_ble_eq_true rfl, Nat.le_of_ble_eq_true rfl⟩ ⟨Nat.le_of_ble_eq_true rfl, Nat.le_of_ble_eq_true rfl⟩ rfl rfl (Nat.le_of_ble_eq_true rfl) (jd D_Md_blanks 5 rfl) (fun v2 _ kc2 => ?_)
        obtain ⟨rc2, rfl, kc2⟩ := kc2
        refine jv_fix [0, 1] [(o, .inr (7, [.ref (Q 0), .int (K 1), .ref (Q 2), .int (K 3), .int (K 4), .int (K 5), .ref tb, .int (nI i0), .int (nI t.length), .int (-1), .ref (Q 10), .int (K 11), .int (K 12), .ref (Q 13), .ref (Q 14), .ref (Q 15), .ref (Q 16), .ref (Q 17)])), (tb, .inl (dA 0, N, .inl f))] [.int rc2] 0 0 rfl rfl rfl (Nat.le_refl _) (Nat.le_refl _) ?_
        subst kc2
        refine jv_bipush (v := 9) C (jd D_Md_blanks 6 rfl) (by decide) ?_
        refine jv_icmp_eq (tgt := 36) C (jd D_Md_blanks 7 rfl) (by decide) (fun c15 => ?_) (fun c15 => ?_)
        · have hbk := js_blk (x := js_b t i0) (Or.inr (Or.inl c15))
          have hi2 : i0 < t.length := js_b_lt (fun e => hbk (by rw [e]; decide))
          refine jv_aload_n C (jd D_Md_blanks 16 rfl) rfl 0 rfl ?_
          refine jv_dup C (jd D_Md_blanks 17 rfl) rfl ?_
          refine jv_get C fl_Md_117 0 rfl rfl (jd D_Md_blanks 18 rfl) ?_
          refine jv_iconst (v := 1) C (jd D_Md_blanks 19 rfl) (by decide) ?_
          refine jv_iadd C (jd D_Md_blanks 20 rfl) ?_
          refine jv_ati (y := nI (i0 + 1)) (nI_1 i0) ?_
          refine jv_put C fl_Md_117 Y_Md rfl 0 [(o, .inr (7, [.ref (Q 0), .int (K 1), .ref (Q 2), .int (K 3), .int (K 4), .int (K 5), .ref tb, .int (nI (i0 + 1)), .int (nI t.length), .int (-1), .ref (Q 10), .int (K 11), .int (K 12), .ref (Q 13), .ref (Q 14), .ref (Q 15), .ref (Q 16), .ref (Q 17)])), (tb, .inl (dA 0, N, .inl f))] rfl rfl rfl (Nat.le_of_ble_eq_true rfl) rfl rfl (jd D_Md_blanks 21 rfl) ?_
          refine jv_goto (tgt := 0) C (jd D_Md_blanks 22 rfl) (by decide) ?_
          exact ih (i0 + 1) (by omega) (by omega) (by rw [hsk, js_sk_s hbk])
        · refine jv_aload_n C (jd D_Md_blanks 8 rfl) rfl 0 rfl ?_
          refine jv_callV (wr := []) C cl_Md_129 (c_Md_c o Q K tb N f t i0 (-1) hl hN ht (by omega)) [0, 1] [] rfl rfl rfl rfl (by decide) rfl rfl 0 rfl ⟨Nat.le_of_ble_eq_true rfl, Nat.le_of_ble_eq_true rfl⟩ ⟨Nat.le_of_ble_eq_true rfl, Nat.le_of_ble_eq_true rfl⟩ rfl rfl (Nat.le_of_ble_eq_true rfl) (jd D_Md_blanks 9 rfl) (fun v3 _ kc3 => ?_)
          obtain ⟨rc3, rfl, kc3⟩ := kc3
          refine jv_fix [0, 1] [(o, .inr (7, [.ref (Q 0), .int (K 1), .ref (Q 2), .int (K 3), .int (K 4), .int (K 5), .ref tb, .int (nI i0), .int (nI t.length), .int (-1), .ref (Q 10), .int (K 11), .int (K 12), .ref (Q 13), .ref (Q 14), .ref (Q 15), .ref (Q 16), .ref (Q 17)])), (tb, .inl (dA 0, N, .inl f))] [.int rc3] 0 0 rfl rfl rfl (Nat.le_refl _) (Nat.le_refl _) ?_
          subst kc3
          refine jv_bipush (v := 10) C (jd D_Md_blanks 10 rfl) (by decide) ?_
          refine jv_icmp_eq (tgt := 36) C (jd D_Md_blanks 11 rfl) (by decide) (fun c24 => ?_) (fun c24 => ?_)
          · have hbk := js_blk (x := js_b t i0) (Or.inr (Or.inr (Or.inl c24)))
            have hi2 : i0 < t.length := js_b_lt (fun e => hbk (by rw [e]; decide))
            refine jv_aload_n C (jd D_Md_blanks 16 rfl) rfl 0 rfl ?_
            refine jv_dup C (jd D_Md_blanks 17 rfl) rfl ?_
            refine jv_get C fl_Md_117 0 rfl rfl (jd D_Md_blanks 18 rfl) ?_
            refine jv_iconst (v := 1) C (jd D_Md_blanks 19 rfl) (by decide) ?_
            refine jv_iadd C (jd D_Md_blanks 20 rfl) ?_
            refine jv_ati (y := nI (i0 + 1)) (nI_1 i0) ?_
            refine jv_put C fl_Md_117 Y_Md rfl 0 [(o, .inr (7, [.ref (Q 0), .int (K 1), .ref (Q 2), .int (K 3), .int (K 4), .int (K 5), .ref tb, .int (nI (i0 + 1)), .int (nI t.length), .int (-1), .ref (Q 10), .int (K 11), .int (K 12), .ref (Q 13), .ref (Q 14), .ref (Q 15), .ref (Q 16), .ref (Q 17)])), (tb, .inl (dA 0, N, .inl f))] rfl rfl rfl (Nat.le_of_ble_eq_true rfl) rfl rfl (jd D_Md_blanks 21 rfl) ?_
            refine jv_goto (tgt := 0) C (jd D_Md_blanks 22 rfl) (by decide) ?_
            exact ih (i0 + 1) (by omega) (by omega) (by rw [hsk, js_sk_s hbk])
          · refine jv_aload_n C (jd D_Md_blanks 12 rfl) rfl 0 rfl ?_
            refine jv_callV (wr := []) C cl_Md_129 (c_Md_c o Q K tb N f t i0 (-1) hl hN ht (by omega)) [0, 1] [] rfl rfl rfl rfl (by decide) rfl rfl 0 rfl ⟨Nat.le_of_ble_eq_true rfl, Nat.le_of_ble_eq_true rfl⟩ ⟨Nat.le_of_ble_eq_true rfl, Nat.le_of_ble_eq_true rfl⟩ rfl rfl (Nat.le_of_ble_eq_true rfl) (jd D_Md_blanks 13 rfl) (fun v4 _ kc4 => ?_)
            obtain ⟨rc4, rfl, kc4⟩ := kc4
            refine jv_fix [0, 1] [(o, .inr (7, [.ref (Q 0), .int (K 1), .ref (Q 2), .int (K 3), .int (K 4), .int (K 5), .ref tb, .int (nI i0), .int (nI t.length), .int (-1), .ref (Q 10), .int (K 11), .int (K 12), .ref (Q 13), .ref (Q 14), .ref (Q 15), .ref (Q 16), .ref (Q 17)])), (tb, .inl (dA 0, N, .inl f))] [.int rc4] 0 0 rfl rfl rfl (Nat.le_refl _) (Nat.le_refl _) ?_
            subst kc4
            refine jv_bipush (v := 13) C (jd D_Md_blanks 14 rfl) (by decide) ?_
            refine jv_icmp_ne (tgt := 49) C (jd D_Md_blanks 15 rfl) (by decide) (fun c33 => ?_) (fun c33 => ?_)
            · have e0 : js_sk t p = i0 := by rw [hsk, js_sk_id (js_nblk c6 c15 c24 c33)]
              rw [← e0]
              rw [hQ]
              exact jv_vret C hr () (trivial) [0, 1] rfl rfl (Nat.le_of_ble_eq_true rfl) (Nat.le_of_ble_eq_true rfl) (jd D_Md_blanks 23 rfl)
            · have hbk := js_blk (x := js_b t i0) (Or.inr (Or.inr (Or.inr c33)))
              have hi2 : i0 < t.length := js_b_lt (fun e => hbk (by rw [e]; decide))
              refine jv_aload_n C (jd D_Md_blanks 16 rfl) rfl 0 rfl ?_
              refine jv_dup C (jd D_Md_blanks 17 rfl) rfl ?_
              refine jv_get C fl_Md_117 0 rfl rfl (jd D_Md_blanks 18 rfl) ?_
              refine jv_iconst (v := 1) C (jd D_Md_blanks 19 rfl) (by decide) ?_
              refine jv_iadd C (jd D_Md_blanks 20 rfl) ?_
              refine jv_ati (y := nI (i0 + 1)) (nI_1 i0) ?_
              refine jv_put C fl_Md_117 Y_Md rfl 0 [(o, .inr (7, [.ref (Q 0), .int (K 1), .ref (Q 2), .int (K 3), .int (K 4), .int (K 5), .ref tb, .int (nI (i0 + 1)), .int (nI t.length), .int (-1), .ref (Q 10), .int (K 11), .int (K 12), .ref (Q 13), .ref (Q 14), .ref (Q 15), .ref (Q 16), .ref (Q 17)])), (tb, .inl (dA 0, N, .inl f))] rfl rfl rfl (Nat.le_of_ble_eq_true rfl) rfl rfl (jd D_Md_blanks 21 rfl) ?_
              refine jv_goto (tgt := 0) C (jd D_Md_blanks 22 rfl) (by decide) ?_
              exact ih (i0 + 1) (by omega) (by omega) (by rw [hsk, js_sk_s hbk])
  exact hL0 (t.length + 1) p hp (by omega) rfl

set_option maxHeartbeats 4000000 in
set_option maxRecDepth 100000 in
/-- take(ch), where it stands there -/
theorem c_Md_take1_ok {l : Launch} {D : va_G} {dA : Nat → ClassId} {zz : (Nat → Nat) × (Nat → Nat)} (o : Nat) (Q : Nat → Nat) (K : Nat → Int32) (tb N : Nat) (f : Nat → Int32) (t : List Nat) (p : Nat) (x : Int32) (hl : t.length ≤ N) (hN : N < 2 ^ 29) (ht : js_tx f t) (hp : p < 2 ^ 30) (hb : js_b t p = x) : jv_M l D dA zz y_Md_take1 b_Md_take1 2 (some (FieldType.boolean)) 2 [.ref o, .int x] [(o, .inr (7, [.ref (Q 0), .int (K 1), .ref (Q 2), .int (K 3), .int (K 4), .int (K 5), .ref tb, .int (nI p), .int (nI t.length), .int (-1), .ref (Q 10), .int (K 11), .int (K 12), .ref (Q 13), .ref (Q 14), .ref (Q 15), .ref (Q 16), .ref (Q 17)])), (tb, .inl (dA 0, N, .inl f))] (jv_pi fun r (_ : Unit) => r = 1) (fun _ => [(o, .inr (7, [.ref (Q 0), .int (K 1), .ref (Q 2), .int (K 3), .int (K 4), .int (K 5), .ref tb, .int (nI (p + 1)), .int (nI t.length), .int (-1), .ref (Q 10), .int (K 11), .int (K 12), .ref (Q 13), .ref (Q 14), .ref (Q 15), .ref (Q 16), .ref (Q 17)])), (tb, .inl (dA 0, N, .inl f))]) 0 0 := by
  refine jv_M.of [(0, .ref o), (1, .int x)] (by decide) (Nat.le_of_ble_eq_true rfl) rfl ?_
  intro pR eR sR mR belowR methR cR AR C hr hin
  refine jv_aload_n C (jd D_Md_take1 0 rfl) rfl 0 rfl ?_
  refine jv_callV (wr := []) C cl_Md_129 (c_Md_c o Q K tb N f t p (-1) hl hN ht (by omega)) [0, 1] [] rfl rfl rfl rfl (by decide) rfl rfl 0 rfl ⟨Nat.le_of_ble_eq_true rfl, Nat.le_of_ble_eq_true rfl⟩ ⟨Nat.le_of_ble_eq_true rfl, Nat.le_of_ble_eq_true rfl⟩ rfl rfl (Nat.le_of_ble_eq_true rfl) (jd D_Md_take1 1 rfl) (fun v1 _ kc1 => ?_)
  obtain ⟨rc1, rfl, kc1⟩ := kc1
  refine jv_fix [0, 1] [(o, .inr (7, [.ref (Q 0), .int (K 1), .ref (Q 2), .int (K 3), .int (K 4), .int (K 5), .ref tb, .int (nI p), .int (nI t.length), .int (-1), .ref (Q 10), .int (K 11), .int (K 12), .ref (Q 13), .ref (Q 14), .ref (Q 15), .ref (Q 16), .ref (Q 17)])), (tb, .inl (dA 0, N, .inl f))] [.int rc1] 0 0 rfl rfl rfl (Nat.le_refl _) (Nat.le_refl _) ?_
  subst kc1
  refine jv_iload_n C (jd D_Md_take1 2 rfl) rfl 1 rfl ?_
  refine jv_icmp_eq (tgt := 17) C (jd D_Md_take1 3 rfl) (by decide) (fun c5 => ?_) (fun c5 => absurd (hb) c5)
  refine jv_aload_n C (jd D_Md_take1 9 rfl) rfl 0 rfl ?_
  refine jv_dup C (jd D_Md_take1 10 rfl) rfl ?_
  refine jv_get C fl_Md_117 0 rfl rfl (jd D_Md_take1 11 rfl) ?_
  refine jv_iconst (v := 1) C (jd D_Md_take1 12 rfl) (by decide) ?_
  refine jv_iadd C (jd D_Md_take1 13 rfl) ?_
  refine jv_ati (y := nI (p + 1)) (nI_1 p) ?_
  refine jv_put C fl_Md_117 Y_Md rfl 0 [(o, .inr (7, [.ref (Q 0), .int (K 1), .ref (Q 2), .int (K 3), .int (K 4), .int (K 5), .ref tb, .int (nI (p + 1)), .int (nI t.length), .int (-1), .ref (Q 10), .int (K 11), .int (K 12), .ref (Q 13), .ref (Q 14), .ref (Q 15), .ref (Q 16), .ref (Q 17)])), (tb, .inl (dA 0, N, .inl f))] rfl rfl rfl (Nat.le_of_ble_eq_true rfl) rfl rfl (jd D_Md_take1 14 rfl) ?_
  refine jv_iconst (v := 1) C (jd D_Md_take1 15 rfl) (by decide) ?_
  exact jv_iret C hr () (rfl) rfl [0, 1] rfl rfl (Nat.le_of_ble_eq_true rfl) (Nat.le_of_ble_eq_true rfl) (jd D_Md_take1 16 rfl)

set_option maxHeartbeats 4000000 in
set_option maxRecDepth 100000 in
/-- take(ch), where it does not -/
theorem c_Md_take1_no {l : Launch} {D : va_G} {dA : Nat → ClassId} {zz : (Nat → Nat) × (Nat → Nat)} (o : Nat) (Q : Nat → Nat) (K : Nat → Int32) (tb N : Nat) (f : Nat → Int32) (t : List Nat) (p : Nat) (x : Int32) (hl : t.length ≤ N) (hN : N < 2 ^ 29) (ht : js_tx f t) (hp : p < 2 ^ 30) (hb : ¬ js_b t p = x) : jv_M l D dA zz y_Md_take1 b_Md_take1 2 (some (FieldType.boolean)) 2 [.ref o, .int x] [(o, .inr (7, [.ref (Q 0), .int (K 1), .ref (Q 2), .int (K 3), .int (K 4), .int (K 5), .ref tb, .int (nI p), .int (nI t.length), .int (-1), .ref (Q 10), .int (K 11), .int (K 12), .ref (Q 13), .ref (Q 14), .ref (Q 15), .ref (Q 16), .ref (Q 17)])), (tb, .inl (dA 0, N, .inl f))] (jv_pi fun r (_ : Unit) => r = 0) (fun _ => [(o, .inr (7, [.ref (Q 0), .int (K 1), .ref (Q 2), .int (K 3), .int (K 4), .int (K 5), .ref tb, .int (nI p), .int (nI t.length), .int (nI p), .ref (Q 10), .int (K 11), .int (K 12), .ref (Q 13), .ref (Q 14), .ref (Q 15), .ref (Q 16), .ref (Q 17)])), (tb, .inl (dA 0, N, .inl f))]) 0 0 := by
  refine jv_M.of [(0, .ref o), (1, .int x)] (by decide) (Nat.le_of_ble_eq_true rfl) rfl ?_
  intro pR eR sR mR belowR methR cR AR C hr hin
  refine jv_aload_n C (jd D_Md_take1 0 rfl) rfl 0 rfl ?_
  refine jv_callV (wr := []) C cl_Md_129 (c_Md_c o Q K tb N f t p (-1) hl hN ht (by omega)) [0, 1] [] rfl rfl rfl rfl (by decide) rfl rfl 0 rfl ⟨Nat.le_of_ble_eq_true rfl, Nat.le_of_ble_eq_true rfl⟩ ⟨Nat.le_of_ble_eq_true rfl, Nat.le_of_ble_eq_true rfl⟩ rfl rfl (Nat.le_of_ble_eq_true rfl) (jd D_Md_take1 1 rfl) (fun v1 _ kc1 => ?_)
  obtain ⟨rc1, rfl, kc1⟩ := kc1
  refine jv_fix [0, 1] [(o, .inr (7, [.ref (Q 0), .int (K 1), .ref (Q 2), .int (K 3), .int (K 4), .int (K 5), .ref tb, .int (nI p), .int (nI t.length), .int (-1), .ref (Q 10), .int (K 11), .int (K 12), .ref (Q 13), .ref (Q 14), .ref (Q 15), .ref (Q 16), .ref (Q 17)])), (tb, .inl (dA 0, N, .inl f))] [.int rc1] 0 0 rfl rfl rfl (Nat.le_refl _) (Nat.le_refl _) ?_
  subst kc1
  refine jv_iload_n C (jd D_Md_take1 2 rfl) rfl 1 rfl ?_
  refine jv_icmp_eq (tgt := 17) C (jd D_Md_take1 3 rfl) (by decide) (fun c5 => absurd c5 (hb)) (fun c5 => ?_)
  refine jv_aload_n C (jd D_Md_take1 4 rfl) rfl 0 rfl ?_
  refine jv_aload_n C (jd D_Md_take1 5 rfl) rfl 0 rfl ?_
  refine jv_get C fl_Md_117 0 rfl rfl (jd D_Md_take1 6 rfl) ?_
  refine jv_callV (wr := [(tb, .inl (dA 0, N, .inl f))]) C cl_Md_133 (c_Md_fail o Q K tb (nI p) (nI t.length) (nI p)) [0] [1] rfl rfl rfl rfl (by decide) rfl rfl 0 rfl ⟨Nat.le_of_ble_eq_true rfl, Nat.le_of_ble_eq_true rfl⟩ ⟨Nat.le_of_ble_eq_true rfl, Nat.le_of_ble_eq_true rfl⟩ rfl rfl (Nat.le_of_ble_eq_true rfl) (jd D_Md_take1 7 rfl) (fun v2 _ kf9 => ?_)
  obtain ⟨rf9, rfl, kf9⟩ := kf9
  refine jv_fix [1, 0] [(o, .inr (7, [.ref (Q 0), .int (K 1), .ref (Q 2), .int (K 3), .int (K 4), .int (K 5), .ref tb, .int (nI p), .int (nI t.length), .int (nI p), .ref (Q 10), .int (K 11), .int (K 12), .ref (Q 13), .ref (Q 14), .ref (Q 15), .ref (Q 16), .ref (Q 17)])), (tb, .inl (dA 0, N, .inl f))] [.int rf9] 0 0 rfl rfl rfl (Nat.le_refl _) (Nat.le_refl _) ?_
  subst kf9
  exact jv_iret C hr () (rfl) rfl [0, 1] rfl rfl (Nat.le_of_ble_eq_true rfl) (Nat.le_of_ble_eq_true rfl) (jd D_Md_take1 8 rfl)

set_option maxHeartbeats 4000000 in
set_option maxRecDepth 100000 in
/-- word(s), where it stands there -/
theorem c_Md_wordS_ok {l : Launch} {D : va_G} {dA : Nat → ClassId} {zz : (Nat → Nat) × (Nat → Nat)} (o : Nat) (Q : Nat → Nat) (K : Nat → Int32) (tb N : Nat) (f : Nat → Int32) (t : List Nat) (p : Nat) (z : Nat) (ks : Nat) (hks : ks < 7) (hp : p < 2 ^ 29) (hl : t.length ≤ N) (hN : N < 2 ^ 29) (ht : js_tx f t) (hz : js_li t ks (jz_len.getD ks 0) 0 p = .inr z) : jv_M l D dA zz y_Md_wordS b_Md_wordS 3 (some (FieldType.boolean)) 5 [.ref o, .ref (zz.1 ks)] [(o, .inr (7, [.ref (Q 0), .int (K 1), .ref (Q 2), .int (K 3), .int (K 4), .int (K 5), .ref tb, .int (nI p), .int (nI t.length), .int (-1), .ref (Q 10), .int (K 11), .int (K 12), .ref (Q 13), .ref (Q 14), .ref (Q 15), .ref (Q 16), .ref (Q 17)])), (tb, .inl (dA 0, N, .inl f))] (jv_pi fun r (_ : Unit) => r = 1) (fun _ => [(o, .inr (7, [.ref (Q 0), .int (K 1), .ref (Q 2), .int (K 3), .int (K 4), .int (K 5), .ref tb, .int (nI z), .int (nI t.length), .int (-1), .ref (Q 10), .int (K 11), .int (K 12), .ref (Q 13), .ref (Q 14), .ref (Q 15), .ref (Q 16), .ref (Q 17)])), (tb, .inl (dA 0, N, .inl f))]) 0 0 := by
  refine jv_M.of [(0, .ref o), (1, .ref (zz.1 ks))] (by decide) (Nat.le_of_ble_eq_true rfl) rfl ?_
  intro pR eR sR mR belowR methR cR AR C hr hin
  obtain ⟨QR, hQ⟩ : ∃ QR, QR = jv_E D (jv_pi fun r (_ : Unit) => r = 1) (fun _ => [(o, .inr (7, [.ref (Q 0), .int (K 1), .ref (Q 2), .int (K 3), .int (K 4), .int (K 5), .ref tb, .int (nI z), .int (nI t.length), .int (-1), .ref (Q 10), .int (K 11), .int (K 12), .ref (Q 13), .ref (Q 14), .ref (Q 15), .ref (Q 16), .ref (Q 17)])), (tb, .inl (dA 0, N, .inl f))]) belowR ([.ref o, .ref (zz.1 ks)] : List Value).toArray sR AR 0 0 := ⟨_, rfl⟩
  rw [← hQ]
  have hlen := js_sl16 ks hks
  refine jv_iconst (v := 0) C (jd D_Md_wordS 0 rfl) (by decide) ?_
  refine jv_istore_n C [(2, .int 0), (0, .ref o), (1, .ref (zz.1 ks))] (jd D_Md_wordS 1 rfl) rfl (by decide) rfl ?_
  have hL2 : ∀ (n : Nat) (i0 : Nat), i0 ≤ jz_len.getD ks 0 → jz_len.getD ks 0 + 1 ≤ i0 + n → js_li t ks (jz_len.getD ks 0 - i0) i0 (p + i0) = .inr z → jv_V pR l eR (jv_rm 5 0 0) sR mR ([.ref o, .ref (zz.1 ks)] : List Value).toArray belowR methR cR 0 0 QR D AR 3 [(o, .inr (7, [.ref (Q 0), .int (K 1), .ref (Q 2), .int (K 3), .int (K 4), .int (K 5), .ref tb, .int (nI (p + i0)), .int (nI t.length), .int (-1), .ref (Q 10), .int (K 11), .int (K 12), .ref (Q 13), .ref (Q 14), .ref (Q 15), .ref (Q 16), .ref (Q 17)])), (tb, .inl (dA 0, N, .inl f))] [(0, .ref o), (1, .ref (zz.1 ks)), (2, .int (nI i0))] 2 [] := by
    intro n
    induction n with
    | zero =>
      intro i0 h0 h1
      exact absurd h1 (by omega)
    | succ n ih =>
      intro i0 hi hm hli
      refine jv_iload_n C (jd D_Md_wordS 2 rfl) rfl 2 rfl ?_
      refine jv_aload_n C (jd D_Md_wordS 3 rfl) rfl 1 rfl ?_
      refine jv_callVs (wr := [(o, .inr (7, [.ref (Q 0), .int (K 1), .ref (Q 2), .int (K 3), .int (K 4), .int (K 5), .ref tb, .int (nI (p + i0)), .int (nI t.length), .int (-1), .ref (Q 10), .int (K 11), .int (K 12), .ref (Q 13), .ref (Q 14), .ref (Q 15), .ref (Q 16), .ref (Q 17)])), (tb, .inl (dA 0, N, .inl f))]) C cl_Md_137 (c_Js_length ks hks) hks rfl [] [0, 1] rfl rfl rfl rfl (by decide) ⟨Nat.le_of_ble_eq_true rfl, Nat.le_of_ble_eq_true rfl⟩ ⟨Nat.le_of_ble_eq_true rfl, Nat.le_of_ble_eq_true rfl⟩ rfl rfl (Nat.le_of_ble_eq_true rfl) (jd D_Md_wordS 4 rfl) (fun v1 _ k1 => ?_)
      obtain ⟨r1, rfl, k1⟩ := k1
      refine jv_fix [0, 1] [(o, .inr (7, [.ref (Q 0), .int (K 1), .ref (Q 2), .int (K 3), .int (K 4), .int (K 5), .ref tb, .int (nI (p + i0)), .int (nI t.length), .int (-1), .ref (Q 10), .int (K 11), .int (K 12), .ref (Q 13), .ref (Q 14), .ref (Q 15), .ref (Q 16), .ref (Q 17)])), (tb, .inl (dA 0, N, .inl f))] [.int r1, .int (nI i0)] 0 0 rfl rfl rfl (Nat.le_refl _) (Nat.le_refl _) ?_
      subst k1
      refine jv_icmp_ge (tgt := 30) C (jd D_Md_wordS 5 rfl) (by decide) (fun c7 => ?_) (fun c7 => ?_)
      · have hge : i0 = jz_len.getD ks 0 := by
          have := (nI_leI (a := jz_len.getD ks 0) (b := i0) (by omega) (by omega)).mp c7
          omega
        have ez : p + i0 = z := by
          rw [hge, Nat.sub_self, js_li] at hli
          rw [hge]
          exact Sum.inr.inj hli
        rw [ez]
        refine jv_iconst (v := 1) C (jd D_Md_wordS 16 rfl) (by decide) ?_
        rw [hQ]
        exact jv_iret C hr () (rfl) rfl [0, 1] rfl rfl (Nat.le_of_ble_eq_true rfl) (Nat.le_of_ble_eq_true rfl) (jd D_Md_wordS 17 rfl)
      · have hlt : i0 < jz_len.getD ks 0 := by
          rcases Nat.lt_or_ge i0 (jz_len.getD ks 0) with q | q
          · exact q
          · exact absurd (nI_le q (by omega)) c7
        refine jv_aload_n C (jd D_Md_wordS 6 rfl) rfl 0 rfl ?_
        refine jv_aload_n C (jd D_Md_wordS 7 rfl) rfl 1 rfl ?_
        refine jv_iload_n C (jd D_Md_wordS 8 rfl) rfl 2 rfl ?_
        refine jv_callVs (wr := [(o, .inr (7, [.ref (Q 0), .int (K 1), .ref (Q 2), .int (K 3), .int (K 4), .int (K 5), .ref tb, .int (nI (p + i0)), .int (nI t.length), .int (-1), .ref (Q 10), .int (K 11), .int (K 12), .ref (Q 13), .ref (Q 14), .ref (Q 15), .ref (Q 16), .ref (Q 17)])), (tb, .inl (dA 0, N, .inl f))]) C cl_Md_141 (c_Js_charAt ks i0 hks hlt) hks rfl [] [0, 1] rfl rfl rfl rfl (by decide) ⟨Nat.le_of_ble_eq_true rfl, Nat.le_of_ble_eq_true rfl⟩ ⟨Nat.le_of_ble_eq_true rfl, Nat.le_of_ble_eq_true rfl⟩ rfl rfl (Nat.le_of_ble_eq_true rfl) (jd D_Md_wordS 9 rfl) (fun v2 _ k2 => ?_)
        obtain ⟨r2, rfl, k2⟩ := k2
        refine jv_fix [0, 1] [(o, .inr (7, [.ref (Q 0), .int (K 1), .ref (Q 2), .int (K 3), .int (K 4), .int (K 5), .ref tb, .int (nI (p + i0)), .int (nI t.length), .int (-1), .ref (Q 10), .int (K 11), .int (K 12), .ref (Q 13), .ref (Q 14), .ref (Q 15), .ref (Q 16), .ref (Q 17)])), (tb, .inl (dA 0, N, .inl f))] [.int r2, .ref o] 0 0 rfl rfl rfl (Nat.le_refl _) (Nat.le_refl _) ?_
        subst k2
        have hli2 := hli
        rw [show jz_len.getD ks 0 - i0 = (jz_len.getD ks 0 - (i0 + 1)) + 1 by omega, js_li] at hli2
        have heq : js_b t (p + i0) = js_sc ks i0 := by
          by_cases q : js_b t (p + i0) = js_sc ks i0
          · exact q
          · rw [if_neg q] at hli2; cases hli2
        rw [if_pos heq] at hli2
        refine jv_callV (wr := []) C cl_Md_145 (c_Md_take1_ok o Q K tb N f t (p + i0) (js_sc ks i0) hl hN ht (by omega) heq) [0, 1] [] rfl rfl rfl rfl (by decide) rfl rfl 0 rfl ⟨Nat.le_of_ble_eq_true rfl, Nat.le_of_ble_eq_true rfl⟩ ⟨Nat.le_of_ble_eq_true rfl, Nat.le_of_ble_eq_true rfl⟩ rfl rfl (Nat.le_of_ble_eq_true rfl) (jd D_Md_wordS 10 rfl) (fun v3 _ k3 => ?_)
        obtain ⟨r3, rfl, k3⟩ := k3
        refine jv_fix [0, 1] [(o, .inr (7, [.ref (Q 0), .int (K 1), .ref (Q 2), .int (K 3), .int (K 4), .int (K 5), .ref tb, .int (nI (p + i0 + 1)), .int (nI t.length), .int (-1), .ref (Q 10), .int (K 11), .int (K 12), .ref (Q 13), .ref (Q 14), .ref (Q 15), .ref (Q 16), .ref (Q 17)])), (tb, .inl (dA 0, N, .inl f))] [.int r3] 0 0 rfl rfl rfl (Nat.le_refl _) (Nat.le_refl _) ?_
        subst k3
        refine jv_if_ne (tgt := 24) C (jd D_Md_wordS 11 rfl) (by decide) (fun c19 => ?_) (fun c19 => absurd c19 (by decide))
        rw [Nat.add_assoc p i0 1]
        refine jv_iinc (v := nI (i0 + 1)) C [(2, .int (nI (i0 + 1))), (0, .ref o), (1, .ref (zz.1 ks))] (jd D_Md_wordS 14 rfl) 2 rfl (nI_1 i0) (by decide) rfl ?_
        refine jv_goto (tgt := 2) C (jd D_Md_wordS 15 rfl) (by decide) ?_
        refine jv_lvsub [1, 2, 0] rfl ?_
        exact ih (i0 + 1) (by omega) (by omega) hli2
  refine jv_lvsub [1, 2, 0] rfl ?_
  exact hL2 (jz_len.getD ks 0 + 1) 0 (Nat.zero_le _) (by omega) hz

set_option maxHeartbeats 4000000 in
set_option maxRecDepth 100000 in
/-- word(s), where it does not -/
theorem c_Md_wordS_no {l : Launch} {D : va_G} {dA : Nat → ClassId} {zz : (Nat → Nat) × (Nat → Nat)} (o : Nat) (Q : Nat → Nat) (K : Nat → Int32) (tb N : Nat) (f : Nat → Int32) (t : List Nat) (p : Nat) (z : Nat) (ks : Nat) (hks : ks < 7) (hp : p < 2 ^ 29) (hl : t.length ≤ N) (hN : N < 2 ^ 29) (ht : js_tx f t) (hz : js_li t ks (jz_len.getD ks 0) 0 p = .inl z) : jv_M l D dA zz y_Md_wordS b_Md_wordS 3 (some (FieldType.boolean)) 5 [.ref o, .ref (zz.1 ks)] [(o, .inr (7, [.ref (Q 0), .int (K 1), .ref (Q 2), .int (K 3), .int (K 4), .int (K 5), .ref tb, .int (nI p), .int (nI t.length), .int (-1), .ref (Q 10), .int (K 11), .int (K 12), .ref (Q 13), .ref (Q 14), .ref (Q 15), .ref (Q 16), .ref (Q 17)])), (tb, .inl (dA 0, N, .inl f))] (jv_pi fun r (_ : Unit) => r = 0) (fun _ => [(o, .inr (7, [.ref (Q 0), .int (K 1), .ref (Q 2), .int (K 3), .int (K 4), .int (K 5), .ref tb, .int (nI z), .int (nI t.length), .int (nI z), .ref (Q 10), .int (K 11), .int (K 12), .ref (Q 13), .ref (Q 14), .ref (Q 15), .ref (Q 16), .ref (Q 17)])), (tb, .inl (dA 0, N, .inl f))]) 0 0 := by
  refine jv_M.of [(0, .ref o), (1, .ref (zz.1 ks))] (by decide) (Nat.le_of_ble_eq_true rfl) rfl ?_
  intro pR eR sR mR belowR methR cR AR C hr hin
  obtain ⟨QR, hQ⟩ : ∃ QR, QR = jv_E D (jv_pi fun r (_ : Unit) => r = 0) (fun _ => [(o, .inr (7, [.ref (Q 0), .int (K 1), .ref (Q 2), .int (K 3), .int (K 4), .int (K 5), .ref tb, .int (nI z), .int (nI t.length), .int (nI z), .ref (Q 10), .int (K 11), .int (K 12), .ref (Q 13), .ref (Q 14), .ref (Q 15), .ref (Q 16), .ref (Q 17)])), (tb, .inl (dA 0, N, .inl f))]) belowR ([.ref o, .ref (zz.1 ks)] : List Value).toArray sR AR 0 0 := ⟨_, rfl⟩
  rw [← hQ]
  have hlen := js_sl16 ks hks
  refine jv_iconst (v := 0) C (jd D_Md_wordS 0 rfl) (by decide) ?_
  refine jv_istore_n C [(2, .int 0), (0, .ref o), (1, .ref (zz.1 ks))] (jd D_Md_wordS 1 rfl) rfl (by decide) rfl ?_
  have hL2 : ∀ (n : Nat) (i0 : Nat), i0 ≤ jz_len.getD ks 0 → jz_len.getD ks 0 + 1 ≤ i0 + n → js_li t ks (jz_len.getD ks 0 - i0) i0 (p + i0) = .inl z → jv_V pR l eR (jv_rm 5 0 0) sR mR ([.ref o, .ref (zz.1 ks)] : List Value).toArray belowR methR cR 0 0 QR D AR 3 [(o, .inr (7, [.ref (Q 0), .int (K 1), .ref (Q 2), .int (K 3), .int (K 4), .int (K 5), .ref tb, .int (nI (p + i0)), .int (nI t.length), .int (-1), .ref (Q 10), .int (K 11), .int (K 12), .ref (Q 13), .ref (Q 14), .ref (Q 15), .ref (Q 16), .ref (Q 17)])), (tb, .inl (dA 0, N, .inl f))] [(0, .ref o), (1, .ref (zz.1 ks)), (2, .int (nI i0))] 2 [] := by
    intro n
    induction n with
    | zero =>
      intro i0 h0 h1
      exact absurd h1 (by omega)
    | succ n ih =>
      intro i0 hi hm hli
      refine jv_iload_n C (jd D_Md_wordS 2 rfl) rfl 2 rfl ?_
      refine jv_aload_n C (jd D_Md_wordS 3 rfl) rfl 1 rfl ?_
      refine jv_callVs (wr := [(o, .inr (7, [.ref (Q 0), .int (K 1), .ref (Q 2), .int (K 3), .int (K 4), .int (K 5), .ref tb, .int (nI (p + i0)), .int (nI t.length), .int (-1), .ref (Q 10), .int (K 11), .int (K 12), .ref (Q 13), .ref (Q 14), .ref (Q 15), .ref (Q 16), .ref (Q 17)])), (tb, .inl (dA 0, N, .inl f))]) C cl_Md_137 (c_Js_length ks hks) hks rfl [] [0, 1] rfl rfl rfl rfl (by decide) ⟨Nat.le_of_ble_eq_true rfl, Nat.le_of_ble_eq_true rfl⟩ ⟨Nat.le_of_ble_eq_true rfl, Nat.le_of_ble_eq_true rfl⟩ rfl rfl (Nat.le_of_ble_eq_true rfl) (jd D_Md_wordS 4 rfl) (fun v1 _ k1 => ?_)
      obtain ⟨r1, rfl, k1⟩ := k1
      refine jv_fix [0, 1] [(o, .inr (7, [.ref (Q 0), .int (K 1), .ref (Q 2), .int (K 3), .int (K 4), .int (K 5), .ref tb, .int (nI (p + i0)), .int (nI t.length), .int (-1), .ref (Q 10), .int (K 11), .int (K 12), .ref (Q 13), .ref (Q 14), .ref (Q 15), .ref (Q 16), .ref (Q 17)])), (tb, .inl (dA 0, N, .inl f))] [.int r1, .int (nI i0)] 0 0 rfl rfl rfl (Nat.le_refl _) (Nat.le_refl _) ?_
      subst k1
      refine jv_icmp_ge (tgt := 30) C (jd D_Md_wordS 5 rfl) (by decide) (fun c7 => ?_) (fun c7 => ?_)
      · exact absurd hli (by
          have := (nI_leI (a := jz_len.getD ks 0) (b := i0) (by omega) (by omega)).mp c7
          rw [show i0 = jz_len.getD ks 0 by omega, Nat.sub_self, js_li]
          intro q
          cases q)
      · have hlt : i0 < jz_len.getD ks 0 := by
          rcases Nat.lt_or_ge i0 (jz_len.getD ks 0) with q | q
          · exact q
          · exact absurd (nI_le q (by omega)) c7
        refine jv_aload_n C (jd D_Md_wordS 6 rfl) rfl 0 rfl ?_
        refine jv_aload_n C (jd D_Md_wordS 7 rfl) rfl 1 rfl ?_
        refine jv_iload_n C (jd D_Md_wordS 8 rfl) rfl 2 rfl ?_
        refine jv_callVs (wr := [(o, .inr (7, [.ref (Q 0), .int (K 1), .ref (Q 2), .int (K 3), .int (K 4), .int (K 5), .ref tb, .int (nI (p + i0)), .int (nI t.length), .int (-1), .ref (Q 10), .int (K 11), .int (K 12), .ref (Q 13), .ref (Q 14), .ref (Q 15), .ref (Q 16), .ref (Q 17)])), (tb, .inl (dA 0, N, .inl f))]) C cl_Md_141 (c_Js_charAt ks i0 hks hlt) hks rfl [] [0, 1] rfl rfl rfl rfl (by decide) ⟨Nat.le_of_ble_eq_true rfl, Nat.le_of_ble_eq_true rfl⟩ ⟨Nat.le_of_ble_eq_true rfl, Nat.le_of_ble_eq_true rfl⟩ rfl rfl (Nat.le_of_ble_eq_true rfl) (jd D_Md_wordS 9 rfl) (fun v2 _ k2 => ?_)
        obtain ⟨r2, rfl, k2⟩ := k2
        refine jv_fix [0, 1] [(o, .inr (7, [.ref (Q 0), .int (K 1), .ref (Q 2), .int (K 3), .int (K 4), .int (K 5), .ref tb, .int (nI (p + i0)), .int (nI t.length), .int (-1), .ref (Q 10), .int (K 11), .int (K 12), .ref (Q 13), .ref (Q 14), .ref (Q 15), .ref (Q 16), .ref (Q 17)])), (tb, .inl (dA 0, N, .inl f))] [.int r2, .ref o] 0 0 rfl rfl rfl (Nat.le_refl _) (Nat.le_refl _) ?_
        subst k2
        have hli2 := hli
        rw [show jz_len.getD ks 0 - i0 = (jz_len.getD ks 0 - (i0 + 1)) + 1 by omega, js_li] at hli2
        by_cases heq : js_b t (p + i0) = js_sc ks i0
        · rw [if_pos heq] at hli2
          refine jv_callV (wr := []) C cl_Md_145 (c_Md_take1_ok o Q K tb N f t (p + i0) (js_sc ks i0) hl hN ht (by omega) heq) [0, 1] [] rfl rfl rfl rfl (by decide) rfl rfl 0 rfl ⟨Nat.le_of_ble_eq_true rfl, Nat.le_of_ble_eq_true rfl⟩ ⟨Nat.le_of_ble_eq_true rfl, Nat.le_of_ble_eq_true rfl⟩ rfl rfl (Nat.le_of_ble_eq_true rfl) (jd D_Md_wordS 10 rfl) (fun v3 _ k3 => ?_)
          obtain ⟨r3, rfl, k3⟩ := k3
          refine jv_fix [0, 1] [(o, .inr (7, [.ref (Q 0), .int (K 1), .ref (Q 2), .int (K 3), .int (K 4), .int (K 5), .ref tb, .int (nI (p + i0 + 1)), .int (nI t.length), .int (-1), .ref (Q 10), .int (K 11), .int (K 12), .ref (Q 13), .ref (Q 14), .ref (Q 15), .ref (Q 16), .ref (Q 17)])), (tb, .inl (dA 0, N, .inl f))] [.int r3] 0 0 rfl rfl rfl (Nat.le_refl _) (Nat.le_refl _) ?_
          subst k3
          refine jv_if_ne (tgt := 24) C (jd D_Md_wordS 11 rfl) (by decide) (fun c19 => ?_) (fun c19 => absurd c19 (by decide))
          rw [Nat.add_assoc p i0 1]
          refine jv_iinc (v := nI (i0 + 1)) C [(2, .int (nI (i0 + 1))), (0, .ref o), (1, .ref (zz.1 ks))] (jd D_Md_wordS 14 rfl) 2 rfl (nI_1 i0) (by decide) rfl ?_
          refine jv_goto (tgt := 2) C (jd D_Md_wordS 15 rfl) (by decide) ?_
          refine jv_lvsub [1, 2, 0] rfl ?_
          exact ih (i0 + 1) (by omega) (by omega) hli2
        · rw [if_neg heq] at hli2
          have ez : p + i0 = z := Sum.inl.inj hli2
          refine jv_callV (wr := []) C cl_Md_145 (c_Md_take1_no o Q K tb N f t (p + i0) (js_sc ks i0) hl hN ht (by omega) heq) [0, 1] [] rfl rfl rfl rfl (by decide) rfl rfl 0 rfl ⟨Nat.le_of_ble_eq_true rfl, Nat.le_of_ble_eq_true rfl⟩ ⟨Nat.le_of_ble_eq_true rfl, Nat.le_of_ble_eq_true rfl⟩ rfl rfl (Nat.le_of_ble_eq_true rfl) (jd D_Md_wordS 10 rfl) (fun v4 _ k3 => ?_)
          obtain ⟨r3, rfl, k3⟩ := k3
          refine jv_fix [0, 1] [(o, .inr (7, [.ref (Q 0), .int (K 1), .ref (Q 2), .int (K 3), .int (K 4), .int (K 5), .ref tb, .int (nI (p + i0)), .int (nI t.length), .int (nI (p + i0)), .ref (Q 10), .int (K 11), .int (K 12), .ref (Q 13), .ref (Q 14), .ref (Q 15), .ref (Q 16), .ref (Q 17)])), (tb, .inl (dA 0, N, .inl f))] [.int r3] 0 0 rfl rfl rfl (Nat.le_refl _) (Nat.le_refl _) ?_
          subst k3
          refine jv_if_ne (tgt := 24) C (jd D_Md_wordS 11 rfl) (by decide) (fun c19 => absurd c19 (fun q => q rfl)) (fun c19 => ?_)
          rw [ez]
          refine jv_iconst (v := 0) C (jd D_Md_wordS 12 rfl) (by decide) ?_
          rw [hQ]
          exact jv_iret C hr () (rfl) rfl [0, 1] rfl rfl (Nat.le_of_ble_eq_true rfl) (Nat.le_of_ble_eq_true rfl) (jd D_Md_wordS 13 rfl)
  refine jv_lvsub [1, 2, 0] rfl ?_
  exact hL2 (jz_len.getD ks 0 + 1) 0 (Nat.zero_le _) (by omega) hz
