set_option maxHeartbeats 4000000 in
set_option maxRecDepth 100000 in
/-- write(b) -/
theorem c_Md_write {l : Launch} {D : va_G} {dA : Nat → ClassId} {zz : (Nat → Nat) × (Nat → Nat)} (o : Nat) (Q : Nat → Nat) (K : Nat → Int32) (vt : Value) (g : Nat → Int32) (pr : List Nat) (b : Nat) (hg : js_tx g pr) (hw : pr.length < 16384) (hb : b < 256) : jv_M l D dA zz y_Md_write b_Md_write 2 none 1 [.ref o, .int (nI b)] [(o, .inr (7, [.ref (Q 0), .int (K 1), .ref (Q 2), .int (K 3), .int (K 4), .int (K 5), vt, .int (K 7), .int (K 8), .int (K 9), .ref (Q 10), .int (nI pr.length), .int 0, .ref (Q 13), .ref (Q 14), .ref (Q 15), .ref (Q 16), .ref (Q 17)])), ((Q 10), .inl (dA 0, 16392, .inl g))] (jv_pv fun g2 => js_tx g2 (pr ++ [b])) (fun g2 => [(o, .inr (7, [.ref (Q 0), .int (K 1), .ref (Q 2), .int (K 3), .int (K 4), .int (K 5), vt, .int (K 7), .int (K 8), .int (K 9), .ref (Q 10), .int (nI (pr ++ [b]).length), .int 0, .ref (Q 13), .ref (Q 14), .ref (Q 15), .ref (Q 16), .ref (Q 17)])), ((Q 10), .inl (dA 0, 16392, .inl g2))]) 0 0 := by
  refine jv_M.of [(0, .ref o), (1, .int (nI b))] (by decide) (Nat.le_of_ble_eq_true rfl) rfl ?_
  intro pR eR sR mR belowR methR cR AR C hr hin
  refine jv_aload_n C (jd D_Md_write 0 rfl) rfl 0 rfl ?_
  refine jv_get C fl_Md_214 0 rfl rfl (jd D_Md_write 1 rfl) ?_
  refine jv_sipush (v := 16384) C (jd D_Md_write 2 rfl) (by decide) ?_
  refine jv_icmp_lt (tgt := 16) C (jd D_Md_write 3 rfl) (by decide) (fun c7 => ?_) (fun c7 => absurd (nI_lt (b := 16384) hw (by decide)) c7)
  refine jv_aload_n C (jd D_Md_write 8 rfl) rfl 0 rfl ?_
  refine jv_get C fl_Md_20 0 rfl rfl (jd D_Md_write 9 rfl) ?_
  refine jv_aload_n C (jd D_Md_write 10 rfl) rfl 0 rfl ?_
  refine jv_get C fl_Md_214 0 rfl rfl (jd D_Md_write 11 rfl) ?_
  refine jv_iload_n C (jd D_Md_write 12 rfl) rfl 1 rfl ?_
  refine jv_i2b C (jd D_Md_write 13 rfl) ?_
  refine jv_bast C 1 [(o, .inr (7, [.ref (Q 0), .int (K 1), .ref (Q 2), .int (K 3), .int (K 4), .int (K 5), vt, .int (K 7), .int (K 8), .int (K 9), .ref (Q 10), .int (nI pr.length), .int 0, .ref (Q 13), .ref (Q 14), .ref (Q 15), .ref (Q 16), .ref (Q 17)])), ((Q 10), .inl (dA 0, 16392, .inl (upd g (nI pr.length).toNatClampNeg ((nI b).toInt8.toInt32).toInt8.toInt32)))] rfl rfl (vp_in_nI (by omega) (by decide)) (jd D_Md_write 14 rfl) ?_
  refine jv_weq (ws' := [(o, .inr (7, [.ref (Q 0), .int (K 1), .ref (Q 2), .int (K 3), .int (K 4), .int (K 5), vt, .int (K 7), .int (K 8), .int (K 9), .ref (Q 10), .int (nI pr.length), .int 0, .ref (Q 13), .ref (Q 14), .ref (Q 15), .ref (Q 16), .ref (Q 17)])), ((Q 10), .inl (dA 0, 16392, .inl (upd g pr.length (nI b).toInt8.toInt32)))]) (by rw [nI_clamp (by omega), js_b8]) ?_
  refine jv_aload_n C (jd D_Md_write 15 rfl) rfl 0 rfl ?_
  refine jv_dup C (jd D_Md_write 16 rfl) rfl ?_
  refine jv_get C fl_Md_214 0 rfl rfl (jd D_Md_write 17 rfl) ?_
  refine jv_iconst (v := 1) C (jd D_Md_write 18 rfl) (by decide) ?_
  refine jv_iadd C (jd D_Md_write 19 rfl) ?_
  refine jv_ati (y := nI (pr ++ [b]).length) (js_len1 pr b) ?_
  refine jv_put C fl_Md_214 Y_Md rfl 0 [(o, .inr (7, [.ref (Q 0), .int (K 1), .ref (Q 2), .int (K 3), .int (K 4), .int (K 5), vt, .int (K 7), .int (K 8), .int (K 9), .ref (Q 10), .int (nI (pr ++ [b]).length), .int 0, .ref (Q 13), .ref (Q 14), .ref (Q 15), .ref (Q 16), .ref (Q 17)])), ((Q 10), .inl (dA 0, 16392, .inl (upd g pr.length (nI b).toInt8.toInt32)))] rfl rfl rfl (Nat.le_of_ble_eq_true rfl) rfl rfl (jd D_Md_write 20 rfl) ?_
  exact jv_vret C hr (upd g pr.length (nI b).toInt8.toInt32) (by
    have h9 := js_tx_push (x := nI b) hg
    rw [js_pu1 hb] at h9
    exact h9) [0, 1] rfl rfl (Nat.le_of_ble_eq_true rfl) (Nat.le_of_ble_eq_true rfl) (jd D_Md_write 21 rfl)

set_option maxHeartbeats 4000000 in
set_option maxRecDepth 100000 in
/-- write(s) -/
theorem c_Md_writeS {l : Launch} {D : va_G} {dA : Nat → ClassId} {zz : (Nat → Nat) × (Nat → Nat)} (o : Nat) (Q : Nat → Nat) (K : Nat → Int32) (vt : Value) (g : Nat → Int32) (pr : List Nat) (ks : Nat) (hg : js_tx g pr) (hks : ks < 7) (hw : pr.length + 100 < 16384) : jv_M l D dA zz y_Md_writeS b_Md_writeS 3 none 5 [.ref o, .ref (zz.1 ks)] [(o, .inr (7, [.ref (Q 0), .int (K 1), .ref (Q 2), .int (K 3), .int (K 4), .int (K 5), vt, .int (K 7), .int (K 8), .int (K 9), .ref (Q 10), .int (nI pr.length), .int 0, .ref (Q 13), .ref (Q 14), .ref (Q 15), .ref (Q 16), .ref (Q 17)])), ((Q 10), .inl (dA 0, 16392, .inl g))] (jv_pv fun g2 => js_tx g2 (pr ++ js_wd ks)) (fun g2 => [(o, .inr (7, [.ref (Q 0), .int (K 1), .ref (Q 2), .int (K 3), .int (K 4), .int (K 5), vt, .int (K 7), .int (K 8), .int (K 9), .ref (Q 10), .int (nI (pr ++ js_wd ks).length), .int 0, .ref (Q 13), .ref (Q 14), .ref (Q 15), .ref (Q 16), .ref (Q 17)])), ((Q 10), .inl (dA 0, 16392, .inl g2))]) 0 0 := by
  refine jv_M.of [(0, .ref o), (1, .ref (zz.1 ks))] (by decide) (Nat.le_of_ble_eq_true rfl) rfl ?_
  intro pR eR sR mR belowR methR cR AR C hr hin
  obtain ⟨QR, hQ⟩ : ∃ QR, QR = jv_E D (jv_pv fun g2 => js_tx g2 (pr ++ js_wd ks)) (fun g2 => [(o, .inr (7, [.ref (Q 0), .int (K 1), .ref (Q 2), .int (K 3), .int (K 4), .int (K 5), vt, .int (K 7), .int (K 8), .int (K 9), .ref (Q 10), .int (nI (pr ++ js_wd ks).length), .int 0, .ref (Q 13), .ref (Q 14), .ref (Q 15), .ref (Q 16), .ref (Q 17)])), ((Q 10), .inl (dA 0, 16392, .inl g2))]) belowR ([.ref o, .ref (zz.1 ks)] : List Value).toArray sR AR 0 0 := ⟨_, rfl⟩
  rw [← hQ]
  have hlen := js_sl16 ks hks
  have hwl := js_wd_len ks hks
  refine jv_iconst (v := 0) C (jd D_Md_writeS 0 rfl) (by decide) ?_
  refine jv_istore_n C [(2, .int 0), (0, .ref o), (1, .ref (zz.1 ks))] (jd D_Md_writeS 1 rfl) rfl (by decide) rfl ?_
  have hL2 : ∀ (n : Nat) (i0 : Nat) (g0 : Nat → Int32), i0 ≤ jz_len.getD ks 0 → jz_len.getD ks 0 + 1 ≤ i0 + n → js_tx g0 (pr ++ (js_wd ks).take i0) → jv_V pR l eR (jv_rm 5 0 0) sR mR ([.ref o, .ref (zz.1 ks)] : List Value).toArray belowR methR cR 0 0 QR D AR 3 [(o, .inr (7, [.ref (Q 0), .int (K 1), .ref (Q 2), .int (K 3), .int (K 4), .int (K 5), vt, .int (K 7), .int (K 8), .int (K 9), .ref (Q 10), .int (nI (pr ++ (js_wd ks).take i0).length), .int 0, .ref (Q 13), .ref (Q 14), .ref (Q 15), .ref (Q 16), .ref (Q 17)])), ((Q 10), .inl (dA 0, 16392, .inl g0))] [(0, .ref o), (1, .ref (zz.1 ks)), (2, .int (nI i0))] 2 [] := by
    intro n
    induction n with
    | zero =>
      intro i0 g0 h0 h1
      exact absurd h1 (by omega)
    | succ n ih =>
      intro i0 g0 hi0 hm hi
      refine jv_iload_n C (jd D_Md_writeS 2 rfl) rfl 2 rfl ?_
      refine jv_aload_n C (jd D_Md_writeS 3 rfl) rfl 1 rfl ?_
      refine jv_callVs (wr := [(o, .inr (7, [.ref (Q 0), .int (K 1), .ref (Q 2), .int (K 3), .int (K 4), .int (K 5), vt, .int (K 7), .int (K 8), .int (K 9), .ref (Q 10), .int (nI (pr ++ (js_wd ks).take i0).length), .int 0, .ref (Q 13), .ref (Q 14), .ref (Q 15), .ref (Q 16), .ref (Q 17)])), ((Q 10), .inl (dA 0, 16392, .inl g0))]) C cl_Md_137 (c_Js_length ks hks) hks rfl [] [0, 1] rfl rfl rfl rfl (by decide) ⟨Nat.le_of_ble_eq_true rfl, Nat.le_of_ble_eq_true rfl⟩ ⟨Nat.le_of_ble_eq_true rfl, Nat.le_of_ble_eq_true rfl⟩ rfl rfl (Nat.le_of_ble_eq_true rfl) (jd D_Md_writeS 4 rfl) (fun v1 _ k1 => ?_)
      obtain ⟨r1, rfl, k1⟩ := k1
      refine jv_fix [0, 1] [(o, .inr (7, [.ref (Q 0), .int (K 1), .ref (Q 2), .int (K 3), .int (K 4), .int (K 5), vt, .int (K 7), .int (K 8), .int (K 9), .ref (Q 10), .int (nI (pr ++ (js_wd ks).take i0).length), .int 0, .ref (Q 13), .ref (Q 14), .ref (Q 15), .ref (Q 16), .ref (Q 17)])), ((Q 10), .inl (dA 0, 16392, .inl g0))] [.int r1, .int (nI i0)] 0 0 rfl rfl rfl (Nat.le_refl _) (Nat.le_refl _) ?_
      subst k1
      refine jv_icmp_ge (tgt := 25) C (jd D_Md_writeS 5 rfl) (by decide) (fun c7 => ?_) (fun c7 => ?_)
      · have hge : (js_wd ks).length ≤ i0 := by
          have := (nI_leI (a := jz_len.getD ks 0) (b := i0) (by omega) (by omega)).mp c7
          omega
        have e4 : pr ++ (js_wd ks).take i0 = pr ++ js_wd ks := by rw [List.take_of_length_le hge]
        rw [e4] at hi
        refine jv_weq (ws' := [(o, .inr (7, [.ref (Q 0), .int (K 1), .ref (Q 2), .int (K 3), .int (K 4), .int (K 5), vt, .int (K 7), .int (K 8), .int (K 9), .ref (Q 10), .int (nI (pr ++ js_wd ks).length), .int 0, .ref (Q 13), .ref (Q 14), .ref (Q 15), .ref (Q 16), .ref (Q 17)])), ((Q 10), .inl (dA 0, 16392, .inl g0))]) (by rw [e4]) ?_
        rw [hQ]
        exact jv_vret C hr g0 (hi) [0, 1] rfl rfl (Nat.le_of_ble_eq_true rfl) (Nat.le_of_ble_eq_true rfl) (jd D_Md_writeS 13 rfl)
      · have hlt : i0 < jz_len.getD ks 0 := by
          rcases Nat.lt_or_ge i0 (jz_len.getD ks 0) with q | q
          · exact q
          · exact absurd (nI_le q (by omega)) c7
        obtain ⟨b, hb1, hb2, hb3⟩ := js_sc_b ks hks i0 hlt
        refine jv_aload_n C (jd D_Md_writeS 6 rfl) rfl 0 rfl ?_
        refine jv_aload_n C (jd D_Md_writeS 7 rfl) rfl 1 rfl ?_
        refine jv_iload_n C (jd D_Md_writeS 8 rfl) rfl 2 rfl ?_
        refine jv_callVs (wr := [(o, .inr (7, [.ref (Q 0), .int (K 1), .ref (Q 2), .int (K 3), .int (K 4), .int (K 5), vt, .int (K 7), .int (K 8), .int (K 9), .ref (Q 10), .int (nI (pr ++ (js_wd ks).take i0).length), .int 0, .ref (Q 13), .ref (Q 14), .ref (Q 15), .ref (Q 16), .ref (Q 17)])), ((Q 10), .inl (dA 0, 16392, .inl g0))]) C cl_Md_141 (c_Js_charAt ks i0 hks hlt) hks rfl [] [0, 1] rfl rfl rfl rfl (by decide) ⟨Nat.le_of_ble_eq_true rfl, Nat.le_of_ble_eq_true rfl⟩ ⟨Nat.le_of_ble_eq_true rfl, Nat.le_of_ble_eq_true rfl⟩ rfl rfl (Nat.le_of_ble_eq_true rfl) (jd D_Md_writeS 9 rfl) (fun v2 _ k2 => ?_)
        obtain ⟨r2, rfl, k2⟩ := k2
        refine jv_fix [0, 1] [(o, .inr (7, [.ref (Q 0), .int (K 1), .ref (Q 2), .int (K 3), .int (K 4), .int (K 5), vt, .int (K 7), .int (K 8), .int (K 9), .ref (Q 10), .int (nI (pr ++ (js_wd ks).take i0).length), .int 0, .ref (Q 13), .ref (Q 14), .ref (Q 15), .ref (Q 16), .ref (Q 17)])), ((Q 10), .inl (dA 0, 16392, .inl g0))] [.int r2, .ref o] 0 0 rfl rfl rfl (Nat.le_refl _) (Nat.le_refl _) ?_
        have k2 : r2 = nI b := k2.trans hb2
        subst k2
        refine jv_callV (wr := []) C cl_Md_221 (c_Md_write o Q K vt g0 (pr ++ (js_wd ks).take i0) b hi (by rw [List.length_append, List.length_take]; omega) hb1) [0, 1] [] rfl rfl rfl rfl (by decide) rfl rfl 0 rfl ⟨Nat.le_of_ble_eq_true rfl, Nat.le_of_ble_eq_true rfl⟩ ⟨Nat.le_of_ble_eq_true rfl, Nat.le_of_ble_eq_true rfl⟩ rfl rfl (Nat.le_of_ble_eq_true rfl) (jd D_Md_writeS 10 rfl) (fun v3 g3 kw3 => ?_)
        obtain ⟨rfl, kw3⟩ := kw3
        refine jv_fix [0, 1] [(o, .inr (7, [.ref (Q 0), .int (K 1), .ref (Q 2), .int (K 3), .int (K 4), .int (K 5), vt, .int (K 7), .int (K 8), .int (K 9), .ref (Q 10), .int (nI ((pr ++ (js_wd ks).take i0) ++ [b]).length), .int 0, .ref (Q 13), .ref (Q 14), .ref (Q 15), .ref (Q 16), .ref (Q 17)])), ((Q 10), .inl (dA 0, 16392, .inl g3))] [] 0 0 rfl rfl rfl (Nat.le_refl _) (Nat.le_refl _) ?_
        have e3 : pr ++ (js_wd ks).take i0 ++ [b] = pr ++ (js_wd ks).take (i0 + 1) := by rw [List.take_add_one, hb3, List.append_assoc]; rfl
        rw [e3] at kw3
        refine jv_weq (ws' := [(o, .inr (7, [.ref (Q 0), .int (K 1), .ref (Q 2), .int (K 3), .int (K 4), .int (K 5), vt, .int (K 7), .int (K 8), .int (K 9), .ref (Q 10), .int (nI (pr ++ (js_wd ks).take (i0 + 1)).length), .int 0, .ref (Q 13), .ref (Q 14), .ref (Q 15), .ref (Q 16), .ref (Q 17)])), ((Q 10), .inl (dA 0, 16392, .inl g3))]) (by rw [e3]) ?_
        refine jv_iinc (v := nI (i0 + 1)) C [(2, .int (nI (i0 + 1))), (0, .ref o), (1, .ref (zz.1 ks))] (jd D_Md_writeS 11 rfl) 2 rfl (nI_1 i0) (by decide) rfl ?_
        refine jv_goto (tgt := 2) C (jd D_Md_writeS 12 rfl) (by decide) ?_
        refine jv_lvsub [1, 2, 0] rfl ?_
        exact ih (i0 + 1) g3 (by omega) (by omega) kw3
  refine jv_lvsub [1, 2, 0] rfl ?_
  refine jv_weq (ws' := [(o, .inr (7, [.ref (Q 0), .int (K 1), .ref (Q 2), .int (K 3), .int (K 4), .int (K 5), vt, .int (K 7), .int (K 8), .int (K 9), .ref (Q 10), .int (nI (pr ++ (js_wd ks).take 0).length), .int 0, .ref (Q 13), .ref (Q 14), .ref (Q 15), .ref (Q 16), .ref (Q 17)])), ((Q 10), .inl (dA 0, 16392, .inl g))]) (by rw [List.take_zero, List.append_nil]) ?_
  exact hL2 (jz_len.getD ks 0 + 1) 0 g (Nat.zero_le _) (by omega) (by rw [List.take_zero, List.append_nil]; exact hg)

set_option maxHeartbeats 4000000 in
set_option maxRecDepth 100000 in
/-- number(v) -/
theorem c_Md_numberJ {l : Launch} {D : va_G} {dA : Nat → ClassId} {zz : (Nat → Nat) × (Nat → Nat)} (o : Nat) (Q : Nat → Nat) (K : Nat → Int32) (vt : Value) (g : Nat → Int32) (pr : List Nat) (neg : Bool) (x : Nat) (hg : js_tx g pr) (hx : x ≤ js_M) (hneg : neg = true → 0 < x) (hw : pr.length + (js_sg neg ++ js_dec x).length < 16384) : jv_M l D dA zz y_Md_numberJ b_Md_numberJ 9 none 2 [.ref o, .long (js_nvi neg x)] [(o, .inr (7, [.ref (Q 0), .int (K 1), .ref (Q 2), .int (K 3), .int (K 4), .int (K 5), vt, .int (K 7), .int (K 8), .int (K 9), .ref (Q 10), .int (nI pr.length), .int 0, .ref (Q 13), .ref (Q 14), .ref (Q 15), .ref (Q 16), .ref (Q 17)])), ((Q 10), .inl (dA 0, 16392, .inl g))] (jv_pv fun g2 => js_tx g2 (pr ++ (js_sg neg ++ js_dec x))) (fun g2 => [(o, .inr (7, [.ref (Q 0), .int (K 1), .ref (Q 2), .int (K 3), .int (K 4), .int (K 5), vt, .int (K 7), .int (K 8), .int (K 9), .ref (Q 10), .int (nI (pr ++ (js_sg neg ++ js_dec x)).length), .int 0, .ref (Q 13), .ref (Q 14), .ref (Q 15), .ref (Q 16), .ref (Q 17)])), ((Q 10), .inl (dA 0, 16392, .inl g2))]) 0 0 := by
  refine jv_M.of [(0, .ref o), (1, .long (js_nvi neg x))] (by decide) (Nat.le_of_ble_eq_true rfl) rfl ?_
  intro pR eR sR mR belowR methR cR AR C hr hin
  obtain ⟨QR, hQ⟩ : ∃ QR, QR = jv_E D (jv_pv fun g2 => js_tx g2 (pr ++ (js_sg neg ++ js_dec x))) (fun g2 => [(o, .inr (7, [.ref (Q 0), .int (K 1), .ref (Q 2), .int (K 3), .int (K 4), .int (K 5), vt, .int (K 7), .int (K 8), .int (K 9), .ref (Q 10), .int (nI (pr ++ (js_sg neg ++ js_dec x)).length), .int 0, .ref (Q 13), .ref (Q 14), .ref (Q 15), .ref (Q 16), .ref (Q 17)])), ((Q 10), .inl (dA 0, 16392, .inl g2))]) belowR ([.ref o, .long (js_nvi neg x)] : List Value).toArray sR AR 0 0 := ⟨_, rfl⟩
  rw [← hQ]
  have hdl : 1 ≤ (js_sg neg ++ js_dec x).length := by
    obtain ⟨d9, l9, e9, -⟩ := js_dec_head hx
    rw [e9, List.length_append, List.length_cons]; omega
  obtain ⟨pw, hpw⟩ : ∃ pw, pw = pr ++ js_sg neg := ⟨_, rfl⟩
  have hge := js_nvi_ge (neg := neg) (a := x) (by unfold js_M at hx; omega)
  by_cases hnt : neg = true
  · refine jv_lload_n C (jd D_Md_numberJ 0 rfl) rfl 1 rfl ?_
    refine jv_lconst (v := 0) C (jd D_Md_numberJ 1 rfl) (by decide) ?_
    refine jv_lcmp C (jd D_Md_numberJ 2 rfl) ?_
    refine jv_if_ge (tgt := 12) C (jd D_Md_numberJ 3 rfl) (by decide) (fun c3 => absurd c3 (fun z => absurd ((lg_cmp_ge _ _).mp z) (Int64.not_le.mpr (hge.2.2.mpr ⟨hnt, hneg hnt⟩)))) (fun c3 => ?_)
    refine jv_aload_n C (jd D_Md_numberJ 4 rfl) rfl 0 rfl ?_
    refine jv_bipush (v := 45) C (jd D_Md_numberJ 5 rfl) (by decide) ?_
    refine jv_callV (wr := []) C cl_Md_221 (c_Md_write o Q K vt g pr 45 hg (by omega) (by decide)) [0, 1] [] rfl rfl rfl rfl (by decide) rfl rfl 0 rfl ⟨Nat.le_of_ble_eq_true rfl, Nat.le_of_ble_eq_true rfl⟩ ⟨Nat.le_of_ble_eq_true rfl, Nat.le_of_ble_eq_true rfl⟩ rfl rfl (Nat.le_of_ble_eq_true rfl) (jd D_Md_numberJ 6 rfl) (fun v1 g1 kw1 => ?_)
    obtain ⟨rfl, kw1⟩ := kw1
    refine jv_fix [0, 1] [(o, .inr (7, [.ref (Q 0), .int (K 1), .ref (Q 2), .int (K 3), .int (K 4), .int (K 5), vt, .int (K 7), .int (K 8), .int (K 9), .ref (Q 10), .int (nI (pr ++ [45]).length), .int 0, .ref (Q 13), .ref (Q 14), .ref (Q 15), .ref (Q 16), .ref (Q 17)])), ((Q 10), .inl (dA 0, 16392, .inl g1))] [] 0 0 rfl rfl rfl (Nat.le_refl _) (Nat.le_refl _) ?_
    have epw : pr ++ [45] = pw := by rw [hpw, hnt]; rfl
    rw [epw] at kw1
    refine jv_weq (ws' := [(o, .inr (7, [.ref (Q 0), .int (K 1), .ref (Q 2), .int (K 3), .int (K 4), .int (K 5), vt, .int (K 7), .int (K 8), .int (K 9), .ref (Q 10), .int (nI pw.length), .int 0, .ref (Q 13), .ref (Q 14), .ref (Q 15), .ref (Q 16), .ref (Q 17)])), ((Q 10), .inl (dA 0, 16392, .inl g1))]) (by rw [epw]) ?_
    refine jv_lconst (v := 1) C (jd D_Md_numberJ 7 rfl) (by decide) ?_
    refine jv_lstore_n C [(3, .long 1), (0, .ref o), (1, .long (js_nvi neg x))] (jd D_Md_numberJ 8 rfl) rfl (by decide) rfl ?_
    have hL14 : ∀ (n : Nat) (k0 : Nat), k0 ≤ 15 → 16 ≤ k0 + n → (k0 = 0 ∨ 10 ^ k0 ≤ x) → jv_V pR l eR (jv_rm 2 0 0) sR mR ([.ref o, .long (js_nvi neg x)] : List Value).toArray belowR methR cR 0 0 QR D AR 9 [(o, .inr (7, [.ref (Q 0), .int (K 1), .ref (Q 2), .int (K 3), .int (K 4), .int (K 5), vt, .int (K 7), .int (K 8), .int (K 9), .ref (Q 10), .int (nI pw.length), .int 0, .ref (Q 13), .ref (Q 14), .ref (Q 15), .ref (Q 16), .ref (Q 17)])), ((Q 10), .inl (dA 0, 16392, .inl g1))] [(0, .ref o), (1, .long (js_nvi neg x)), (3, .long (js_l (10 ^ k0)))] 14 [] := by
      intro n
      induction n with
      | zero =>
        intro k0 h0 h1
        exact absurd h1 (by omega)
      | succ n ih =>
        intro k0 hk0 hm hk1
        have hp10 : 10 ^ k0 ≤ 10 ^ 15 := Nat.pow_le_pow_right (by decide) hk0
        have hp1 : 0 < 10 ^ k0 := Nat.pow_pos (by decide)
        have hdv := js_nvi_div (neg := neg) (a := x) (b := 10 ^ k0) (by unfold js_M at hx; omega) (by omega)
        have hq := js_nvi_ge (neg := neg) (a := x / 10 ^ k0) (Nat.lt_of_le_of_lt (Nat.div_le_self _ _) (by unfold js_M at hx; omega))
        have hne0 : ¬ js_l (10 ^ k0) = 0 := fun z => absurd (congrArg Int64.toInt z) (by rw [js_l_toInt (by omega)]; show ¬ ((10 ^ k0 : Nat) : Int) = 0; omega)
        refine jv_lload_n C (jd D_Md_numberJ 9 rfl) rfl 1 rfl ?_
        refine jv_lload_n C (jd D_Md_numberJ 10 rfl) rfl 2 rfl ?_
        refine jv_ldiv C (jd D_Md_numberJ 11 rfl) hne0 ?_
        refine jv_atl (y := js_nvi neg (x / 10 ^ k0)) (hdv) ?_
        refine jv_ldc2_w (v := 10) C (jm5 (List.mem_of_getElem? (i := 52) rfl)) (jd D_Md_numberJ 12 rfl) ?_
        have hge21 : ¬ 10 ≤ js_nvi neg (x / 10 ^ k0) := fun z => absurd (hnt.symm.trans (hq.1.mp z).1) (by decide)
        refine jv_lcmp C (jd D_Md_numberJ 13 rfl) ?_
        refine jv_if_ge (tgt := 34) C (jd D_Md_numberJ 14 rfl) (by decide) (fun c21 => absurd c21 (fun z => hge21 ((lg_cmp_ge _ _).mp z))) (fun c21 => ?_)
        refine jv_lload_n C (jd D_Md_numberJ 15 rfl) rfl 1 rfl ?_
        refine jv_lload_n C (jd D_Md_numberJ 16 rfl) rfl 2 rfl ?_
        refine jv_ldiv C (jd D_Md_numberJ 17 rfl) hne0 ?_
        refine jv_atl (y := js_nvi neg (x / 10 ^ k0)) (hdv) ?_
        refine jv_ldc2_w (v := -10) C (jm5 (List.mem_of_getElem? (i := 94) rfl)) (jd D_Md_numberJ 18 rfl) ?_
        refine jv_lcmp C (jd D_Md_numberJ 19 rfl) ?_
        refine jv_if_gt (tgt := 43) C (jd D_Md_numberJ 20 rfl) (by decide) (fun c31 => ?_) (fun c31 => ?_)
        · have hsmall : x / 10 ^ k0 < 10 := by
            apply Nat.lt_of_not_le
            intro z
            exact absurd ((lg_cmp_gt _ _).mp c31) (Int64.not_lt.mpr (hq.2.1.mpr ⟨hnt, z⟩))
          have hxlt : x < 10 ^ (k0 + 1) := by
            rw [Nat.pow_succ]
            have := (Nat.div_lt_iff_lt_mul hp1).mp hsmall
            omega
          have hdec := js_dec_dl hk0 hk1 hxlt
          refine jv_lload_n C (jd D_Md_numberJ 26 rfl) rfl 2 rfl ?_
          refine jv_lstore C [(5, .long (js_l (10 ^ k0))), (0, .ref o), (1, .long (js_nvi neg x)), (3, .long (js_l (10 ^ k0)))] (jd D_Md_numberJ 27 rfl) (by decide) rfl ?_
          have hL46 : ∀ (n : Nat) (s0 : Nat) (py : List Nat) (g5 : Nat → Int32), s0 ≤ 16 → s0 + 1 ≤ n → py ++ js_dm s0 x = pr ++ (js_sg neg ++ js_dec x) → js_tx g5 py → jv_V pR l eR (jv_rm 2 0 0) sR mR ([.ref o, .long (js_nvi neg x)] : List Value).toArray belowR methR cR 0 0 QR D AR 9 [(o, .inr (7, [.ref (Q 0), .int (K 1), .ref (Q 2), .int (K 3), .int (K 4), .int (K 5), vt, .int (K 7), .int (K 8), .int (K 9), .ref (Q 10), .int (nI py.length), .int 0, .ref (Q 13), .ref (Q 14), .ref (Q 15), .ref (Q 16), .ref (Q 17)])), ((Q 10), .inl (dA 0, 16392, .inl g5))] [(0, .ref o), (1, .long (js_nvi neg x)), (5, .long (js_l (js_tp s0)))] 46 [] := by
            intro n
            induction n with
            | zero =>
              intro s0 py g5 h0 h1
              exact absurd h1 (by omega)
            | succ n ih =>
              intro s0 py g5 hs0 hm hpy htx
              refine jv_lload C (jd D_Md_numberJ 28 rfl) 2 rfl ?_
              refine jv_lconst (v := 0) C (jd D_Md_numberJ 29 rfl) (by decide) ?_
              refine jv_lcmp C (jd D_Md_numberJ 30 rfl) ?_
              refine jv_if_le (tgt := 97) C (jd D_Md_numberJ 31 rfl) (by decide) (fun c50 => ?_) (fun c50 => ?_)
              · have hs00 : s0 = 0 := by
                  cases s0 with
                  | zero => rfl
                  | succ s1 => exact absurd ((lg_cmp_le _ _).mp c50) (Int64.not_le.mpr (by rw [show (0 : Int64) = js_l 0 from rfl]; exact (js_l_lt (by decide) (by have := js_tp_b hs0; omega)).mpr (Nat.pow_pos (by decide))))
                rw [hs00] at hpy
                have epy : py = pr ++ (js_sg neg ++ js_dec x) := by rw [← hpy]; exact (List.append_nil py).symm
                rw [epy] at htx
                refine jv_weq (ws' := [(o, .inr (7, [.ref (Q 0), .int (K 1), .ref (Q 2), .int (K 3), .int (K 4), .int (K 5), vt, .int (K 7), .int (K 8), .int (K 9), .ref (Q 10), .int (nI (pr ++ (js_sg neg ++ js_dec x)).length), .int 0, .ref (Q 13), .ref (Q 14), .ref (Q 15), .ref (Q 16), .ref (Q 17)])), ((Q 10), .inl (dA 0, 16392, .inl g5))]) (by rw [epy]) ?_
                rw [hQ]
                exact jv_vret C hr g5 (htx) [0, 1] rfl rfl (Nat.le_of_ble_eq_true rfl) (Nat.le_of_ble_eq_true rfl) (jd D_Md_numberJ 56 rfl)
              · obtain ⟨s1, hs1⟩ : ∃ s1, s0 = s1 + 1 := by
                  cases s0 with
                  | zero => exact absurd ((lg_cmp_le _ _).mpr (Int64.le_refl _)) c50
                  | succ s1 => exact ⟨s1, rfl⟩
                subst hs1
                have htb := js_tp_b hs0
                have htp : 0 < js_tp (s1 + 1) := Nat.pow_pos (by decide)
                have hdv2 := js_nvi_div (neg := neg) (a := x) (b := js_tp (s1 + 1)) (by unfold js_M at hx; omega) (by omega)
                have hne2 : ¬ js_l (js_tp (s1 + 1)) = 0 := fun z => absurd (congrArg Int64.toInt z) (by rw [js_l_toInt (by omega)]; show ¬ ((js_tp (s1 + 1) : Nat) : Int) = 0; omega)
                have hrem := js_nvi_rem (neg := neg) (a := x / js_tp (s1 + 1)) (Nat.lt_of_le_of_lt (Nat.div_le_self _ _) (by unfold js_M at hx; omega))
                have hab := js_nvi_abs (neg := neg) (y := x / js_tp (s1 + 1) % 10) (by omega)
                have hpy2 : (py ++ [48 + x / js_tp (s1 + 1) % 10]) ++ js_dm s1 x = pr ++ (js_sg neg ++ js_dec x) := by rw [← hpy, js_dm_s, List.append_assoc]; rfl
                have hlen2 : py.length < 16384 := by
                  have h9 := congrArg List.length hpy
                  rw [List.length_append, List.length_append] at h9
                  omega
                refine jv_lload_n C (jd D_Md_numberJ 32 rfl) rfl 1 rfl ?_
                refine jv_lload C (jd D_Md_numberJ 33 rfl) 2 rfl ?_
                refine jv_ldiv C (jd D_Md_numberJ 34 rfl) hne2 ?_
                refine jv_atl (y := js_nvi neg (x / js_tp (s1 + 1))) (hdv2) ?_
                refine jv_ldc2_w (v := 10) C (jm5 (List.mem_of_getElem? (i := 52) rfl)) (jd D_Md_numberJ 35 rfl) ?_
                refine jv_lrem C (jd D_Md_numberJ 36 rfl) (by decide) ?_
                refine jv_atl (y := js_nvi neg (x / js_tp (s1 + 1) % 10)) (hrem) ?_
                refine jv_lstore C [(7, .long (js_nvi neg (x / js_tp (s1 + 1) % 10))), (0, .ref o), (1, .long (js_nvi neg x)), (5, .long (js_l (js_tp (s1 + 1))))] (jd D_Md_numberJ 37 rfl) (by decide) rfl ?_
                refine jv_aload_n C (jd D_Md_numberJ 38 rfl) rfl 1 rfl ?_
                refine jv_bipush (v := 48) C (jd D_Md_numberJ 39 rfl) (by decide) ?_
                refine jv_lload C (jd D_Md_numberJ 40 rfl) 0 rfl ?_
                refine jv_lconst (v := 0) C (jd D_Md_numberJ 41 rfl) (by decide) ?_
                refine jv_lcmp C (jd D_Md_numberJ 42 rfl) ?_
                refine jv_if_ge (tgt := 79) C (jd D_Md_numberJ 43 rfl) (by decide) (fun c70 => ?_) (fun c70 => ?_)
                · refine jv_lload C (jd D_Md_numberJ 47 rfl) 0 rfl ?_
                  refine jv_atl (y := js_l (x / js_tp (s1 + 1) % 10)) (hab.2 (Int64.not_lt.mpr ((lg_cmp_ge _ _).mp c70))) ?_
                  refine jv_l2i C (jd D_Md_numberJ 48 rfl) ?_
                  refine jv_ati (y := nI (x / js_tp (s1 + 1) % 10)) (js_l_i (by omega)) ?_
                  refine jv_iadd C (jd D_Md_numberJ 49 rfl) ?_
                  refine jv_ati (y := nI (48 + x / js_tp (s1 + 1) % 10)) (nI_add 48 _) ?_
                  refine jv_callV (wr := []) C cl_Md_221 (c_Md_write o Q K vt g5 py (48 + x / js_tp (s1 + 1) % 10) htx hlen2 (by omega)) [0, 1] [] rfl rfl rfl rfl (by decide) rfl rfl 0 rfl ⟨Nat.le_of_ble_eq_true rfl, Nat.le_of_ble_eq_true rfl⟩ ⟨Nat.le_of_ble_eq_true rfl, Nat.le_of_ble_eq_true rfl⟩ rfl rfl (Nat.le_of_ble_eq_true rfl) (jd D_Md_numberJ 50 rfl) (fun v2 g6 kw6 => ?_)
                  obtain ⟨rfl, kw6⟩ := kw6
                  refine jv_fix [0, 1] [(o, .inr (7, [.ref (Q 0), .int (K 1), .ref (Q 2), .int (K 3), .int (K 4), .int (K 5), vt, .int (K 7), .int (K 8), .int (K 9), .ref (Q 10), .int (nI (py ++ [48 + x / js_tp (s1 + 1) % 10]).length), .int 0, .ref (Q 13), .ref (Q 14), .ref (Q 15), .ref (Q 16), .ref (Q 17)])), ((Q 10), .inl (dA 0, 16392, .inl g6))] [] 0 0 rfl rfl rfl (Nat.le_refl _) (Nat.le_refl _) ?_
                  refine jv_lload C (jd D_Md_numberJ 51 rfl) 3 rfl ?_
                  refine jv_ldc2_w (v := 10) C (jm5 (List.mem_of_getElem? (i := 52) rfl)) (jd D_Md_numberJ 52 rfl) ?_
                  refine jv_ldiv C (jd D_Md_numberJ 53 rfl) (by decide) ?_
                  refine jv_atl (y := js_l (js_tp s1)) (by rw [show (10 : Int64) = js_l 10 from rfl, js_l_div (by omega) (by decide), js_tp_d]) ?_
                  refine jv_lstore C [(5, .long (js_l (js_tp s1))), (7, .long (js_nvi neg (x / js_tp (s1 + 1) % 10))), (0, .ref o), (1, .long (js_nvi neg x))] (jd D_Md_numberJ 54 rfl) (by decide) rfl ?_
                  refine jv_goto (tgt := 46) C (jd D_Md_numberJ 55 rfl) (by decide) ?_
                  refine jv_lvsub [2, 3, 0] rfl ?_
                  exact ih s1 (py ++ [48 + x / js_tp (s1 + 1) % 10]) g6 (by omega) (by omega) hpy2 kw6
                · refine jv_lload C (jd D_Md_numberJ 44 rfl) 0 rfl ?_
                  refine jv_lneg C (jd D_Md_numberJ 45 rfl) ?_
                  refine jv_goto (tgt := 81) C (jd D_Md_numberJ 46 rfl) (by decide) ?_
                  refine jv_atl (y := js_l (x / js_tp (s1 + 1) % 10)) (hab.1 (Int64.not_le.mp (fun z => c70 ((lg_cmp_ge _ _).mpr z)))) ?_
                  refine jv_l2i C (jd D_Md_numberJ 48 rfl) ?_
                  refine jv_ati (y := nI (x / js_tp (s1 + 1) % 10)) (js_l_i (by omega)) ?_
                  refine jv_iadd C (jd D_Md_numberJ 49 rfl) ?_
                  refine jv_ati (y := nI (48 + x / js_tp (s1 + 1) % 10)) (nI_add 48 _) ?_
                  refine jv_callV (wr := []) C cl_Md_221 (c_Md_write o Q K vt g5 py (48 + x / js_tp (s1 + 1) % 10) htx hlen2 (by omega)) [0, 1] [] rfl rfl rfl rfl (by decide) rfl rfl 0 rfl ⟨Nat.le_of_ble_eq_true rfl, Nat.le_of_ble_eq_true rfl⟩ ⟨Nat.le_of_ble_eq_true rfl, Nat.le_of_ble_eq_true rfl⟩ rfl rfl (Nat.le_of_ble_eq_true rfl) (jd D_Md_numberJ 50 rfl) (fun v3 g6 kw6 => ?_)
                  obtain ⟨rfl, kw6⟩ := kw6
                  refine jv_fix [0, 1] [(o, .inr (7, [.ref (Q 0), .int (K 1), .ref (Q 2), .int (K 3), .int (K 4), .int (K 5), vt, .int (K 7), .int (K 8), .int (K 9), .ref (Q 10), .int (nI (py ++ [48 + x / js_tp (s1 + 1) % 10]).length), .int 0, .ref (Q 13), .ref (Q 14), .ref (Q 15), .ref (Q 16), .ref (Q 17)])), ((Q 10), .inl (dA 0, 16392, .inl g6))] [] 0 0 rfl rfl rfl (Nat.le_refl _) (Nat.le_refl _) ?_
                  refine jv_lload C (jd D_Md_numberJ 51 rfl) 3 rfl ?_
                  refine jv_ldc2_w (v := 10) C (jm5 (List.mem_of_getElem? (i := 52) rfl)) (jd D_Md_numberJ 52 rfl) ?_
                  refine jv_ldiv C (jd D_Md_numberJ 53 rfl) (by decide) ?_
                  refine jv_atl (y := js_l (js_tp s1)) (by rw [show (10 : Int64) = js_l 10 from rfl, js_l_div (by omega) (by decide), js_tp_d]) ?_
                  refine jv_lstore C [(5, .long (js_l (js_tp s1))), (7, .long (js_nvi neg (x / js_tp (s1 + 1) % 10))), (0, .ref o), (1, .long (js_nvi neg x))] (jd D_Md_numberJ 54 rfl) (by decide) rfl ?_
                  refine jv_goto (tgt := 46) C (jd D_Md_numberJ 55 rfl) (by decide) ?_
                  refine jv_lvsub [2, 3, 0] rfl ?_
                  exact ih s1 (py ++ [48 + x / js_tp (s1 + 1) % 10]) g6 (by omega) (by omega) hpy2 kw6
          refine jv_lvsub [1, 2, 0] rfl ?_
          exact hL46 (k0 + 2) (k0 + 1) pw g1 (by omega) (by omega) (by rw [hpw, hdec, List.append_assoc]; rfl) kw1
        · have hten0 : 10 ≤ x / 10 ^ k0 := (hq.2.1.mp (Int64.not_lt.mp (fun z => c31 ((lg_cmp_gt _ _).mpr z)))).2
          have hten : 10 ^ (k0 + 1) ≤ x := by
            rw [Nat.pow_succ]
            have := (Nat.le_div_iff_mul_le hp1).mp hten0
            omega
          have hk15 : k0 + 1 ≤ 15 := by
            rcases Nat.lt_or_ge k0 15 with q | q
            · exact q
            · exact absurd hten (by rw [show k0 = 15 by omega]; unfold js_M at hx; omega)
          refine jv_lload_n C (jd D_Md_numberJ 21 rfl) rfl 2 rfl ?_
          refine jv_ldc2_w (v := 10) C (jm5 (List.mem_of_getElem? (i := 52) rfl)) (jd D_Md_numberJ 22 rfl) ?_
          refine jv_lmul C (jd D_Md_numberJ 23 rfl) ?_
          refine jv_atl (y := js_l (10 ^ (k0 + 1))) (by rw [js_l_10, Nat.pow_succ]) ?_
          refine jv_lstore_n C [(3, .long (js_l (10 ^ (k0 + 1)))), (0, .ref o), (1, .long (js_nvi neg x))] (jd D_Md_numberJ 24 rfl) rfl (by decide) rfl ?_
          refine jv_goto (tgt := 14) C (jd D_Md_numberJ 25 rfl) (by decide) ?_
          refine jv_lvsub [1, 2, 0] rfl ?_
          exact ih (k0 + 1) (by omega) (by omega) (Or.inr hten)
    refine jv_lvsub [1, 2, 0] rfl ?_
    exact hL14 16 0 (by omega) (by omega) (Or.inl rfl)
  · refine jv_lload_n C (jd D_Md_numberJ 0 rfl) rfl 1 rfl ?_
    refine jv_lconst (v := 0) C (jd D_Md_numberJ 1 rfl) (by decide) ?_
    refine jv_lcmp C (jd D_Md_numberJ 2 rfl) ?_
    refine jv_if_ge (tgt := 12) C (jd D_Md_numberJ 3 rfl) (by decide) (fun c3 => ?_) (fun c3 => absurd ((lg_cmp_ge _ _).mpr (Int64.not_lt.mp (fun z => hnt (hge.2.2.mp z).1))) c3)
    have epw : pr = pw := by rw [hpw, js_sg, if_neg hnt, List.append_nil]
    obtain ⟨g1, eg1⟩ : ∃ g1, g1 = g := ⟨_, rfl⟩
    have kw1 : js_tx g1 pw := by rw [eg1, ← epw]; exact hg
    refine jv_weq (ws' := [(o, .inr (7, [.ref (Q 0), .int (K 1), .ref (Q 2), .int (K 3), .int (K 4), .int (K 5), vt, .int (K 7), .int (K 8), .int (K 9), .ref (Q 10), .int (nI pw.length), .int 0, .ref (Q 13), .ref (Q 14), .ref (Q 15), .ref (Q 16), .ref (Q 17)])), ((Q 10), .inl (dA 0, 16392, .inl g1))]) (by rw [← epw, eg1]) ?_
    refine jv_lconst (v := 1) C (jd D_Md_numberJ 7 rfl) (by decide) ?_
    refine jv_lstore_n C [(3, .long 1), (0, .ref o), (1, .long (js_nvi neg x))] (jd D_Md_numberJ 8 rfl) rfl (by decide) rfl ?_
    have hL14 : ∀ (n : Nat) (k0 : Nat), k0 ≤ 15 → 16 ≤ k0 + n → (k0 = 0 ∨ 10 ^ k0 ≤ x) → jv_V pR l eR (jv_rm 2 0 0) sR mR ([.ref o, .long (js_nvi neg x)] : List Value).toArray belowR methR cR 0 0 QR D AR 9 [(o, .inr (7, [.ref (Q 0), .int (K 1), .ref (Q 2), .int (K 3), .int (K 4), .int (K 5), vt, .int (K 7), .int (K 8), .int (K 9), .ref (Q 10), .int (nI pw.length), .int 0, .ref (Q 13), .ref (Q 14), .ref (Q 15), .ref (Q 16), .ref (Q 17)])), ((Q 10), .inl (dA 0, 16392, .inl g1))] [(0, .ref o), (1, .long (js_nvi neg x)), (3, .long (js_l (10 ^ k0)))] 14 [] := by
      intro n
      induction n with
      | zero =>
        intro k0 h0 h1
        exact absurd h1 (by omega)
      | succ n ih =>
        intro k0 hk0 hm hk1
        have hp10 : 10 ^ k0 ≤ 10 ^ 15 := Nat.pow_le_pow_right (by decide) hk0
        have hp1 : 0 < 10 ^ k0 := Nat.pow_pos (by decide)
        have hdv := js_nvi_div (neg := neg) (a := x) (b := 10 ^ k0) (by unfold js_M at hx; omega) (by omega)
        have hq := js_nvi_ge (neg := neg) (a := x / 10 ^ k0) (Nat.lt_of_le_of_lt (Nat.div_le_self _ _) (by unfold js_M at hx; omega))
        have hne0 : ¬ js_l (10 ^ k0) = 0 := fun z => absurd (congrArg Int64.toInt z) (by rw [js_l_toInt (by omega)]; show ¬ ((10 ^ k0 : Nat) : Int) = 0; omega)
        refine jv_lload_n C (jd D_Md_numberJ 9 rfl) rfl 1 rfl ?_
        refine jv_lload_n C (jd D_Md_numberJ 10 rfl) rfl 2 rfl ?_
        refine jv_ldiv C (jd D_Md_numberJ 11 rfl) hne0 ?_
        refine jv_atl (y := js_nvi neg (x / 10 ^ k0)) (hdv) ?_
        refine jv_ldc2_w (v := 10) C (jm5 (List.mem_of_getElem? (i := 52) rfl)) (jd D_Md_numberJ 12 rfl) ?_
        refine jv_lcmp C (jd D_Md_numberJ 13 rfl) ?_
        refine jv_if_ge (tgt := 34) C (jd D_Md_numberJ 14 rfl) (by decide) (fun c21 => ?_) (fun c21 => ?_)
        · have hten0 : 10 ≤ x / 10 ^ k0 := (hq.1.mp ((lg_cmp_ge _ _).mp c21)).2
          have hten : 10 ^ (k0 + 1) ≤ x := by
            rw [Nat.pow_succ]
            have := (Nat.le_div_iff_mul_le hp1).mp hten0
            omega
          have hk15 : k0 + 1 ≤ 15 := by
            rcases Nat.lt_or_ge k0 15 with q | q
            · exact q
            · exact absurd hten (by rw [show k0 = 15 by omega]; unfold js_M at hx; omega)
          refine jv_lload_n C (jd D_Md_numberJ 21 rfl) rfl 2 rfl ?_
          refine jv_ldc2_w (v := 10) C (jm5 (List.mem_of_getElem? (i := 52) rfl)) (jd D_Md_numberJ 22 rfl) ?_
          refine jv_lmul C (jd D_Md_numberJ 23 rfl) ?_
          refine jv_atl (y := js_l (10 ^ (k0 + 1))) (by rw [js_l_10, Nat.pow_succ]) ?_
          refine jv_lstore_n C [(3, .long (js_l (10 ^ (k0 + 1)))), (0, .ref o), (1, .long (js_nvi neg x))] (jd D_Md_numberJ 24 rfl) rfl (by decide) rfl ?_
          refine jv_goto (tgt := 14) C (jd D_Md_numberJ 25 rfl) (by decide) ?_
          refine jv_lvsub [1, 2, 0] rfl ?_
          exact ih (k0 + 1) (by omega) (by omega) (Or.inr hten)
        · refine jv_lload_n C (jd D_Md_numberJ 15 rfl) rfl 1 rfl ?_
          refine jv_lload_n C (jd D_Md_numberJ 16 rfl) rfl 2 rfl ?_
          refine jv_ldiv C (jd D_Md_numberJ 17 rfl) hne0 ?_
          refine jv_atl (y := js_nvi neg (x / 10 ^ k0)) (hdv) ?_
          refine jv_ldc2_w (v := -10) C (jm5 (List.mem_of_getElem? (i := 94) rfl)) (jd D_Md_numberJ 18 rfl) ?_
          refine jv_lcmp C (jd D_Md_numberJ 19 rfl) ?_
          refine jv_if_gt (tgt := 43) C (jd D_Md_numberJ 20 rfl) (by decide) (fun c31 => ?_) (fun c31 => absurd ((lg_cmp_gt _ _).mpr (Int64.not_le.mp (fun z => hnt (hq.2.1.mp z).1))) c31)
          have hsmall : x / 10 ^ k0 < 10 := by
            apply Nat.lt_of_not_le
            intro z
            exact c21 ((lg_cmp_ge _ _).mpr (hq.1.mpr ⟨Bool.eq_false_iff.mpr hnt, z⟩))
          have hxlt : x < 10 ^ (k0 + 1) := by
            rw [Nat.pow_succ]
            have := (Nat.div_lt_iff_lt_mul hp1).mp hsmall
            omega
          have hdec := js_dec_dl hk0 hk1 hxlt
          refine jv_lload_n C (jd D_Md_numberJ 26 rfl) rfl 2 rfl ?_
          refine jv_lstore C [(5, .long (js_l (10 ^ k0))), (0, .ref o), (1, .long (js_nvi neg x)), (3, .long (js_l (10 ^ k0)))] (jd D_Md_numberJ 27 rfl) (by decide) rfl ?_
          have hL46 : ∀ (n : Nat) (s0 : Nat) (py : List Nat) (g5 : Nat → Int32), s0 ≤ 16 → s0 + 1 ≤ n → py ++ js_dm s0 x = pr ++ (js_sg neg ++ js_dec x) → js_tx g5 py → jv_V pR l eR (jv_rm 2 0 0) sR mR ([.ref o, .long (js_nvi neg x)] : List Value).toArray belowR methR cR 0 0 QR D AR 9 [(o, .inr (7, [.ref (Q 0), .int (K 1), .ref (Q 2), .int (K 3), .int (K 4), .int (K 5), vt, .int (K 7), .int (K 8), .int (K 9), .ref (Q 10), .int (nI py.length), .int 0, .ref (Q 13), .ref (Q 14), .ref (Q 15), .ref (Q 16), .ref (Q 17)])), ((Q 10), .inl (dA 0, 16392, .inl g5))] [(0, .ref o), (1, .long (js_nvi neg x)), (5, .long (js_l (js_tp s0)))] 46 [] := by
            intro n
            induction n with
            | zero =>
              intro s0 py g5 h0 h1
              exact absurd h1 (by omega)
            | succ n ih =>
              intro s0 py g5 hs0 hm hpy htx
              refine jv_lload C (jd D_Md_numberJ 28 rfl) 2 rfl ?_
              refine jv_lconst (v := 0) C (jd D_Md_numberJ 29 rfl) (by decide) ?_
              refine jv_lcmp C (jd D_Md_numberJ 30 rfl) ?_
              refine jv_if_le (tgt := 97) C (jd D_Md_numberJ 31 rfl) (by decide) (fun c50 => ?_) (fun c50 => ?_)
              · have hs00 : s0 = 0 := by
                  cases s0 with
                  | zero => rfl
                  | succ s1 => exact absurd ((lg_cmp_le _ _).mp c50) (Int64.not_le.mpr (by rw [show (0 : Int64) = js_l 0 from rfl]; exact (js_l_lt (by decide) (by have := js_tp_b hs0; omega)).mpr (Nat.pow_pos (by decide))))
                rw [hs00] at hpy
                have epy : py = pr ++ (js_sg neg ++ js_dec x) := by rw [← hpy]; exact (List.append_nil py).symm
                rw [epy] at htx
                refine jv_weq (ws' := [(o, .inr (7, [.ref (Q 0), .int (K 1), .ref (Q 2), .int (K 3), .int (K 4), .int (K 5), vt, .int (K 7), .int (K 8), .int (K 9), .ref (Q 10), .int (nI (pr ++ (js_sg neg ++ js_dec x)).length), .int 0, .ref (Q 13), .ref (Q 14), .ref (Q 15), .ref (Q 16), .ref (Q 17)])), ((Q 10), .inl (dA 0, 16392, .inl g5))]) (by rw [epy]) ?_
                rw [hQ]
                exact jv_vret C hr g5 (htx) [0, 1] rfl rfl (Nat.le_of_ble_eq_true rfl) (Nat.le_of_ble_eq_true rfl) (jd D_Md_numberJ 56 rfl)
              · obtain ⟨s1, hs1⟩ : ∃ s1, s0 = s1 + 1 := by
                  cases s0 with
                  | zero => exact absurd ((lg_cmp_le _ _).mpr (Int64.le_refl _)) c50
                  | succ s1 => exact ⟨s1, rfl⟩
                subst hs1
                have htb := js_tp_b hs0
                have htp : 0 < js_tp (s1 + 1) := Nat.pow_pos (by decide)
                have hdv2 := js_nvi_div (neg := neg) (a := x) (b := js_tp (s1 + 1)) (by unfold js_M at hx; omega) (by omega)
                have hne2 : ¬ js_l (js_tp (s1 + 1)) = 0 := fun z => absurd (congrArg Int64.toInt z) (by rw [js_l_toInt (by omega)]; show ¬ ((js_tp (s1 + 1) : Nat) : Int) = 0; omega)
                have hrem := js_nvi_rem (neg := neg) (a := x / js_tp (s1 + 1)) (Nat.lt_of_le_of_lt (Nat.div_le_self _ _) (by unfold js_M at hx; omega))
                have hab := js_nvi_abs (neg := neg) (y := x / js_tp (s1 + 1) % 10) (by omega)
                have hpy2 : (py ++ [48 + x / js_tp (s1 + 1) % 10]) ++ js_dm s1 x = pr ++ (js_sg neg ++ js_dec x) := by rw [← hpy, js_dm_s, List.append_assoc]; rfl
                have hlen2 : py.length < 16384 := by
                  have h9 := congrArg List.length hpy
                  rw [List.length_append, List.length_append] at h9
                  omega
                refine jv_lload_n C (jd D_Md_numberJ 32 rfl) rfl 1 rfl ?_
                refine jv_lload C (jd D_Md_numberJ 33 rfl) 2 rfl ?_
                refine jv_ldiv C (jd D_Md_numberJ 34 rfl) hne2 ?_
                refine jv_atl (y := js_nvi neg (x / js_tp (s1 + 1))) (hdv2) ?_
                refine jv_ldc2_w (v := 10) C (jm5 (List.mem_of_getElem? (i := 52) rfl)) (jd D_Md_numberJ 35 rfl) ?_
                refine jv_lrem C (jd D_Md_numberJ 36 rfl) (by decide) ?_
                refine jv_atl (y := js_nvi neg (x / js_tp (s1 + 1) % 10)) (hrem) ?_
                refine jv_lstore C [(7, .long (js_nvi neg (x / js_tp (s1 + 1) % 10))), (0, .ref o), (1, .long (js_nvi neg x)), (5, .long (js_l (js_tp (s1 + 1))))] (jd D_Md_numberJ 37 rfl) (by decide) rfl ?_
                refine jv_aload_n C (jd D_Md_numberJ 38 rfl) rfl 1 rfl ?_
                refine jv_bipush (v := 48) C (jd D_Md_numberJ 39 rfl) (by decide) ?_
                refine jv_lload C (jd D_Md_numberJ 40 rfl) 0 rfl ?_
                refine jv_lconst (v := 0) C (jd D_Md_numberJ 41 rfl) (by decide) ?_
                refine jv_lcmp C (jd D_Md_numberJ 42 rfl) ?_
                refine jv_if_ge (tgt := 79) C (jd D_Md_numberJ 43 rfl) (by decide) (fun c70 => ?_) (fun c70 => ?_)
                · refine jv_lload C (jd D_Md_numberJ 47 rfl) 0 rfl ?_
                  refine jv_atl (y := js_l (x / js_tp (s1 + 1) % 10)) (hab.2 (Int64.not_lt.mpr ((lg_cmp_ge _ _).mp c70))) ?_
                  refine jv_l2i C (jd D_Md_numberJ 48 rfl) ?_
                  refine jv_ati (y := nI (x / js_tp (s1 + 1) % 10)) (js_l_i (by omega)) ?_
                  refine jv_iadd C (jd D_Md_numberJ 49 rfl) ?_
                  refine jv_ati (y := nI (48 + x / js_tp (s1 + 1) % 10)) (nI_add 48 _) ?_
                  refine jv_callV (wr := []) C cl_Md_221 (c_Md_write o Q K vt g5 py (48 + x / js_tp (s1 + 1) % 10) htx hlen2 (by omega)) [0, 1] [] rfl rfl rfl rfl (by decide) rfl rfl 0 rfl ⟨Nat.le_of_ble_eq_true rfl, Nat.le_of_ble_eq_true rfl⟩ ⟨Nat.le_of_ble_eq_true rfl, Nat.le_of_ble_eq_true rfl⟩ rfl rfl (Nat.le_of_ble_eq_true rfl) (jd D_Md_numberJ 50 rfl) (fun v4 g6 kw6 => ?_)
                  obtain ⟨rfl, kw6⟩ := kw6
                  refine jv_fix [0, 1] [(o, .inr (7, [.ref (Q 0), .int (K 1), .ref (Q 2), .int (K 3), .int (K 4), .int (K 5), vt, .int (K 7), .int (K 8), .int (K 9), .ref (Q 10), .int (nI (py ++ [48 + x / js_tp (s1 + 1) % 10]).length), .int 0, .ref (Q 13), .ref (Q 14), .ref (Q 15), .ref (Q 16), .ref (Q 17)])), ((Q 10), .inl (dA 0, 16392, .inl g6))] [] 0 0 rfl rfl rfl (Nat.le_refl _) (Nat.le_refl _) ?_
                  refine jv_lload C (jd D_Md_numberJ 51 rfl) 3 rfl ?_
                  refine jv_ldc2_w (v := 10) C (jm5 (List.mem_of_getElem? (i := 52) rfl)) (jd D_Md_numberJ 52 rfl) ?_
                  refine jv_ldiv C (jd D_Md_numberJ 53 rfl) (by decide) ?_
                  refine jv_atl (y := js_l (js_tp s1)) (by rw [show (10 : Int64) = js_l 10 from rfl, js_l_div (by omega) (by decide), js_tp_d]) ?_
                  refine jv_lstore C [(5, .long (js_l (js_tp s1))), (7, .long (js_nvi neg (x / js_tp (s1 + 1) % 10))), (0, .ref o), (1, .long (js_nvi neg x))] (jd D_Md_numberJ 54 rfl) (by decide) rfl ?_
                  refine jv_goto (tgt := 46) C (jd D_Md_numberJ 55 rfl) (by decide) ?_
                  refine jv_lvsub [2, 3, 0] rfl ?_
                  exact ih s1 (py ++ [48 + x / js_tp (s1 + 1) % 10]) g6 (by omega) (by omega) hpy2 kw6
                · refine jv_lload C (jd D_Md_numberJ 44 rfl) 0 rfl ?_
                  refine jv_lneg C (jd D_Md_numberJ 45 rfl) ?_
                  refine jv_goto (tgt := 81) C (jd D_Md_numberJ 46 rfl) (by decide) ?_
                  refine jv_atl (y := js_l (x / js_tp (s1 + 1) % 10)) (hab.1 (Int64.not_le.mp (fun z => c70 ((lg_cmp_ge _ _).mpr z)))) ?_
                  refine jv_l2i C (jd D_Md_numberJ 48 rfl) ?_
                  refine jv_ati (y := nI (x / js_tp (s1 + 1) % 10)) (js_l_i (by omega)) ?_
                  refine jv_iadd C (jd D_Md_numberJ 49 rfl) ?_
                  refine jv_ati (y := nI (48 + x / js_tp (s1 + 1) % 10)) (nI_add 48 _) ?_
                  refine jv_callV (wr := []) C cl_Md_221 (c_Md_write o Q K vt g5 py (48 + x / js_tp (s1 + 1) % 10) htx hlen2 (by omega)) [0, 1] [] rfl rfl rfl rfl (by decide) rfl rfl 0 rfl ⟨Nat.le_of_ble_eq_true rfl, Nat.le_of_ble_eq_true rfl⟩ ⟨Nat.le_of_ble_eq_true rfl, Nat.le_of_ble_eq_true rfl⟩ rfl rfl (Nat.le_of_ble_eq_true rfl) (jd D_Md_numberJ 50 rfl) (fun v5 g6 kw6 => ?_)
                  obtain ⟨rfl, kw6⟩ := kw6
                  refine jv_fix [0, 1] [(o, .inr (7, [.ref (Q 0), .int (K 1), .ref (Q 2), .int (K 3), .int (K 4), .int (K 5), vt, .int (K 7), .int (K 8), .int (K 9), .ref (Q 10), .int (nI (py ++ [48 + x / js_tp (s1 + 1) % 10]).length), .int 0, .ref (Q 13), .ref (Q 14), .ref (Q 15), .ref (Q 16), .ref (Q 17)])), ((Q 10), .inl (dA 0, 16392, .inl g6))] [] 0 0 rfl rfl rfl (Nat.le_refl _) (Nat.le_refl _) ?_
                  refine jv_lload C (jd D_Md_numberJ 51 rfl) 3 rfl ?_
                  refine jv_ldc2_w (v := 10) C (jm5 (List.mem_of_getElem? (i := 52) rfl)) (jd D_Md_numberJ 52 rfl) ?_
                  refine jv_ldiv C (jd D_Md_numberJ 53 rfl) (by decide) ?_
                  refine jv_atl (y := js_l (js_tp s1)) (by rw [show (10 : Int64) = js_l 10 from rfl, js_l_div (by omega) (by decide), js_tp_d]) ?_
                  refine jv_lstore C [(5, .long (js_l (js_tp s1))), (7, .long (js_nvi neg (x / js_tp (s1 + 1) % 10))), (0, .ref o), (1, .long (js_nvi neg x))] (jd D_Md_numberJ 54 rfl) (by decide) rfl ?_
                  refine jv_goto (tgt := 46) C (jd D_Md_numberJ 55 rfl) (by decide) ?_
                  refine jv_lvsub [2, 3, 0] rfl ?_
                  exact ih s1 (py ++ [48 + x / js_tp (s1 + 1) % 10]) g6 (by omega) (by omega) hpy2 kw6
          refine jv_lvsub [1, 2, 0] rfl ?_
          exact hL46 (k0 + 2) (k0 + 1) pw g1 (by omega) (by omega) (by rw [hpw, hdec, List.append_assoc]; rfl) kw1
    refine jv_lvsub [1, 2, 0] rfl ?_
    exact hL14 16 0 (by omega) (by omega) (Or.inl rfl)
