set_option maxHeartbeats 4000000 in
set_option maxRecDepth 100000 in
/-- sizeOf, a string -/
theorem c_Sh_sizeOf_str {l : Launch} {D : va_G} {dA : Nat → ClassId} {zz : (Nat → Nat) × (Nat → Nat)} (x tp rs sl rd ol cp : Nat) (pl : Int32) (h b : Nat) (f : Nat → Int32) (t : List Nat) (hl : t.length ≤ 4096) (ht : js_tx f t) (h1 : 1 ≤ t.length) (hb : js_b t 0 = 34) : jv_M l D dA zz y_Sh_sizeOf b_Sh_sizeOf 2 (some (FieldType.int)) 4 [.ref x, .ref h] [(x, .inr (5, [.ref tp, .ref rs, .ref sl, .ref rd, .ref ol, .ref cp, .int pl])), (h, .inr (0, [.ref b, .int (nI t.length)])), (b, .inl (dA 0, 4096, .inl f))] (jv_pi fun r (_ : Unit) => r = nI (js_cc t (t.length + 5) 1 0)) (fun _ => [(x, .inr (5, [.ref tp, .ref rs, .ref sl, .ref rd, .ref ol, .ref cp, .int pl])), (h, .inr (0, [.ref b, .int (nI t.length)])), (b, .inl (dA 0, 4096, .inl f))]) 0 0 := by
  refine jv_M.of [(0, .ref x), (1, .ref h)] (by decide) (Nat.le_of_ble_eq_true rfl) rfl ?_
  intro pR eR sR mR belowR methR cR AR C hr hin
  refine jv_aload_n C (jd D_Sh_sizeOf 0 rfl) rfl 1 rfl ?_
  refine jv_iconst (v := 0) C (jd D_Sh_sizeOf 1 rfl) (by decide) ?_
  refine jv_callV (wr := [(x, .inr (5, [.ref tp, .ref rs, .ref sl, .ref rd, .ref ol, .ref cp, .int pl]))]) C cl_Sh_126 (c_Tx_at h b 4096 f t (nI 0) hl (by omega) ht) [1, 2] [0] rfl rfl rfl rfl (by decide) rfl rfl 0 rfl ⟨Nat.le_of_ble_eq_true rfl, Nat.le_of_ble_eq_true rfl⟩ ⟨Nat.le_of_ble_eq_true rfl, Nat.le_of_ble_eq_true rfl⟩ rfl rfl (Nat.le_of_ble_eq_true rfl) (jd D_Sh_sizeOf 2 rfl) (fun v1 _ k1 => ?_)
  obtain ⟨r1_, rfl, k1⟩ := k1
  refine jv_fix [0, 1, 2] [(x, .inr (5, [.ref tp, .ref rs, .ref sl, .ref rd, .ref ol, .ref cp, .int pl])), (h, .inr (0, [.ref b, .int (nI t.length)])), (b, .inl (dA 0, 4096, .inl f))] [.int r1_] 0 0 rfl rfl rfl (Nat.le_refl _) (Nat.le_refl _) ?_
  rw [js_at_nat (by omega) (by omega)] at k1
  subst k1
  refine jv_bipush (v := 34) C (jd D_Sh_sizeOf 3 rfl) (by decide) ?_
  refine jv_icmp_ne (tgt := 15) C (jd D_Sh_sizeOf 4 rfl) (by decide) (fun c7 => absurd c7 (fun y => y hb)) (fun c7 => ?_)
  refine jv_aload_n C (jd D_Sh_sizeOf 5 rfl) rfl 1 rfl ?_
  refine jv_callS (wr := [(x, .inr (5, [.ref tp, .ref rs, .ref sl, .ref rd, .ref ol, .ref cp, .int pl]))]) C cl_Sh_132 (c_Sh_charactersOf h b 4096 f t hl (by decide) ht h1) [1, 2] [0] rfl rfl rfl rfl (by decide) ⟨Nat.le_of_ble_eq_true rfl, Nat.le_of_ble_eq_true rfl⟩ ⟨Nat.le_of_ble_eq_true rfl, Nat.le_of_ble_eq_true rfl⟩ rfl rfl (Nat.le_of_ble_eq_true rfl) (jd D_Sh_sizeOf 6 rfl) (fun v2 _ k2 => ?_)
  obtain ⟨rv2, rfl, k2⟩ := k2
  refine jv_fix [0, 1, 2] [(x, .inr (5, [.ref tp, .ref rs, .ref sl, .ref rd, .ref ol, .ref cp, .int pl])), (h, .inr (0, [.ref b, .int (nI t.length)])), (b, .inl (dA 0, 4096, .inl f))] [.int rv2] 0 0 rfl rfl rfl (Nat.le_refl _) (Nat.le_refl _) ?_
  subst k2
  exact jv_iret C hr () (rfl) rfl [0, 1, 2] rfl rfl (Nat.le_of_ble_eq_true rfl) (Nat.le_of_ble_eq_true rfl) (jd D_Sh_sizeOf 7 rfl)

set_option maxHeartbeats 4000000 in
set_option maxRecDepth 100000 in
/-- sizeOf, no string -/
theorem c_Sh_sizeOf_oth {l : Launch} {D : va_G} {dA : Nat → ClassId} {zz : (Nat → Nat) × (Nat → Nat)} (x tp rs sl rd ol cp : Nat) (pl : Int32) (h b : Nat) (f : Nat → Int32) (t : List Nat) (s1 s2 s3 s4 s5 s6 s7 : Nat) (fS fE fF fC fN fH fO : Nat → Int32) (cc cd ce : Int32) (h0 : Nat) (vs : List js_E) (obF : List Nat) (deF : Nat) (hl : t.length ≤ 4096) (ht : js_tx f t) (hd : js_dr t (t.length + 1) 0 none [] [] 0 = (vs, obF, deF)) (hv0 : 0 < vs.length) (hb : ¬ js_b t 0 = 34) : jv_M l D dA zz y_Sh_sizeOf b_Sh_sizeOf 2 (some (FieldType.int)) 6 [.ref x, .ref h] [(x, .inr (5, [.ref tp, .ref rs, .ref sl, .ref rd, .ref ol, .ref cp, .int pl])), (ol, .inr (3, [.ref s1, .ref s2, .ref s3, .ref s4, .ref s5, .ref s6, .ref s7, .ref h0, .int cc, .int cd, .int ce])), (s1, .inl (dA 1, 2048, .inl fS)), (s2, .inl (dA 1, 2048, .inl fE)), (s3, .inl (dA 1, 2048, .inl fF)), (s4, .inl (dA 1, 2048, .inl fC)), (s5, .inl (dA 1, 2048, .inl fN)), (s6, .inl (dA 1, 2048, .inl fH)), (s7, .inl (dA 1, 32, .inl fO)), (h, .inr (0, [.ref b, .int (nI t.length)])), (b, .inl (dA 0, 4096, .inl f))] (jv_pi fun r (_ : (Nat → Int32) × (Nat → Int32) × (Nat → Int32) × (Nat → Int32) × (Nat → Int32) × (Nat → Int32) × (Nat → Int32)) => r = nI (js_en vs 0).2.2.2.1) (fun u => [(x, .inr (5, [.ref tp, .ref rs, .ref sl, .ref rd, .ref ol, .ref cp, .int pl])), (ol, .inr (3, [.ref s1, .ref s2, .ref s3, .ref s4, .ref s5, .ref s6, .ref s7, .ref h, .int (nI vs.length), .int (nI obF.length), .int (nI deF)])), (s1, .inl (dA 1, 2048, .inl u.1)), (s2, .inl (dA 1, 2048, .inl u.2.1)), (s3, .inl (dA 1, 2048, .inl u.2.2.1)), (s4, .inl (dA 1, 2048, .inl u.2.2.2.1)), (s5, .inl (dA 1, 2048, .inl u.2.2.2.2.1)), (s6, .inl (dA 1, 2048, .inl u.2.2.2.2.2.1)), (s7, .inl (dA 1, 32, .inl u.2.2.2.2.2.2)), (h, .inr (0, [.ref b, .int (nI t.length)])), (b, .inl (dA 0, 4096, .inl f))]) 0 0 := by
  refine jv_M.of [(0, .ref x), (1, .ref h)] (by decide) (Nat.le_of_ble_eq_true rfl) rfl ?_
  intro pR eR sR mR belowR methR cR AR C hr hin
  refine jv_aload_n C (jd D_Sh_sizeOf 0 rfl) rfl 1 rfl ?_
  refine jv_iconst (v := 0) C (jd D_Sh_sizeOf 1 rfl) (by decide) ?_
  refine jv_callV (wr := [(x, .inr (5, [.ref tp, .ref rs, .ref sl, .ref rd, .ref ol, .ref cp, .int pl])), (ol, .inr (3, [.ref s1, .ref s2, .ref s3, .ref s4, .ref s5, .ref s6, .ref s7, .ref h0, .int cc, .int cd, .int ce])), (s1, .inl (dA 1, 2048, .inl fS)), (s2, .inl (dA 1, 2048, .inl fE)), (s3, .inl (dA 1, 2048, .inl fF)), (s4, .inl (dA 1, 2048, .inl fC)), (s5, .inl (dA 1, 2048, .inl fN)), (s6, .inl (dA 1, 2048, .inl fH)), (s7, .inl (dA 1, 32, .inl fO))]) C cl_Sh_126 (c_Tx_at h b 4096 f t (nI 0) hl (by omega) ht) [9, 10] [0, 1, 2, 3, 4, 5, 6, 7, 8] rfl rfl rfl rfl (by decide) rfl rfl 0 rfl ⟨Nat.le_of_ble_eq_true rfl, Nat.le_of_ble_eq_true rfl⟩ ⟨Nat.le_of_ble_eq_true rfl, Nat.le_of_ble_eq_true rfl⟩ rfl rfl (Nat.le_of_ble_eq_true rfl) (jd D_Sh_sizeOf 2 rfl) (fun v1 _ k1 => ?_)
  obtain ⟨r1_, rfl, k1⟩ := k1
  refine jv_fix [0, 1, 2, 3, 4, 5, 6, 7, 8, 9, 10] [(x, .inr (5, [.ref tp, .ref rs, .ref sl, .ref rd, .ref ol, .ref cp, .int pl])), (ol, .inr (3, [.ref s1, .ref s2, .ref s3, .ref s4, .ref s5, .ref s6, .ref s7, .ref h0, .int cc, .int cd, .int ce])), (s1, .inl (dA 1, 2048, .inl fS)), (s2, .inl (dA 1, 2048, .inl fE)), (s3, .inl (dA 1, 2048, .inl fF)), (s4, .inl (dA 1, 2048, .inl fC)), (s5, .inl (dA 1, 2048, .inl fN)), (s6, .inl (dA 1, 2048, .inl fH)), (s7, .inl (dA 1, 32, .inl fO)), (h, .inr (0, [.ref b, .int (nI t.length)])), (b, .inl (dA 0, 4096, .inl f))] [.int r1_] 0 0 rfl rfl rfl (Nat.le_refl _) (Nat.le_refl _) ?_
  rw [js_at_nat (by omega) (by omega)] at k1
  subst k1
  refine jv_bipush (v := 34) C (jd D_Sh_sizeOf 3 rfl) (by decide) ?_
  refine jv_icmp_ne (tgt := 15) C (jd D_Sh_sizeOf 4 rfl) (by decide) (fun c7 => ?_) (fun c7 => absurd c7 (hb))
  refine jv_aload_n C (jd D_Sh_sizeOf 8 rfl) rfl 0 rfl ?_
  refine jv_get C fl_Sh_37 0 rfl rfl (jd D_Sh_sizeOf 9 rfl) ?_
  refine jv_aload_n C (jd D_Sh_sizeOf 10 rfl) rfl 1 rfl ?_
  refine jv_callV (wr := [(x, .inr (5, [.ref tp, .ref rs, .ref sl, .ref rd, .ref ol, .ref cp, .int pl]))]) C cl_Sh_103 (c_Ol_draw ol s1 s2 s3 s4 s5 s6 s7 h b 4096 fS fE fF fC fN fH fO f t h0 cc cd ce vs obF deF hl (by decide) ht hd) [1, 2, 3, 4, 5, 6, 7, 8, 9, 10] [0] rfl rfl rfl rfl (by decide) rfl rfl 0 rfl ⟨Nat.le_of_ble_eq_true rfl, Nat.le_of_ble_eq_true rfl⟩ ⟨Nat.le_of_ble_eq_true rfl, Nat.le_of_ble_eq_true rfl⟩ rfl rfl (Nat.le_of_ble_eq_true rfl) (jd D_Sh_sizeOf 11 rfl) (fun v2 u kd1 => ?_)
  obtain ⟨rfl, kd1⟩ := kd1
  refine jv_fix [0, 1, 2, 3, 4, 5, 6, 7, 8, 9, 10] [(x, .inr (5, [.ref tp, .ref rs, .ref sl, .ref rd, .ref ol, .ref cp, .int pl])), (ol, .inr (3, [.ref s1, .ref s2, .ref s3, .ref s4, .ref s5, .ref s6, .ref s7, .ref h, .int (nI vs.length), .int (nI obF.length), .int (nI deF)])), (s1, .inl (dA 1, 2048, .inl u.1)), (s2, .inl (dA 1, 2048, .inl u.2.1)), (s3, .inl (dA 1, 2048, .inl u.2.2.1)), (s4, .inl (dA 1, 2048, .inl u.2.2.2.1)), (s5, .inl (dA 1, 2048, .inl u.2.2.2.2.1)), (s6, .inl (dA 1, 2048, .inl u.2.2.2.2.2.1)), (s7, .inl (dA 1, 32, .inl u.2.2.2.2.2.2)), (h, .inr (0, [.ref b, .int (nI t.length)])), (b, .inl (dA 0, 4096, .inl f))] [] 0 0 rfl rfl rfl (Nat.le_refl _) (Nat.le_refl _) ?_
  refine jv_aload_n C (jd D_Sh_sizeOf 12 rfl) rfl 0 rfl ?_
  refine jv_get C fl_Sh_37 0 rfl rfl (jd D_Sh_sizeOf 13 rfl) ?_
  refine jv_iconst (v := 0) C (jd D_Sh_sizeOf 14 rfl) (by decide) ?_
  refine jv_callV (wr := [(x, .inr (5, [.ref tp, .ref rs, .ref sl, .ref rd, .ref ol, .ref cp, .int pl])), (s1, .inl (dA 1, 2048, .inl u.1)), (s2, .inl (dA 1, 2048, .inl u.2.1)), (s3, .inl (dA 1, 2048, .inl u.2.2.1)), (s5, .inl (dA 1, 2048, .inl u.2.2.2.2.1)), (s6, .inl (dA 1, 2048, .inl u.2.2.2.2.2.1)), (s7, .inl (dA 1, 32, .inl u.2.2.2.2.2.2)), (h, .inr (0, [.ref b, .int (nI t.length)])), (b, .inl (dA 0, 4096, .inl f))]) C cl_Sh_135 (c_Ol_childrenOf ol s1 s2 s3 s4 s5 s6 s7 h (nI vs.length) (nI obF.length) (nI deF) 0 u.2.2.2.1 (by decide)) [1, 5] [0, 2, 3, 4, 6, 7, 8, 9, 10] rfl rfl rfl rfl (by decide) rfl rfl 0 rfl ⟨Nat.le_of_ble_eq_true rfl, Nat.le_of_ble_eq_true rfl⟩ ⟨Nat.le_of_ble_eq_true rfl, Nat.le_of_ble_eq_true rfl⟩ rfl rfl (Nat.le_of_ble_eq_true rfl) (jd D_Sh_sizeOf 15 rfl) (fun v3 _ k2 => ?_)
  obtain ⟨rv2, rfl, k2⟩ := k2
  refine jv_fix [0, 9, 1, 2, 3, 10, 4, 5, 6, 7, 8] [(x, .inr (5, [.ref tp, .ref rs, .ref sl, .ref rd, .ref ol, .ref cp, .int pl])), (ol, .inr (3, [.ref s1, .ref s2, .ref s3, .ref s4, .ref s5, .ref s6, .ref s7, .ref h, .int (nI vs.length), .int (nI obF.length), .int (nI deF)])), (s1, .inl (dA 1, 2048, .inl u.1)), (s2, .inl (dA 1, 2048, .inl u.2.1)), (s3, .inl (dA 1, 2048, .inl u.2.2.1)), (s4, .inl (dA 1, 2048, .inl u.2.2.2.1)), (s5, .inl (dA 1, 2048, .inl u.2.2.2.2.1)), (s6, .inl (dA 1, 2048, .inl u.2.2.2.2.2.1)), (s7, .inl (dA 1, 32, .inl u.2.2.2.2.2.2)), (h, .inr (0, [.ref b, .int (nI t.length)])), (b, .inl (dA 0, 4096, .inl f))] [.int rv2] 0 0 rfl rfl rfl (Nat.le_refl _) (Nat.le_refl _) ?_
  rw [(kd1.en hv0).2.2.2.1] at k2
  subst k2
  exact jv_iret C hr u (rfl) rfl [0, 1, 2, 3, 4, 5, 6, 7, 8, 9, 10] rfl rfl (Nat.le_of_ble_eq_true rfl) (Nat.le_of_ble_eq_true rfl) (jd D_Sh_sizeOf 16 rfl)

set_option maxHeartbeats 4000000 in
set_option maxRecDepth 100000 in
/-- about, no slot -/
theorem c_Sh_about_no1 {l : Launch} {D : va_G} {dA : Nat → ClassId} {zz : (Nat → Nat) × (Nat → Nat)} (x tp rs sl rd ol cp : Nat) (pl : Int32) (fs : Nat → Option Nat) (i w : Int32) (hb : i < 0 ∨ 8 ≤ i) (hlt : l.stackTraces = false) : jv_MX l D dA zz y_Sh_about b_Sh_about 5 (some (FieldType.long)) 7 [.ref x, .int i, .int w] [(x, .inr (5, [.ref tp, .ref rs, .ref sl, .ref rd, .ref ol, .ref cp, .int pl])), (sl, .inl (dA 5, 8, .inr (.inr (.inr (.inr fs)))))] "java/lang/IllegalArgumentException" (fun (_ : Unit) => True) (fun _ => [(x, .inr (5, [.ref tp, .ref rs, .ref sl, .ref rd, .ref ol, .ref cp, .int pl])), (sl, .inl (dA 5, 8, .inr (.inr (.inr (.inr fs)))))]) 1 6 := by
  refine jv_MX.of [(0, .ref x), (1, .int i), (2, .int w)] (by decide) (Nat.le_of_ble_eq_true rfl) rfl ?_
  intro pR eR sR mR belowR methR cR AR C hT0
  refine jv_aload_n C (jd D_Sh_about 0 rfl) rfl 0 rfl ?_
  refine jv_iload_n C (jd D_Sh_about 1 rfl) rfl 1 rfl ?_
  exact jv_outV (wr := []) C hT0 cl_Sh_70 (c_Sh_slotAt_no x tp rs sl rd ol cp pl i fs hb hlt) [0, 1] [] rfl rfl rfl rfl (by decide) rfl rfl 0 rfl (fun _ => jv_noNestM (by decide)) ⟨Nat.le_of_ble_eq_true rfl, Nat.le_of_ble_eq_true rfl⟩ ⟨Nat.le_of_ble_eq_true rfl, Nat.le_of_ble_eq_true rfl⟩ rfl rfl (Nat.le_of_ble_eq_true rfl) (jd D_Sh_about 2 rfl) [0, 1] rfl (fun _ _ => ⟨(), trivial, rfl⟩) (Nat.le_of_ble_eq_true rfl) (Nat.le_of_ble_eq_true rfl)

set_option maxHeartbeats 4000000 in
set_option maxRecDepth 100000 in
/-- about, no such question -/
theorem c_Sh_about_no1b {l : Launch} {D : va_G} {dA : Nat → ClassId} {zz : (Nat → Nat) × (Nat → Nat)} (x tp rs sl rd ol cp : Nat) (pl : Int32) (fs : Nat → Option Nat) (h k : Nat) (w : Int32) (hk : k < 8) (hh : fs k = some h) (hb : w < 0 ∨ 3 < w) (hlt : l.stackTraces = false) : jv_MX l D dA zz y_Sh_about b_Sh_about 5 (some (FieldType.long)) 7 [.ref x, .int (nI k), .int w] [(x, .inr (5, [.ref tp, .ref rs, .ref sl, .ref rd, .ref ol, .ref cp, .int pl])), (sl, .inl (dA 5, 8, .inr (.inr (.inr (.inr fs)))))] "java/lang/IllegalArgumentException" (fun (_ : Unit) => True) (fun _ => [(x, .inr (5, [.ref tp, .ref rs, .ref sl, .ref rd, .ref ol, .ref cp, .int pl])), (sl, .inl (dA 5, 8, .inr (.inr (.inr (.inr fs)))))]) 1 6 := by
  refine jv_MX.of [(0, .ref x), (1, .int (nI k)), (2, .int w)] (by decide) (Nat.le_of_ble_eq_true rfl) rfl ?_
  intro pR eR sR mR belowR methR cR AR C hT0
  refine jv_aload_n C (jd D_Sh_about 0 rfl) rfl 0 rfl ?_
  refine jv_iload_n C (jd D_Sh_about 1 rfl) rfl 1 rfl ?_
  refine jv_callV (wr := []) C cl_Sh_70 (c_Sh_slotAt_ok x tp rs sl rd ol cp pl h k fs hk hh) [0, 1] [] rfl rfl rfl rfl (by decide) rfl rfl 0 rfl ⟨Nat.le_of_ble_eq_true rfl, Nat.le_of_ble_eq_true rfl⟩ ⟨Nat.le_of_ble_eq_true rfl, Nat.le_of_ble_eq_true rfl⟩ rfl rfl (Nat.le_of_ble_eq_true rfl) (jd D_Sh_about 2 rfl) (fun v1 _ ka1 => ?_)
  obtain ⟨a1, rfl, ka1⟩ := ka1
  refine jv_fix [0, 1] [(x, .inr (5, [.ref tp, .ref rs, .ref sl, .ref rd, .ref ol, .ref cp, .int pl])), (sl, .inl (dA 5, 8, .inr (.inr (.inr (.inr fs)))))] [.ref a1] 0 0 rfl rfl rfl (Nat.le_refl _) (Nat.le_refl _) ?_
  have ka1 := ka1.symm
  subst ka1
  refine jv_astore_n C [(3, .ref h), (0, .ref x), (1, .int (nI k)), (2, .int w)] (jd D_Sh_about 3 rfl) rfl (by decide) rfl ?_
  refine jv_iload_n C (jd D_Sh_about 4 rfl) rfl 3 rfl ?_
  refine jv_if_lt (tgt := 15) C (jd D_Sh_about 5 rfl) (by decide) (fun c7 => ?_) (fun c7 => ?_)
  · exact jv_throw0 C hT0 hlt tw_64 () (trivial) [0, 1] rfl rfl (Nat.le_of_ble_eq_true rfl) (Nat.le_of_ble_eq_true rfl) (Nat.le_of_ble_eq_true rfl) (Nat.le_of_ble_eq_true rfl) (Nat.le_of_ble_eq_true rfl) (Nat.le_of_ble_eq_true rfl) (jd D_Sh_about 9 rfl) (jd D_Sh_about 10 rfl) (jd D_Sh_about 11 rfl) (jd D_Sh_about 12 rfl)
  · refine jv_iload_n C (jd D_Sh_about 6 rfl) rfl 3 rfl ?_
    refine jv_iconst (v := 3) C (jd D_Sh_about 7 rfl) (by decide) ?_
    refine jv_icmp_le (tgt := 23) C (jd D_Sh_about 8 rfl) (by decide) (fun c12 => absurd c12 (fun y => hb.elim c7 (fun z => absurd y (Int32.not_le.mpr z)))) (fun c12 => ?_)
    exact jv_throw0 C hT0 hlt tw_64 () (trivial) [0, 1] rfl rfl (Nat.le_of_ble_eq_true rfl) (Nat.le_of_ble_eq_true rfl) (Nat.le_of_ble_eq_true rfl) (Nat.le_of_ble_eq_true rfl) (Nat.le_of_ble_eq_true rfl) (Nat.le_of_ble_eq_true rfl) (jd D_Sh_about 9 rfl) (jd D_Sh_about 10 rfl) (jd D_Sh_about 11 rfl) (jd D_Sh_about 12 rfl)

set_option maxHeartbeats 4000000 in
set_option maxRecDepth 100000 in
/-- about, nothing held -/
theorem c_Sh_about_no2 {l : Launch} {D : va_G} {dA : Nat → ClassId} {zz : (Nat → Nat) × (Nat → Nat)} (x tp rs sl rd ol cp : Nat) (pl : Int32) (fs : Nat → Option Nat) (h b k : Nat) (f : Nat → Int32) (w : Int32) (hk : k < 8) (hh : fs k = some h) (hw0 : ¬ w < 0) (hw3 : w ≤ 3) (hlt : l.stackTraces = false) : jv_MX l D dA zz y_Sh_about b_Sh_about 5 (some (FieldType.long)) 7 [.ref x, .int (nI k), .int w] [(x, .inr (5, [.ref tp, .ref rs, .ref sl, .ref rd, .ref ol, .ref cp, .int pl])), (sl, .inl (dA 5, 8, .inr (.inr (.inr (.inr fs))))), (h, .inr (0, [.ref b, .int (nI ([] : List Nat).length)])), (b, .inl (dA 0, 4096, .inl f))] "java/lang/IllegalStateException" (fun (_ : Unit) => True) (fun _ => [(x, .inr (5, [.ref tp, .ref rs, .ref sl, .ref rd, .ref ol, .ref cp, .int pl])), (sl, .inl (dA 5, 8, .inr (.inr (.inr (.inr fs))))), (h, .inr (0, [.ref b, .int (nI ([] : List Nat).length)])), (b, .inl (dA 0, 4096, .inl f))]) 1 6 := by
  refine jv_MX.of [(0, .ref x), (1, .int (nI k)), (2, .int w)] (by decide) (Nat.le_of_ble_eq_true rfl) rfl ?_
  intro pR eR sR mR belowR methR cR AR C hT0
  refine jv_aload_n C (jd D_Sh_about 0 rfl) rfl 0 rfl ?_
  refine jv_iload_n C (jd D_Sh_about 1 rfl) rfl 1 rfl ?_
  refine jv_callV (wr := [(h, .inr (0, [.ref b, .int (nI ([] : List Nat).length)])), (b, .inl (dA 0, 4096, .inl f))]) C cl_Sh_70 (c_Sh_slotAt_ok x tp rs sl rd ol cp pl h k fs hk hh) [0, 1] [2, 3] rfl rfl rfl rfl (by decide) rfl rfl 0 rfl ⟨Nat.le_of_ble_eq_true rfl, Nat.le_of_ble_eq_true rfl⟩ ⟨Nat.le_of_ble_eq_true rfl, Nat.le_of_ble_eq_true rfl⟩ rfl rfl (Nat.le_of_ble_eq_true rfl) (jd D_Sh_about 2 rfl) (fun v1 _ ka1 => ?_)
  obtain ⟨a1, rfl, ka1⟩ := ka1
  refine jv_fix [2, 3, 0, 1] [(x, .inr (5, [.ref tp, .ref rs, .ref sl, .ref rd, .ref ol, .ref cp, .int pl])), (sl, .inl (dA 5, 8, .inr (.inr (.inr (.inr fs))))), (h, .inr (0, [.ref b, .int (nI ([] : List Nat).length)])), (b, .inl (dA 0, 4096, .inl f))] [.ref a1] 0 0 rfl rfl rfl (Nat.le_refl _) (Nat.le_refl _) ?_
  have ka1 := ka1.symm
  subst ka1
  refine jv_astore_n C [(3, .ref h), (0, .ref x), (1, .int (nI k)), (2, .int w)] (jd D_Sh_about 3 rfl) rfl (by decide) rfl ?_
  refine jv_iload_n C (jd D_Sh_about 4 rfl) rfl 3 rfl ?_
  refine jv_if_lt (tgt := 15) C (jd D_Sh_about 5 rfl) (by decide) (fun c7 => absurd c7 (hw0)) (fun c7 => ?_)
  refine jv_iload_n C (jd D_Sh_about 6 rfl) rfl 3 rfl ?_
  refine jv_iconst (v := 3) C (jd D_Sh_about 7 rfl) (by decide) ?_
  refine jv_icmp_le (tgt := 23) C (jd D_Sh_about 8 rfl) (by decide) (fun c12 => ?_) (fun c12 => absurd (hw3) c12)
  refine jv_aload_n C (jd D_Sh_about 13 rfl) rfl 0 rfl ?_
  exact jv_outS (wr := [(x, .inr (5, [.ref tp, .ref rs, .ref sl, .ref rd, .ref ol, .ref cp, .int pl])), (sl, .inl (dA 5, 8, .inr (.inr (.inr (.inr fs)))))]) C hT0 cl_Sh_88 (c_Sh_held_no h b 4096 f hlt) [2, 3] [0, 1] rfl rfl rfl rfl (by decide) (fun _ => jv_noNestM (by decide)) ⟨Nat.le_of_ble_eq_true rfl, Nat.le_of_ble_eq_true rfl⟩ ⟨Nat.le_of_ble_eq_true rfl, Nat.le_of_ble_eq_true rfl⟩ rfl rfl (Nat.le_of_ble_eq_true rfl) (jd D_Sh_about 14 rfl) [0, 1, 2, 3] rfl (fun _ _ => ⟨(), trivial, rfl⟩) (Nat.le_of_ble_eq_true rfl) (Nat.le_of_ble_eq_true rfl)

set_option maxHeartbeats 4000000 in
set_option maxRecDepth 100000 in
/-- about(k, 0)  -/
theorem c_Sh_about_0 {l : Launch} {D : va_G} {dA : Nat → ClassId} {zz : (Nat → Nat) × (Nat → Nat)} (x tp rs sl rd ol cp : Nat) (pl : Int32) (fs : Nat → Option Nat) (h b : Nat) (f : Nat → Int32) (t : List Nat) (k : Nat) (hl : t.length ≤ 4096) (ht : js_tx f t) (hk : k < 8) (hh : fs k = some h) (h1 : 0 < t.length) : jv_M l D dA zz y_Sh_about b_Sh_about 5 (some (FieldType.long)) 5 [.ref x, .int (nI k), .int 0] [(x, .inr (5, [.ref tp, .ref rs, .ref sl, .ref rd, .ref ol, .ref cp, .int pl])), (sl, .inl (dA 5, 8, .inr (.inr (.inr (.inr fs))))), (h, .inr (0, [.ref b, .int (nI t.length)])), (b, .inl (dA 0, 4096, .inl f))] (jv_pl fun r (_ : Unit) => r = (js_kd (js_b t 0)).toInt64) (fun _ => [(x, .inr (5, [.ref tp, .ref rs, .ref sl, .ref rd, .ref ol, .ref cp, .int pl])), (sl, .inl (dA 5, 8, .inr (.inr (.inr (.inr fs))))), (h, .inr (0, [.ref b, .int (nI t.length)])), (b, .inl (dA 0, 4096, .inl f))]) 0 0 := by
  refine jv_M.of [(0, .ref x), (1, .int (nI k)), (2, .int 0)] (by decide) (Nat.le_of_ble_eq_true rfl) rfl ?_
  intro pR eR sR mR belowR methR cR AR C hr hin
  refine jv_aload_n C (jd D_Sh_about 0 rfl) rfl 0 rfl ?_
  refine jv_iload_n C (jd D_Sh_about 1 rfl) rfl 1 rfl ?_
  refine jv_callV (wr := [(h, .inr (0, [.ref b, .int (nI t.length)])), (b, .inl (dA 0, 4096, .inl f))]) C cl_Sh_70 (c_Sh_slotAt_ok x tp rs sl rd ol cp pl h k fs hk hh) [0, 1] [2, 3] rfl rfl rfl rfl (by decide) rfl rfl 0 rfl ⟨Nat.le_of_ble_eq_true rfl, Nat.le_of_ble_eq_true rfl⟩ ⟨Nat.le_of_ble_eq_true rfl, Nat.le_of_ble_eq_true rfl⟩ rfl rfl (Nat.le_of_ble_eq_true rfl) (jd D_Sh_about 2 rfl) (fun v1 _ ka1 => ?_)
  obtain ⟨a1, rfl, ka1⟩ := ka1
  refine jv_fix [2, 3, 0, 1] [(x, .inr (5, [.ref tp, .ref rs, .ref sl, .ref rd, .ref ol, .ref cp, .int pl])), (sl, .inl (dA 5, 8, .inr (.inr (.inr (.inr fs))))), (h, .inr (0, [.ref b, .int (nI t.length)])), (b, .inl (dA 0, 4096, .inl f))] [.ref a1] 0 0 rfl rfl rfl (Nat.le_refl _) (Nat.le_refl _) ?_
  have ka1 := ka1.symm
  subst ka1
  refine jv_astore_n C [(3, .ref h), (0, .ref x), (1, .int (nI k)), (2, .int 0)] (jd D_Sh_about 3 rfl) rfl (by decide) rfl ?_
  refine jv_iload_n C (jd D_Sh_about 4 rfl) rfl 3 rfl ?_
  refine jv_if_lt (tgt := 15) C (jd D_Sh_about 5 rfl) (by decide) (fun c7 => absurd c7 (by decide)) (fun c7 => ?_)
  refine jv_iload_n C (jd D_Sh_about 6 rfl) rfl 3 rfl ?_
  refine jv_iconst (v := 3) C (jd D_Sh_about 7 rfl) (by decide) ?_
  refine jv_icmp_le (tgt := 23) C (jd D_Sh_about 8 rfl) (by decide) (fun c12 => ?_) (fun c12 => absurd (by decide) c12)
  refine jv_aload_n C (jd D_Sh_about 13 rfl) rfl 0 rfl ?_
  refine jv_callS (wr := [(x, .inr (5, [.ref tp, .ref rs, .ref sl, .ref rd, .ref ol, .ref cp, .int pl])), (sl, .inl (dA 5, 8, .inr (.inr (.inr (.inr fs)))))]) C cl_Sh_88 (c_Sh_held_ok h b 4096 f t h1 (by omega)) [2, 3] [0, 1] rfl rfl rfl rfl (by decide) ⟨Nat.le_of_ble_eq_true rfl, Nat.le_of_ble_eq_true rfl⟩ ⟨Nat.le_of_ble_eq_true rfl, Nat.le_of_ble_eq_true rfl⟩ rfl rfl (Nat.le_of_ble_eq_true rfl) (jd D_Sh_about 14 rfl) (fun v2 _ ka2 => ?_)
  obtain ⟨a2, rfl, ka2⟩ := ka2
  refine jv_fix [0, 1, 2, 3] [(x, .inr (5, [.ref tp, .ref rs, .ref sl, .ref rd, .ref ol, .ref cp, .int pl])), (sl, .inl (dA 5, 8, .inr (.inr (.inr (.inr fs))))), (h, .inr (0, [.ref b, .int (nI t.length)])), (b, .inl (dA 0, 4096, .inl f))] [.ref a2] 0 0 rfl rfl rfl (Nat.le_refl _) (Nat.le_refl _) ?_
  have ka2 := ka2.symm
  subst ka2
  refine jv_astore C [(4, .ref h), (3, .ref h), (0, .ref x), (1, .int (nI k)), (2, .int 0)] (jd D_Sh_about 15 rfl) (by decide) rfl ?_
  refine jv_iload_n C (jd D_Sh_about 16 rfl) rfl 4 rfl ?_
  by_cases s30_0 : 0 = 0
  · refine jv_tableIn (tgt := 56) (off := 26) C (jd D_Sh_about 17 rfl) (by rw [s30_0]; decide) (by rw [s30_0]; decide) (by rw [s30_0] <;> rfl) (by decide) ?_
    refine jv_aload C (jd D_Sh_about 18 rfl) 0 rfl ?_
    refine jv_callS (wr := [(x, .inr (5, [.ref tp, .ref rs, .ref sl, .ref rd, .ref ol, .ref cp, .int pl])), (sl, .inl (dA 5, 8, .inr (.inr (.inr (.inr fs)))))]) C cl_Sh_96 (c_Sh_kindOf h b 4096 f t hl (by decide) ht) [2, 3] [0, 1] rfl rfl rfl rfl (by decide) ⟨Nat.le_of_ble_eq_true rfl, Nat.le_of_ble_eq_true rfl⟩ ⟨Nat.le_of_ble_eq_true rfl, Nat.le_of_ble_eq_true rfl⟩ rfl rfl (Nat.le_of_ble_eq_true rfl) (jd D_Sh_about 19 rfl) (fun v3 _ k3 => ?_)
    obtain ⟨rv3, rfl, k3⟩ := k3
    refine jv_fix [0, 1, 2, 3] [(x, .inr (5, [.ref tp, .ref rs, .ref sl, .ref rd, .ref ol, .ref cp, .int pl])), (sl, .inl (dA 5, 8, .inr (.inr (.inr (.inr fs))))), (h, .inr (0, [.ref b, .int (nI t.length)])), (b, .inl (dA 0, 4096, .inl f))] [.int rv3] 0 0 rfl rfl rfl (Nat.le_refl _) (Nat.le_refl _) ?_
    subst k3
    refine jv_i2l C (jd D_Sh_about 20 rfl) ?_
    exact jv_lret C hr () (rfl) [0, 1, 2, 3] rfl rfl (Nat.le_of_ble_eq_true rfl) (Nat.le_of_ble_eq_true rfl) (jd D_Sh_about 21 rfl)
  by_cases s30_1 : 0 = 1
  · refine jv_tableIn (tgt := 63) (off := 33) C (jd D_Sh_about 17 rfl) (by rw [s30_1]; decide) (by rw [s30_1]; decide) (by rw [s30_1] <;> rfl) (by decide) ?_
    exact absurd s30_1 (by decide)
  by_cases s30_2 : 0 = 2
  · refine jv_tableIn (tgt := 71) (off := 41) C (jd D_Sh_about 17 rfl) (by rw [s30_2]; decide) (by rw [s30_2]; decide) (by rw [s30_2] <;> rfl) (by decide) ?_
    exact absurd s30_2 (by decide)
  have q30 : 0.toInt < 0 ∨ 2 < 0.toInt := by
    have z0 : ¬ 0.toInt = 0 := lv_neT s30_0 (by decide)
    have z1 : ¬ 0.toInt = 1 := lv_neT s30_1 (by decide)
    have z2 : ¬ 0.toInt = 2 := lv_neT s30_2 (by decide)
    omega
  refine jv_tableOut (tgt := 89) C (jd D_Sh_about 17 rfl) q30 (by decide) ?_
  exact absurd rfl s30_0

set_option maxHeartbeats 4000000 in
set_option maxRecDepth 100000 in
/-- about(k, 1) str -/
theorem c_Sh_about_1str {l : Launch} {D : va_G} {dA : Nat → ClassId} {zz : (Nat → Nat) × (Nat → Nat)} (x tp rs sl rd ol cp : Nat) (pl : Int32) (fs : Nat → Option Nat) (h b : Nat) (f : Nat → Int32) (t : List Nat) (k : Nat) (hl : t.length ≤ 4096) (ht : js_tx f t) (hk : k < 8) (hh : fs k = some h) (h1 : 0 < t.length) (hb : js_b t 0 = 34) : jv_M l D dA zz y_Sh_about b_Sh_about 5 (some (FieldType.long)) 5 [.ref x, .int (nI k), .int 1] [(x, .inr (5, [.ref tp, .ref rs, .ref sl, .ref rd, .ref ol, .ref cp, .int pl])), (sl, .inl (dA 5, 8, .inr (.inr (.inr (.inr fs))))), (h, .inr (0, [.ref b, .int (nI t.length)])), (b, .inl (dA 0, 4096, .inl f))] (jv_pl fun r (_ : Unit) => r = (nI (js_cc t (t.length + 5) 1 0)).toInt64) (fun _ => [(x, .inr (5, [.ref tp, .ref rs, .ref sl, .ref rd, .ref ol, .ref cp, .int pl])), (sl, .inl (dA 5, 8, .inr (.inr (.inr (.inr fs))))), (h, .inr (0, [.ref b, .int (nI t.length)])), (b, .inl (dA 0, 4096, .inl f))]) 0 0 := by
  refine jv_M.of [(0, .ref x), (1, .int (nI k)), (2, .int 1)] (by decide) (Nat.le_of_ble_eq_true rfl) rfl ?_
  intro pR eR sR mR belowR methR cR AR C hr hin
  refine jv_aload_n C (jd D_Sh_about 0 rfl) rfl 0 rfl ?_
  refine jv_iload_n C (jd D_Sh_about 1 rfl) rfl 1 rfl ?_
  refine jv_callV (wr := [(h, .inr (0, [.ref b, .int (nI t.length)])), (b, .inl (dA 0, 4096, .inl f))]) C cl_Sh_70 (c_Sh_slotAt_ok x tp rs sl rd ol cp pl h k fs hk hh) [0, 1] [2, 3] rfl rfl rfl rfl (by decide) rfl rfl 0 rfl ⟨Nat.le_of_ble_eq_true rfl, Nat.le_of_ble_eq_true rfl⟩ ⟨Nat.le_of_ble_eq_true rfl, Nat.le_of_ble_eq_true rfl⟩ rfl rfl (Nat.le_of_ble_eq_true rfl) (jd D_Sh_about 2 rfl) (fun v1 _ ka1 => ?_)
  obtain ⟨a1, rfl, ka1⟩ := ka1
  refine jv_fix [2, 3, 0, 1] [(x, .inr (5, [.ref tp, .ref rs, .ref sl, .ref rd, .ref ol, .ref cp, .int pl])), (sl, .inl (dA 5, 8, .inr (.inr (.inr (.inr fs))))), (h, .inr (0, [.ref b, .int (nI t.length)])), (b, .inl (dA 0, 4096, .inl f))] [.ref a1] 0 0 rfl rfl rfl (Nat.le_refl _) (Nat.le_refl _) ?_
  have ka1 := ka1.symm
  subst ka1
  refine jv_astore_n C [(3, .ref h), (0, .ref x), (1, .int (nI k)), (2, .int 1)] (jd D_Sh_about 3 rfl) rfl (by decide) rfl ?_
  refine jv_iload_n C (jd D_Sh_about 4 rfl) rfl 3 rfl ?_
  refine jv_if_lt (tgt := 15) C (jd D_Sh_about 5 rfl) (by decide) (fun c7 => absurd c7 (by decide)) (fun c7 => ?_)
  refine jv_iload_n C (jd D_Sh_about 6 rfl) rfl 3 rfl ?_
  refine jv_iconst (v := 3) C (jd D_Sh_about 7 rfl) (by decide) ?_
  refine jv_icmp_le (tgt := 23) C (jd D_Sh_about 8 rfl) (by decide) (fun c12 => ?_) (fun c12 => absurd (by decide) c12)
  refine jv_aload_n C (jd D_Sh_about 13 rfl) rfl 0 rfl ?_
  refine jv_callS (wr := [(x, .inr (5, [.ref tp, .ref rs, .ref sl, .ref rd, .ref ol, .ref cp, .int pl])), (sl, .inl (dA 5, 8, .inr (.inr (.inr (.inr fs)))))]) C cl_Sh_88 (c_Sh_held_ok h b 4096 f t h1 (by omega)) [2, 3] [0, 1] rfl rfl rfl rfl (by decide) ⟨Nat.le_of_ble_eq_true rfl, Nat.le_of_ble_eq_true rfl⟩ ⟨Nat.le_of_ble_eq_true rfl, Nat.le_of_ble_eq_true rfl⟩ rfl rfl (Nat.le_of_ble_eq_true rfl) (jd D_Sh_about 14 rfl) (fun v2 _ ka2 => ?_)
  obtain ⟨a2, rfl, ka2⟩ := ka2
  refine jv_fix [0, 1, 2, 3] [(x, .inr (5, [.ref tp, .ref rs, .ref sl, .ref rd, .ref ol, .ref cp, .int pl])), (sl, .inl (dA 5, 8, .inr (.inr (.inr (.inr fs))))), (h, .inr (0, [.ref b, .int (nI t.length)])), (b, .inl (dA 0, 4096, .inl f))] [.ref a2] 0 0 rfl rfl rfl (Nat.le_refl _) (Nat.le_refl _) ?_
  have ka2 := ka2.symm
  subst ka2
  refine jv_astore C [(4, .ref h), (3, .ref h), (0, .ref x), (1, .int (nI k)), (2, .int 1)] (jd D_Sh_about 15 rfl) (by decide) rfl ?_
  refine jv_iload_n C (jd D_Sh_about 16 rfl) rfl 4 rfl ?_
  by_cases s30_0 : 1 = 0
  · refine jv_tableIn (tgt := 56) (off := 26) C (jd D_Sh_about 17 rfl) (by rw [s30_0]; decide) (by rw [s30_0]; decide) (by rw [s30_0] <;> rfl) (by decide) ?_
    exact absurd s30_0 (by decide)
  by_cases s30_1 : 1 = 1
  · refine jv_tableIn (tgt := 63) (off := 33) C (jd D_Sh_about 17 rfl) (by rw [s30_1]; decide) (by rw [s30_1]; decide) (by rw [s30_1] <;> rfl) (by decide) ?_
    refine jv_aload_n C (jd D_Sh_about 22 rfl) rfl 2 rfl ?_
    refine jv_aload C (jd D_Sh_about 23 rfl) 0 rfl ?_
    refine jv_callV (wr := [(sl, .inl (dA 5, 8, .inr (.inr (.inr (.inr fs)))))]) C cl_Sh_100 (c_Sh_sizeOf_str x tp rs sl rd ol cp pl h b f t hl ht h1 hb) [0, 2, 3] [1] rfl rfl rfl rfl (by decide) rfl rfl 0 rfl ⟨Nat.le_of_ble_eq_true rfl, Nat.le_of_ble_eq_true rfl⟩ ⟨Nat.le_of_ble_eq_true rfl, Nat.le_of_ble_eq_true rfl⟩ rfl rfl (Nat.le_of_ble_eq_true rfl) (jd D_Sh_about 24 rfl) (fun v3 _ k3 => ?_)
    obtain ⟨rv3, rfl, k3⟩ := k3
    refine jv_fix [1, 0, 2, 3] [(x, .inr (5, [.ref tp, .ref rs, .ref sl, .ref rd, .ref ol, .ref cp, .int pl])), (sl, .inl (dA 5, 8, .inr (.inr (.inr (.inr fs))))), (h, .inr (0, [.ref b, .int (nI t.length)])), (b, .inl (dA 0, 4096, .inl f))] [.int rv3] 0 0 rfl rfl rfl (Nat.le_refl _) (Nat.le_refl _) ?_
    subst k3
    refine jv_i2l C (jd D_Sh_about 25 rfl) ?_
    exact jv_lret C hr () (rfl) [0, 1, 2, 3] rfl rfl (Nat.le_of_ble_eq_true rfl) (Nat.le_of_ble_eq_true rfl) (jd D_Sh_about 26 rfl)
  by_cases s30_2 : 1 = 2
  · refine jv_tableIn (tgt := 71) (off := 41) C (jd D_Sh_about 17 rfl) (by rw [s30_2]; decide) (by rw [s30_2]; decide) (by rw [s30_2] <;> rfl) (by decide) ?_
    exact absurd s30_2 (by decide)
  have q30 : 1.toInt < 0 ∨ 2 < 1.toInt := by
    have z0 : ¬ 1.toInt = 0 := lv_neT s30_0 (by decide)
    have z1 : ¬ 1.toInt = 1 := lv_neT s30_1 (by decide)
    have z2 : ¬ 1.toInt = 2 := lv_neT s30_2 (by decide)
    omega
  refine jv_tableOut (tgt := 89) C (jd D_Sh_about 17 rfl) q30 (by decide) ?_
  exact absurd rfl s30_1

set_option maxHeartbeats 4000000 in
set_option maxRecDepth 100000 in
/-- about(k, 1) oth -/
theorem c_Sh_about_1oth {l : Launch} {D : va_G} {dA : Nat → ClassId} {zz : (Nat → Nat) × (Nat → Nat)} (x tp rs sl rd ol cp : Nat) (pl : Int32) (fs : Nat → Option Nat) (h b : Nat) (f : Nat → Int32) (t : List Nat) (k : Nat) (s1 s2 s3 s4 s5 s6 s7 : Nat) (fS fE fF fC fN fH fO : Nat → Int32) (cc cd ce : Int32) (h0 : Nat) (vs : List js_E) (obF : List Nat) (deF : Nat) (hl : t.length ≤ 4096) (ht : js_tx f t) (hk : k < 8) (hh : fs k = some h) (h1 : 0 < t.length) (hd : js_dr t (t.length + 1) 0 none [] [] 0 = (vs, obF, deF)) (hv0 : 0 < vs.length) (hb : ¬ js_b t 0 = 34) : jv_M l D dA zz y_Sh_about b_Sh_about 5 (some (FieldType.long)) 7 [.ref x, .int (nI k), .int 1] [(x, .inr (5, [.ref tp, .ref rs, .ref sl, .ref rd, .ref ol, .ref cp, .int pl])), (sl, .inl (dA 5, 8, .inr (.inr (.inr (.inr fs))))), (ol, .inr (3, [.ref s1, .ref s2, .ref s3, .ref s4, .ref s5, .ref s6, .ref s7, .ref h0, .int cc, .int cd, .int ce])), (s1, .inl (dA 1, 2048, .inl fS)), (s2, .inl (dA 1, 2048, .inl fE)), (s3, .inl (dA 1, 2048, .inl fF)), (s4, .inl (dA 1, 2048, .inl fC)), (s5, .inl (dA 1, 2048, .inl fN)), (s6, .inl (dA 1, 2048, .inl fH)), (s7, .inl (dA 1, 32, .inl fO)), (h, .inr (0, [.ref b, .int (nI t.length)])), (b, .inl (dA 0, 4096, .inl f))] (jv_pl fun r (_ : (Nat → Int32) × (Nat → Int32) × (Nat → Int32) × (Nat → Int32) × (Nat → Int32) × (Nat → Int32) × (Nat → Int32)) => r = (nI (js_en vs 0).2.2.2.1).toInt64) (fun u => [(x, .inr (5, [.ref tp, .ref rs, .ref sl, .ref rd, .ref ol, .ref cp, .int pl])), (sl, .inl (dA 5, 8, .inr (.inr (.inr (.inr fs))))), (ol, .inr (3, [.ref s1, .ref s2, .ref s3, .ref s4, .ref s5, .ref s6, .ref s7, .ref h, .int (nI vs.length), .int (nI obF.length), .int (nI deF)])), (s1, .inl (dA 1, 2048, .inl u.1)), (s2, .inl (dA 1, 2048, .inl u.2.1)), (s3, .inl (dA 1, 2048, .inl u.2.2.1)), (s4, .inl (dA 1, 2048, .inl u.2.2.2.1)), (s5, .inl (dA 1, 2048, .inl u.2.2.2.2.1)), (s6, .inl (dA 1, 2048, .inl u.2.2.2.2.2.1)), (s7, .inl (dA 1, 32, .inl u.2.2.2.2.2.2)), (h, .inr (0, [.ref b, .int (nI t.length)])), (b, .inl (dA 0, 4096, .inl f))]) 0 0 := by
  refine jv_M.of [(0, .ref x), (1, .int (nI k)), (2, .int 1)] (by decide) (Nat.le_of_ble_eq_true rfl) rfl ?_
  intro pR eR sR mR belowR methR cR AR C hr hin
  refine jv_aload_n C (jd D_Sh_about 0 rfl) rfl 0 rfl ?_
  refine jv_iload_n C (jd D_Sh_about 1 rfl) rfl 1 rfl ?_
  refine jv_callV (wr := [(ol, .inr (3, [.ref s1, .ref s2, .ref s3, .ref s4, .ref s5, .ref s6, .ref s7, .ref h0, .int cc, .int cd, .int ce])), (s1, .inl (dA 1, 2048, .inl fS)), (s2, .inl (dA 1, 2048, .inl fE)), (s3, .inl (dA 1, 2048, .inl fF)), (s4, .inl (dA 1, 2048, .inl fC)), (s5, .inl (dA 1, 2048, .inl fN)), (s6, .inl (dA 1, 2048, .inl fH)), (s7, .inl (dA 1, 32, .inl fO)), (h, .inr (0, [.ref b, .int (nI t.length)])), (b, .inl (dA 0, 4096, .inl f))]) C cl_Sh_70 (c_Sh_slotAt_ok x tp rs sl rd ol cp pl h k fs hk hh) [0, 1] [2, 3, 4, 5, 6, 7, 8, 9, 10, 11] rfl rfl rfl rfl (by decide) rfl rfl 0 rfl ⟨Nat.le_of_ble_eq_true rfl, Nat.le_of_ble_eq_true rfl⟩ ⟨Nat.le_of_ble_eq_true rfl, Nat.le_of_ble_eq_true rfl⟩ rfl rfl (Nat.le_of_ble_eq_true rfl) (jd D_Sh_about 2 rfl) (fun v1 _ ka1 => ?_)
  obtain ⟨a1, rfl, ka1⟩ := ka1
  refine jv_fix [10, 11, 0, 1, 2, 3, 4, 5, 6, 7, 8, 9] [(x, .inr (5, [.ref tp, .ref rs, .ref sl, .ref rd, .ref ol, .ref cp, .int pl])), (sl, .inl (dA 5, 8, .inr (.inr (.inr (.inr fs))))), (ol, .inr (3, [.ref s1, .ref s2, .ref s3, .ref s4, .ref s5, .ref s6, .ref s7, .ref h0, .int cc, .int cd, .int ce])), (s1, .inl (dA 1, 2048, .inl fS)), (s2, .inl (dA 1, 2048, .inl fE)), (s3, .inl (dA 1, 2048, .inl fF)), (s4, .inl (dA 1, 2048, .inl fC)), (s5, .inl (dA 1, 2048, .inl fN)), (s6, .inl (dA 1, 2048, .inl fH)), (s7, .inl (dA 1, 32, .inl fO)), (h, .inr (0, [.ref b, .int (nI t.length)])), (b, .inl (dA 0, 4096, .inl f))] [.ref a1] 0 0 rfl rfl rfl (Nat.le_refl _) (Nat.le_refl _) ?_
  have ka1 := ka1.symm
  subst ka1
  refine jv_astore_n C [(3, .ref h), (0, .ref x), (1, .int (nI k)), (2, .int 1)] (jd D_Sh_about 3 rfl) rfl (by decide) rfl ?_
  refine jv_iload_n C (jd D_Sh_about 4 rfl) rfl 3 rfl ?_
  refine jv_if_lt (tgt := 15) C (jd D_Sh_about 5 rfl) (by decide) (fun c7 => absurd c7 (by decide)) (fun c7 => ?_)
  refine jv_iload_n C (jd D_Sh_about 6 rfl) rfl 3 rfl ?_
  refine jv_iconst (v := 3) C (jd D_Sh_about 7 rfl) (by decide) ?_
  refine jv_icmp_le (tgt := 23) C (jd D_Sh_about 8 rfl) (by decide) (fun c12 => ?_) (fun c12 => absurd (by decide) c12)
  refine jv_aload_n C (jd D_Sh_about 13 rfl) rfl 0 rfl ?_
  refine jv_callS (wr := [(x, .inr (5, [.ref tp, .ref rs, .ref sl, .ref rd, .ref ol, .ref cp, .int pl])), (sl, .inl (dA 5, 8, .inr (.inr (.inr (.inr fs))))), (ol, .inr (3, [.ref s1, .ref s2, .ref s3, .ref s4, .ref s5, .ref s6, .ref s7, .ref h0, .int cc, .int cd, .int ce])), (s1, .inl (dA 1, 2048, .inl fS)), (s2, .inl (dA 1, 2048, .inl fE)), (s3, .inl (dA 1, 2048, .inl fF)), (s4, .inl (dA 1, 2048, .inl fC)), (s5, .inl (dA 1, 2048, .inl fN)), (s6, .inl (dA 1, 2048, .inl fH)), (s7, .inl (dA 1, 32, .inl fO))]) C cl_Sh_88 (c_Sh_held_ok h b 4096 f t h1 (by omega)) [10, 11] [0, 1, 2, 3, 4, 5, 6, 7, 8, 9] rfl rfl rfl rfl (by decide) ⟨Nat.le_of_ble_eq_true rfl, Nat.le_of_ble_eq_true rfl⟩ ⟨Nat.le_of_ble_eq_true rfl, Nat.le_of_ble_eq_true rfl⟩ rfl rfl (Nat.le_of_ble_eq_true rfl) (jd D_Sh_about 14 rfl) (fun v2 _ ka2 => ?_)
  obtain ⟨a2, rfl, ka2⟩ := ka2
  refine jv_fix [0, 1, 2, 3, 4, 5, 6, 7, 8, 9, 10, 11] [(x, .inr (5, [.ref tp, .ref rs, .ref sl, .ref rd, .ref ol, .ref cp, .int pl])), (sl, .inl (dA 5, 8, .inr (.inr (.inr (.inr fs))))), (ol, .inr (3, [.ref s1, .ref s2, .ref s3, .ref s4, .ref s5, .ref s6, .ref s7, .ref h0, .int cc, .int cd, .int ce])), (s1, .inl (dA 1, 2048, .inl fS)), (s2, .inl (dA 1, 2048, .inl fE)), (s3, .inl (dA 1, 2048, .inl fF)), (s4, .inl (dA 1, 2048, .inl fC)), (s5, .inl (dA 1, 2048, .inl fN)), (s6, .inl (dA 1, 2048, .inl fH)), (s7, .inl (dA 1, 32, .inl fO)), (h, .inr (0, [.ref b, .int (nI t.length)])), (b, .inl (dA 0, 4096, .inl f))] [.ref a2] 0 0 rfl rfl rfl (Nat.le_refl _) (Nat.le_refl _) ?_
  have ka2 := ka2.symm
  subst ka2
  refine jv_astore C [(4, .ref h), (3, .ref h), (0, .ref x), (1, .int (nI k)), (2, .int 1)] (jd D_Sh_about 15 rfl) (by decide) rfl ?_
  refine jv_iload_n C (jd D_Sh_about 16 rfl) rfl 4 rfl ?_
  by_cases s30_0 : 1 = 0
  · refine jv_tableIn (tgt := 56) (off := 26) C (jd D_Sh_about 17 rfl) (by rw [s30_0]; decide) (by rw [s30_0]; decide) (by rw [s30_0] <;> rfl) (by decide) ?_
    exact absurd s30_0 (by decide)
  by_cases s30_1 : 1 = 1
  · refine jv_tableIn (tgt := 63) (off := 33) C (jd D_Sh_about 17 rfl) (by rw [s30_1]; decide) (by rw [s30_1]; decide) (by rw [s30_1] <;> rfl) (by decide) ?_
    refine jv_aload_n C (jd D_Sh_about 22 rfl) rfl 2 rfl ?_
    refine jv_aload C (jd D_Sh_about 23 rfl) 0 rfl ?_
    refine jv_callV (wr := [(sl, .inl (dA 5, 8, .inr (.inr (.inr (.inr fs)))))]) C cl_Sh_100 (c_Sh_sizeOf_oth x tp rs sl rd ol cp pl h b f t s1 s2 s3 s4 s5 s6 s7 fS fE fF fC fN fH fO cc cd ce h0 vs obF deF hl ht hd hv0 hb) [0, 2, 3, 4, 5, 6, 7, 8, 9, 10, 11] [1] rfl rfl rfl rfl (by decide) rfl rfl 0 rfl ⟨Nat.le_of_ble_eq_true rfl, Nat.le_of_ble_eq_true rfl⟩ ⟨Nat.le_of_ble_eq_true rfl, Nat.le_of_ble_eq_true rfl⟩ rfl rfl (Nat.le_of_ble_eq_true rfl) (jd D_Sh_about 24 rfl) (fun v3 u k3 => ?_)
    obtain ⟨rv3, rfl, k3⟩ := k3
    refine jv_fix [1, 0, 2, 3, 4, 5, 6, 7, 8, 9, 10, 11] [(x, .inr (5, [.ref tp, .ref rs, .ref sl, .ref rd, .ref ol, .ref cp, .int pl])), (sl, .inl (dA 5, 8, .inr (.inr (.inr (.inr fs))))), (ol, .inr (3, [.ref s1, .ref s2, .ref s3, .ref s4, .ref s5, .ref s6, .ref s7, .ref h, .int (nI vs.length), .int (nI obF.length), .int (nI deF)])), (s1, .inl (dA 1, 2048, .inl u.1)), (s2, .inl (dA 1, 2048, .inl u.2.1)), (s3, .inl (dA 1, 2048, .inl u.2.2.1)), (s4, .inl (dA 1, 2048, .inl u.2.2.2.1)), (s5, .inl (dA 1, 2048, .inl u.2.2.2.2.1)), (s6, .inl (dA 1, 2048, .inl u.2.2.2.2.2.1)), (s7, .inl (dA 1, 32, .inl u.2.2.2.2.2.2)), (h, .inr (0, [.ref b, .int (nI t.length)])), (b, .inl (dA 0, 4096, .inl f))] [.int rv3] 0 0 rfl rfl rfl (Nat.le_refl _) (Nat.le_refl _) ?_
    subst k3
    refine jv_i2l C (jd D_Sh_about 25 rfl) ?_
    exact jv_lret C hr u (rfl) [0, 1, 2, 3, 4, 5, 6, 7, 8, 9, 10, 11] rfl rfl (Nat.le_of_ble_eq_true rfl) (Nat.le_of_ble_eq_true rfl) (jd D_Sh_about 26 rfl)
  by_cases s30_2 : 1 = 2
  · refine jv_tableIn (tgt := 71) (off := 41) C (jd D_Sh_about 17 rfl) (by rw [s30_2]; decide) (by rw [s30_2]; decide) (by rw [s30_2] <;> rfl) (by decide) ?_
    exact absurd s30_2 (by decide)
  have q30 : 1.toInt < 0 ∨ 2 < 1.toInt := by
    have z0 : ¬ 1.toInt = 0 := lv_neT s30_0 (by decide)
    have z1 : ¬ 1.toInt = 1 := lv_neT s30_1 (by decide)
    have z2 : ¬ 1.toInt = 2 := lv_neT s30_2 (by decide)
    omega
  refine jv_tableOut (tgt := 89) C (jd D_Sh_about 17 rfl) q30 (by decide) ?_
  exact absurd rfl s30_1

set_option maxHeartbeats 4000000 in
set_option maxRecDepth 100000 in
/-- about(k, 2)  -/
theorem c_Sh_about_2 {l : Launch} {D : va_G} {dA : Nat → ClassId} {zz : (Nat → Nat) × (Nat → Nat)} (x tp rs sl rd ol cp : Nat) (pl : Int32) (fs : Nat → Option Nat) (h b : Nat) (f : Nat → Int32) (t : List Nat) (k : Nat) (s1 s2 s3 s4 s5 s6 s7 : Nat) (fS fE fF fC fN fH fO : Nat → Int32) (cc cd ce : Int32) (h0 : Nat) (vs : List js_E) (obF : List Nat) (deF : Nat) (hl : t.length ≤ 4096) (ht : js_tx f t) (hk : k < 8) (hh : fs k = some h) (h1 : 0 < t.length) (hd : js_dr t (t.length + 1) 0 none [] [] 0 = (vs, obF, deF)) : jv_M l D dA zz y_Sh_about b_Sh_about 5 (some (FieldType.long)) 7 [.ref x, .int (nI k), .int 2] [(x, .inr (5, [.ref tp, .ref rs, .ref sl, .ref rd, .ref ol, .ref cp, .int pl])), (sl, .inl (dA 5, 8, .inr (.inr (.inr (.inr fs))))), (ol, .inr (3, [.ref s1, .ref s2, .ref s3, .ref s4, .ref s5, .ref s6, .ref s7, .ref h0, .int cc, .int cd, .int ce])), (s1, .inl (dA 1, 2048, .inl fS)), (s2, .inl (dA 1, 2048, .inl fE)), (s3, .inl (dA 1, 2048, .inl fF)), (s4, .inl (dA 1, 2048, .inl fC)), (s5, .inl (dA 1, 2048, .inl fN)), (s6, .inl (dA 1, 2048, .inl fH)), (s7, .inl (dA 1, 32, .inl fO)), (h, .inr (0, [.ref b, .int (nI t.length)])), (b, .inl (dA 0, 4096, .inl f))] (jv_pl fun r (_ : (Nat → Int32) × (Nat → Int32) × (Nat → Int32) × (Nat → Int32) × (Nat → Int32) × (Nat → Int32) × (Nat → Int32)) => r = (nI deF).toInt64) (fun u => [(x, .inr (5, [.ref tp, .ref rs, .ref sl, .ref rd, .ref ol, .ref cp, .int pl])), (sl, .inl (dA 5, 8, .inr (.inr (.inr (.inr fs))))), (ol, .inr (3, [.ref s1, .ref s2, .ref s3, .ref s4, .ref s5, .ref s6, .ref s7, .ref h, .int (nI vs.length), .int (nI obF.length), .int (nI deF)])), (s1, .inl (dA 1, 2048, .inl u.1)), (s2, .inl (dA 1, 2048, .inl u.2.1)), (s3, .inl (dA 1, 2048, .inl u.2.2.1)), (s4, .inl (dA 1, 2048, .inl u.2.2.2.1)), (s5, .inl (dA 1, 2048, .inl u.2.2.2.2.1)), (s6, .inl (dA 1, 2048, .inl u.2.2.2.2.2.1)), (s7, .inl (dA 1, 32, .inl u.2.2.2.2.2.2)), (h, .inr (0, [.ref b, .int (nI t.length)])), (b, .inl (dA 0, 4096, .inl f))]) 0 0 := by
  refine jv_M.of [(0, .ref x), (1, .int (nI k)), (2, .int 2)] (by decide) (Nat.le_of_ble_eq_true rfl) rfl ?_
  intro pR eR sR mR belowR methR cR AR C hr hin
  refine jv_aload_n C (jd D_Sh_about 0 rfl) rfl 0 rfl ?_
  refine jv_iload_n C (jd D_Sh_about 1 rfl) rfl 1 rfl ?_
  refine jv_callV (wr := [(ol, .inr (3, [.ref s1, .ref s2, .ref s3, .ref s4, .ref s5, .ref s6, .ref s7, .ref h0, .int cc, .int cd, .int ce])), (s1, .inl (dA 1, 2048, .inl fS)), (s2, .inl (dA 1, 2048, .inl fE)), (s3, .inl (dA 1, 2048, .inl fF)), (s4, .inl (dA 1, 2048, .inl fC)), (s5, .inl (dA 1, 2048, .inl fN)), (s6, .inl (dA 1, 2048, .inl fH)), (s7, .inl (dA 1, 32, .inl fO)), (h, .inr (0, [.ref b, .int (nI t.length)])), (b, .inl (dA 0, 4096, .inl f))]) C cl_Sh_70 (c_Sh_slotAt_ok x tp rs sl rd ol cp pl h k fs hk hh) [0, 1] [2, 3, 4, 5, 6, 7, 8, 9, 10, 11] rfl rfl rfl rfl (by decide) rfl rfl 0 rfl ⟨Nat.le_of_ble_eq_true rfl, Nat.le_of_ble_eq_true rfl⟩ ⟨Nat.le_of_ble_eq_true rfl, Nat.le_of_ble_eq_true rfl⟩ rfl rfl (Nat.le_of_ble_eq_true rfl) (jd D_Sh_about 2 rfl) (fun v1 _ ka1 => ?_)
  obtain ⟨a1, rfl, ka1⟩ := ka1
  refine jv_fix [10, 11, 0, 1, 2, 3, 4, 5, 6, 7, 8, 9] [(x, .inr (5, [.ref tp, .ref rs, .ref sl, .ref rd, .ref ol, .ref cp, .int pl])), (sl, .inl (dA 5, 8, .inr (.inr (.inr (.inr fs))))), (ol, .inr (3, [.ref s1, .ref s2, .ref s3, .ref s4, .ref s5, .ref s6, .ref s7, .ref h0, .int cc, .int cd, .int ce])), (s1, .inl (dA 1, 2048, .inl fS)), (s2, .inl (dA 1, 2048, .inl fE)), (s3, .inl (dA 1, 2048, .inl fF)), (s4, .inl (dA 1, 2048, .inl fC)), (s5, .inl (dA 1, 2048, .inl fN)), (s6, .inl (dA 1, 2048, .inl fH)), (s7, .inl (dA 1, 32, .inl fO)), (h, .inr (0, [.ref b, .int (nI t.length)])), (b, .inl (dA 0, 4096, .inl f))] [.ref a1] 0 0 rfl rfl rfl (Nat.le_refl _) (Nat.le_refl _) ?_
  have ka1 := ka1.symm
  subst ka1
  refine jv_astore_n C [(3, .ref h), (0, .ref x), (1, .int (nI k)), (2, .int 2)] (jd D_Sh_about 3 rfl) rfl (by decide) rfl ?_
  refine jv_iload_n C (jd D_Sh_about 4 rfl) rfl 3 rfl ?_
  refine jv_if_lt (tgt := 15) C (jd D_Sh_about 5 rfl) (by decide) (fun c7 => absurd c7 (by decide)) (fun c7 => ?_)
  refine jv_iload_n C (jd D_Sh_about 6 rfl) rfl 3 rfl ?_
  refine jv_iconst (v := 3) C (jd D_Sh_about 7 rfl) (by decide) ?_
  refine jv_icmp_le (tgt := 23) C (jd D_Sh_about 8 rfl) (by decide) (fun c12 => ?_) (fun c12 => absurd (by decide) c12)
  refine jv_aload_n C (jd D_Sh_about 13 rfl) rfl 0 rfl ?_
  refine jv_callS (wr := [(x, .inr (5, [.ref tp, .ref rs, .ref sl, .ref rd, .ref ol, .ref cp, .int pl])), (sl, .inl (dA 5, 8, .inr (.inr (.inr (.inr fs))))), (ol, .inr (3, [.ref s1, .ref s2, .ref s3, .ref s4, .ref s5, .ref s6, .ref s7, .ref h0, .int cc, .int cd, .int ce])), (s1, .inl (dA 1, 2048, .inl fS)), (s2, .inl (dA 1, 2048, .inl fE)), (s3, .inl (dA 1, 2048, .inl fF)), (s4, .inl (dA 1, 2048, .inl fC)), (s5, .inl (dA 1, 2048, .inl fN)), (s6, .inl (dA 1, 2048, .inl fH)), (s7, .inl (dA 1, 32, .inl fO))]) C cl_Sh_88 (c_Sh_held_ok h b 4096 f t h1 (by omega)) [10, 11] [0, 1, 2, 3, 4, 5, 6, 7, 8, 9] rfl rfl rfl rfl (by decide) ⟨Nat.le_of_ble_eq_true rfl, Nat.le_of_ble_eq_true rfl⟩ ⟨Nat.le_of_ble_eq_true rfl, Nat.le_of_ble_eq_true rfl⟩ rfl rfl (Nat.le_of_ble_eq_true rfl) (jd D_Sh_about 14 rfl) (fun v2 _ ka2 => ?_)
  obtain ⟨a2, rfl, ka2⟩ := ka2
  refine jv_fix [0, 1, 2, 3, 4, 5, 6, 7, 8, 9, 10, 11] [(x, .inr (5, [.ref tp, .ref rs, .ref sl, .ref rd, .ref ol, .ref cp, .int pl])), (sl, .inl (dA 5, 8, .inr (.inr (.inr (.inr fs))))), (ol, .inr (3, [.ref s1, .ref s2, .ref s3, .ref s4, .ref s5, .ref s6, .ref s7, .ref h0, .int cc, .int cd, .int ce])), (s1, .inl (dA 1, 2048, .inl fS)), (s2, .inl (dA 1, 2048, .inl fE)), (s3, .inl (dA 1, 2048, .inl fF)), (s4, .inl (dA 1, 2048, .inl fC)), (s5, .inl (dA 1, 2048, .inl fN)), (s6, .inl (dA 1, 2048, .inl fH)), (s7, .inl (dA 1, 32, .inl fO)), (h, .inr (0, [.ref b, .int (nI t.length)])), (b, .inl (dA 0, 4096, .inl f))] [.ref a2] 0 0 rfl rfl rfl (Nat.le_refl _) (Nat.le_refl _) ?_
  have ka2 := ka2.symm
  subst ka2
  refine jv_astore C [(4, .ref h), (3, .ref h), (0, .ref x), (1, .int (nI k)), (2, .int 2)] (jd D_Sh_about 15 rfl) (by decide) rfl ?_
  refine jv_iload_n C (jd D_Sh_about 16 rfl) rfl 4 rfl ?_
  by_cases s30_0 : 2 = 0
  · refine jv_tableIn (tgt := 56) (off := 26) C (jd D_Sh_about 17 rfl) (by rw [s30_0]; decide) (by rw [s30_0]; decide) (by rw [s30_0] <;> rfl) (by decide) ?_
    exact absurd s30_0 (by decide)
  by_cases s30_1 : 2 = 1
  · refine jv_tableIn (tgt := 63) (off := 33) C (jd D_Sh_about 17 rfl) (by rw [s30_1]; decide) (by rw [s30_1]; decide) (by rw [s30_1] <;> rfl) (by decide) ?_
    exact absurd s30_1 (by decide)
  by_cases s30_2 : 2 = 2
  · refine jv_tableIn (tgt := 71) (off := 41) C (jd D_Sh_about 17 rfl) (by rw [s30_2]; decide) (by rw [s30_2]; decide) (by rw [s30_2] <;> rfl) (by decide) ?_
    refine jv_aload_n C (jd D_Sh_about 27 rfl) rfl 2 rfl ?_
    refine jv_get C fl_Sh_37 0 rfl rfl (jd D_Sh_about 28 rfl) ?_
    refine jv_aload C (jd D_Sh_about 29 rfl) 0 rfl ?_
    refine jv_callV (wr := [(x, .inr (5, [.ref tp, .ref rs, .ref sl, .ref rd, .ref ol, .ref cp, .int pl])), (sl, .inl (dA 5, 8, .inr (.inr (.inr (.inr fs)))))]) C cl_Sh_103 (c_Ol_draw ol s1 s2 s3 s4 s5 s6 s7 h b 4096 fS fE fF fC fN fH fO f t h0 cc cd ce vs obF deF hl (by decide) ht hd) [2, 3, 4, 5, 6, 7, 8, 9, 10, 11] [0, 1] rfl rfl rfl rfl (by decide) rfl rfl 0 rfl ⟨Nat.le_of_ble_eq_true rfl, Nat.le_of_ble_eq_true rfl⟩ ⟨Nat.le_of_ble_eq_true rfl, Nat.le_of_ble_eq_true rfl⟩ rfl rfl (Nat.le_of_ble_eq_true rfl) (jd D_Sh_about 30 rfl) (fun v3 u kd1 => ?_)
    obtain ⟨rfl, kd1⟩ := kd1
    refine jv_fix [0, 1, 2, 3, 4, 5, 6, 7, 8, 9, 10, 11] [(x, .inr (5, [.ref tp, .ref rs, .ref sl, .ref rd, .ref ol, .ref cp, .int pl])), (sl, .inl (dA 5, 8, .inr (.inr (.inr (.inr fs))))), (ol, .inr (3, [.ref s1, .ref s2, .ref s3, .ref s4, .ref s5, .ref s6, .ref s7, .ref h, .int (nI vs.length), .int (nI obF.length), .int (nI deF)])), (s1, .inl (dA 1, 2048, .inl u.1)), (s2, .inl (dA 1, 2048, .inl u.2.1)), (s3, .inl (dA 1, 2048, .inl u.2.2.1)), (s4, .inl (dA 1, 2048, .inl u.2.2.2.1)), (s5, .inl (dA 1, 2048, .inl u.2.2.2.2.1)), (s6, .inl (dA 1, 2048, .inl u.2.2.2.2.2.1)), (s7, .inl (dA 1, 32, .inl u.2.2.2.2.2.2)), (h, .inr (0, [.ref b, .int (nI t.length)])), (b, .inl (dA 0, 4096, .inl f))] [] 0 0 rfl rfl rfl (Nat.le_refl _) (Nat.le_refl _) ?_
    refine jv_aload_n C (jd D_Sh_about 31 rfl) rfl 2 rfl ?_
    refine jv_get C fl_Sh_37 0 rfl rfl (jd D_Sh_about 32 rfl) ?_
    refine jv_callV (wr := [(x, .inr (5, [.ref tp, .ref rs, .ref sl, .ref rd, .ref ol, .ref cp, .int pl])), (sl, .inl (dA 5, 8, .inr (.inr (.inr (.inr fs))))), (s1, .inl (dA 1, 2048, .inl u.1)), (s2, .inl (dA 1, 2048, .inl u.2.1)), (s3, .inl (dA 1, 2048, .inl u.2.2.1)), (s4, .inl (dA 1, 2048, .inl u.2.2.2.1)), (s5, .inl (dA 1, 2048, .inl u.2.2.2.2.1)), (s6, .inl (dA 1, 2048, .inl u.2.2.2.2.2.1)), (s7, .inl (dA 1, 32, .inl u.2.2.2.2.2.2)), (h, .inr (0, [.ref b, .int (nI t.length)])), (b, .inl (dA 0, 4096, .inl f))]) C cl_Sh_106 (c_Ol_deepest ol s1 s2 s3 s4 s5 s6 s7 h (nI vs.length) (nI obF.length) (nI deF)) [2] [0, 1, 3, 4, 5, 6, 7, 8, 9, 10, 11] rfl rfl rfl rfl (by decide) rfl rfl 0 rfl ⟨Nat.le_of_ble_eq_true rfl, Nat.le_of_ble_eq_true rfl⟩ ⟨Nat.le_of_ble_eq_true rfl, Nat.le_of_ble_eq_true rfl⟩ rfl rfl (Nat.le_of_ble_eq_true rfl) (jd D_Sh_about 33 rfl) (fun v4 _ k4 => ?_)
    obtain ⟨rv4, rfl, k4⟩ := k4
    refine jv_fix [0, 1, 11, 2, 3, 4, 5, 6, 7, 8, 9, 10] [(x, .inr (5, [.ref tp, .ref rs, .ref sl, .ref rd, .ref ol, .ref cp, .int pl])), (sl, .inl (dA 5, 8, .inr (.inr (.inr (.inr fs))))), (ol, .inr (3, [.ref s1, .ref s2, .ref s3, .ref s4, .ref s5, .ref s6, .ref s7, .ref h, .int (nI vs.length), .int (nI obF.length), .int (nI deF)])), (s1, .inl (dA 1, 2048, .inl u.1)), (s2, .inl (dA 1, 2048, .inl u.2.1)), (s3, .inl (dA 1, 2048, .inl u.2.2.1)), (s4, .inl (dA 1, 2048, .inl u.2.2.2.1)), (s5, .inl (dA 1, 2048, .inl u.2.2.2.2.1)), (s6, .inl (dA 1, 2048, .inl u.2.2.2.2.2.1)), (s7, .inl (dA 1, 32, .inl u.2.2.2.2.2.2)), (h, .inr (0, [.ref b, .int (nI t.length)])), (b, .inl (dA 0, 4096, .inl f))] [.int rv4] 0 0 rfl rfl rfl (Nat.le_refl _) (Nat.le_refl _) ?_
    subst k4
    refine jv_i2l C (jd D_Sh_about 34 rfl) ?_
    exact jv_lret C hr u (rfl) [0, 1, 2, 3, 4, 5, 6, 7, 8, 9, 10, 11] rfl rfl (Nat.le_of_ble_eq_true rfl) (Nat.le_of_ble_eq_true rfl) (jd D_Sh_about 35 rfl)
  have q30 : 2.toInt < 0 ∨ 2 < 2.toInt := by
    have z0 : ¬ 2.toInt = 0 := lv_neT s30_0 (by decide)
    have z1 : ¬ 2.toInt = 1 := lv_neT s30_1 (by decide)
    have z2 : ¬ 2.toInt = 2 := lv_neT s30_2 (by decide)
    omega
  refine jv_tableOut (tgt := 89) C (jd D_Sh_about 17 rfl) q30 (by decide) ?_
  exact absurd rfl s30_2

set_option maxHeartbeats 4000000 in
set_option maxRecDepth 100000 in
/-- about(k, 3) neg -/
theorem c_Sh_about_3neg {l : Launch} {D : va_G} {dA : Nat → ClassId} {zz : (Nat → Nat) × (Nat → Nat)} (x tp rs sl rd ol cp : Nat) (pl : Int32) (fs : Nat → Option Nat) (h b : Nat) (f : Nat → Int32) (t : List Nat) (k : Nat) (hl : t.length ≤ 4096) (ht : js_tx f t) (hk : k < 8) (hh : fs k = some h) (h1 : 0 < t.length) (h3 : js_kd (js_b t 0) = 3) (h45 : js_b t 0 = 45) : jv_M l D dA zz y_Sh_about b_Sh_about 5 (some (FieldType.long)) 5 [.ref x, .int (nI k), .int 3] [(x, .inr (5, [.ref tp, .ref rs, .ref sl, .ref rd, .ref ol, .ref cp, .int pl])), (sl, .inl (dA 5, 8, .inr (.inr (.inr (.inr fs))))), (h, .inr (0, [.ref b, .int (nI t.length)])), (b, .inl (dA 0, 4096, .inl f))] (jv_pl fun r (_ : Unit) => r = js_nof t) (fun _ => [(x, .inr (5, [.ref tp, .ref rs, .ref sl, .ref rd, .ref ol, .ref cp, .int pl])), (sl, .inl (dA 5, 8, .inr (.inr (.inr (.inr fs))))), (h, .inr (0, [.ref b, .int (nI t.length)])), (b, .inl (dA 0, 4096, .inl f))]) 0 0 := by
  refine jv_M.of [(0, .ref x), (1, .int (nI k)), (2, .int 3)] (by decide) (Nat.le_of_ble_eq_true rfl) rfl ?_
  intro pR eR sR mR belowR methR cR AR C hr hin
  refine jv_aload_n C (jd D_Sh_about 0 rfl) rfl 0 rfl ?_
  refine jv_iload_n C (jd D_Sh_about 1 rfl) rfl 1 rfl ?_
  refine jv_callV (wr := [(h, .inr (0, [.ref b, .int (nI t.length)])), (b, .inl (dA 0, 4096, .inl f))]) C cl_Sh_70 (c_Sh_slotAt_ok x tp rs sl rd ol cp pl h k fs hk hh) [0, 1] [2, 3] rfl rfl rfl rfl (by decide) rfl rfl 0 rfl ⟨Nat.le_of_ble_eq_true rfl, Nat.le_of_ble_eq_true rfl⟩ ⟨Nat.le_of_ble_eq_true rfl, Nat.le_of_ble_eq_true rfl⟩ rfl rfl (Nat.le_of_ble_eq_true rfl) (jd D_Sh_about 2 rfl) (fun v1 _ ka1 => ?_)
  obtain ⟨a1, rfl, ka1⟩ := ka1
  refine jv_fix [2, 3, 0, 1] [(x, .inr (5, [.ref tp, .ref rs, .ref sl, .ref rd, .ref ol, .ref cp, .int pl])), (sl, .inl (dA 5, 8, .inr (.inr (.inr (.inr fs))))), (h, .inr (0, [.ref b, .int (nI t.length)])), (b, .inl (dA 0, 4096, .inl f))] [.ref a1] 0 0 rfl rfl rfl (Nat.le_refl _) (Nat.le_refl _) ?_
  have ka1 := ka1.symm
  subst ka1
  refine jv_astore_n C [(3, .ref h), (0, .ref x), (1, .int (nI k)), (2, .int 3)] (jd D_Sh_about 3 rfl) rfl (by decide) rfl ?_
  refine jv_iload_n C (jd D_Sh_about 4 rfl) rfl 3 rfl ?_
  refine jv_if_lt (tgt := 15) C (jd D_Sh_about 5 rfl) (by decide) (fun c7 => absurd c7 (by decide)) (fun c7 => ?_)
  refine jv_iload_n C (jd D_Sh_about 6 rfl) rfl 3 rfl ?_
  refine jv_iconst (v := 3) C (jd D_Sh_about 7 rfl) (by decide) ?_
  refine jv_icmp_le (tgt := 23) C (jd D_Sh_about 8 rfl) (by decide) (fun c12 => ?_) (fun c12 => absurd (by decide) c12)
  refine jv_aload_n C (jd D_Sh_about 13 rfl) rfl 0 rfl ?_
  refine jv_callS (wr := [(x, .inr (5, [.ref tp, .ref rs, .ref sl, .ref rd, .ref ol, .ref cp, .int pl])), (sl, .inl (dA 5, 8, .inr (.inr (.inr (.inr fs)))))]) C cl_Sh_88 (c_Sh_held_ok h b 4096 f t h1 (by omega)) [2, 3] [0, 1] rfl rfl rfl rfl (by decide) ⟨Nat.le_of_ble_eq_true rfl, Nat.le_of_ble_eq_true rfl⟩ ⟨Nat.le_of_ble_eq_true rfl, Nat.le_of_ble_eq_true rfl⟩ rfl rfl (Nat.le_of_ble_eq_true rfl) (jd D_Sh_about 14 rfl) (fun v2 _ ka2 => ?_)
  obtain ⟨a2, rfl, ka2⟩ := ka2
  refine jv_fix [0, 1, 2, 3] [(x, .inr (5, [.ref tp, .ref rs, .ref sl, .ref rd, .ref ol, .ref cp, .int pl])), (sl, .inl (dA 5, 8, .inr (.inr (.inr (.inr fs))))), (h, .inr (0, [.ref b, .int (nI t.length)])), (b, .inl (dA 0, 4096, .inl f))] [.ref a2] 0 0 rfl rfl rfl (Nat.le_refl _) (Nat.le_refl _) ?_
  have ka2 := ka2.symm
  subst ka2
  refine jv_astore C [(4, .ref h), (3, .ref h), (0, .ref x), (1, .int (nI k)), (2, .int 3)] (jd D_Sh_about 15 rfl) (by decide) rfl ?_
  refine jv_iload_n C (jd D_Sh_about 16 rfl) rfl 4 rfl ?_
  by_cases s30_0 : 3 = 0
  · refine jv_tableIn (tgt := 56) (off := 26) C (jd D_Sh_about 17 rfl) (by rw [s30_0]; decide) (by rw [s30_0]; decide) (by rw [s30_0] <;> rfl) (by decide) ?_
    exact absurd s30_0 (by decide)
  by_cases s30_1 : 3 = 1
  · refine jv_tableIn (tgt := 63) (off := 33) C (jd D_Sh_about 17 rfl) (by rw [s30_1]; decide) (by rw [s30_1]; decide) (by rw [s30_1] <;> rfl) (by decide) ?_
    exact absurd s30_1 (by decide)
  by_cases s30_2 : 3 = 2
  · refine jv_tableIn (tgt := 71) (off := 41) C (jd D_Sh_about 17 rfl) (by rw [s30_2]; decide) (by rw [s30_2]; decide) (by rw [s30_2] <;> rfl) (by decide) ?_
    exact absurd s30_2 (by decide)
  have q30 : 3.toInt < 0 ∨ 2 < 3.toInt := by
    have z0 : ¬ 3.toInt = 0 := lv_neT s30_0 (by decide)
    have z1 : ¬ 3.toInt = 1 := lv_neT s30_1 (by decide)
    have z2 : ¬ 3.toInt = 2 := lv_neT s30_2 (by decide)
    omega
  refine jv_tableOut (tgt := 89) C (jd D_Sh_about 17 rfl) q30 (by decide) ?_
  refine jv_aload C (jd D_Sh_about 36 rfl) 0 rfl ?_
  refine jv_callS (wr := [(x, .inr (5, [.ref tp, .ref rs, .ref sl, .ref rd, .ref ol, .ref cp, .int pl])), (sl, .inl (dA 5, 8, .inr (.inr (.inr (.inr fs)))))]) C cl_Sh_109 (c_Sh_numberOf_neg h b 4096 f t hl (by decide) ht (by omega) h3 h45) [2, 3] [0, 1] rfl rfl rfl rfl (by decide) ⟨Nat.le_of_ble_eq_true rfl, Nat.le_of_ble_eq_true rfl⟩ ⟨Nat.le_of_ble_eq_true rfl, Nat.le_of_ble_eq_true rfl⟩ rfl rfl (Nat.le_of_ble_eq_true rfl) (jd D_Sh_about 37 rfl) (fun v3 _ k3 => ?_)
  obtain ⟨rv3, rfl, k3⟩ := k3
  refine jv_fix [0, 1, 2, 3] [(x, .inr (5, [.ref tp, .ref rs, .ref sl, .ref rd, .ref ol, .ref cp, .int pl])), (sl, .inl (dA 5, 8, .inr (.inr (.inr (.inr fs))))), (h, .inr (0, [.ref b, .int (nI t.length)])), (b, .inl (dA 0, 4096, .inl f))] [.long rv3] 0 0 rfl rfl rfl (Nat.le_refl _) (Nat.le_refl _) ?_
  subst k3
  exact jv_lret C hr () (rfl) [0, 1, 2, 3] rfl rfl (Nat.le_of_ble_eq_true rfl) (Nat.le_of_ble_eq_true rfl) (jd D_Sh_about 38 rfl)

set_option maxHeartbeats 4000000 in
set_option maxRecDepth 100000 in
/-- about(k, 3) pos -/
theorem c_Sh_about_3pos {l : Launch} {D : va_G} {dA : Nat → ClassId} {zz : (Nat → Nat) × (Nat → Nat)} (x tp rs sl rd ol cp : Nat) (pl : Int32) (fs : Nat → Option Nat) (h b : Nat) (f : Nat → Int32) (t : List Nat) (k : Nat) (hl : t.length ≤ 4096) (ht : js_tx f t) (hk : k < 8) (hh : fs k = some h) (h1 : 0 < t.length) (h3 : js_kd (js_b t 0) = 3) (h45 : ¬ js_b t 0 = 45) : jv_M l D dA zz y_Sh_about b_Sh_about 5 (some (FieldType.long)) 5 [.ref x, .int (nI k), .int 3] [(x, .inr (5, [.ref tp, .ref rs, .ref sl, .ref rd, .ref ol, .ref cp, .int pl])), (sl, .inl (dA 5, 8, .inr (.inr (.inr (.inr fs))))), (h, .inr (0, [.ref b, .int (nI t.length)])), (b, .inl (dA 0, 4096, .inl f))] (jv_pl fun r (_ : Unit) => r = js_nof t) (fun _ => [(x, .inr (5, [.ref tp, .ref rs, .ref sl, .ref rd, .ref ol, .ref cp, .int pl])), (sl, .inl (dA 5, 8, .inr (.inr (.inr (.inr fs))))), (h, .inr (0, [.ref b, .int (nI t.length)])), (b, .inl (dA 0, 4096, .inl f))]) 0 0 := by
  refine jv_M.of [(0, .ref x), (1, .int (nI k)), (2, .int 3)] (by decide) (Nat.le_of_ble_eq_true rfl) rfl ?_
  intro pR eR sR mR belowR methR cR AR C hr hin
  refine jv_aload_n C (jd D_Sh_about 0 rfl) rfl 0 rfl ?_
  refine jv_iload_n C (jd D_Sh_about 1 rfl) rfl 1 rfl ?_
  refine jv_callV (wr := [(h, .inr (0, [.ref b, .int (nI t.length)])), (b, .inl (dA 0, 4096, .inl f))]) C cl_Sh_70 (c_Sh_slotAt_ok x tp rs sl rd ol cp pl h k fs hk hh) [0, 1] [2, 3] rfl rfl rfl rfl (by decide) rfl rfl 0 rfl ⟨Nat.le_of_ble_eq_true rfl, Nat.le_of_ble_eq_true rfl⟩ ⟨Nat.le_of_ble_eq_true rfl, Nat.le_of_ble_eq_true rfl⟩ rfl rfl (Nat.le_of_ble_eq_true rfl) (jd D_Sh_about 2 rfl) (fun v1 _ ka1 => ?_)
  obtain ⟨a1, rfl, ka1⟩ := ka1
  refine jv_fix [2, 3, 0, 1] [(x, .inr (5, [.ref tp, .ref rs, .ref sl, .ref rd, .ref ol, .ref cp, .int pl])), (sl, .inl (dA 5, 8, .inr (.inr (.inr (.inr fs))))), (h, .inr (0, [.ref b, .int (nI t.length)])), (b, .inl (dA 0, 4096, .inl f))] [.ref a1] 0 0 rfl rfl rfl (Nat.le_refl _) (Nat.le_refl _) ?_
  have ka1 := ka1.symm
  subst ka1
  refine jv_astore_n C [(3, .ref h), (0, .ref x), (1, .int (nI k)), (2, .int 3)] (jd D_Sh_about 3 rfl) rfl (by decide) rfl ?_
  refine jv_iload_n C (jd D_Sh_about 4 rfl) rfl 3 rfl ?_
  refine jv_if_lt (tgt := 15) C (jd D_Sh_about 5 rfl) (by decide) (fun c7 => absurd c7 (by decide)) (fun c7 => ?_)
  refine jv_iload_n C (jd D_Sh_about 6 rfl) rfl 3 rfl ?_
  refine jv_iconst (v := 3) C (jd D_Sh_about 7 rfl) (by decide) ?_
  refine jv_icmp_le (tgt := 23) C (jd D_Sh_about 8 rfl) (by decide) (fun c12 => ?_) (fun c12 => absurd (by decide) c12)
  refine jv_aload_n C (jd D_Sh_about 13 rfl) rfl 0 rfl ?_
  refine jv_callS (wr := [(x, .inr (5, [.ref tp, .ref rs, .ref sl, .ref rd, .ref ol, .ref cp, .int pl])), (sl, .inl (dA 5, 8, .inr (.inr (.inr (.inr fs)))))]) C cl_Sh_88 (c_Sh_held_ok h b 4096 f t h1 (by omega)) [2, 3] [0, 1] rfl rfl rfl rfl (by decide) ⟨Nat.le_of_ble_eq_true rfl, Nat.le_of_ble_eq_true rfl⟩ ⟨Nat.le_of_ble_eq_true rfl, Nat.le_of_ble_eq_true rfl⟩ rfl rfl (Nat.le_of_ble_eq_true rfl) (jd D_Sh_about 14 rfl) (fun v2 _ ka2 => ?_)
  obtain ⟨a2, rfl, ka2⟩ := ka2
  refine jv_fix [0, 1, 2, 3] [(x, .inr (5, [.ref tp, .ref rs, .ref sl, .ref rd, .ref ol, .ref cp, .int pl])), (sl, .inl (dA 5, 8, .inr (.inr (.inr (.inr fs))))), (h, .inr (0, [.ref b, .int (nI t.length)])), (b, .inl (dA 0, 4096, .inl f))] [.ref a2] 0 0 rfl rfl rfl (Nat.le_refl _) (Nat.le_refl _) ?_
  have ka2 := ka2.symm
  subst ka2
  refine jv_astore C [(4, .ref h), (3, .ref h), (0, .ref x), (1, .int (nI k)), (2, .int 3)] (jd D_Sh_about 15 rfl) (by decide) rfl ?_
  refine jv_iload_n C (jd D_Sh_about 16 rfl) rfl 4 rfl ?_
  by_cases s30_0 : 3 = 0
  · refine jv_tableIn (tgt := 56) (off := 26) C (jd D_Sh_about 17 rfl) (by rw [s30_0]; decide) (by rw [s30_0]; decide) (by rw [s30_0] <;> rfl) (by decide) ?_
    exact absurd s30_0 (by decide)
  by_cases s30_1 : 3 = 1
  · refine jv_tableIn (tgt := 63) (off := 33) C (jd D_Sh_about 17 rfl) (by rw [s30_1]; decide) (by rw [s30_1]; decide) (by rw [s30_1] <;> rfl) (by decide) ?_
    exact absurd s30_1 (by decide)
  by_cases s30_2 : 3 = 2
  · refine jv_tableIn (tgt := 71) (off := 41) C (jd D_Sh_about 17 rfl) (by rw [s30_2]; decide) (by rw [s30_2]; decide) (by rw [s30_2] <;> rfl) (by decide) ?_
    exact absurd s30_2 (by decide)
  have q30 : 3.toInt < 0 ∨ 2 < 3.toInt := by
    have z0 : ¬ 3.toInt = 0 := lv_neT s30_0 (by decide)
    have z1 : ¬ 3.toInt = 1 := lv_neT s30_1 (by decide)
    have z2 : ¬ 3.toInt = 2 := lv_neT s30_2 (by decide)
    omega
  refine jv_tableOut (tgt := 89) C (jd D_Sh_about 17 rfl) q30 (by decide) ?_
  refine jv_aload C (jd D_Sh_about 36 rfl) 0 rfl ?_
  refine jv_callS (wr := [(x, .inr (5, [.ref tp, .ref rs, .ref sl, .ref rd, .ref ol, .ref cp, .int pl])), (sl, .inl (dA 5, 8, .inr (.inr (.inr (.inr fs)))))]) C cl_Sh_109 (c_Sh_numberOf_pos h b 4096 f t hl (by decide) ht (by omega) h3 h45) [2, 3] [0, 1] rfl rfl rfl rfl (by decide) ⟨Nat.le_of_ble_eq_true rfl, Nat.le_of_ble_eq_true rfl⟩ ⟨Nat.le_of_ble_eq_true rfl, Nat.le_of_ble_eq_true rfl⟩ rfl rfl (Nat.le_of_ble_eq_true rfl) (jd D_Sh_about 37 rfl) (fun v3 _ k3 => ?_)
  obtain ⟨rv3, rfl, k3⟩ := k3
  refine jv_fix [0, 1, 2, 3] [(x, .inr (5, [.ref tp, .ref rs, .ref sl, .ref rd, .ref ol, .ref cp, .int pl])), (sl, .inl (dA 5, 8, .inr (.inr (.inr (.inr fs))))), (h, .inr (0, [.ref b, .int (nI t.length)])), (b, .inl (dA 0, 4096, .inl f))] [.long rv3] 0 0 rfl rfl rfl (Nat.le_refl _) (Nat.le_refl _) ?_
  subst k3
  exact jv_lret C hr () (rfl) [0, 1, 2, 3] rfl rfl (Nat.le_of_ble_eq_true rfl) (Nat.le_of_ble_eq_true rfl) (jd D_Sh_about 38 rfl)

set_option maxHeartbeats 4000000 in
set_option maxRecDepth 100000 in
/-- about(k, 3) no -/
theorem c_Sh_about_3no {l : Launch} {D : va_G} {dA : Nat → ClassId} {zz : (Nat → Nat) × (Nat → Nat)} (x tp rs sl rd ol cp : Nat) (pl : Int32) (fs : Nat → Option Nat) (h b : Nat) (f : Nat → Int32) (t : List Nat) (k : Nat) (hl : t.length ≤ 4096) (ht : js_tx f t) (hk : k < 8) (hh : fs k = some h) (h1 : 0 < t.length) (h3 : ¬ js_kd (js_b t 0) = 3) : jv_M l D dA zz y_Sh_about b_Sh_about 5 (some (FieldType.long)) 5 [.ref x, .int (nI k), .int 3] [(x, .inr (5, [.ref tp, .ref rs, .ref sl, .ref rd, .ref ol, .ref cp, .int pl])), (sl, .inl (dA 5, 8, .inr (.inr (.inr (.inr fs))))), (h, .inr (0, [.ref b, .int (nI t.length)])), (b, .inl (dA 0, 4096, .inl f))] (jv_pl fun r (_ : Unit) => r = js_nof t) (fun _ => [(x, .inr (5, [.ref tp, .ref rs, .ref sl, .ref rd, .ref ol, .ref cp, .int pl])), (sl, .inl (dA 5, 8, .inr (.inr (.inr (.inr fs))))), (h, .inr (0, [.ref b, .int (nI t.length)])), (b, .inl (dA 0, 4096, .inl f))]) 0 0 := by
  refine jv_M.of [(0, .ref x), (1, .int (nI k)), (2, .int 3)] (by decide) (Nat.le_of_ble_eq_true rfl) rfl ?_
  intro pR eR sR mR belowR methR cR AR C hr hin
  refine jv_aload_n C (jd D_Sh_about 0 rfl) rfl 0 rfl ?_
  refine jv_iload_n C (jd D_Sh_about 1 rfl) rfl 1 rfl ?_
  refine jv_callV (wr := [(h, .inr (0, [.ref b, .int (nI t.length)])), (b, .inl (dA 0, 4096, .inl f))]) C cl_Sh_70 (c_Sh_slotAt_ok x tp rs sl rd ol cp pl h k fs hk hh) [0, 1] [2, 3] rfl rfl rfl rfl (by decide) rfl rfl 0 rfl ⟨Nat.le_of_ble_eq_true rfl, Nat.le_of_ble_eq_true rfl⟩ ⟨Nat.le_of_ble_eq_true rfl, Nat.le_of_ble_eq_true rfl⟩ rfl rfl (Nat.le_of_ble_eq_true rfl) (jd D_Sh_about 2 rfl) (fun v1 _ ka1 => ?_)
  obtain ⟨a1, rfl, ka1⟩ := ka1
  refine jv_fix [2, 3, 0, 1] [(x, .inr (5, [.ref tp, .ref rs, .ref sl, .ref rd, .ref ol, .ref cp, .int pl])), (sl, .inl (dA 5, 8, .inr (.inr (.inr (.inr fs))))), (h, .inr (0, [.ref b, .int (nI t.length)])), (b, .inl (dA 0, 4096, .inl f))] [.ref a1] 0 0 rfl rfl rfl (Nat.le_refl _) (Nat.le_refl _) ?_
  have ka1 := ka1.symm
  subst ka1
  refine jv_astore_n C [(3, .ref h), (0, .ref x), (1, .int (nI k)), (2, .int 3)] (jd D_Sh_about 3 rfl) rfl (by decide) rfl ?_
  refine jv_iload_n C (jd D_Sh_about 4 rfl) rfl 3 rfl ?_
  refine jv_if_lt (tgt := 15) C (jd D_Sh_about 5 rfl) (by decide) (fun c7 => absurd c7 (by decide)) (fun c7 => ?_)
  refine jv_iload_n C (jd D_Sh_about 6 rfl) rfl 3 rfl ?_
  refine jv_iconst (v := 3) C (jd D_Sh_about 7 rfl) (by decide) ?_
  refine jv_icmp_le (tgt := 23) C (jd D_Sh_about 8 rfl) (by decide) (fun c12 => ?_) (fun c12 => absurd (by decide) c12)
  refine jv_aload_n C (jd D_Sh_about 13 rfl) rfl 0 rfl ?_
  refine jv_callS (wr := [(x, .inr (5, [.ref tp, .ref rs, .ref sl, .ref rd, .ref ol, .ref cp, .int pl])), (sl, .inl (dA 5, 8, .inr (.inr (.inr (.inr fs)))))]) C cl_Sh_88 (c_Sh_held_ok h b 4096 f t h1 (by omega)) [2, 3] [0, 1] rfl rfl rfl rfl (by decide) ⟨Nat.le_of_ble_eq_true rfl, Nat.le_of_ble_eq_true rfl⟩ ⟨Nat.le_of_ble_eq_true rfl, Nat.le_of_ble_eq_true rfl⟩ rfl rfl (Nat.le_of_ble_eq_true rfl) (jd D_Sh_about 14 rfl) (fun v2 _ ka2 => ?_)
  obtain ⟨a2, rfl, ka2⟩ := ka2
  refine jv_fix [0, 1, 2, 3] [(x, .inr (5, [.ref tp, .ref rs, .ref sl, .ref rd, .ref ol, .ref cp, .int pl])), (sl, .inl (dA 5, 8, .inr (.inr (.inr (.inr fs))))), (h, .inr (0, [.ref b, .int (nI t.length)])), (b, .inl (dA 0, 4096, .inl f))] [.ref a2] 0 0 rfl rfl rfl (Nat.le_refl _) (Nat.le_refl _) ?_
  have ka2 := ka2.symm
  subst ka2
  refine jv_astore C [(4, .ref h), (3, .ref h), (0, .ref x), (1, .int (nI k)), (2, .int 3)] (jd D_Sh_about 15 rfl) (by decide) rfl ?_
  refine jv_iload_n C (jd D_Sh_about 16 rfl) rfl 4 rfl ?_
  by_cases s30_0 : 3 = 0
  · refine jv_tableIn (tgt := 56) (off := 26) C (jd D_Sh_about 17 rfl) (by rw [s30_0]; decide) (by rw [s30_0]; decide) (by rw [s30_0] <;> rfl) (by decide) ?_
    exact absurd s30_0 (by decide)
  by_cases s30_1 : 3 = 1
  · refine jv_tableIn (tgt := 63) (off := 33) C (jd D_Sh_about 17 rfl) (by rw [s30_1]; decide) (by rw [s30_1]; decide) (by rw [s30_1] <;> rfl) (by decide) ?_
    exact absurd s30_1 (by decide)
  by_cases s30_2 : 3 = 2
  · refine jv_tableIn (tgt := 71) (off := 41) C (jd D_Sh_about 17 rfl) (by rw [s30_2]; decide) (by rw [s30_2]; decide) (by rw [s30_2] <;> rfl) (by decide) ?_
    exact absurd s30_2 (by decide)
  have q30 : 3.toInt < 0 ∨ 2 < 3.toInt := by
    have z0 : ¬ 3.toInt = 0 := lv_neT s30_0 (by decide)
    have z1 : ¬ 3.toInt = 1 := lv_neT s30_1 (by decide)
    have z2 : ¬ 3.toInt = 2 := lv_neT s30_2 (by decide)
    omega
  refine jv_tableOut (tgt := 89) C (jd D_Sh_about 17 rfl) q30 (by decide) ?_
  refine jv_aload C (jd D_Sh_about 36 rfl) 0 rfl ?_
  refine jv_callS (wr := [(x, .inr (5, [.ref tp, .ref rs, .ref sl, .ref rd, .ref ol, .ref cp, .int pl])), (sl, .inl (dA 5, 8, .inr (.inr (.inr (.inr fs)))))]) C cl_Sh_109 (c_Sh_numberOf_no h b 4096 f t hl (by decide) ht h3) [2, 3] [0, 1] rfl rfl rfl rfl (by decide) ⟨Nat.le_of_ble_eq_true rfl, Nat.le_of_ble_eq_true rfl⟩ ⟨Nat.le_of_ble_eq_true rfl, Nat.le_of_ble_eq_true rfl⟩ rfl rfl (Nat.le_of_ble_eq_true rfl) (jd D_Sh_about 37 rfl) (fun v3 _ k3 => ?_)
  obtain ⟨rv3, rfl, k3⟩ := k3
  refine jv_fix [0, 1, 2, 3] [(x, .inr (5, [.ref tp, .ref rs, .ref sl, .ref rd, .ref ol, .ref cp, .int pl])), (sl, .inl (dA 5, 8, .inr (.inr (.inr (.inr fs))))), (h, .inr (0, [.ref b, .int (nI t.length)])), (b, .inl (dA 0, 4096, .inl f))] [.long rv3] 0 0 rfl rfl rfl (Nat.le_refl _) (Nat.le_refl _) ?_
  subst k3
  exact jv_lret C hr () (rfl) [0, 1, 2, 3] rfl rfl (Nat.le_of_ble_eq_true rfl) (Nat.le_of_ble_eq_true rfl) (jd D_Sh_about 38 rfl)

set_option maxHeartbeats 4000000 in
set_option maxRecDepth 100000 in
/-- same, no slot -/
theorem c_Sh_same_no1 {l : Launch} {D : va_G} {dA : Nat → ClassId} {zz : (Nat → Nat) × (Nat → Nat)} (x tp rs sl rd ol cp : Nat) (pl : Int32) (fs : Nat → Option Nat) (i j : Int32) (hb : i < 0 ∨ 8 ≤ i) (hlt : l.stackTraces = false) : jv_MX l D dA zz y_Sh_same b_Sh_same 5 (some (FieldType.boolean)) 7 [.ref x, .int i, .int j] [(x, .inr (5, [.ref tp, .ref rs, .ref sl, .ref rd, .ref ol, .ref cp, .int pl])), (sl, .inl (dA 5, 8, .inr (.inr (.inr (.inr fs)))))] "java/lang/IllegalArgumentException" (fun (_ : Unit) => True) (fun _ => [(x, .inr (5, [.ref tp, .ref rs, .ref sl, .ref rd, .ref ol, .ref cp, .int pl])), (sl, .inl (dA 5, 8, .inr (.inr (.inr (.inr fs)))))]) 1 6 := by
  refine jv_MX.of [(0, .ref x), (1, .int i), (2, .int j)] (by decide) (Nat.le_of_ble_eq_true rfl) rfl ?_
  intro pR eR sR mR belowR methR cR AR C hT0
  refine jv_aload_n C (jd D_Sh_same 0 rfl) rfl 0 rfl ?_
  refine jv_iload_n C (jd D_Sh_same 1 rfl) rfl 1 rfl ?_
  exact jv_outV (wr := []) C hT0 cl_Sh_70 (c_Sh_slotAt_no x tp rs sl rd ol cp pl i fs hb hlt) [0, 1] [] rfl rfl rfl rfl (by decide) rfl rfl 0 rfl (fun _ => jv_noNestM (by decide)) ⟨Nat.le_of_ble_eq_true rfl, Nat.le_of_ble_eq_true rfl⟩ ⟨Nat.le_of_ble_eq_true rfl, Nat.le_of_ble_eq_true rfl⟩ rfl rfl (Nat.le_of_ble_eq_true rfl) (jd D_Sh_same 2 rfl) [0, 1] rfl (fun _ _ => ⟨(), trivial, rfl⟩) (Nat.le_of_ble_eq_true rfl) (Nat.le_of_ble_eq_true rfl)

set_option maxHeartbeats 4000000 in
set_option maxRecDepth 100000 in
/-- same, no slot -/
theorem c_Sh_same_no1b {l : Launch} {D : va_G} {dA : Nat → ClassId} {zz : (Nat → Nat) × (Nat → Nat)} (x tp rs sl rd ol cp : Nat) (pl : Int32) (fs : Nat → Option Nat) (h k : Nat) (j : Int32) (hk : k < 8) (hh : fs k = some h) (hb : j < 0 ∨ 8 ≤ j) (hlt : l.stackTraces = false) : jv_MX l D dA zz y_Sh_same b_Sh_same 5 (some (FieldType.boolean)) 7 [.ref x, .int (nI k), .int j] [(x, .inr (5, [.ref tp, .ref rs, .ref sl, .ref rd, .ref ol, .ref cp, .int pl])), (sl, .inl (dA 5, 8, .inr (.inr (.inr (.inr fs)))))] "java/lang/IllegalArgumentException" (fun (_ : Unit) => True) (fun _ => [(x, .inr (5, [.ref tp, .ref rs, .ref sl, .ref rd, .ref ol, .ref cp, .int pl])), (sl, .inl (dA 5, 8, .inr (.inr (.inr (.inr fs)))))]) 1 6 := by
  refine jv_MX.of [(0, .ref x), (1, .int (nI k)), (2, .int j)] (by decide) (Nat.le_of_ble_eq_true rfl) rfl ?_
  intro pR eR sR mR belowR methR cR AR C hT0
  refine jv_aload_n C (jd D_Sh_same 0 rfl) rfl 0 rfl ?_
  refine jv_iload_n C (jd D_Sh_same 1 rfl) rfl 1 rfl ?_
  refine jv_callV (wr := []) C cl_Sh_70 (c_Sh_slotAt_ok x tp rs sl rd ol cp pl h k fs hk hh) [0, 1] [] rfl rfl rfl rfl (by decide) rfl rfl 0 rfl ⟨Nat.le_of_ble_eq_true rfl, Nat.le_of_ble_eq_true rfl⟩ ⟨Nat.le_of_ble_eq_true rfl, Nat.le_of_ble_eq_true rfl⟩ rfl rfl (Nat.le_of_ble_eq_true rfl) (jd D_Sh_same 2 rfl) (fun v1 _ ka1 => ?_)
  obtain ⟨a1, rfl, ka1⟩ := ka1
  refine jv_fix [0, 1] [(x, .inr (5, [.ref tp, .ref rs, .ref sl, .ref rd, .ref ol, .ref cp, .int pl])), (sl, .inl (dA 5, 8, .inr (.inr (.inr (.inr fs)))))] [.ref a1] 0 0 rfl rfl rfl (Nat.le_refl _) (Nat.le_refl _) ?_
  have ka1 := ka1.symm
  subst ka1
  refine jv_astore_n C [(3, .ref h), (0, .ref x), (1, .int (nI k)), (2, .int j)] (jd D_Sh_same 3 rfl) rfl (by decide) rfl ?_
  refine jv_aload_n C (jd D_Sh_same 4 rfl) rfl 1 rfl ?_
  refine jv_iload_n C (jd D_Sh_same 5 rfl) rfl 3 rfl ?_
  exact jv_outV (wr := []) C hT0 cl_Sh_70 (c_Sh_slotAt_no x tp rs sl rd ol cp pl j fs hb hlt) [0, 1] [] rfl rfl rfl rfl (by decide) rfl rfl 0 rfl (fun _ => jv_noNestM (by decide)) ⟨Nat.le_of_ble_eq_true rfl, Nat.le_of_ble_eq_true rfl⟩ ⟨Nat.le_of_ble_eq_true rfl, Nat.le_of_ble_eq_true rfl⟩ rfl rfl (Nat.le_of_ble_eq_true rfl) (jd D_Sh_same 6 rfl) [0, 1] rfl (fun _ _ => ⟨(), trivial, rfl⟩) (Nat.le_of_ble_eq_true rfl) (Nat.le_of_ble_eq_true rfl)

set_option maxHeartbeats 4000000 in
set_option maxRecDepth 100000 in
/-- same, nothing held -/
theorem c_Sh_same_no2 {l : Launch} {D : va_G} {dA : Nat → ClassId} {zz : (Nat → Nat) × (Nat → Nat)} (x tp rs sl rd ol cp : Nat) (pl : Int32) (fs : Nat → Option Nat) (h b k h2 k2 : Nat) (f : Nat → Int32) (hk : k < 8) (hh : fs k = some h) (hk2 : k2 < 8) (hh2 : fs k2 = some h2) (hlt : l.stackTraces = false) : jv_MX l D dA zz y_Sh_same b_Sh_same 5 (some (FieldType.boolean)) 7 [.ref x, .int (nI k), .int (nI k2)] [(x, .inr (5, [.ref tp, .ref rs, .ref sl, .ref rd, .ref ol, .ref cp, .int pl])), (sl, .inl (dA 5, 8, .inr (.inr (.inr (.inr fs))))), (h, .inr (0, [.ref b, .int (nI ([] : List Nat).length)])), (b, .inl (dA 0, 4096, .inl f))] "java/lang/IllegalStateException" (fun (_ : Unit) => True) (fun _ => [(x, .inr (5, [.ref tp, .ref rs, .ref sl, .ref rd, .ref ol, .ref cp, .int pl])), (sl, .inl (dA 5, 8, .inr (.inr (.inr (.inr fs))))), (h, .inr (0, [.ref b, .int (nI ([] : List Nat).length)])), (b, .inl (dA 0, 4096, .inl f))]) 1 6 := by
  refine jv_MX.of [(0, .ref x), (1, .int (nI k)), (2, .int (nI k2))] (by decide) (Nat.le_of_ble_eq_true rfl) rfl ?_
  intro pR eR sR mR belowR methR cR AR C hT0
  refine jv_aload_n C (jd D_Sh_same 0 rfl) rfl 0 rfl ?_
  refine jv_iload_n C (jd D_Sh_same 1 rfl) rfl 1 rfl ?_
  refine jv_callV (wr := [(h, .inr (0, [.ref b, .int (nI ([] : List Nat).length)])), (b, .inl (dA 0, 4096, .inl f))]) C cl_Sh_70 (c_Sh_slotAt_ok x tp rs sl rd ol cp pl h k fs hk hh) [0, 1] [2, 3] rfl rfl rfl rfl (by decide) rfl rfl 0 rfl ⟨Nat.le_of_ble_eq_true rfl, Nat.le_of_ble_eq_true rfl⟩ ⟨Nat.le_of_ble_eq_true rfl, Nat.le_of_ble_eq_true rfl⟩ rfl rfl (Nat.le_of_ble_eq_true rfl) (jd D_Sh_same 2 rfl) (fun v1 _ ka1 => ?_)
  obtain ⟨a1, rfl, ka1⟩ := ka1
  refine jv_fix [2, 3, 0, 1] [(x, .inr (5, [.ref tp, .ref rs, .ref sl, .ref rd, .ref ol, .ref cp, .int pl])), (sl, .inl (dA 5, 8, .inr (.inr (.inr (.inr fs))))), (h, .inr (0, [.ref b, .int (nI ([] : List Nat).length)])), (b, .inl (dA 0, 4096, .inl f))] [.ref a1] 0 0 rfl rfl rfl (Nat.le_refl _) (Nat.le_refl _) ?_
  have ka1 := ka1.symm
  subst ka1
  refine jv_astore_n C [(3, .ref h), (0, .ref x), (1, .int (nI k)), (2, .int (nI k2))] (jd D_Sh_same 3 rfl) rfl (by decide) rfl ?_
  refine jv_aload_n C (jd D_Sh_same 4 rfl) rfl 1 rfl ?_
  refine jv_iload_n C (jd D_Sh_same 5 rfl) rfl 3 rfl ?_
  refine jv_callV (wr := [(h, .inr (0, [.ref b, .int (nI ([] : List Nat).length)])), (b, .inl (dA 0, 4096, .inl f))]) C cl_Sh_70 (c_Sh_slotAt_ok x tp rs sl rd ol cp pl h2 k2 fs hk2 hh2) [0, 1] [2, 3] rfl rfl rfl rfl (by decide) rfl rfl 0 rfl ⟨Nat.le_of_ble_eq_true rfl, Nat.le_of_ble_eq_true rfl⟩ ⟨Nat.le_of_ble_eq_true rfl, Nat.le_of_ble_eq_true rfl⟩ rfl rfl (Nat.le_of_ble_eq_true rfl) (jd D_Sh_same 6 rfl) (fun v2 _ ka2 => ?_)
  obtain ⟨a2, rfl, ka2⟩ := ka2
  refine jv_fix [2, 3, 0, 1] [(x, .inr (5, [.ref tp, .ref rs, .ref sl, .ref rd, .ref ol, .ref cp, .int pl])), (sl, .inl (dA 5, 8, .inr (.inr (.inr (.inr fs))))), (h, .inr (0, [.ref b, .int (nI ([] : List Nat).length)])), (b, .inl (dA 0, 4096, .inl f))] [.ref a2] 0 0 rfl rfl rfl (Nat.le_refl _) (Nat.le_refl _) ?_
  have ka2 := ka2.symm
  subst ka2
  refine jv_astore C [(4, .ref h2), (3, .ref h), (0, .ref x), (1, .int (nI k)), (2, .int (nI k2))] (jd D_Sh_same 7 rfl) (by decide) rfl ?_
  refine jv_aload_n C (jd D_Sh_same 8 rfl) rfl 2 rfl ?_
  refine jv_get C fl_Sh_46 0 rfl rfl (jd D_Sh_same 9 rfl) ?_
  refine jv_aload_n C (jd D_Sh_same 10 rfl) rfl 1 rfl ?_
  exact jv_outS (wr := [(x, .inr (5, [.ref tp, .ref rs, .ref sl, .ref rd, .ref ol, .ref cp, .int pl])), (sl, .inl (dA 5, 8, .inr (.inr (.inr (.inr fs)))))]) C hT0 cl_Sh_88 (c_Sh_held_no h b 4096 f hlt) [2, 3] [0, 1] rfl rfl rfl rfl (by decide) (fun _ => jv_noNestM (by decide)) ⟨Nat.le_of_ble_eq_true rfl, Nat.le_of_ble_eq_true rfl⟩ ⟨Nat.le_of_ble_eq_true rfl, Nat.le_of_ble_eq_true rfl⟩ rfl rfl (Nat.le_of_ble_eq_true rfl) (jd D_Sh_same 11 rfl) [0, 1, 2, 3] rfl (fun _ _ => ⟨(), trivial, rfl⟩) (Nat.le_of_ble_eq_true rfl) (Nat.le_of_ble_eq_true rfl)

set_option maxHeartbeats 4000000 in
set_option maxRecDepth 100000 in
/-- same, nothing held -/
theorem c_Sh_same_no2b {l : Launch} {D : va_G} {dA : Nat → ClassId} {zz : (Nat → Nat) × (Nat → Nat)} (x tp rs sl rd ol cp : Nat) (pl : Int32) (fs : Nat → Option Nat) (h b k h2 b2 k2 : Nat) (f f2 : Nat → Int32) (t : List Nat) (hk : k < 8) (hh : fs k = some h) (hk2 : k2 < 8) (hh2 : fs k2 = some h2) (h1 : 0 < t.length) (hl : t.length ≤ 4096) (hlt : l.stackTraces = false) : jv_MX l D dA zz y_Sh_same b_Sh_same 5 (some (FieldType.boolean)) 7 [.ref x, .int (nI k), .int (nI k2)] [(x, .inr (5, [.ref tp, .ref rs, .ref sl, .ref rd, .ref ol, .ref cp, .int pl])), (sl, .inl (dA 5, 8, .inr (.inr (.inr (.inr fs))))), (h, .inr (0, [.ref b, .int (nI t.length)])), (b, .inl (dA 0, 4096, .inl f)), (h2, .inr (0, [.ref b2, .int (nI ([] : List Nat).length)])), (b2, .inl (dA 0, 4096, .inl f2))] "java/lang/IllegalStateException" (fun (_ : Unit) => True) (fun _ => [(x, .inr (5, [.ref tp, .ref rs, .ref sl, .ref rd, .ref ol, .ref cp, .int pl])), (sl, .inl (dA 5, 8, .inr (.inr (.inr (.inr fs))))), (h, .inr (0, [.ref b, .int (nI t.length)])), (b, .inl (dA 0, 4096, .inl f)), (h2, .inr (0, [.ref b2, .int (nI ([] : List Nat).length)])), (b2, .inl (dA 0, 4096, .inl f2))]) 1 6 := by
  refine jv_MX.of [(0, .ref x), (1, .int (nI k)), (2, .int (nI k2))] (by decide) (Nat.le_of_ble_eq_true rfl) rfl ?_
  intro pR eR sR mR belowR methR cR AR C hT0
  refine jv_aload_n C (jd D_Sh_same 0 rfl) rfl 0 rfl ?_
  refine jv_iload_n C (jd D_Sh_same 1 rfl) rfl 1 rfl ?_
  refine jv_callV (wr := [(h, .inr (0, [.ref b, .int (nI t.length)])), (b, .inl (dA 0, 4096, .inl f)), (h2, .inr (0, [.ref b2, .int (nI ([] : List Nat).length)])), (b2, .inl (dA 0, 4096, .inl f2))]) C cl_Sh_70 (c_Sh_slotAt_ok x tp rs sl rd ol cp pl h k fs hk hh) [0, 1] [2, 3, 4, 5] rfl rfl rfl rfl (by decide) rfl rfl 0 rfl ⟨Nat.le_of_ble_eq_true rfl, Nat.le_of_ble_eq_true rfl⟩ ⟨Nat.le_of_ble_eq_true rfl, Nat.le_of_ble_eq_true rfl⟩ rfl rfl (Nat.le_of_ble_eq_true rfl) (jd D_Sh_same 2 rfl) (fun v1 _ ka1 => ?_)
  obtain ⟨a1, rfl, ka1⟩ := ka1
  refine jv_fix [4, 5, 0, 1, 2, 3] [(x, .inr (5, [.ref tp, .ref rs, .ref sl, .ref rd, .ref ol, .ref cp, .int pl])), (sl, .inl (dA 5, 8, .inr (.inr (.inr (.inr fs))))), (h, .inr (0, [.ref b, .int (nI t.length)])), (b, .inl (dA 0, 4096, .inl f)), (h2, .inr (0, [.ref b2, .int (nI ([] : List Nat).length)])), (b2, .inl (dA 0, 4096, .inl f2))] [.ref a1] 0 0 rfl rfl rfl (Nat.le_refl _) (Nat.le_refl _) ?_
  have ka1 := ka1.symm
  subst ka1
  refine jv_astore_n C [(3, .ref h), (0, .ref x), (1, .int (nI k)), (2, .int (nI k2))] (jd D_Sh_same 3 rfl) rfl (by decide) rfl ?_
  refine jv_aload_n C (jd D_Sh_same 4 rfl) rfl 1 rfl ?_
  refine jv_iload_n C (jd D_Sh_same 5 rfl) rfl 3 rfl ?_
  refine jv_callV (wr := [(h, .inr (0, [.ref b, .int (nI t.length)])), (b, .inl (dA 0, 4096, .inl f)), (h2, .inr (0, [.ref b2, .int (nI ([] : List Nat).length)])), (b2, .inl (dA 0, 4096, .inl f2))]) C cl_Sh_70 (c_Sh_slotAt_ok x tp rs sl rd ol cp pl h2 k2 fs hk2 hh2) [0, 1] [2, 3, 4, 5] rfl rfl rfl rfl (by decide) rfl rfl 0 rfl ⟨Nat.le_of_ble_eq_true rfl, Nat.le_of_ble_eq_true rfl⟩ ⟨Nat.le_of_ble_eq_true rfl, Nat.le_of_ble_eq_true rfl⟩ rfl rfl (Nat.le_of_ble_eq_true rfl) (jd D_Sh_same 6 rfl) (fun v2 _ ka2 => ?_)
  obtain ⟨a2, rfl, ka2⟩ := ka2
  refine jv_fix [4, 5, 0, 1, 2, 3] [(x, .inr (5, [.ref tp, .ref rs, .ref sl, .ref rd, .ref ol, .ref cp, .int pl])), (sl, .inl (dA 5, 8, .inr (.inr (.inr (.inr fs))))), (h, .inr (0, [.ref b, .int (nI t.length)])), (b, .inl (dA 0, 4096, .inl f)), (h2, .inr (0, [.ref b2, .int (nI ([] : List Nat).length)])), (b2, .inl (dA 0, 4096, .inl f2))] [.ref a2] 0 0 rfl rfl rfl (Nat.le_refl _) (Nat.le_refl _) ?_
  have ka2 := ka2.symm
  subst ka2
  refine jv_astore C [(4, .ref h2), (3, .ref h), (0, .ref x), (1, .int (nI k)), (2, .int (nI k2))] (jd D_Sh_same 7 rfl) (by decide) rfl ?_
  refine jv_aload_n C (jd D_Sh_same 8 rfl) rfl 2 rfl ?_
  refine jv_get C fl_Sh_46 0 rfl rfl (jd D_Sh_same 9 rfl) ?_
  refine jv_aload_n C (jd D_Sh_same 10 rfl) rfl 1 rfl ?_
  refine jv_callS (wr := [(x, .inr (5, [.ref tp, .ref rs, .ref sl, .ref rd, .ref ol, .ref cp, .int pl])), (sl, .inl (dA 5, 8, .inr (.inr (.inr (.inr fs))))), (h2, .inr (0, [.ref b2, .int (nI ([] : List Nat).length)])), (b2, .inl (dA 0, 4096, .inl f2))]) C cl_Sh_88 (c_Sh_held_ok h b 4096 f t h1 (by omega)) [2, 3] [0, 1, 4, 5] rfl rfl rfl rfl (by decide) ⟨Nat.le_of_ble_eq_true rfl, Nat.le_of_ble_eq_true rfl⟩ ⟨Nat.le_of_ble_eq_true rfl, Nat.le_of_ble_eq_true rfl⟩ rfl rfl (Nat.le_of_ble_eq_true rfl) (jd D_Sh_same 11 rfl) (fun v3 _ ka3 => ?_)
  obtain ⟨a3, rfl, ka3⟩ := ka3
  refine jv_fix [0, 1, 4, 5, 2, 3] [(x, .inr (5, [.ref tp, .ref rs, .ref sl, .ref rd, .ref ol, .ref cp, .int pl])), (sl, .inl (dA 5, 8, .inr (.inr (.inr (.inr fs))))), (h, .inr (0, [.ref b, .int (nI t.length)])), (b, .inl (dA 0, 4096, .inl f)), (h2, .inr (0, [.ref b2, .int (nI ([] : List Nat).length)])), (b2, .inl (dA 0, 4096, .inl f2))] [.ref a3, .ref cp] 0 0 rfl rfl rfl (Nat.le_refl _) (Nat.le_refl _) ?_
  have ka3 := ka3.symm
  subst ka3
  refine jv_aload C (jd D_Sh_same 12 rfl) 0 rfl ?_
  exact jv_outS (wr := [(x, .inr (5, [.ref tp, .ref rs, .ref sl, .ref rd, .ref ol, .ref cp, .int pl])), (sl, .inl (dA 5, 8, .inr (.inr (.inr (.inr fs))))), (h, .inr (0, [.ref b, .int (nI t.length)])), (b, .inl (dA 0, 4096, .inl f))]) C hT0 cl_Sh_88 (c_Sh_held_no h2 b2 4096 f2 hlt) [4, 5] [0, 1, 2, 3] rfl rfl rfl rfl (by decide) (fun _ => jv_noNestM (by decide)) ⟨Nat.le_of_ble_eq_true rfl, Nat.le_of_ble_eq_true rfl⟩ ⟨Nat.le_of_ble_eq_true rfl, Nat.le_of_ble_eq_true rfl⟩ rfl rfl (Nat.le_of_ble_eq_true rfl) (jd D_Sh_same 13 rfl) [0, 1, 2, 3, 4, 5] rfl (fun _ _ => ⟨(), trivial, rfl⟩) (Nat.le_of_ble_eq_true rfl) (Nat.le_of_ble_eq_true rfl)

set_option maxHeartbeats 4000000 in
set_option maxRecDepth 100000 in
/-- same -/
theorem c_Sh_same_ok {l : Launch} {D : va_G} {dA : Nat → ClassId} {zz : (Nat → Nat) × (Nat → Nat)} (x tp rs sl rd ol cp : Nat) (pl : Int32) (fs : Nat → Option Nat) (h b : Nat) (f : Nat → Int32) (t : List Nat) (k : Nat) (h2 b2 : Nat) (f2 : Nat → Int32) (t2 : List Nat) (k2 : Nat) (ol2 : Nat) (s1 s2 s3 s4 s5 s6 s7 : Nat) (fS fE fF fC fN fH fO : Nat → Int32) (cc cd ce : Int32) (r1 r2 r3 r4 r5 r6 r7 : Nat) (gS gE gF gC gN gH gO : Nat → Int32) (dc dd de : Int32) (q0 q1 : Nat) (vsF vtF : List js_E) (obF ocF : List Nat) (deF dfF : Nat) (v w : js_J 32) (hl : t.length ≤ 4096) (ht : js_tx f t) (hk : k < 8) (hh : fs k = some h) (h1 : 0 < t.length) (hl2 : t2.length ≤ 4096) (ht2 : js_tx f2 t2) (hk2 : k2 < 8) (hh2 : fs k2 = some h2) (h12 : 0 < t2.length) (hd1 : js_dr t (t.length + 1) 0 none [] [] 0 = (vsF, obF, deF)) (hd2 : js_dr t2 (t2.length + 1) 0 none [] [] 0 = (vtF, ocF, dfF)) (hv : js_OR t vsF 32 v 0) (hw : js_OR t2 vtF 32 w 0) (hdi : js_dist 32 w) : jv_M l D dA zz y_Sh_same b_Sh_same 5 (some (FieldType.boolean)) 72 [.ref x, .int (nI k), .int (nI k2)] [(x, .inr (5, [.ref tp, .ref rs, .ref sl, .ref rd, .ref ol, .ref cp, .int pl])), (sl, .inl (dA 5, 8, .inr (.inr (.inr (.inr fs))))), (cp, .inr (4, [.ref ol, .ref ol2])), (ol, .inr (3, [.ref s1, .ref s2, .ref s3, .ref s4, .ref s5, .ref s6, .ref s7, .ref q0, .int cc, .int cd, .int ce])), (s1, .inl (dA 1, 2048, .inl fS)), (s2, .inl (dA 1, 2048, .inl fE)), (s3, .inl (dA 1, 2048, .inl fF)), (s4, .inl (dA 1, 2048, .inl fC)), (s5, .inl (dA 1, 2048, .inl fN)), (s6, .inl (dA 1, 2048, .inl fH)), (s7, .inl (dA 1, 32, .inl fO)), (ol2, .inr (3, [.ref r1, .ref r2, .ref r3, .ref r4, .ref r5, .ref r6, .ref r7, .ref q1, .int dc, .int dd, .int de])), (r1, .inl (dA 1, 2048, .inl gS)), (r2, .inl (dA 1, 2048, .inl gE)), (r3, .inl (dA 1, 2048, .inl gF)), (r4, .inl (dA 1, 2048, .inl gC)), (r5, .inl (dA 1, 2048, .inl gN)), (r6, .inl (dA 1, 2048, .inl gH)), (r7, .inl (dA 1, 32, .inl gO)), (h, .inr (0, [.ref b, .int (nI t.length)])), (b, .inl (dA 0, 4096, .inl f)), (h2, .inr (0, [.ref b2, .int (nI t2.length)])), (b2, .inl (dA 0, 4096, .inl f2))] (jv_pi fun r (_ : ((Nat → Int32) × (Nat → Int32) × (Nat → Int32) × (Nat → Int32) × (Nat → Int32) × (Nat → Int32) × (Nat → Int32)) × ((Nat → Int32) × (Nat → Int32) × (Nat → Int32) × (Nat → Int32) × (Nat → Int32) × (Nat → Int32) × (Nat → Int32))) => js_bool (js_same 32 v w) r) (fun u => [(x, .inr (5, [.ref tp, .ref rs, .ref sl, .ref rd, .ref ol, .ref cp, .int pl])), (sl, .inl (dA 5, 8, .inr (.inr (.inr (.inr fs))))), (cp, .inr (4, [.ref ol, .ref ol2])), (ol, .inr (3, [.ref s1, .ref s2, .ref s3, .ref s4, .ref s5, .ref s6, .ref s7, .ref h, .int (nI vsF.length), .int (nI obF.length), .int (nI deF)])), (s1, .inl (dA 1, 2048, .inl u.1.1)), (s2, .inl (dA 1, 2048, .inl u.1.2.1)), (s3, .inl (dA 1, 2048, .inl u.1.2.2.1)), (s4, .inl (dA 1, 2048, .inl u.1.2.2.2.1)), (s5, .inl (dA 1, 2048, .inl u.1.2.2.2.2.1)), (s6, .inl (dA 1, 2048, .inl u.1.2.2.2.2.2.1)), (s7, .inl (dA 1, 32, .inl u.1.2.2.2.2.2.2)), (ol2, .inr (3, [.ref r1, .ref r2, .ref r3, .ref r4, .ref r5, .ref r6, .ref r7, .ref h2, .int (nI vtF.length), .int (nI ocF.length), .int (nI dfF)])), (r1, .inl (dA 1, 2048, .inl u.2.1)), (r2, .inl (dA 1, 2048, .inl u.2.2.1)), (r3, .inl (dA 1, 2048, .inl u.2.2.2.1)), (r4, .inl (dA 1, 2048, .inl u.2.2.2.2.1)), (r5, .inl (dA 1, 2048, .inl u.2.2.2.2.2.1)), (r6, .inl (dA 1, 2048, .inl u.2.2.2.2.2.2.1)), (r7, .inl (dA 1, 32, .inl u.2.2.2.2.2.2.2)), (h, .inr (0, [.ref b, .int (nI t.length)])), (b, .inl (dA 0, 4096, .inl f)), (h2, .inr (0, [.ref b2, .int (nI t2.length)])), (b2, .inl (dA 0, 4096, .inl f2))]) 0 0 := by
  refine jv_M.of [(0, .ref x), (1, .int (nI k)), (2, .int (nI k2))] (by decide) (Nat.le_of_ble_eq_true rfl) rfl ?_
  intro pR eR sR mR belowR methR cR AR C hr hin
  refine jv_aload_n C (jd D_Sh_same 0 rfl) rfl 0 rfl ?_
  refine jv_iload_n C (jd D_Sh_same 1 rfl) rfl 1 rfl ?_
  refine jv_callV (wr := [(cp, .inr (4, [.ref ol, .ref ol2])), (ol, .inr (3, [.ref s1, .ref s2, .ref s3, .ref s4, .ref s5, .ref s6, .ref s7, .ref q0, .int cc, .int cd, .int ce])), (s1, .inl (dA 1, 2048, .inl fS)), (s2, .inl (dA 1, 2048, .inl fE)), (s3, .inl (dA 1, 2048, .inl fF)), (s4, .inl (dA 1, 2048, .inl fC)), (s5, .inl (dA 1, 2048, .inl fN)), (s6, .inl (dA 1, 2048, .inl fH)), (s7, .inl (dA 1, 32, .inl fO)), (ol2, .inr (3, [.ref r1, .ref r2, .ref r3, .ref r4, .ref r5, .ref r6, .ref r7, .ref q1, .int dc, .int dd, .int de])), (r1, .inl (dA 1, 2048, .inl gS)), (r2, .inl (dA 1, 2048, .inl gE)), (r3, .inl (dA 1, 2048, .inl gF)), (r4, .inl (dA 1, 2048, .inl gC)), (r5, .inl (dA 1, 2048, .inl gN)), (r6, .inl (dA 1, 2048, .inl gH)), (r7, .inl (dA 1, 32, .inl gO)), (h, .inr (0, [.ref b, .int (nI t.length)])), (b, .inl (dA 0, 4096, .inl f)), (h2, .inr (0, [.ref b2, .int (nI t2.length)])), (b2, .inl (dA 0, 4096, .inl f2))]) C cl_Sh_70 (c_Sh_slotAt_ok x tp rs sl rd ol cp pl h k fs hk hh) [0, 1] [2, 3, 4, 5, 6, 7, 8, 9, 10, 11, 12, 13, 14, 15, 16, 17, 18, 19, 20, 21, 22] rfl rfl rfl rfl (by decide) rfl rfl 0 rfl ⟨Nat.le_of_ble_eq_true rfl, Nat.le_of_ble_eq_true rfl⟩ ⟨Nat.le_of_ble_eq_true rfl, Nat.le_of_ble_eq_true rfl⟩ rfl rfl (Nat.le_of_ble_eq_true rfl) (jd D_Sh_same 2 rfl) (fun v1 _ ka1 => ?_)
  obtain ⟨a1, rfl, ka1⟩ := ka1
  refine jv_fix [21, 22, 0, 1, 2, 3, 4, 5, 6, 7, 8, 9, 10, 11, 12, 13, 14, 15, 16, 17, 18, 19, 20] [(x, .inr (5, [.ref tp, .ref rs, .ref sl, .ref rd, .ref ol, .ref cp, .int pl])), (sl, .inl (dA 5, 8, .inr (.inr (.inr (.inr fs))))), (cp, .inr (4, [.ref ol, .ref ol2])), (ol, .inr (3, [.ref s1, .ref s2, .ref s3, .ref s4, .ref s5, .ref s6, .ref s7, .ref q0, .int cc, .int cd, .int ce])), (s1, .inl (dA 1, 2048, .inl fS)), (s2, .inl (dA 1, 2048, .inl fE)), (s3, .inl (dA 1, 2048, .inl fF)), (s4, .inl (dA 1, 2048, .inl fC)), (s5, .inl (dA 1, 2048, .inl fN)), (s6, .inl (dA 1, 2048, .inl fH)), (s7, .inl (dA 1, 32, .inl fO)), (ol2, .inr (3, [.ref r1, .ref r2, .ref r3, .ref r4, .ref r5, .ref r6, .ref r7, .ref q1, .int dc, .int dd, .int de])), (r1, .inl (dA 1, 2048, .inl gS)), (r2, .inl (dA 1, 2048, .inl gE)), (r3, .inl (dA 1, 2048, .inl gF)), (r4, .inl (dA 1, 2048, .inl gC)), (r5, .inl (dA 1, 2048, .inl gN)), (r6, .inl (dA 1, 2048, .inl gH)), (r7, .inl (dA 1, 32, .inl gO)), (h, .inr (0, [.ref b, .int (nI t.length)])), (b, .inl (dA 0, 4096, .inl f)), (h2, .inr (0, [.ref b2, .int (nI t2.length)])), (b2, .inl (dA 0, 4096, .inl f2))] [.ref a1] 0 0 rfl rfl rfl (Nat.le_refl _) (Nat.le_refl _) ?_
  have ka1 := ka1.symm
  subst ka1
  refine jv_astore_n C [(3, .ref h), (0, .ref x), (1, .int (nI k)), (2, .int (nI k2))] (jd D_Sh_same 3 rfl) rfl (by decide) rfl ?_
  refine jv_aload_n C (jd D_Sh_same 4 rfl) rfl 1 rfl ?_
  refine jv_iload_n C (jd D_Sh_same 5 rfl) rfl 3 rfl ?_
  refine jv_callV (wr := [(cp, .inr (4, [.ref ol, .ref ol2])), (ol, .inr (3, [.ref s1, .ref s2, .ref s3, .ref s4, .ref s5, .ref s6, .ref s7, .ref q0, .int cc, .int cd, .int ce])), (s1, .inl (dA 1, 2048, .inl fS)), (s2, .inl (dA 1, 2048, .inl fE)), (s3, .inl (dA 1, 2048, .inl fF)), (s4, .inl (dA 1, 2048, .inl fC)), (s5, .inl (dA 1, 2048, .inl fN)), (s6, .inl (dA 1, 2048, .inl fH)), (s7, .inl (dA 1, 32, .inl fO)), (ol2, .inr (3, [.ref r1, .ref r2, .ref r3, .ref r4, .ref r5, .ref r6, .ref r7, .ref q1, .int dc, .int dd, .int de])), (r1, .inl (dA 1, 2048, .inl gS)), (r2, .inl (dA 1, 2048, .inl gE)), (r3, .inl (dA 1, 2048, .inl gF)), (r4, .inl (dA 1, 2048, .inl gC)), (r5, .inl (dA 1, 2048, .inl gN)), (r6, .inl (dA 1, 2048, .inl gH)), (r7, .inl (dA 1, 32, .inl gO)), (h, .inr (0, [.ref b, .int (nI t.length)])), (b, .inl (dA 0, 4096, .inl f)), (h2, .inr (0, [.ref b2, .int (nI t2.length)])), (b2, .inl (dA 0, 4096, .inl f2))]) C cl_Sh_70 (c_Sh_slotAt_ok x tp rs sl rd ol cp pl h2 k2 fs hk2 hh2) [0, 1] [2, 3, 4, 5, 6, 7, 8, 9, 10, 11, 12, 13, 14, 15, 16, 17, 18, 19, 20, 21, 22] rfl rfl rfl rfl (by decide) rfl rfl 0 rfl ⟨Nat.le_of_ble_eq_true rfl, Nat.le_of_ble_eq_true rfl⟩ ⟨Nat.le_of_ble_eq_true rfl, Nat.le_of_ble_eq_true rfl⟩ rfl rfl (Nat.le_of_ble_eq_true rfl) (jd D_Sh_same 6 rfl) (fun v2 _ ka2 => ?_)
  obtain ⟨a2, rfl, ka2⟩ := ka2
  refine jv_fix [21, 22, 0, 1, 2, 3, 4, 5, 6, 7, 8, 9, 10, 11, 12, 13, 14, 15, 16, 17, 18, 19, 20] [(x, .inr (5, [.ref tp, .ref rs, .ref sl, .ref rd, .ref ol, .ref cp, .int pl])), (sl, .inl (dA 5, 8, .inr (.inr (.inr (.inr fs))))), (cp, .inr (4, [.ref ol, .ref ol2])), (ol, .inr (3, [.ref s1, .ref s2, .ref s3, .ref s4, .ref s5, .ref s6, .ref s7, .ref q0, .int cc, .int cd, .int ce])), (s1, .inl (dA 1, 2048, .inl fS)), (s2, .inl (dA 1, 2048, .inl fE)), (s3, .inl (dA 1, 2048, .inl fF)), (s4, .inl (dA 1, 2048, .inl fC)), (s5, .inl (dA 1, 2048, .inl fN)), (s6, .inl (dA 1, 2048, .inl fH)), (s7, .inl (dA 1, 32, .inl fO)), (ol2, .inr (3, [.ref r1, .ref r2, .ref r3, .ref r4, .ref r5, .ref r6, .ref r7, .ref q1, .int dc, .int dd, .int de])), (r1, .inl (dA 1, 2048, .inl gS)), (r2, .inl (dA 1, 2048, .inl gE)), (r3, .inl (dA 1, 2048, .inl gF)), (r4, .inl (dA 1, 2048, .inl gC)), (r5, .inl (dA 1, 2048, .inl gN)), (r6, .inl (dA 1, 2048, .inl gH)), (r7, .inl (dA 1, 32, .inl gO)), (h, .inr (0, [.ref b, .int (nI t.length)])), (b, .inl (dA 0, 4096, .inl f)), (h2, .inr (0, [.ref b2, .int (nI t2.length)])), (b2, .inl (dA 0, 4096, .inl f2))] [.ref a2] 0 0 rfl rfl rfl (Nat.le_refl _) (Nat.le_refl _) ?_
  have ka2 := ka2.symm
  subst ka2
  refine jv_astore C [(4, .ref h2), (3, .ref h), (0, .ref x), (1, .int (nI k)), (2, .int (nI k2))] (jd D_Sh_same 7 rfl) (by decide) rfl ?_
  refine jv_aload_n C (jd D_Sh_same 8 rfl) rfl 2 rfl ?_
  refine jv_get C fl_Sh_46 0 rfl rfl (jd D_Sh_same 9 rfl) ?_
  refine jv_aload_n C (jd D_Sh_same 10 rfl) rfl 1 rfl ?_
  refine jv_callS (wr := [(x, .inr (5, [.ref tp, .ref rs, .ref sl, .ref rd, .ref ol, .ref cp, .int pl])), (sl, .inl (dA 5, 8, .inr (.inr (.inr (.inr fs))))), (cp, .inr (4, [.ref ol, .ref ol2])), (ol, .inr (3, [.ref s1, .ref s2, .ref s3, .ref s4, .ref s5, .ref s6, .ref s7, .ref q0, .int cc, .int cd, .int ce])), (s1, .inl (dA 1, 2048, .inl fS)), (s2, .inl (dA 1, 2048, .inl fE)), (s3, .inl (dA 1, 2048, .inl fF)), (s4, .inl (dA 1, 2048, .inl fC)), (s5, .inl (dA 1, 2048, .inl fN)), (s6, .inl (dA 1, 2048, .inl fH)), (s7, .inl (dA 1, 32, .inl fO)), (ol2, .inr (3, [.ref r1, .ref r2, .ref r3, .ref r4, .ref r5, .ref r6, .ref r7, .ref q1, .int dc, .int dd, .int de])), (r1, .inl (dA 1, 2048, .inl gS)), (r2, .inl (dA 1, 2048, .inl gE)), (r3, .inl (dA 1, 2048, .inl gF)), (r4, .inl (dA 1, 2048, .inl gC)), (r5, .inl (dA 1, 2048, .inl gN)), (r6, .inl (dA 1, 2048, .inl gH)), (r7, .inl (dA 1, 32, .inl gO)), (h2, .inr (0, [.ref b2, .int (nI t2.length)])), (b2, .inl (dA 0, 4096, .inl f2))]) C cl_Sh_88 (c_Sh_held_ok h b 4096 f t h1 (by omega)) [19, 20] [0, 1, 2, 3, 4, 5, 6, 7, 8, 9, 10, 11, 12, 13, 14, 15, 16, 17, 18, 21, 22] rfl rfl rfl rfl (by decide) ⟨Nat.le_of_ble_eq_true rfl, Nat.le_of_ble_eq_true rfl⟩ ⟨Nat.le_of_ble_eq_true rfl, Nat.le_of_ble_eq_true rfl⟩ rfl rfl (Nat.le_of_ble_eq_true rfl) (jd D_Sh_same 11 rfl) (fun v3 _ ka3 => ?_)
  obtain ⟨a3, rfl, ka3⟩ := ka3
  refine jv_fix [0, 1, 2, 3, 4, 5, 6, 7, 8, 9, 10, 11, 12, 13, 14, 15, 16, 17, 18, 21, 22, 19, 20] [(x, .inr (5, [.ref tp, .ref rs, .ref sl, .ref rd, .ref ol, .ref cp, .int pl])), (sl, .inl (dA 5, 8, .inr (.inr (.inr (.inr fs))))), (cp, .inr (4, [.ref ol, .ref ol2])), (ol, .inr (3, [.ref s1, .ref s2, .ref s3, .ref s4, .ref s5, .ref s6, .ref s7, .ref q0, .int cc, .int cd, .int ce])), (s1, .inl (dA 1, 2048, .inl fS)), (s2, .inl (dA 1, 2048, .inl fE)), (s3, .inl (dA 1, 2048, .inl fF)), (s4, .inl (dA 1, 2048, .inl fC)), (s5, .inl (dA 1, 2048, .inl fN)), (s6, .inl (dA 1, 2048, .inl fH)), (s7, .inl (dA 1, 32, .inl fO)), (ol2, .inr (3, [.ref r1, .ref r2, .ref r3, .ref r4, .ref r5, .ref r6, .ref r7, .ref q1, .int dc, .int dd, .int de])), (r1, .inl (dA 1, 2048, .inl gS)), (r2, .inl (dA 1, 2048, .inl gE)), (r3, .inl (dA 1, 2048, .inl gF)), (r4, .inl (dA 1, 2048, .inl gC)), (r5, .inl (dA 1, 2048, .inl gN)), (r6, .inl (dA 1, 2048, .inl gH)), (r7, .inl (dA 1, 32, .inl gO)), (h, .inr (0, [.ref b, .int (nI t.length)])), (b, .inl (dA 0, 4096, .inl f)), (h2, .inr (0, [.ref b2, .int (nI t2.length)])), (b2, .inl (dA 0, 4096, .inl f2))] [.ref a3, .ref cp] 0 0 rfl rfl rfl (Nat.le_refl _) (Nat.le_refl _) ?_
  have ka3 := ka3.symm
  subst ka3
  refine jv_aload C (jd D_Sh_same 12 rfl) 0 rfl ?_
  refine jv_callS (wr := [(x, .inr (5, [.ref tp, .ref rs, .ref sl, .ref rd, .ref ol, .ref cp, .int pl])), (sl, .inl (dA 5, 8, .inr (.inr (.inr (.inr fs))))), (cp, .inr (4, [.ref ol, .ref ol2])), (ol, .inr (3, [.ref s1, .ref s2, .ref s3, .ref s4, .ref s5, .ref s6, .ref s7, .ref q0, .int cc, .int cd, .int ce])), (s1, .inl (dA 1, 2048, .inl fS)), (s2, .inl (dA 1, 2048, .inl fE)), (s3, .inl (dA 1, 2048, .inl fF)), (s4, .inl (dA 1, 2048, .inl fC)), (s5, .inl (dA 1, 2048, .inl fN)), (s6, .inl (dA 1, 2048, .inl fH)), (s7, .inl (dA 1, 32, .inl fO)), (ol2, .inr (3, [.ref r1, .ref r2, .ref r3, .ref r4, .ref r5, .ref r6, .ref r7, .ref q1, .int dc, .int dd, .int de])), (r1, .inl (dA 1, 2048, .inl gS)), (r2, .inl (dA 1, 2048, .inl gE)), (r3, .inl (dA 1, 2048, .inl gF)), (r4, .inl (dA 1, 2048, .inl gC)), (r5, .inl (dA 1, 2048, .inl gN)), (r6, .inl (dA 1, 2048, .inl gH)), (r7, .inl (dA 1, 32, .inl gO)), (h, .inr (0, [.ref b, .int (nI t.length)])), (b, .inl (dA 0, 4096, .inl f))]) C cl_Sh_88 (c_Sh_held_ok h2 b2 4096 f2 t2 h12 (by omega)) [21, 22] [0, 1, 2, 3, 4, 5, 6, 7, 8, 9, 10, 11, 12, 13, 14, 15, 16, 17, 18, 19, 20] rfl rfl rfl rfl (by decide) ⟨Nat.le_of_ble_eq_true rfl, Nat.le_of_ble_eq_true rfl⟩ ⟨Nat.le_of_ble_eq_true rfl, Nat.le_of_ble_eq_true rfl⟩ rfl rfl (Nat.le_of_ble_eq_true rfl) (jd D_Sh_same 13 rfl) (fun v4 _ ka4 => ?_)
  obtain ⟨a4, rfl, ka4⟩ := ka4
  refine jv_fix [0, 1, 2, 3, 4, 5, 6, 7, 8, 9, 10, 11, 12, 13, 14, 15, 16, 17, 18, 19, 20, 21, 22] [(x, .inr (5, [.ref tp, .ref rs, .ref sl, .ref rd, .ref ol, .ref cp, .int pl])), (sl, .inl (dA 5, 8, .inr (.inr (.inr (.inr fs))))), (cp, .inr (4, [.ref ol, .ref ol2])), (ol, .inr (3, [.ref s1, .ref s2, .ref s3, .ref s4, .ref s5, .ref s6, .ref s7, .ref q0, .int cc, .int cd, .int ce])), (s1, .inl (dA 1, 2048, .inl fS)), (s2, .inl (dA 1, 2048, .inl fE)), (s3, .inl (dA 1, 2048, .inl fF)), (s4, .inl (dA 1, 2048, .inl fC)), (s5, .inl (dA 1, 2048, .inl fN)), (s6, .inl (dA 1, 2048, .inl fH)), (s7, .inl (dA 1, 32, .inl fO)), (ol2, .inr (3, [.ref r1, .ref r2, .ref r3, .ref r4, .ref r5, .ref r6, .ref r7, .ref q1, .int dc, .int dd, .int de])), (r1, .inl (dA 1, 2048, .inl gS)), (r2, .inl (dA 1, 2048, .inl gE)), (r3, .inl (dA 1, 2048, .inl gF)), (r4, .inl (dA 1, 2048, .inl gC)), (r5, .inl (dA 1, 2048, .inl gN)), (r6, .inl (dA 1, 2048, .inl gH)), (r7, .inl (dA 1, 32, .inl gO)), (h, .inr (0, [.ref b, .int (nI t.length)])), (b, .inl (dA 0, 4096, .inl f)), (h2, .inr (0, [.ref b2, .int (nI t2.length)])), (b2, .inl (dA 0, 4096, .inl f2))] [.ref a4, .ref h, .ref cp] 0 0 rfl rfl rfl (Nat.le_refl _) (Nat.le_refl _) ?_
  have ka4 := ka4.symm
  subst ka4
  refine jv_callV (wr := [(x, .inr (5, [.ref tp, .ref rs, .ref sl, .ref rd, .ref ol, .ref cp, .int pl])), (sl, .inl (dA 5, 8, .inr (.inr (.inr (.inr fs)))))]) C cl_Sh_92 (c_Cp_compare cp ol s1 s2 s3 s4 s5 s6 s7 h b 4096 fS fE fF fC fN fH fO f t cc cd ce ol2 r1 r2 r3 r4 r5 r6 r7 h2 b2 4096 gS gE gF gC gN gH gO f2 t2 dc dd de q0 q1 vsF vtF obF ocF deF dfF v w hl (by decide) ht hl2 (by decide) ht2 hd1 hd2 hv hw hdi) [2, 3, 4, 5, 6, 7, 8, 9, 10, 11, 12, 13, 14, 15, 16, 17, 18, 19, 20, 21, 22] [0, 1] rfl rfl rfl rfl (by decide) rfl rfl 0 rfl ⟨Nat.le_of_ble_eq_true rfl, Nat.le_of_ble_eq_true rfl⟩ ⟨Nat.le_of_ble_eq_true rfl, Nat.le_of_ble_eq_true rfl⟩ rfl rfl (Nat.le_of_ble_eq_true rfl) (jd D_Sh_same 14 rfl) (fun v5 u k5 => ?_)
  obtain ⟨rv5, rfl, k5⟩ := k5
  refine jv_fix [0, 1, 2, 3, 4, 5, 6, 7, 8, 9, 10, 11, 12, 13, 14, 15, 16, 17, 18, 19, 20, 21, 22] [(x, .inr (5, [.ref tp, .ref rs, .ref sl, .ref rd, .ref ol, .ref cp, .int pl])), (sl, .inl (dA 5, 8, .inr (.inr (.inr (.inr fs))))), (cp, .inr (4, [.ref ol, .ref ol2])), (ol, .inr (3, [.ref s1, .ref s2, .ref s3, .ref s4, .ref s5, .ref s6, .ref s7, .ref h, .int (nI vsF.length), .int (nI obF.length), .int (nI deF)])), (s1, .inl (dA 1, 2048, .inl u.1.1)), (s2, .inl (dA 1, 2048, .inl u.1.2.1)), (s3, .inl (dA 1, 2048, .inl u.1.2.2.1)), (s4, .inl (dA 1, 2048, .inl u.1.2.2.2.1)), (s5, .inl (dA 1, 2048, .inl u.1.2.2.2.2.1)), (s6, .inl (dA 1, 2048, .inl u.1.2.2.2.2.2.1)), (s7, .inl (dA 1, 32, .inl u.1.2.2.2.2.2.2)), (ol2, .inr (3, [.ref r1, .ref r2, .ref r3, .ref r4, .ref r5, .ref r6, .ref r7, .ref h2, .int (nI vtF.length), .int (nI ocF.length), .int (nI dfF)])), (r1, .inl (dA 1, 2048, .inl u.2.1)), (r2, .inl (dA 1, 2048, .inl u.2.2.1)), (r3, .inl (dA 1, 2048, .inl u.2.2.2.1)), (r4, .inl (dA 1, 2048, .inl u.2.2.2.2.1)), (r5, .inl (dA 1, 2048, .inl u.2.2.2.2.2.1)), (r6, .inl (dA 1, 2048, .inl u.2.2.2.2.2.2.1)), (r7, .inl (dA 1, 32, .inl u.2.2.2.2.2.2.2)), (h, .inr (0, [.ref b, .int (nI t.length)])), (b, .inl (dA 0, 4096, .inl f)), (h2, .inr (0, [.ref b2, .int (nI t2.length)])), (b2, .inl (dA 0, 4096, .inl f2))] [.int rv5] 0 0 rfl rfl rfl (Nat.le_refl _) (Nat.le_refl _) ?_
  exact jv_iret C hr u (k5) (by rcases k5 with ⟨e_, -⟩ | ⟨e_, -⟩ <;> rw [e_] <;> rfl) [0, 1, 2, 3, 4, 5, 6, 7, 8, 9, 10, 11, 12, 13, 14, 15, 16, 17, 18, 19, 20, 21, 22] rfl rfl (Nat.le_of_ble_eq_true rfl) (Nat.le_of_ble_eq_true rfl) (jd D_Sh_same 15 rfl)

set_option maxHeartbeats 4000000 in
set_option maxRecDepth 100000 in
/-- same -/
theorem c_Sh_same_oks {l : Launch} {D : va_G} {dA : Nat → ClassId} {zz : (Nat → Nat) × (Nat → Nat)} (x tp rs sl rd ol cp : Nat) (pl : Int32) (fs : Nat → Option Nat) (h b : Nat) (f : Nat → Int32) (t : List Nat) (k : Nat) (ol2 : Nat) (s1 s2 s3 s4 s5 s6 s7 : Nat) (fS fE fF fC fN fH fO : Nat → Int32) (cc cd ce : Int32) (r1 r2 r3 r4 r5 r6 r7 : Nat) (gS gE gF gC gN gH gO : Nat → Int32) (dc dd de : Int32) (q0 q1 : Nat) (vsF vtF : List js_E) (obF ocF : List Nat) (deF dfF : Nat) (v w : js_J 32) (hl : t.length ≤ 4096) (ht : js_tx f t) (hk : k < 8) (hh : fs k = some h) (h1 : 0 < t.length) (hd1 : js_dr t (t.length + 1) 0 none [] [] 0 = (vsF, obF, deF)) (hd2 : js_dr t (t.length + 1) 0 none [] [] 0 = (vtF, ocF, dfF)) (hv : js_OR t vsF 32 v 0) (hw : js_OR t vtF 32 w 0) (hdi : js_dist 32 w) : jv_M l D dA zz y_Sh_same b_Sh_same 5 (some (FieldType.boolean)) 72 [.ref x, .int (nI k), .int (nI k)] [(x, .inr (5, [.ref tp, .ref rs, .ref sl, .ref rd, .ref ol, .ref cp, .int pl])), (sl, .inl (dA 5, 8, .inr (.inr (.inr (.inr fs))))), (cp, .inr (4, [.ref ol, .ref ol2])), (ol, .inr (3, [.ref s1, .ref s2, .ref s3, .ref s4, .ref s5, .ref s6, .ref s7, .ref q0, .int cc, .int cd, .int ce])), (s1, .inl (dA 1, 2048, .inl fS)), (s2, .inl (dA 1, 2048, .inl fE)), (s3, .inl (dA 1, 2048, .inl fF)), (s4, .inl (dA 1, 2048, .inl fC)), (s5, .inl (dA 1, 2048, .inl fN)), (s6, .inl (dA 1, 2048, .inl fH)), (s7, .inl (dA 1, 32, .inl fO)), (ol2, .inr (3, [.ref r1, .ref r2, .ref r3, .ref r4, .ref r5, .ref r6, .ref r7, .ref q1, .int dc, .int dd, .int de])), (r1, .inl (dA 1, 2048, .inl gS)), (r2, .inl (dA 1, 2048, .inl gE)), (r3, .inl (dA 1, 2048, .inl gF)), (r4, .inl (dA 1, 2048, .inl gC)), (r5, .inl (dA 1, 2048, .inl gN)), (r6, .inl (dA 1, 2048, .inl gH)), (r7, .inl (dA 1, 32, .inl gO)), (h, .inr (0, [.ref b, .int (nI t.length)])), (b, .inl (dA 0, 4096, .inl f))] (jv_pi fun r (_ : ((Nat → Int32) × (Nat → Int32) × (Nat → Int32) × (Nat → Int32) × (Nat → Int32) × (Nat → Int32) × (Nat → Int32)) × ((Nat → Int32) × (Nat → Int32) × (Nat → Int32) × (Nat → Int32) × (Nat → Int32) × (Nat → Int32) × (Nat → Int32))) => js_bool (js_same 32 v w) r) (fun u => [(x, .inr (5, [.ref tp, .ref rs, .ref sl, .ref rd, .ref ol, .ref cp, .int pl])), (sl, .inl (dA 5, 8, .inr (.inr (.inr (.inr fs))))), (cp, .inr (4, [.ref ol, .ref ol2])), (ol, .inr (3, [.ref s1, .ref s2, .ref s3, .ref s4, .ref s5, .ref s6, .ref s7, .ref h, .int (nI vsF.length), .int (nI obF.length), .int (nI deF)])), (s1, .inl (dA 1, 2048, .inl u.1.1)), (s2, .inl (dA 1, 2048, .inl u.1.2.1)), (s3, .inl (dA 1, 2048, .inl u.1.2.2.1)), (s4, .inl (dA 1, 2048, .inl u.1.2.2.2.1)), (s5, .inl (dA 1, 2048, .inl u.1.2.2.2.2.1)), (s6, .inl (dA 1, 2048, .inl u.1.2.2.2.2.2.1)), (s7, .inl (dA 1, 32, .inl u.1.2.2.2.2.2.2)), (ol2, .inr (3, [.ref r1, .ref r2, .ref r3, .ref r4, .ref r5, .ref r6, .ref r7, .ref h, .int (nI vtF.length), .int (nI ocF.length), .int (nI dfF)])), (r1, .inl (dA 1, 2048, .inl u.2.1)), (r2, .inl (dA 1, 2048, .inl u.2.2.1)), (r3, .inl (dA 1, 2048, .inl u.2.2.2.1)), (r4, .inl (dA 1, 2048, .inl u.2.2.2.2.1)), (r5, .inl (dA 1, 2048, .inl u.2.2.2.2.2.1)), (r6, .inl (dA 1, 2048, .inl u.2.2.2.2.2.2.1)), (r7, .inl (dA 1, 32, .inl u.2.2.2.2.2.2.2)), (h, .inr (0, [.ref b, .int (nI t.length)])), (b, .inl (dA 0, 4096, .inl f))]) 0 0 := by
  refine jv_M.of [(0, .ref x), (1, .int (nI k)), (2, .int (nI k))] (by decide) (Nat.le_of_ble_eq_true rfl) rfl ?_
  intro pR eR sR mR belowR methR cR AR C hr hin
  refine jv_aload_n C (jd D_Sh_same 0 rfl) rfl 0 rfl ?_
  refine jv_iload_n C (jd D_Sh_same 1 rfl) rfl 1 rfl ?_
  refine jv_callV (wr := [(cp, .inr (4, [.ref ol, .ref ol2])), (ol, .inr (3, [.ref s1, .ref s2, .ref s3, .ref s4, .ref s5, .ref s6, .ref s7, .ref q0, .int cc, .int cd, .int ce])), (s1, .inl (dA 1, 2048, .inl fS)), (s2, .inl (dA 1, 2048, .inl fE)), (s3, .inl (dA 1, 2048, .inl fF)), (s4, .inl (dA 1, 2048, .inl fC)), (s5, .inl (dA 1, 2048, .inl fN)), (s6, .inl (dA 1, 2048, .inl fH)), (s7, .inl (dA 1, 32, .inl fO)), (ol2, .inr (3, [.ref r1, .ref r2, .ref r3, .ref r4, .ref r5, .ref r6, .ref r7, .ref q1, .int dc, .int dd, .int de])), (r1, .inl (dA 1, 2048, .inl gS)), (r2, .inl (dA 1, 2048, .inl gE)), (r3, .inl (dA 1, 2048, .inl gF)), (r4, .inl (dA 1, 2048, .inl gC)), (r5, .inl (dA 1, 2048, .inl gN)), (r6, .inl (dA 1, 2048, .inl gH)), (r7, .inl (dA 1, 32, .inl gO)), (h, .inr (0, [.ref b, .int (nI t.length)])), (b, .inl (dA 0, 4096, .inl f))]) C cl_Sh_70 (c_Sh_slotAt_ok x tp rs sl rd ol cp pl h k fs hk hh) [0, 1] [2, 3, 4, 5, 6, 7, 8, 9, 10, 11, 12, 13, 14, 15, 16, 17, 18, 19, 20] rfl rfl rfl rfl (by decide) rfl rfl 0 rfl ⟨Nat.le_of_ble_eq_true rfl, Nat.le_of_ble_eq_true rfl⟩ ⟨Nat.le_of_ble_eq_true rfl, Nat.le_of_ble_eq_true rfl⟩ rfl rfl (Nat.le_of_ble_eq_true rfl) (jd D_Sh_same 2 rfl) (fun v1 _ ka1 => ?_)
  obtain ⟨a1, rfl, ka1⟩ := ka1
  refine jv_fix [19, 20, 0, 1, 2, 3, 4, 5, 6, 7, 8, 9, 10, 11, 12, 13, 14, 15, 16, 17, 18] [(x, .inr (5, [.ref tp, .ref rs, .ref sl, .ref rd, .ref ol, .ref cp, .int pl])), (sl, .inl (dA 5, 8, .inr (.inr (.inr (.inr fs))))), (cp, .inr (4, [.ref ol, .ref ol2])), (ol, .inr (3, [.ref s1, .ref s2, .ref s3, .ref s4, .ref s5, .ref s6, .ref s7, .ref q0, .int cc, .int cd, .int ce])), (s1, .inl (dA 1, 2048, .inl fS)), (s2, .inl (dA 1, 2048, .inl fE)), (s3, .inl (dA 1, 2048, .inl fF)), (s4, .inl (dA 1, 2048, .inl fC)), (s5, .inl (dA 1, 2048, .inl fN)), (s6, .inl (dA 1, 2048, .inl fH)), (s7, .inl (dA 1, 32, .inl fO)), (ol2, .inr (3, [.ref r1, .ref r2, .ref r3, .ref r4, .ref r5, .ref r6, .ref r7, .ref q1, .int dc, .int dd, .int de])), (r1, .inl (dA 1, 2048, .inl gS)), (r2, .inl (dA 1, 2048, .inl gE)), (r3, .inl (dA 1, 2048, .inl gF)), (r4, .inl (dA 1, 2048, .inl gC)), (r5, .inl (dA 1, 2048, .inl gN)), (r6, .inl (dA 1, 2048, .inl gH)), (r7, .inl (dA 1, 32, .inl gO)), (h, .inr (0, [.ref b, .int (nI t.length)])), (b, .inl (dA 0, 4096, .inl f))] [.ref a1] 0 0 rfl rfl rfl (Nat.le_refl _) (Nat.le_refl _) ?_
  have ka1 := ka1.symm
  subst ka1
  refine jv_astore_n C [(3, .ref h), (0, .ref x), (1, .int (nI k)), (2, .int (nI k))] (jd D_Sh_same 3 rfl) rfl (by decide) rfl ?_
  refine jv_aload_n C (jd D_Sh_same 4 rfl) rfl 1 rfl ?_
  refine jv_iload_n C (jd D_Sh_same 5 rfl) rfl 3 rfl ?_
  refine jv_callV (wr := [(cp, .inr (4, [.ref ol, .ref ol2])), (ol, .inr (3, [.ref s1, .ref s2, .ref s3, .ref s4, .ref s5, .ref s6, .ref s7, .ref q0, .int cc, .int cd, .int ce])), (s1, .inl (dA 1, 2048, .inl fS)), (s2, .inl (dA 1, 2048, .inl fE)), (s3, .inl (dA 1, 2048, .inl fF)), (s4, .inl (dA 1, 2048, .inl fC)), (s5, .inl (dA 1, 2048, .inl fN)), (s6, .inl (dA 1, 2048, .inl fH)), (s7, .inl (dA 1, 32, .inl fO)), (ol2, .inr (3, [.ref r1, .ref r2, .ref r3, .ref r4, .ref r5, .ref r6, .ref r7, .ref q1, .int dc, .int dd, .int de])), (r1, .inl (dA 1, 2048, .inl gS)), (r2, .inl (dA 1, 2048, .inl gE)), (r3, .inl (dA 1, 2048, .inl gF)), (r4, .inl (dA 1, 2048, .inl gC)), (r5, .inl (dA 1, 2048, .inl gN)), (r6, .inl (dA 1, 2048, .inl gH)), (r7, .inl (dA 1, 32, .inl gO)), (h, .inr (0, [.ref b, .int (nI t.length)])), (b, .inl (dA 0, 4096, .inl f))]) C cl_Sh_70 (c_Sh_slotAt_ok x tp rs sl rd ol cp pl h k fs hk hh) [0, 1] [2, 3, 4, 5, 6, 7, 8, 9, 10, 11, 12, 13, 14, 15, 16, 17, 18, 19, 20] rfl rfl rfl rfl (by decide) rfl rfl 0 rfl ⟨Nat.le_of_ble_eq_true rfl, Nat.le_of_ble_eq_true rfl⟩ ⟨Nat.le_of_ble_eq_true rfl, Nat.le_of_ble_eq_true rfl⟩ rfl rfl (Nat.le_of_ble_eq_true rfl) (jd D_Sh_same 6 rfl) (fun v2 _ ka2 => ?_)
  obtain ⟨a2, rfl, ka2⟩ := ka2
  refine jv_fix [19, 20, 0, 1, 2, 3, 4, 5, 6, 7, 8, 9, 10, 11, 12, 13, 14, 15, 16, 17, 18] [(x, .inr (5, [.ref tp, .ref rs, .ref sl, .ref rd, .ref ol, .ref cp, .int pl])), (sl, .inl (dA 5, 8, .inr (.inr (.inr (.inr fs))))), (cp, .inr (4, [.ref ol, .ref ol2])), (ol, .inr (3, [.ref s1, .ref s2, .ref s3, .ref s4, .ref s5, .ref s6, .ref s7, .ref q0, .int cc, .int cd, .int ce])), (s1, .inl (dA 1, 2048, .inl fS)), (s2, .inl (dA 1, 2048, .inl fE)), (s3, .inl (dA 1, 2048, .inl fF)), (s4, .inl (dA 1, 2048, .inl fC)), (s5, .inl (dA 1, 2048, .inl fN)), (s6, .inl (dA 1, 2048, .inl fH)), (s7, .inl (dA 1, 32, .inl fO)), (ol2, .inr (3, [.ref r1, .ref r2, .ref r3, .ref r4, .ref r5, .ref r6, .ref r7, .ref q1, .int dc, .int dd, .int de])), (r1, .inl (dA 1, 2048, .inl gS)), (r2, .inl (dA 1, 2048, .inl gE)), (r3, .inl (dA 1, 2048, .inl gF)), (r4, .inl (dA 1, 2048, .inl gC)), (r5, .inl (dA 1, 2048, .inl gN)), (r6, .inl (dA 1, 2048, .inl gH)), (r7, .inl (dA 1, 32, .inl gO)), (h, .inr (0, [.ref b, .int (nI t.length)])), (b, .inl (dA 0, 4096, .inl f))] [.ref a2] 0 0 rfl rfl rfl (Nat.le_refl _) (Nat.le_refl _) ?_
  have ka2 := ka2.symm
  subst ka2
  refine jv_astore C [(4, .ref h), (3, .ref h), (0, .ref x), (1, .int (nI k)), (2, .int (nI k))] (jd D_Sh_same 7 rfl) (by decide) rfl ?_
  refine jv_aload_n C (jd D_Sh_same 8 rfl) rfl 2 rfl ?_
  refine jv_get C fl_Sh_46 0 rfl rfl (jd D_Sh_same 9 rfl) ?_
  refine jv_aload_n C (jd D_Sh_same 10 rfl) rfl 1 rfl ?_
  refine jv_callS (wr := [(x, .inr (5, [.ref tp, .ref rs, .ref sl, .ref rd, .ref ol, .ref cp, .int pl])), (sl, .inl (dA 5, 8, .inr (.inr (.inr (.inr fs))))), (cp, .inr (4, [.ref ol, .ref ol2])), (ol, .inr (3, [.ref s1, .ref s2, .ref s3, .ref s4, .ref s5, .ref s6, .ref s7, .ref q0, .int cc, .int cd, .int ce])), (s1, .inl (dA 1, 2048, .inl fS)), (s2, .inl (dA 1, 2048, .inl fE)), (s3, .inl (dA 1, 2048, .inl fF)), (s4, .inl (dA 1, 2048, .inl fC)), (s5, .inl (dA 1, 2048, .inl fN)), (s6, .inl (dA 1, 2048, .inl fH)), (s7, .inl (dA 1, 32, .inl fO)), (ol2, .inr (3, [.ref r1, .ref r2, .ref r3, .ref r4, .ref r5, .ref r6, .ref r7, .ref q1, .int dc, .int dd, .int de])), (r1, .inl (dA 1, 2048, .inl gS)), (r2, .inl (dA 1, 2048, .inl gE)), (r3, .inl (dA 1, 2048, .inl gF)), (r4, .inl (dA 1, 2048, .inl gC)), (r5, .inl (dA 1, 2048, .inl gN)), (r6, .inl (dA 1, 2048, .inl gH)), (r7, .inl (dA 1, 32, .inl gO))]) C cl_Sh_88 (c_Sh_held_ok h b 4096 f t h1 (by omega)) [19, 20] [0, 1, 2, 3, 4, 5, 6, 7, 8, 9, 10, 11, 12, 13, 14, 15, 16, 17, 18] rfl rfl rfl rfl (by decide) ⟨Nat.le_of_ble_eq_true rfl, Nat.le_of_ble_eq_true rfl⟩ ⟨Nat.le_of_ble_eq_true rfl, Nat.le_of_ble_eq_true rfl⟩ rfl rfl (Nat.le_of_ble_eq_true rfl) (jd D_Sh_same 11 rfl) (fun v3 _ ka3 => ?_)
  obtain ⟨a3, rfl, ka3⟩ := ka3
  refine jv_fix [0, 1, 2, 3, 4, 5, 6, 7, 8, 9, 10, 11, 12, 13, 14, 15, 16, 17, 18, 19, 20] [(x, .inr (5, [.ref tp, .ref rs, .ref sl, .ref rd, .ref ol, .ref cp, .int pl])), (sl, .inl (dA 5, 8, .inr (.inr (.inr (.inr fs))))), (cp, .inr (4, [.ref ol, .ref ol2])), (ol, .inr (3, [.ref s1, .ref s2, .ref s3, .ref s4, .ref s5, .ref s6, .ref s7, .ref q0, .int cc, .int cd, .int ce])), (s1, .inl (dA 1, 2048, .inl fS)), (s2, .inl (dA 1, 2048, .inl fE)), (s3, .inl (dA 1, 2048, .inl fF)), (s4, .inl (dA 1, 2048, .inl fC)), (s5, .inl (dA 1, 2048, .inl fN)), (s6, .inl (dA 1, 2048, .inl fH)), (s7, .inl (dA 1, 32, .inl fO)), (ol2, .inr (3, [.ref r1, .ref r2, .ref r3, .ref r4, .ref r5, .ref r6, .ref r7, .ref q1, .int dc, .int dd, .int de])), (r1, .inl (dA 1, 2048, .inl gS)), (r2, .inl (dA 1, 2048, .inl gE)), (r3, .inl (dA 1, 2048, .inl gF)), (r4, .inl (dA 1, 2048, .inl gC)), (r5, .inl (dA 1, 2048, .inl gN)), (r6, .inl (dA 1, 2048, .inl gH)), (r7, .inl (dA 1, 32, .inl gO)), (h, .inr (0, [.ref b, .int (nI t.length)])), (b, .inl (dA 0, 4096, .inl f))] [.ref a3, .ref cp] 0 0 rfl rfl rfl (Nat.le_refl _) (Nat.le_refl _) ?_
  have ka3 := ka3.symm
  subst ka3
  refine jv_aload C (jd D_Sh_same 12 rfl) 0 rfl ?_
  refine jv_callS (wr := [(x, .inr (5, [.ref tp, .ref rs, .ref sl, .ref rd, .ref ol, .ref cp, .int pl])), (sl, .inl (dA 5, 8, .inr (.inr (.inr (.inr fs))))), (cp, .inr (4, [.ref ol, .ref ol2])), (ol, .inr (3, [.ref s1, .ref s2, .ref s3, .ref s4, .ref s5, .ref s6, .ref s7, .ref q0, .int cc, .int cd, .int ce])), (s1, .inl (dA 1, 2048, .inl fS)), (s2, .inl (dA 1, 2048, .inl fE)), (s3, .inl (dA 1, 2048, .inl fF)), (s4, .inl (dA 1, 2048, .inl fC)), (s5, .inl (dA 1, 2048, .inl fN)), (s6, .inl (dA 1, 2048, .inl fH)), (s7, .inl (dA 1, 32, .inl fO)), (ol2, .inr (3, [.ref r1, .ref r2, .ref r3, .ref r4, .ref r5, .ref r6, .ref r7, .ref q1, .int dc, .int dd, .int de])), (r1, .inl (dA 1, 2048, .inl gS)), (r2, .inl (dA 1, 2048, .inl gE)), (r3, .inl (dA 1, 2048, .inl gF)), (r4, .inl (dA 1, 2048, .inl gC)), (r5, .inl (dA 1, 2048, .inl gN)), (r6, .inl (dA 1, 2048, .inl gH)), (r7, .inl (dA 1, 32, .inl gO))]) C cl_Sh_88 (c_Sh_held_ok h b 4096 f t h1 (by omega)) [19, 20] [0, 1, 2, 3, 4, 5, 6, 7, 8, 9, 10, 11, 12, 13, 14, 15, 16, 17, 18] rfl rfl rfl rfl (by decide) ⟨Nat.le_of_ble_eq_true rfl, Nat.le_of_ble_eq_true rfl⟩ ⟨Nat.le_of_ble_eq_true rfl, Nat.le_of_ble_eq_true rfl⟩ rfl rfl (Nat.le_of_ble_eq_true rfl) (jd D_Sh_same 13 rfl) (fun v4 _ ka4 => ?_)
  obtain ⟨a4, rfl, ka4⟩ := ka4
  refine jv_fix [0, 1, 2, 3, 4, 5, 6, 7, 8, 9, 10, 11, 12, 13, 14, 15, 16, 17, 18, 19, 20] [(x, .inr (5, [.ref tp, .ref rs, .ref sl, .ref rd, .ref ol, .ref cp, .int pl])), (sl, .inl (dA 5, 8, .inr (.inr (.inr (.inr fs))))), (cp, .inr (4, [.ref ol, .ref ol2])), (ol, .inr (3, [.ref s1, .ref s2, .ref s3, .ref s4, .ref s5, .ref s6, .ref s7, .ref q0, .int cc, .int cd, .int ce])), (s1, .inl (dA 1, 2048, .inl fS)), (s2, .inl (dA 1, 2048, .inl fE)), (s3, .inl (dA 1, 2048, .inl fF)), (s4, .inl (dA 1, 2048, .inl fC)), (s5, .inl (dA 1, 2048, .inl fN)), (s6, .inl (dA 1, 2048, .inl fH)), (s7, .inl (dA 1, 32, .inl fO)), (ol2, .inr (3, [.ref r1, .ref r2, .ref r3, .ref r4, .ref r5, .ref r6, .ref r7, .ref q1, .int dc, .int dd, .int de])), (r1, .inl (dA 1, 2048, .inl gS)), (r2, .inl (dA 1, 2048, .inl gE)), (r3, .inl (dA 1, 2048, .inl gF)), (r4, .inl (dA 1, 2048, .inl gC)), (r5, .inl (dA 1, 2048, .inl gN)), (r6, .inl (dA 1, 2048, .inl gH)), (r7, .inl (dA 1, 32, .inl gO)), (h, .inr (0, [.ref b, .int (nI t.length)])), (b, .inl (dA 0, 4096, .inl f))] [.ref a4, .ref h, .ref cp] 0 0 rfl rfl rfl (Nat.le_refl _) (Nat.le_refl _) ?_
  have ka4 := ka4.symm
  subst ka4
  refine jv_callV (wr := [(x, .inr (5, [.ref tp, .ref rs, .ref sl, .ref rd, .ref ol, .ref cp, .int pl])), (sl, .inl (dA 5, 8, .inr (.inr (.inr (.inr fs)))))]) C cl_Sh_92 (c_Cp_compare_s cp ol s1 s2 s3 s4 s5 s6 s7 h b 4096 fS fE fF fC fN fH fO f t cc cd ce ol2 r1 r2 r3 r4 r5 r6 r7 gS gE gF gC gN gH gO dc dd de q0 q1 vsF vtF obF ocF deF dfF v w hl (by decide) ht hd1 hd2 hv hw hdi) [2, 3, 4, 5, 6, 7, 8, 9, 10, 11, 12, 13, 14, 15, 16, 17, 18, 19, 20] [0, 1] rfl rfl rfl rfl (by decide) rfl rfl 0 rfl ⟨Nat.le_of_ble_eq_true rfl, Nat.le_of_ble_eq_true rfl⟩ ⟨Nat.le_of_ble_eq_true rfl, Nat.le_of_ble_eq_true rfl⟩ rfl rfl (Nat.le_of_ble_eq_true rfl) (jd D_Sh_same 14 rfl) (fun v5 u k5 => ?_)
  obtain ⟨rv5, rfl, k5⟩ := k5
  refine jv_fix [0, 1, 2, 3, 4, 5, 6, 7, 8, 9, 10, 11, 12, 13, 14, 15, 16, 17, 18, 19, 20] [(x, .inr (5, [.ref tp, .ref rs, .ref sl, .ref rd, .ref ol, .ref cp, .int pl])), (sl, .inl (dA 5, 8, .inr (.inr (.inr (.inr fs))))), (cp, .inr (4, [.ref ol, .ref ol2])), (ol, .inr (3, [.ref s1, .ref s2, .ref s3, .ref s4, .ref s5, .ref s6, .ref s7, .ref h, .int (nI vsF.length), .int (nI obF.length), .int (nI deF)])), (s1, .inl (dA 1, 2048, .inl u.1.1)), (s2, .inl (dA 1, 2048, .inl u.1.2.1)), (s3, .inl (dA 1, 2048, .inl u.1.2.2.1)), (s4, .inl (dA 1, 2048, .inl u.1.2.2.2.1)), (s5, .inl (dA 1, 2048, .inl u.1.2.2.2.2.1)), (s6, .inl (dA 1, 2048, .inl u.1.2.2.2.2.2.1)), (s7, .inl (dA 1, 32, .inl u.1.2.2.2.2.2.2)), (ol2, .inr (3, [.ref r1, .ref r2, .ref r3, .ref r4, .ref r5, .ref r6, .ref r7, .ref h, .int (nI vtF.length), .int (nI ocF.length), .int (nI dfF)])), (r1, .inl (dA 1, 2048, .inl u.2.1)), (r2, .inl (dA 1, 2048, .inl u.2.2.1)), (r3, .inl (dA 1, 2048, .inl u.2.2.2.1)), (r4, .inl (dA 1, 2048, .inl u.2.2.2.2.1)), (r5, .inl (dA 1, 2048, .inl u.2.2.2.2.2.1)), (r6, .inl (dA 1, 2048, .inl u.2.2.2.2.2.2.1)), (r7, .inl (dA 1, 32, .inl u.2.2.2.2.2.2.2)), (h, .inr (0, [.ref b, .int (nI t.length)])), (b, .inl (dA 0, 4096, .inl f))] [.int rv5] 0 0 rfl rfl rfl (Nat.le_refl _) (Nat.le_refl _) ?_
  exact jv_iret C hr u (k5) (by rcases k5 with ⟨e_, -⟩ | ⟨e_, -⟩ <;> rw [e_] <;> rfl) [0, 1, 2, 3, 4, 5, 6, 7, 8, 9, 10, 11, 12, 13, 14, 15, 16, 17, 18, 19, 20] rfl rfl (Nat.le_of_ble_eq_true rfl) (Nat.le_of_ble_eq_true rfl) (jd D_Sh_same 15 rfl)

set_option maxHeartbeats 4000000 in
set_option maxRecDepth 100000 in
/-- take, no slot -/
theorem c_Sh_take_no1 {l : Launch} {D : va_G} {dA : Nat → ClassId} {zz : (Nat → Nat) × (Nat → Nat)} (x tp rs sl rd ol cp : Nat) (pl : Int32) (fs : Nat → Option Nat) (i j n : Int32) (hb : i < 0 ∨ 8 ≤ i) (hlt : l.stackTraces = false) : jv_MX l D dA zz y_Sh_take b_Sh_take 7 none 7 [.ref x, .int i, .int j, .int n] [(x, .inr (5, [.ref tp, .ref rs, .ref sl, .ref rd, .ref ol, .ref cp, .int pl])), (sl, .inl (dA 5, 8, .inr (.inr (.inr (.inr fs)))))] "java/lang/IllegalArgumentException" (fun (_ : Unit) => True) (fun _ => [(x, .inr (5, [.ref tp, .ref rs, .ref sl, .ref rd, .ref ol, .ref cp, .int pl])), (sl, .inl (dA 5, 8, .inr (.inr (.inr (.inr fs)))))]) 1 6 := by
  refine jv_MX.of [(0, .ref x), (1, .int i), (2, .int j), (3, .int n)] (by decide) (Nat.le_of_ble_eq_true rfl) rfl ?_
  intro pR eR sR mR belowR methR cR AR C hT0
  refine jv_aload_n C (jd D_Sh_take 0 rfl) rfl 0 rfl ?_
  refine jv_iload_n C (jd D_Sh_take 1 rfl) rfl 1 rfl ?_
  exact jv_outV (wr := []) C hT0 cl_Sh_70 (c_Sh_slotAt_no x tp rs sl rd ol cp pl i fs hb hlt) [0, 1] [] rfl rfl rfl rfl (by decide) rfl rfl 0 rfl (fun _ => jv_noNestM (by decide)) ⟨Nat.le_of_ble_eq_true rfl, Nat.le_of_ble_eq_true rfl⟩ ⟨Nat.le_of_ble_eq_true rfl, Nat.le_of_ble_eq_true rfl⟩ rfl rfl (Nat.le_of_ble_eq_true rfl) (jd D_Sh_take 2 rfl) [0, 1] rfl (fun _ _ => ⟨(), trivial, rfl⟩) (Nat.le_of_ble_eq_true rfl) (Nat.le_of_ble_eq_true rfl)

set_option maxHeartbeats 4000000 in
set_option maxRecDepth 100000 in
/-- take, no slot -/
theorem c_Sh_take_no1b {l : Launch} {D : va_G} {dA : Nat → ClassId} {zz : (Nat → Nat) × (Nat → Nat)} (x tp rs sl rd ol cp : Nat) (pl : Int32) (fs : Nat → Option Nat) (h k : Nat) (j n : Int32) (hk : k < 8) (hh : fs k = some h) (hb : j < 0 ∨ 8 ≤ j) (hlt : l.stackTraces = false) : jv_MX l D dA zz y_Sh_take b_Sh_take 7 none 7 [.ref x, .int (nI k), .int j, .int n] [(x, .inr (5, [.ref tp, .ref rs, .ref sl, .ref rd, .ref ol, .ref cp, .int pl])), (sl, .inl (dA 5, 8, .inr (.inr (.inr (.inr fs)))))] "java/lang/IllegalArgumentException" (fun (_ : Unit) => True) (fun _ => [(x, .inr (5, [.ref tp, .ref rs, .ref sl, .ref rd, .ref ol, .ref cp, .int pl])), (sl, .inl (dA 5, 8, .inr (.inr (.inr (.inr fs)))))]) 1 6 := by
  refine jv_MX.of [(0, .ref x), (1, .int (nI k)), (2, .int j), (3, .int n)] (by decide) (Nat.le_of_ble_eq_true rfl) rfl ?_
  intro pR eR sR mR belowR methR cR AR C hT0
  refine jv_aload_n C (jd D_Sh_take 0 rfl) rfl 0 rfl ?_
  refine jv_iload_n C (jd D_Sh_take 1 rfl) rfl 1 rfl ?_
  refine jv_callV (wr := []) C cl_Sh_70 (c_Sh_slotAt_ok x tp rs sl rd ol cp pl h k fs hk hh) [0, 1] [] rfl rfl rfl rfl (by decide) rfl rfl 0 rfl ⟨Nat.le_of_ble_eq_true rfl, Nat.le_of_ble_eq_true rfl⟩ ⟨Nat.le_of_ble_eq_true rfl, Nat.le_of_ble_eq_true rfl⟩ rfl rfl (Nat.le_of_ble_eq_true rfl) (jd D_Sh_take 2 rfl) (fun v1 _ ka1 => ?_)
  obtain ⟨a1, rfl, ka1⟩ := ka1
  refine jv_fix [0, 1] [(x, .inr (5, [.ref tp, .ref rs, .ref sl, .ref rd, .ref ol, .ref cp, .int pl])), (sl, .inl (dA 5, 8, .inr (.inr (.inr (.inr fs)))))] [.ref a1] 0 0 rfl rfl rfl (Nat.le_refl _) (Nat.le_refl _) ?_
  have ka1 := ka1.symm
  subst ka1
  refine jv_astore C [(4, .ref h), (0, .ref x), (1, .int (nI k)), (2, .int j), (3, .int n)] (jd D_Sh_take 3 rfl) (by decide) rfl ?_
  refine jv_aload_n C (jd D_Sh_take 4 rfl) rfl 1 rfl ?_
  refine jv_iload_n C (jd D_Sh_take 5 rfl) rfl 3 rfl ?_
  exact jv_outV (wr := []) C hT0 cl_Sh_70 (c_Sh_slotAt_no x tp rs sl rd ol cp pl j fs hb hlt) [0, 1] [] rfl rfl rfl rfl (by decide) rfl rfl 0 rfl (fun _ => jv_noNestM (by decide)) ⟨Nat.le_of_ble_eq_true rfl, Nat.le_of_ble_eq_true rfl⟩ ⟨Nat.le_of_ble_eq_true rfl, Nat.le_of_ble_eq_true rfl⟩ rfl rfl (Nat.le_of_ble_eq_true rfl) (jd D_Sh_take 6 rfl) [0, 1] rfl (fun _ _ => ⟨(), trivial, rfl⟩) (Nat.le_of_ble_eq_true rfl) (Nat.le_of_ble_eq_true rfl)

set_option maxHeartbeats 4000000 in
set_option maxRecDepth 100000 in
/-- take, nothing held -/
theorem c_Sh_take_no2 {l : Launch} {D : va_G} {dA : Nat → ClassId} {zz : (Nat → Nat) × (Nat → Nat)} (x tp rs sl rd ol cp : Nat) (pl : Int32) (fs : Nat → Option Nat) (h b k h2 k2 : Nat) (f : Nat → Int32) (n : Int32) (hk : k < 8) (hh : fs k = some h) (hk2 : k2 < 8) (hh2 : fs k2 = some h2) (hlt : l.stackTraces = false) : jv_MX l D dA zz y_Sh_take b_Sh_take 7 none 7 [.ref x, .int (nI k2), .int (nI k), .int n] [(x, .inr (5, [.ref tp, .ref rs, .ref sl, .ref rd, .ref ol, .ref cp, .int pl])), (sl, .inl (dA 5, 8, .inr (.inr (.inr (.inr fs))))), (h, .inr (0, [.ref b, .int (nI ([] : List Nat).length)])), (b, .inl (dA 0, 4096, .inl f))] "java/lang/IllegalStateException" (fun (_ : Unit) => True) (fun _ => [(x, .inr (5, [.ref tp, .ref rs, .ref sl, .ref rd, .ref ol, .ref cp, .int pl])), (sl, .inl (dA 5, 8, .inr (.inr (.inr (.inr fs))))), (h, .inr (0, [.ref b, .int (nI ([] : List Nat).length)])), (b, .inl (dA 0, 4096, .inl f))]) 1 6 := by
  refine jv_MX.of [(0, .ref x), (1, .int (nI k2)), (2, .int (nI k)), (3, .int n)] (by decide) (Nat.le_of_ble_eq_true rfl) rfl ?_
  intro pR eR sR mR belowR methR cR AR C hT0
  refine jv_aload_n C (jd D_Sh_take 0 rfl) rfl 0 rfl ?_
  refine jv_iload_n C (jd D_Sh_take 1 rfl) rfl 1 rfl ?_
  refine jv_callV (wr := [(h, .inr (0, [.ref b, .int (nI ([] : List Nat).length)])), (b, .inl (dA 0, 4096, .inl f))]) C cl_Sh_70 (c_Sh_slotAt_ok x tp rs sl rd ol cp pl h2 k2 fs hk2 hh2) [0, 1] [2, 3] rfl rfl rfl rfl (by decide) rfl rfl 0 rfl ⟨Nat.le_of_ble_eq_true rfl, Nat.le_of_ble_eq_true rfl⟩ ⟨Nat.le_of_ble_eq_true rfl, Nat.le_of_ble_eq_true rfl⟩ rfl rfl (Nat.le_of_ble_eq_true rfl) (jd D_Sh_take 2 rfl) (fun v1 _ ka2 => ?_)
  obtain ⟨a2, rfl, ka2⟩ := ka2
  refine jv_fix [2, 3, 0, 1] [(x, .inr (5, [.ref tp, .ref rs, .ref sl, .ref rd, .ref ol, .ref cp, .int pl])), (sl, .inl (dA 5, 8, .inr (.inr (.inr (.inr fs))))), (h, .inr (0, [.ref b, .int (nI ([] : List Nat).length)])), (b, .inl (dA 0, 4096, .inl f))] [.ref a2] 0 0 rfl rfl rfl (Nat.le_refl _) (Nat.le_refl _) ?_
  have ka2 := ka2.symm
  subst ka2
  refine jv_astore C [(4, .ref h2), (0, .ref x), (1, .int (nI k2)), (2, .int (nI k)), (3, .int n)] (jd D_Sh_take 3 rfl) (by decide) rfl ?_
  refine jv_aload_n C (jd D_Sh_take 4 rfl) rfl 1 rfl ?_
  refine jv_iload_n C (jd D_Sh_take 5 rfl) rfl 3 rfl ?_
  refine jv_callV (wr := [(h, .inr (0, [.ref b, .int (nI ([] : List Nat).length)])), (b, .inl (dA 0, 4096, .inl f))]) C cl_Sh_70 (c_Sh_slotAt_ok x tp rs sl rd ol cp pl h k fs hk hh) [0, 1] [2, 3] rfl rfl rfl rfl (by decide) rfl rfl 0 rfl ⟨Nat.le_of_ble_eq_true rfl, Nat.le_of_ble_eq_true rfl⟩ ⟨Nat.le_of_ble_eq_true rfl, Nat.le_of_ble_eq_true rfl⟩ rfl rfl (Nat.le_of_ble_eq_true rfl) (jd D_Sh_take 6 rfl) (fun v2 _ ka1 => ?_)
  obtain ⟨a1, rfl, ka1⟩ := ka1
  refine jv_fix [2, 3, 0, 1] [(x, .inr (5, [.ref tp, .ref rs, .ref sl, .ref rd, .ref ol, .ref cp, .int pl])), (sl, .inl (dA 5, 8, .inr (.inr (.inr (.inr fs))))), (h, .inr (0, [.ref b, .int (nI ([] : List Nat).length)])), (b, .inl (dA 0, 4096, .inl f))] [.ref a1] 0 0 rfl rfl rfl (Nat.le_refl _) (Nat.le_refl _) ?_
  have ka1 := ka1.symm
  subst ka1
  exact jv_outS (wr := [(x, .inr (5, [.ref tp, .ref rs, .ref sl, .ref rd, .ref ol, .ref cp, .int pl])), (sl, .inl (dA 5, 8, .inr (.inr (.inr (.inr fs)))))]) C hT0 cl_Sh_88 (c_Sh_held_no h b 4096 f hlt) [2, 3] [0, 1] rfl rfl rfl rfl (by decide) (fun _ => jv_noNestM (by decide)) ⟨Nat.le_of_ble_eq_true rfl, Nat.le_of_ble_eq_true rfl⟩ ⟨Nat.le_of_ble_eq_true rfl, Nat.le_of_ble_eq_true rfl⟩ rfl rfl (Nat.le_of_ble_eq_true rfl) (jd D_Sh_take 7 rfl) [0, 1, 2, 3] rfl (fun _ _ => ⟨(), trivial, rfl⟩) (Nat.le_of_ble_eq_true rfl) (Nat.le_of_ble_eq_true rfl)

set_option maxHeartbeats 4000000 in
set_option maxRecDepth 100000 in
/-- take, no such part -/
theorem c_Sh_take_no3 {l : Launch} {D : va_G} {dA : Nat → ClassId} {zz : (Nat → Nat) × (Nat → Nat)} (x tp rs sl rd ol cp : Nat) (pl : Int32) (fs : Nat → Option Nat) (h b : Nat) (f : Nat → Int32) (t : List Nat) (k h2 k2 : Nat) (s1 s2 s3 s4 s5 s6 s7 : Nat) (fS fE fF fC fN fH fO : Nat → Int32) (cc cd ce : Int32) (h0 : Nat) (vs : List js_E) (obF : List Nat) (deF : Nat) (len : Nat) (i : Int32) (hl : t.length ≤ 4096) (ht : js_tx f t) (hk : k < 8) (hh : fs k = some h) (hk2 : k2 < 8) (hh2 : fs k2 = some h2) (h1 : 0 < t.length) (hd : js_dr t (t.length + 1) 0 none [] [] 0 = (vs, obF, deF)) (hv0 : 0 < vs.length) (hlen : (js_en vs 0).2.2.2.1 = len) (hlen2 : len ≤ 2048) (hkd : ∀ j, j < len → js_kid vs 0 j < vs.length) (hb : i < 0 ∨ nI len ≤ i) (hlt : l.stackTraces = false) : jv_MX l D dA zz y_Sh_take b_Sh_take 7 none 7 [.ref x, .int (nI k2), .int (nI k), .int i] [(x, .inr (5, [.ref tp, .ref rs, .ref sl, .ref rd, .ref ol, .ref cp, .int pl])), (sl, .inl (dA 5, 8, .inr (.inr (.inr (.inr fs))))), (ol, .inr (3, [.ref s1, .ref s2, .ref s3, .ref s4, .ref s5, .ref s6, .ref s7, .ref h0, .int cc, .int cd, .int ce])), (s1, .inl (dA 1, 2048, .inl fS)), (s2, .inl (dA 1, 2048, .inl fE)), (s3, .inl (dA 1, 2048, .inl fF)), (s4, .inl (dA 1, 2048, .inl fC)), (s5, .inl (dA 1, 2048, .inl fN)), (s6, .inl (dA 1, 2048, .inl fH)), (s7, .inl (dA 1, 32, .inl fO)), (h, .inr (0, [.ref b, .int (nI t.length)])), (b, .inl (dA 0, 4096, .inl f))] "java/util/NoSuchElementException" (fun (_ : (Nat → Int32) × (Nat → Int32) × (Nat → Int32) × (Nat → Int32) × (Nat → Int32) × (Nat → Int32) × (Nat → Int32)) => True) (fun u => [(x, .inr (5, [.ref tp, .ref rs, .ref sl, .ref rd, .ref ol, .ref cp, .int pl])), (sl, .inl (dA 5, 8, .inr (.inr (.inr (.inr fs))))), (ol, .inr (3, [.ref s1, .ref s2, .ref s3, .ref s4, .ref s5, .ref s6, .ref s7, .ref h, .int (nI vs.length), .int (nI obF.length), .int (nI deF)])), (s1, .inl (dA 1, 2048, .inl u.1)), (s2, .inl (dA 1, 2048, .inl u.2.1)), (s3, .inl (dA 1, 2048, .inl u.2.2.1)), (s4, .inl (dA 1, 2048, .inl u.2.2.2.1)), (s5, .inl (dA 1, 2048, .inl u.2.2.2.2.1)), (s6, .inl (dA 1, 2048, .inl u.2.2.2.2.2.1)), (s7, .inl (dA 1, 32, .inl u.2.2.2.2.2.2)), (h, .inr (0, [.ref b, .int (nI t.length)])), (b, .inl (dA 0, 4096, .inl f))]) 1 6 := by
  refine jv_MX.of [(0, .ref x), (1, .int (nI k2)), (2, .int (nI k)), (3, .int i)] (by decide) (Nat.le_of_ble_eq_true rfl) rfl ?_
  intro pR eR sR mR belowR methR cR AR C hT0
  refine jv_aload_n C (jd D_Sh_take 0 rfl) rfl 0 rfl ?_
  refine jv_iload_n C (jd D_Sh_take 1 rfl) rfl 1 rfl ?_
  refine jv_callV (wr := [(ol, .inr (3, [.ref s1, .ref s2, .ref s3, .ref s4, .ref s5, .ref s6, .ref s7, .ref h0, .int cc, .int cd, .int ce])), (s1, .inl (dA 1, 2048, .inl fS)), (s2, .inl (dA 1, 2048, .inl fE)), (s3, .inl (dA 1, 2048, .inl fF)), (s4, .inl (dA 1, 2048, .inl fC)), (s5, .inl (dA 1, 2048, .inl fN)), (s6, .inl (dA 1, 2048, .inl fH)), (s7, .inl (dA 1, 32, .inl fO)), (h, .inr (0, [.ref b, .int (nI t.length)])), (b, .inl (dA 0, 4096, .inl f))]) C cl_Sh_70 (c_Sh_slotAt_ok x tp rs sl rd ol cp pl h2 k2 fs hk2 hh2) [0, 1] [2, 3, 4, 5, 6, 7, 8, 9, 10, 11] rfl rfl rfl rfl (by decide) rfl rfl 0 rfl ⟨Nat.le_of_ble_eq_true rfl, Nat.le_of_ble_eq_true rfl⟩ ⟨Nat.le_of_ble_eq_true rfl, Nat.le_of_ble_eq_true rfl⟩ rfl rfl (Nat.le_of_ble_eq_true rfl) (jd D_Sh_take 2 rfl) (fun v1 _ ka2 => ?_)
  obtain ⟨a2, rfl, ka2⟩ := ka2
  refine jv_fix [10, 11, 0, 1, 2, 3, 4, 5, 6, 7, 8, 9] [(x, .inr (5, [.ref tp, .ref rs, .ref sl, .ref rd, .ref ol, .ref cp, .int pl])), (sl, .inl (dA 5, 8, .inr (.inr (.inr (.inr fs))))), (ol, .inr (3, [.ref s1, .ref s2, .ref s3, .ref s4, .ref s5, .ref s6, .ref s7, .ref h0, .int cc, .int cd, .int ce])), (s1, .inl (dA 1, 2048, .inl fS)), (s2, .inl (dA 1, 2048, .inl fE)), (s3, .inl (dA 1, 2048, .inl fF)), (s4, .inl (dA 1, 2048, .inl fC)), (s5, .inl (dA 1, 2048, .inl fN)), (s6, .inl (dA 1, 2048, .inl fH)), (s7, .inl (dA 1, 32, .inl fO)), (h, .inr (0, [.ref b, .int (nI t.length)])), (b, .inl (dA 0, 4096, .inl f))] [.ref a2] 0 0 rfl rfl rfl (Nat.le_refl _) (Nat.le_refl _) ?_
  have ka2 := ka2.symm
  subst ka2
  refine jv_astore C [(4, .ref h2), (0, .ref x), (1, .int (nI k2)), (2, .int (nI k)), (3, .int i)] (jd D_Sh_take 3 rfl) (by decide) rfl ?_
  refine jv_aload_n C (jd D_Sh_take 4 rfl) rfl 1 rfl ?_
  refine jv_iload_n C (jd D_Sh_take 5 rfl) rfl 3 rfl ?_
  refine jv_callV (wr := [(ol, .inr (3, [.ref s1, .ref s2, .ref s3, .ref s4, .ref s5, .ref s6, .ref s7, .ref h0, .int cc, .int cd, .int ce])), (s1, .inl (dA 1, 2048, .inl fS)), (s2, .inl (dA 1, 2048, .inl fE)), (s3, .inl (dA 1, 2048, .inl fF)), (s4, .inl (dA 1, 2048, .inl fC)), (s5, .inl (dA 1, 2048, .inl fN)), (s6, .inl (dA 1, 2048, .inl fH)), (s7, .inl (dA 1, 32, .inl fO)), (h, .inr (0, [.ref b, .int (nI t.length)])), (b, .inl (dA 0, 4096, .inl f))]) C cl_Sh_70 (c_Sh_slotAt_ok x tp rs sl rd ol cp pl h k fs hk hh) [0, 1] [2, 3, 4, 5, 6, 7, 8, 9, 10, 11] rfl rfl rfl rfl (by decide) rfl rfl 0 rfl ⟨Nat.le_of_ble_eq_true rfl, Nat.le_of_ble_eq_true rfl⟩ ⟨Nat.le_of_ble_eq_true rfl, Nat.le_of_ble_eq_true rfl⟩ rfl rfl (Nat.le_of_ble_eq_true rfl) (jd D_Sh_take 6 rfl) (fun v2 _ ka1 => ?_)
  obtain ⟨a1, rfl, ka1⟩ := ka1
  refine jv_fix [10, 11, 0, 1, 2, 3, 4, 5, 6, 7, 8, 9] [(x, .inr (5, [.ref tp, .ref rs, .ref sl, .ref rd, .ref ol, .ref cp, .int pl])), (sl, .inl (dA 5, 8, .inr (.inr (.inr (.inr fs))))), (ol, .inr (3, [.ref s1, .ref s2, .ref s3, .ref s4, .ref s5, .ref s6, .ref s7, .ref h0, .int cc, .int cd, .int ce])), (s1, .inl (dA 1, 2048, .inl fS)), (s2, .inl (dA 1, 2048, .inl fE)), (s3, .inl (dA 1, 2048, .inl fF)), (s4, .inl (dA 1, 2048, .inl fC)), (s5, .inl (dA 1, 2048, .inl fN)), (s6, .inl (dA 1, 2048, .inl fH)), (s7, .inl (dA 1, 32, .inl fO)), (h, .inr (0, [.ref b, .int (nI t.length)])), (b, .inl (dA 0, 4096, .inl f))] [.ref a1] 0 0 rfl rfl rfl (Nat.le_refl _) (Nat.le_refl _) ?_
  have ka1 := ka1.symm
  subst ka1
  refine jv_callS (wr := [(x, .inr (5, [.ref tp, .ref rs, .ref sl, .ref rd, .ref ol, .ref cp, .int pl])), (sl, .inl (dA 5, 8, .inr (.inr (.inr (.inr fs))))), (ol, .inr (3, [.ref s1, .ref s2, .ref s3, .ref s4, .ref s5, .ref s6, .ref s7, .ref h0, .int cc, .int cd, .int ce])), (s1, .inl (dA 1, 2048, .inl fS)), (s2, .inl (dA 1, 2048, .inl fE)), (s3, .inl (dA 1, 2048, .inl fF)), (s4, .inl (dA 1, 2048, .inl fC)), (s5, .inl (dA 1, 2048, .inl fN)), (s6, .inl (dA 1, 2048, .inl fH)), (s7, .inl (dA 1, 32, .inl fO))]) C cl_Sh_88 (c_Sh_held_ok h b 4096 f t h1 (by omega)) [10, 11] [0, 1, 2, 3, 4, 5, 6, 7, 8, 9] rfl rfl rfl rfl (by decide) ⟨Nat.le_of_ble_eq_true rfl, Nat.le_of_ble_eq_true rfl⟩ ⟨Nat.le_of_ble_eq_true rfl, Nat.le_of_ble_eq_true rfl⟩ rfl rfl (Nat.le_of_ble_eq_true rfl) (jd D_Sh_take 7 rfl) (fun v3 _ ka3 => ?_)
  obtain ⟨a3, rfl, ka3⟩ := ka3
  refine jv_fix [0, 1, 2, 3, 4, 5, 6, 7, 8, 9, 10, 11] [(x, .inr (5, [.ref tp, .ref rs, .ref sl, .ref rd, .ref ol, .ref cp, .int pl])), (sl, .inl (dA 5, 8, .inr (.inr (.inr (.inr fs))))), (ol, .inr (3, [.ref s1, .ref s2, .ref s3, .ref s4, .ref s5, .ref s6, .ref s7, .ref h0, .int cc, .int cd, .int ce])), (s1, .inl (dA 1, 2048, .inl fS)), (s2, .inl (dA 1, 2048, .inl fE)), (s3, .inl (dA 1, 2048, .inl fF)), (s4, .inl (dA 1, 2048, .inl fC)), (s5, .inl (dA 1, 2048, .inl fN)), (s6, .inl (dA 1, 2048, .inl fH)), (s7, .inl (dA 1, 32, .inl fO)), (h, .inr (0, [.ref b, .int (nI t.length)])), (b, .inl (dA 0, 4096, .inl f))] [.ref a3] 0 0 rfl rfl rfl (Nat.le_refl _) (Nat.le_refl _) ?_
  have ka3 := ka3.symm
  subst ka3
  refine jv_astore C [(5, .ref h), (4, .ref h2), (0, .ref x), (1, .int (nI k2)), (2, .int (nI k)), (3, .int i)] (jd D_Sh_take 8 rfl) (by decide) rfl ?_
  refine jv_aload_n C (jd D_Sh_take 9 rfl) rfl 2 rfl ?_
  refine jv_get C fl_Sh_37 0 rfl rfl (jd D_Sh_take 10 rfl) ?_
  refine jv_aload C (jd D_Sh_take 11 rfl) 0 rfl ?_
  refine jv_callV (wr := [(x, .inr (5, [.ref tp, .ref rs, .ref sl, .ref rd, .ref ol, .ref cp, .int pl])), (sl, .inl (dA 5, 8, .inr (.inr (.inr (.inr fs)))))]) C cl_Sh_103 (c_Ol_draw ol s1 s2 s3 s4 s5 s6 s7 h b 4096 fS fE fF fC fN fH fO f t h0 cc cd ce vs obF deF hl (by decide) ht hd) [2, 3, 4, 5, 6, 7, 8, 9, 10, 11] [0, 1] rfl rfl rfl rfl (by decide) rfl rfl 0 rfl ⟨Nat.le_of_ble_eq_true rfl, Nat.le_of_ble_eq_true rfl⟩ ⟨Nat.le_of_ble_eq_true rfl, Nat.le_of_ble_eq_true rfl⟩ rfl rfl (Nat.le_of_ble_eq_true rfl) (jd D_Sh_take 12 rfl) (fun v4 u kd1 => ?_)
  obtain ⟨rfl, kd1⟩ := kd1
  refine jv_fix [0, 1, 2, 3, 4, 5, 6, 7, 8, 9, 10, 11] [(x, .inr (5, [.ref tp, .ref rs, .ref sl, .ref rd, .ref ol, .ref cp, .int pl])), (sl, .inl (dA 5, 8, .inr (.inr (.inr (.inr fs))))), (ol, .inr (3, [.ref s1, .ref s2, .ref s3, .ref s4, .ref s5, .ref s6, .ref s7, .ref h, .int (nI vs.length), .int (nI obF.length), .int (nI deF)])), (s1, .inl (dA 1, 2048, .inl u.1)), (s2, .inl (dA 1, 2048, .inl u.2.1)), (s3, .inl (dA 1, 2048, .inl u.2.2.1)), (s4, .inl (dA 1, 2048, .inl u.2.2.2.1)), (s5, .inl (dA 1, 2048, .inl u.2.2.2.2.1)), (s6, .inl (dA 1, 2048, .inl u.2.2.2.2.2.1)), (s7, .inl (dA 1, 32, .inl u.2.2.2.2.2.2)), (h, .inr (0, [.ref b, .int (nI t.length)])), (b, .inl (dA 0, 4096, .inl f))] [] 0 0 rfl rfl rfl (Nat.le_refl _) (Nat.le_refl _) ?_
  refine jv_aload_n C (jd D_Sh_take 13 rfl) rfl 2 rfl ?_
  refine jv_get C fl_Sh_37 0 rfl rfl (jd D_Sh_take 14 rfl) ?_
  refine jv_iload_n C (jd D_Sh_take 15 rfl) rfl 5 rfl ?_
  refine jv_callV (wr := [(x, .inr (5, [.ref tp, .ref rs, .ref sl, .ref rd, .ref ol, .ref cp, .int pl])), (sl, .inl (dA 5, 8, .inr (.inr (.inr (.inr fs))))), (h, .inr (0, [.ref b, .int (nI t.length)])), (b, .inl (dA 0, 4096, .inl f))]) C cl_Sh_113 (c_Ol_childOfRoot ol s1 s2 s3 s4 s5 s6 s7 h b 4096 u.1 u.2.1 u.2.2.1 u.2.2.2.1 u.2.2.2.2.1 u.2.2.2.2.2.1 u.2.2.2.2.2.2 f t (nI vs.length) (nI obF.length) (nI deF) vs obF i len kd1 hv0 hlen hlen2 hkd) [2, 3, 4, 5, 6, 7, 8, 9] [0, 1, 10, 11] rfl rfl rfl rfl (by decide) rfl rfl 0 rfl ⟨Nat.le_of_ble_eq_true rfl, Nat.le_of_ble_eq_true rfl⟩ ⟨Nat.le_of_ble_eq_true rfl, Nat.le_of_ble_eq_true rfl⟩ rfl rfl (Nat.le_of_ble_eq_true rfl) (jd D_Sh_take 16 rfl) (fun v5 _ k5 => ?_)
  obtain ⟨rv5, rfl, k5⟩ := k5
  refine jv_fix [0, 1, 4, 5, 6, 7, 8, 9, 10, 11, 2, 3] [(x, .inr (5, [.ref tp, .ref rs, .ref sl, .ref rd, .ref ol, .ref cp, .int pl])), (sl, .inl (dA 5, 8, .inr (.inr (.inr (.inr fs))))), (ol, .inr (3, [.ref s1, .ref s2, .ref s3, .ref s4, .ref s5, .ref s6, .ref s7, .ref h, .int (nI vs.length), .int (nI obF.length), .int (nI deF)])), (s1, .inl (dA 1, 2048, .inl u.1)), (s2, .inl (dA 1, 2048, .inl u.2.1)), (s3, .inl (dA 1, 2048, .inl u.2.2.1)), (s4, .inl (dA 1, 2048, .inl u.2.2.2.1)), (s5, .inl (dA 1, 2048, .inl u.2.2.2.2.1)), (s6, .inl (dA 1, 2048, .inl u.2.2.2.2.2.1)), (s7, .inl (dA 1, 32, .inl u.2.2.2.2.2.2)), (h, .inr (0, [.ref b, .int (nI t.length)])), (b, .inl (dA 0, 4096, .inl f))] [.int rv5] 0 0 rfl rfl rfl (Nat.le_refl _) (Nat.le_refl _) ?_
  have hr5 : rv5 = -1 := by
    rcases k5 with ⟨e1, -⟩ | ⟨j, hj, e1, -⟩
    · exact e1
    · rw [e1] at hb
      rcases hb with z | z
      · exact absurd z (nI_pos (by omega))
      · exact absurd ((nI_leI (a := len) (b := j) (by omega) (by omega)).mp z) (by omega)
  refine jv_istore C [(6, .int rv5), (5, .ref h), (4, .ref h2), (0, .ref x), (1, .int (nI k2)), (2, .int (nI k)), (3, .int i)] (jd D_Sh_take 17 rfl) (by decide) rfl ?_
  refine jv_iload C (jd D_Sh_take 18 rfl) 0 rfl ?_
  refine jv_iconst (v := -1) C (jd D_Sh_take 19 rfl) (by decide) ?_
  refine jv_icmp_ne (tgt := 50) C (jd D_Sh_take 20 rfl) (by decide) (fun c39 => absurd c39 (fun y => y hr5)) (fun c39 => ?_)
  exact jv_throw0 C hT0 hlt tw_117 u (trivial) [0, 1, 2, 3, 4, 5, 6, 7, 8, 9, 10, 11] rfl rfl (Nat.le_of_ble_eq_true rfl) (Nat.le_of_ble_eq_true rfl) (Nat.le_of_ble_eq_true rfl) (Nat.le_of_ble_eq_true rfl) (Nat.le_of_ble_eq_true rfl) (Nat.le_of_ble_eq_true rfl) (jd D_Sh_take 21 rfl) (jd D_Sh_take 22 rfl) (jd D_Sh_take 23 rfl) (jd D_Sh_take 24 rfl)

set_option maxHeartbeats 4000000 in
set_option maxRecDepth 100000 in
/-- take -/
theorem c_Sh_take_ok {l : Launch} {D : va_G} {dA : Nat → ClassId} {zz : (Nat → Nat) × (Nat → Nat)} (x tp rs sl rd ol cp : Nat) (pl : Int32) (fs : Nat → Option Nat) (h b : Nat) (f : Nat → Int32) (t : List Nat) (k : Nat) (h2 b2 : Nat) (f2 : Nat → Int32) (t2 : List Nat) (k2 : Nat) (s1 s2 s3 s4 s5 s6 s7 : Nat) (fS fE fF fC fN fH fO : Nat → Int32) (cc cd ce : Int32) (h0 : Nat) (vs : List js_E) (obF : List Nat) (deF : Nat) (len j : Nat) (y : List Nat) (hl : t.length ≤ 4096) (ht : js_tx f t) (hk : k < 8) (hh : fs k = some h) (hl2 : t2.length ≤ 4096) (ht2 : js_tx f2 t2) (hk2 : k2 < 8) (hh2 : fs k2 = some h2) (h1 : 0 < t.length) (hd : js_dr t (t.length + 1) 0 none [] [] 0 = (vs, obF, deF)) (hv0 : 0 < vs.length) (hlen : (js_en vs 0).2.2.2.1 = len) (hlen2 : len ≤ 2048) (hkd : ∀ j, j < len → js_kid vs 0 j < vs.length) (hj : j < len) (hy : js_ent t vs (js_kid vs 0 j) y) : jv_M l D dA zz y_Sh_take b_Sh_take 7 none 6 [.ref x, .int (nI k2), .int (nI k), .int (nI j)] [(x, .inr (5, [.ref tp, .ref rs, .ref sl, .ref rd, .ref ol, .ref cp, .int pl])), (sl, .inl (dA 5, 8, .inr (.inr (.inr (.inr fs))))), (ol, .inr (3, [.ref s1, .ref s2, .ref s3, .ref s4, .ref s5, .ref s6, .ref s7, .ref h0, .int cc, .int cd, .int ce])), (s1, .inl (dA 1, 2048, .inl fS)), (s2, .inl (dA 1, 2048, .inl fE)), (s3, .inl (dA 1, 2048, .inl fF)), (s4, .inl (dA 1, 2048, .inl fC)), (s5, .inl (dA 1, 2048, .inl fN)), (s6, .inl (dA 1, 2048, .inl fH)), (s7, .inl (dA 1, 32, .inl fO)), (h, .inr (0, [.ref b, .int (nI t.length)])), (b, .inl (dA 0, 4096, .inl f)), (h2, .inr (0, [.ref b2, .int (nI t2.length)])), (b2, .inl (dA 0, 4096, .inl f2))] (jv_pv fun (u : ((Nat → Int32) × (Nat → Int32) × (Nat → Int32) × (Nat → Int32) × (Nat → Int32) × (Nat → Int32) × (Nat → Int32)) × (Nat → Int32)) => js_tx u.2 y) (fun u => [(x, .inr (5, [.ref tp, .ref rs, .ref sl, .ref rd, .ref ol, .ref cp, .int pl])), (sl, .inl (dA 5, 8, .inr (.inr (.inr (.inr fs))))), (ol, .inr (3, [.ref s1, .ref s2, .ref s3, .ref s4, .ref s5, .ref s6, .ref s7, .ref h, .int (nI vs.length), .int (nI obF.length), .int (nI deF)])), (s1, .inl (dA 1, 2048, .inl u.1.1)), (s2, .inl (dA 1, 2048, .inl u.1.2.1)), (s3, .inl (dA 1, 2048, .inl u.1.2.2.1)), (s4, .inl (dA 1, 2048, .inl u.1.2.2.2.1)), (s5, .inl (dA 1, 2048, .inl u.1.2.2.2.2.1)), (s6, .inl (dA 1, 2048, .inl u.1.2.2.2.2.2.1)), (s7, .inl (dA 1, 32, .inl u.1.2.2.2.2.2.2)), (h, .inr (0, [.ref b, .int (nI t.length)])), (b, .inl (dA 0, 4096, .inl f)), (h2, .inr (0, [.ref b2, .int (nI y.length)])), (b2, .inl (dA 0, 4096, .inl u.2))]) 0 0 := by
  refine jv_M.of [(0, .ref x), (1, .int (nI k2)), (2, .int (nI k)), (3, .int (nI j))] (by decide) (Nat.le_of_ble_eq_true rfl) rfl ?_
  intro pR eR sR mR belowR methR cR AR C hr hin
  refine jv_aload_n C (jd D_Sh_take 0 rfl) rfl 0 rfl ?_
  refine jv_iload_n C (jd D_Sh_take 1 rfl) rfl 1 rfl ?_
  refine jv_callV (wr := [(ol, .inr (3, [.ref s1, .ref s2, .ref s3, .ref s4, .ref s5, .ref s6, .ref s7, .ref h0, .int cc, .int cd, .int ce])), (s1, .inl (dA 1, 2048, .inl fS)), (s2, .inl (dA 1, 2048, .inl fE)), (s3, .inl (dA 1, 2048, .inl fF)), (s4, .inl (dA 1, 2048, .inl fC)), (s5, .inl (dA 1, 2048, .inl fN)), (s6, .inl (dA 1, 2048, .inl fH)), (s7, .inl (dA 1, 32, .inl fO)), (h, .inr (0, [.ref b, .int (nI t.length)])), (b, .inl (dA 0, 4096, .inl f)), (h2, .inr (0, [.ref b2, .int (nI t2.length)])), (b2, .inl (dA 0, 4096, .inl f2))]) C cl_Sh_70 (c_Sh_slotAt_ok x tp rs sl rd ol cp pl h2 k2 fs hk2 hh2) [0, 1] [2, 3, 4, 5, 6, 7, 8, 9, 10, 11, 12, 13] rfl rfl rfl rfl (by decide) rfl rfl 0 rfl ⟨Nat.le_of_ble_eq_true rfl, Nat.le_of_ble_eq_true rfl⟩ ⟨Nat.le_of_ble_eq_true rfl, Nat.le_of_ble_eq_true rfl⟩ rfl rfl (Nat.le_of_ble_eq_true rfl) (jd D_Sh_take 2 rfl) (fun v1 _ ka2 => ?_)
  obtain ⟨a2, rfl, ka2⟩ := ka2
  refine jv_fix [12, 13, 0, 1, 2, 3, 4, 5, 6, 7, 8, 9, 10, 11] [(x, .inr (5, [.ref tp, .ref rs, .ref sl, .ref rd, .ref ol, .ref cp, .int pl])), (sl, .inl (dA 5, 8, .inr (.inr (.inr (.inr fs))))), (ol, .inr (3, [.ref s1, .ref s2, .ref s3, .ref s4, .ref s5, .ref s6, .ref s7, .ref h0, .int cc, .int cd, .int ce])), (s1, .inl (dA 1, 2048, .inl fS)), (s2, .inl (dA 1, 2048, .inl fE)), (s3, .inl (dA 1, 2048, .inl fF)), (s4, .inl (dA 1, 2048, .inl fC)), (s5, .inl (dA 1, 2048, .inl fN)), (s6, .inl (dA 1, 2048, .inl fH)), (s7, .inl (dA 1, 32, .inl fO)), (h, .inr (0, [.ref b, .int (nI t.length)])), (b, .inl (dA 0, 4096, .inl f)), (h2, .inr (0, [.ref b2, .int (nI t2.length)])), (b2, .inl (dA 0, 4096, .inl f2))] [.ref a2] 0 0 rfl rfl rfl (Nat.le_refl _) (Nat.le_refl _) ?_
  have ka2 := ka2.symm
  subst ka2
  refine jv_astore C [(4, .ref h2), (0, .ref x), (1, .int (nI k2)), (2, .int (nI k)), (3, .int (nI j))] (jd D_Sh_take 3 rfl) (by decide) rfl ?_
  refine jv_aload_n C (jd D_Sh_take 4 rfl) rfl 1 rfl ?_
  refine jv_iload_n C (jd D_Sh_take 5 rfl) rfl 3 rfl ?_
  refine jv_callV (wr := [(ol, .inr (3, [.ref s1, .ref s2, .ref s3, .ref s4, .ref s5, .ref s6, .ref s7, .ref h0, .int cc, .int cd, .int ce])), (s1, .inl (dA 1, 2048, .inl fS)), (s2, .inl (dA 1, 2048, .inl fE)), (s3, .inl (dA 1, 2048, .inl fF)), (s4, .inl (dA 1, 2048, .inl fC)), (s5, .inl (dA 1, 2048, .inl fN)), (s6, .inl (dA 1, 2048, .inl fH)), (s7, .inl (dA 1, 32, .inl fO)), (h, .inr (0, [.ref b, .int (nI t.length)])), (b, .inl (dA 0, 4096, .inl f)), (h2, .inr (0, [.ref b2, .int (nI t2.length)])), (b2, .inl (dA 0, 4096, .inl f2))]) C cl_Sh_70 (c_Sh_slotAt_ok x tp rs sl rd ol cp pl h k fs hk hh) [0, 1] [2, 3, 4, 5, 6, 7, 8, 9, 10, 11, 12, 13] rfl rfl rfl rfl (by decide) rfl rfl 0 rfl ⟨Nat.le_of_ble_eq_true rfl, Nat.le_of_ble_eq_true rfl⟩ ⟨Nat.le_of_ble_eq_true rfl, Nat.le_of_ble_eq_true rfl⟩ rfl rfl (Nat.le_of_ble_eq_true rfl) (jd D_Sh_take 6 rfl) (fun v2 _ ka1 => ?_)
  obtain ⟨a1, rfl, ka1⟩ := ka1
  refine jv_fix [12, 13, 0, 1, 2, 3, 4, 5, 6, 7, 8, 9, 10, 11] [(x, .inr (5, [.ref tp, .ref rs, .ref sl, .ref rd, .ref ol, .ref cp, .int pl])), (sl, .inl (dA 5, 8, .inr (.inr (.inr (.inr fs))))), (ol, .inr (3, [.ref s1, .ref s2, .ref s3, .ref s4, .ref s5, .ref s6, .ref s7, .ref h0, .int cc, .int cd, .int ce])), (s1, .inl (dA 1, 2048, .inl fS)), (s2, .inl (dA 1, 2048, .inl fE)), (s3, .inl (dA 1, 2048, .inl fF)), (s4, .inl (dA 1, 2048, .inl fC)), (s5, .inl (dA 1, 2048, .inl fN)), (s6, .inl (dA 1, 2048, .inl fH)), (s7, .inl (dA 1, 32, .inl fO)), (h, .inr (0, [.ref b, .int (nI t.length)])), (b, .inl (dA 0, 4096, .inl f)), (h2, .inr (0, [.ref b2, .int (nI t2.length)])), (b2, .inl (dA 0, 4096, .inl f2))] [.ref a1] 0 0 rfl rfl rfl (Nat.le_refl _) (Nat.le_refl _) ?_
  have ka1 := ka1.symm
  subst ka1
  refine jv_callS (wr := [(x, .inr (5, [.ref tp, .ref rs, .ref sl, .ref rd, .ref ol, .ref cp, .int pl])), (sl, .inl (dA 5, 8, .inr (.inr (.inr (.inr fs))))), (ol, .inr (3, [.ref s1, .ref s2, .ref s3, .ref s4, .ref s5, .ref s6, .ref s7, .ref h0, .int cc, .int cd, .int ce])), (s1, .inl (dA 1, 2048, .inl fS)), (s2, .inl (dA 1, 2048, .inl fE)), (s3, .inl (dA 1, 2048, .inl fF)), (s4, .inl (dA 1, 2048, .inl fC)), (s5, .inl (dA 1, 2048, .inl fN)), (s6, .inl (dA 1, 2048, .inl fH)), (s7, .inl (dA 1, 32, .inl fO)), (h2, .inr (0, [.ref b2, .int (nI t2.length)])), (b2, .inl (dA 0, 4096, .inl f2))]) C cl_Sh_88 (c_Sh_held_ok h b 4096 f t h1 (by omega)) [10, 11] [0, 1, 2, 3, 4, 5, 6, 7, 8, 9, 12, 13] rfl rfl rfl rfl (by decide) ⟨Nat.le_of_ble_eq_true rfl, Nat.le_of_ble_eq_true rfl⟩ ⟨Nat.le_of_ble_eq_true rfl, Nat.le_of_ble_eq_true rfl⟩ rfl rfl (Nat.le_of_ble_eq_true rfl) (jd D_Sh_take 7 rfl) (fun v3 _ ka3 => ?_)
  obtain ⟨a3, rfl, ka3⟩ := ka3
  refine jv_fix [0, 1, 2, 3, 4, 5, 6, 7, 8, 9, 12, 13, 10, 11] [(x, .inr (5, [.ref tp, .ref rs, .ref sl, .ref rd, .ref ol, .ref cp, .int pl])), (sl, .inl (dA 5, 8, .inr (.inr (.inr (.inr fs))))), (ol, .inr (3, [.ref s1, .ref s2, .ref s3, .ref s4, .ref s5, .ref s6, .ref s7, .ref h0, .int cc, .int cd, .int ce])), (s1, .inl (dA 1, 2048, .inl fS)), (s2, .inl (dA 1, 2048, .inl fE)), (s3, .inl (dA 1, 2048, .inl fF)), (s4, .inl (dA 1, 2048, .inl fC)), (s5, .inl (dA 1, 2048, .inl fN)), (s6, .inl (dA 1, 2048, .inl fH)), (s7, .inl (dA 1, 32, .inl fO)), (h, .inr (0, [.ref b, .int (nI t.length)])), (b, .inl (dA 0, 4096, .inl f)), (h2, .inr (0, [.ref b2, .int (nI t2.length)])), (b2, .inl (dA 0, 4096, .inl f2))] [.ref a3] 0 0 rfl rfl rfl (Nat.le_refl _) (Nat.le_refl _) ?_
  have ka3 := ka3.symm
  subst ka3
  refine jv_astore C [(5, .ref h), (4, .ref h2), (0, .ref x), (1, .int (nI k2)), (2, .int (nI k)), (3, .int (nI j))] (jd D_Sh_take 8 rfl) (by decide) rfl ?_
  refine jv_aload_n C (jd D_Sh_take 9 rfl) rfl 2 rfl ?_
  refine jv_get C fl_Sh_37 0 rfl rfl (jd D_Sh_take 10 rfl) ?_
  refine jv_aload C (jd D_Sh_take 11 rfl) 0 rfl ?_
  refine jv_callV (wr := [(x, .inr (5, [.ref tp, .ref rs, .ref sl, .ref rd, .ref ol, .ref cp, .int pl])), (sl, .inl (dA 5, 8, .inr (.inr (.inr (.inr fs))))), (h2, .inr (0, [.ref b2, .int (nI t2.length)])), (b2, .inl (dA 0, 4096, .inl f2))]) C cl_Sh_103 (c_Ol_draw ol s1 s2 s3 s4 s5 s6 s7 h b 4096 fS fE fF fC fN fH fO f t h0 cc cd ce vs obF deF hl (by decide) ht hd) [2, 3, 4, 5, 6, 7, 8, 9, 10, 11] [0, 1, 12, 13] rfl rfl rfl rfl (by decide) rfl rfl 0 rfl ⟨Nat.le_of_ble_eq_true rfl, Nat.le_of_ble_eq_true rfl⟩ ⟨Nat.le_of_ble_eq_true rfl, Nat.le_of_ble_eq_true rfl⟩ rfl rfl (Nat.le_of_ble_eq_true rfl) (jd D_Sh_take 12 rfl) (fun v4 u kd1 => ?_)
  obtain ⟨rfl, kd1⟩ := kd1
  refine jv_fix [0, 1, 4, 5, 6, 7, 8, 9, 10, 11, 12, 13, 2, 3] [(x, .inr (5, [.ref tp, .ref rs, .ref sl, .ref rd, .ref ol, .ref cp, .int pl])), (sl, .inl (dA 5, 8, .inr (.inr (.inr (.inr fs))))), (ol, .inr (3, [.ref s1, .ref s2, .ref s3, .ref s4, .ref s5, .ref s6, .ref s7, .ref h, .int (nI vs.length), .int (nI obF.length), .int (nI deF)])), (s1, .inl (dA 1, 2048, .inl u.1)), (s2, .inl (dA 1, 2048, .inl u.2.1)), (s3, .inl (dA 1, 2048, .inl u.2.2.1)), (s4, .inl (dA 1, 2048, .inl u.2.2.2.1)), (s5, .inl (dA 1, 2048, .inl u.2.2.2.2.1)), (s6, .inl (dA 1, 2048, .inl u.2.2.2.2.2.1)), (s7, .inl (dA 1, 32, .inl u.2.2.2.2.2.2)), (h, .inr (0, [.ref b, .int (nI t.length)])), (b, .inl (dA 0, 4096, .inl f)), (h2, .inr (0, [.ref b2, .int (nI t2.length)])), (b2, .inl (dA 0, 4096, .inl f2))] [] 0 0 rfl rfl rfl (Nat.le_refl _) (Nat.le_refl _) ?_
  refine jv_aload_n C (jd D_Sh_take 13 rfl) rfl 2 rfl ?_
  refine jv_get C fl_Sh_37 0 rfl rfl (jd D_Sh_take 14 rfl) ?_
  refine jv_iload_n C (jd D_Sh_take 15 rfl) rfl 5 rfl ?_
  refine jv_callV (wr := [(x, .inr (5, [.ref tp, .ref rs, .ref sl, .ref rd, .ref ol, .ref cp, .int pl])), (sl, .inl (dA 5, 8, .inr (.inr (.inr (.inr fs))))), (h, .inr (0, [.ref b, .int (nI t.length)])), (b, .inl (dA 0, 4096, .inl f)), (h2, .inr (0, [.ref b2, .int (nI t2.length)])), (b2, .inl (dA 0, 4096, .inl f2))]) C cl_Sh_113 (c_Ol_childOfRoot ol s1 s2 s3 s4 s5 s6 s7 h b 4096 u.1 u.2.1 u.2.2.1 u.2.2.2.1 u.2.2.2.2.1 u.2.2.2.2.2.1 u.2.2.2.2.2.2 f t (nI vs.length) (nI obF.length) (nI deF) vs obF (nI j) len kd1 hv0 hlen hlen2 hkd) [2, 3, 4, 5, 6, 7, 8, 9] [0, 1, 10, 11, 12, 13] rfl rfl rfl rfl (by decide) rfl rfl 0 rfl ⟨Nat.le_of_ble_eq_true rfl, Nat.le_of_ble_eq_true rfl⟩ ⟨Nat.le_of_ble_eq_true rfl, Nat.le_of_ble_eq_true rfl⟩ rfl rfl (Nat.le_of_ble_eq_true rfl) (jd D_Sh_take 16 rfl) (fun v5 _ k5 => ?_)
  obtain ⟨rv5, rfl, k5⟩ := k5
  refine jv_fix [0, 1, 6, 7, 8, 9, 10, 11, 12, 13, 2, 3, 4, 5] [(x, .inr (5, [.ref tp, .ref rs, .ref sl, .ref rd, .ref ol, .ref cp, .int pl])), (sl, .inl (dA 5, 8, .inr (.inr (.inr (.inr fs))))), (ol, .inr (3, [.ref s1, .ref s2, .ref s3, .ref s4, .ref s5, .ref s6, .ref s7, .ref h, .int (nI vs.length), .int (nI obF.length), .int (nI deF)])), (s1, .inl (dA 1, 2048, .inl u.1)), (s2, .inl (dA 1, 2048, .inl u.2.1)), (s3, .inl (dA 1, 2048, .inl u.2.2.1)), (s4, .inl (dA 1, 2048, .inl u.2.2.2.1)), (s5, .inl (dA 1, 2048, .inl u.2.2.2.2.1)), (s6, .inl (dA 1, 2048, .inl u.2.2.2.2.2.1)), (s7, .inl (dA 1, 32, .inl u.2.2.2.2.2.2)), (h, .inr (0, [.ref b, .int (nI t.length)])), (b, .inl (dA 0, 4096, .inl f)), (h2, .inr (0, [.ref b2, .int (nI t2.length)])), (b2, .inl (dA 0, 4096, .inl f2))] [.int rv5] 0 0 rfl rfl rfl (Nat.le_refl _) (Nat.le_refl _) ?_
  have hr5 : rv5 = nI (js_kid vs 0 j) := by
    rcases k5 with ⟨-, z | z⟩ | ⟨j2, hj2, e1, e2⟩
    · exact absurd z (nI_pos (by omega))
    · exact absurd ((nI_leI (a := len) (b := j) (by omega) (by omega)).mp z) (by omega)
    · rw [(nI_eq (by omega) (by omega)).mp e1]; exact e2
  subst hr5
  obtain ⟨y1, y2, y3, y4⟩ := hy
  have hv := kd1.1
  refine jv_istore C [(6, .int (nI (js_kid vs 0 j))), (5, .ref h), (4, .ref h2), (0, .ref x), (1, .int (nI k2)), (2, .int (nI k)), (3, .int (nI j))] (jd D_Sh_take 17 rfl) (by decide) rfl ?_
  refine jv_iload C (jd D_Sh_take 18 rfl) 0 rfl ?_
  refine jv_iconst (v := -1) C (jd D_Sh_take 19 rfl) (by decide) ?_
  refine jv_icmp_ne (tgt := 50) C (jd D_Sh_take 20 rfl) (by decide) (fun c39 => ?_) (fun c39 => absurd c39 (js_nm1 (by omega)))
  refine jv_aload C (jd D_Sh_take 25 rfl) 2 rfl ?_
  refine jv_aload C (jd D_Sh_take 26 rfl) 1 rfl ?_
  refine jv_aload_n C (jd D_Sh_take 27 rfl) rfl 3 rfl ?_
  refine jv_get C fl_Sh_37 0 rfl rfl (jd D_Sh_take 28 rfl) ?_
  refine jv_iload C (jd D_Sh_take 29 rfl) 0 rfl ?_
  refine jv_callV (wr := [(x, .inr (5, [.ref tp, .ref rs, .ref sl, .ref rd, .ref ol, .ref cp, .int pl])), (sl, .inl (dA 5, 8, .inr (.inr (.inr (.inr fs))))), (s2, .inl (dA 1, 2048, .inl u.2.1)), (s3, .inl (dA 1, 2048, .inl u.2.2.1)), (s4, .inl (dA 1, 2048, .inl u.2.2.2.1)), (s5, .inl (dA 1, 2048, .inl u.2.2.2.2.1)), (s6, .inl (dA 1, 2048, .inl u.2.2.2.2.2.1)), (s7, .inl (dA 1, 32, .inl u.2.2.2.2.2.2)), (h, .inr (0, [.ref b, .int (nI t.length)])), (b, .inl (dA 0, 4096, .inl f)), (h2, .inr (0, [.ref b2, .int (nI t2.length)])), (b2, .inl (dA 0, 4096, .inl f2))]) C cl_Sh_120 (c_Ol_startOf ol s1 s2 s3 s4 s5 s6 s7 h (nI vs.length) (nI obF.length) (nI deF) (js_kid vs 0 j) u.1 (by omega)) [2, 3] [0, 1, 4, 5, 6, 7, 8, 9, 10, 11, 12, 13] rfl rfl rfl rfl (by decide) rfl rfl 0 rfl ⟨Nat.le_of_ble_eq_true rfl, Nat.le_of_ble_eq_true rfl⟩ ⟨Nat.le_of_ble_eq_true rfl, Nat.le_of_ble_eq_true rfl⟩ rfl rfl (Nat.le_of_ble_eq_true rfl) (jd D_Sh_take 30 rfl) (fun v6 _ k6 => ?_)
  obtain ⟨rv6, rfl, k6⟩ := k6
  refine jv_fix [0, 1, 12, 13, 2, 3, 4, 5, 6, 7, 8, 9, 10, 11] [(x, .inr (5, [.ref tp, .ref rs, .ref sl, .ref rd, .ref ol, .ref cp, .int pl])), (sl, .inl (dA 5, 8, .inr (.inr (.inr (.inr fs))))), (ol, .inr (3, [.ref s1, .ref s2, .ref s3, .ref s4, .ref s5, .ref s6, .ref s7, .ref h, .int (nI vs.length), .int (nI obF.length), .int (nI deF)])), (s1, .inl (dA 1, 2048, .inl u.1)), (s2, .inl (dA 1, 2048, .inl u.2.1)), (s3, .inl (dA 1, 2048, .inl u.2.2.1)), (s4, .inl (dA 1, 2048, .inl u.2.2.2.1)), (s5, .inl (dA 1, 2048, .inl u.2.2.2.2.1)), (s6, .inl (dA 1, 2048, .inl u.2.2.2.2.2.1)), (s7, .inl (dA 1, 32, .inl u.2.2.2.2.2.2)), (h, .inr (0, [.ref b, .int (nI t.length)])), (b, .inl (dA 0, 4096, .inl f)), (h2, .inr (0, [.ref b2, .int (nI t2.length)])), (b2, .inl (dA 0, 4096, .inl f2))] [.int rv6, .ref h, .ref h2] 0 0 rfl rfl rfl (Nat.le_refl _) (Nat.le_refl _) ?_
  rw [(kd1.en y1).1] at k6
  subst k6
  refine jv_aload_n C (jd D_Sh_take 31 rfl) rfl 3 rfl ?_
  refine jv_get C fl_Sh_37 0 rfl rfl (jd D_Sh_take 32 rfl) ?_
  refine jv_iload C (jd D_Sh_take 33 rfl) 0 rfl ?_
  refine jv_callV (wr := [(x, .inr (5, [.ref tp, .ref rs, .ref sl, .ref rd, .ref ol, .ref cp, .int pl])), (sl, .inl (dA 5, 8, .inr (.inr (.inr (.inr fs))))), (s1, .inl (dA 1, 2048, .inl u.1)), (s3, .inl (dA 1, 2048, .inl u.2.2.1)), (s4, .inl (dA 1, 2048, .inl u.2.2.2.1)), (s5, .inl (dA 1, 2048, .inl u.2.2.2.2.1)), (s6, .inl (dA 1, 2048, .inl u.2.2.2.2.2.1)), (s7, .inl (dA 1, 32, .inl u.2.2.2.2.2.2)), (h, .inr (0, [.ref b, .int (nI t.length)])), (b, .inl (dA 0, 4096, .inl f)), (h2, .inr (0, [.ref b2, .int (nI t2.length)])), (b2, .inl (dA 0, 4096, .inl f2))]) C cl_Sh_123 (c_Ol_endOf ol s1 s2 s3 s4 s5 s6 s7 h (nI vs.length) (nI obF.length) (nI deF) (js_kid vs 0 j) u.2.1 (by omega)) [2, 4] [0, 1, 3, 5, 6, 7, 8, 9, 10, 11, 12, 13] rfl rfl rfl rfl (by decide) rfl rfl 0 rfl ⟨Nat.le_of_ble_eq_true rfl, Nat.le_of_ble_eq_true rfl⟩ ⟨Nat.le_of_ble_eq_true rfl, Nat.le_of_ble_eq_true rfl⟩ rfl rfl (Nat.le_of_ble_eq_true rfl) (jd D_Sh_take 34 rfl) (fun v7 _ k7 => ?_)
  obtain ⟨rv7, rfl, k7⟩ := k7
  refine jv_fix [0, 1, 12, 2, 13, 3, 4, 5, 6, 7, 8, 9, 10, 11] [(x, .inr (5, [.ref tp, .ref rs, .ref sl, .ref rd, .ref ol, .ref cp, .int pl])), (sl, .inl (dA 5, 8, .inr (.inr (.inr (.inr fs))))), (ol, .inr (3, [.ref s1, .ref s2, .ref s3, .ref s4, .ref s5, .ref s6, .ref s7, .ref h, .int (nI vs.length), .int (nI obF.length), .int (nI deF)])), (s1, .inl (dA 1, 2048, .inl u.1)), (s2, .inl (dA 1, 2048, .inl u.2.1)), (s3, .inl (dA 1, 2048, .inl u.2.2.1)), (s4, .inl (dA 1, 2048, .inl u.2.2.2.1)), (s5, .inl (dA 1, 2048, .inl u.2.2.2.2.1)), (s6, .inl (dA 1, 2048, .inl u.2.2.2.2.2.1)), (s7, .inl (dA 1, 32, .inl u.2.2.2.2.2.2)), (h, .inr (0, [.ref b, .int (nI t.length)])), (b, .inl (dA 0, 4096, .inl f)), (h2, .inr (0, [.ref b2, .int (nI t2.length)])), (b2, .inl (dA 0, 4096, .inl f2))] [.int rv7, .int (nI (js_en vs (js_kid vs 0 j)).1), .ref h, .ref h2] 0 0 rfl rfl rfl (Nat.le_refl _) (Nat.le_refl _) ?_
  rw [(kd1.en y1).2.1] at k7
  subst k7
  refine jv_callV (wr := [(x, .inr (5, [.ref tp, .ref rs, .ref sl, .ref rd, .ref ol, .ref cp, .int pl])), (sl, .inl (dA 5, 8, .inr (.inr (.inr (.inr fs))))), (ol, .inr (3, [.ref s1, .ref s2, .ref s3, .ref s4, .ref s5, .ref s6, .ref s7, .ref h, .int (nI vs.length), .int (nI obF.length), .int (nI deF)])), (s1, .inl (dA 1, 2048, .inl u.1)), (s2, .inl (dA 1, 2048, .inl u.2.1)), (s3, .inl (dA 1, 2048, .inl u.2.2.1)), (s4, .inl (dA 1, 2048, .inl u.2.2.2.1)), (s5, .inl (dA 1, 2048, .inl u.2.2.2.2.1)), (s6, .inl (dA 1, 2048, .inl u.2.2.2.2.2.1)), (s7, .inl (dA 1, 32, .inl u.2.2.2.2.2.2))]) C cl_Sh_84 (c_Tx_become h2 b2 4096 f2 t2 h b 4096 f t (js_en vs (js_kid vs 0 j)).1 (js_en vs (js_kid vs 0 j)).2.1 hl2 (by decide) ht2 hl (by decide) ht (by omega) (by omega) (by omega)) [12, 13, 10, 11] [0, 1, 2, 3, 4, 5, 6, 7, 8, 9] rfl rfl rfl rfl (by decide) rfl rfl 0 rfl ⟨Nat.le_of_ble_eq_true rfl, Nat.le_of_ble_eq_true rfl⟩ ⟨Nat.le_of_ble_eq_true rfl, Nat.le_of_ble_eq_true rfl⟩ rfl rfl (Nat.le_of_ble_eq_true rfl) (jd D_Sh_take 35 rfl) (fun v8 g k8 => ?_)
  obtain ⟨rfl, k8⟩ := k8
  refine jv_fix [0, 1, 2, 3, 4, 5, 6, 7, 8, 9, 12, 13, 10, 11] [(x, .inr (5, [.ref tp, .ref rs, .ref sl, .ref rd, .ref ol, .ref cp, .int pl])), (sl, .inl (dA 5, 8, .inr (.inr (.inr (.inr fs))))), (ol, .inr (3, [.ref s1, .ref s2, .ref s3, .ref s4, .ref s5, .ref s6, .ref s7, .ref h, .int (nI vs.length), .int (nI obF.length), .int (nI deF)])), (s1, .inl (dA 1, 2048, .inl u.1)), (s2, .inl (dA 1, 2048, .inl u.2.1)), (s3, .inl (dA 1, 2048, .inl u.2.2.1)), (s4, .inl (dA 1, 2048, .inl u.2.2.2.1)), (s5, .inl (dA 1, 2048, .inl u.2.2.2.2.1)), (s6, .inl (dA 1, 2048, .inl u.2.2.2.2.2.1)), (s7, .inl (dA 1, 32, .inl u.2.2.2.2.2.2)), (h, .inr (0, [.ref b, .int (nI t.length)])), (b, .inl (dA 0, 4096, .inl f)), (h2, .inr (0, [.ref b2, .int (nI ((t.drop (js_en vs (js_kid vs 0 j)).1).take ((js_en vs (js_kid vs 0 j)).2.1 - (js_en vs (js_kid vs 0 j)).1)).length)])), (b2, .inl (dA 0, 4096, .inl g))] [] 0 0 rfl rfl rfl (Nat.le_refl _) (Nat.le_refl _) ?_
  have e8 : (t.drop (js_en vs (js_kid vs 0 j)).1).take ((js_en vs (js_kid vs 0 j)).2.1 - (js_en vs (js_kid vs 0 j)).1) = y := y4
  rw [e8] at k8
  refine jv_weq (ws' := [(x, .inr (5, [.ref tp, .ref rs, .ref sl, .ref rd, .ref ol, .ref cp, .int pl])), (sl, .inl (dA 5, 8, .inr (.inr (.inr (.inr fs))))), (ol, .inr (3, [.ref s1, .ref s2, .ref s3, .ref s4, .ref s5, .ref s6, .ref s7, .ref h, .int (nI vs.length), .int (nI obF.length), .int (nI deF)])), (s1, .inl (dA 1, 2048, .inl u.1)), (s2, .inl (dA 1, 2048, .inl u.2.1)), (s3, .inl (dA 1, 2048, .inl u.2.2.1)), (s4, .inl (dA 1, 2048, .inl u.2.2.2.1)), (s5, .inl (dA 1, 2048, .inl u.2.2.2.2.1)), (s6, .inl (dA 1, 2048, .inl u.2.2.2.2.2.1)), (s7, .inl (dA 1, 32, .inl u.2.2.2.2.2.2)), (h, .inr (0, [.ref b, .int (nI t.length)])), (b, .inl (dA 0, 4096, .inl f)), (h2, .inr (0, [.ref b2, .int (nI y.length)])), (b2, .inl (dA 0, 4096, .inl g))]) (by rw [e8]) ?_
  exact jv_vret C hr (u, g) (k8) [0, 1, 2, 3, 4, 5, 6, 7, 8, 9, 10, 11, 12, 13] rfl rfl (Nat.le_of_ble_eq_true rfl) (Nat.le_of_ble_eq_true rfl) (jd D_Sh_take 36 rfl)

set_option maxHeartbeats 4000000 in
set_option maxRecDepth 100000 in
/-- take -/
theorem c_Sh_take_oks {l : Launch} {D : va_G} {dA : Nat → ClassId} {zz : (Nat → Nat) × (Nat → Nat)} (x tp rs sl rd ol cp : Nat) (pl : Int32) (fs : Nat → Option Nat) (h b : Nat) (f : Nat → Int32) (t : List Nat) (k : Nat) (s1 s2 s3 s4 s5 s6 s7 : Nat) (fS fE fF fC fN fH fO : Nat → Int32) (cc cd ce : Int32) (h0 : Nat) (vs : List js_E) (obF : List Nat) (deF : Nat) (len j : Nat) (y : List Nat) (hl : t.length ≤ 4096) (ht : js_tx f t) (hk : k < 8) (hh : fs k = some h) (h1 : 0 < t.length) (hd : js_dr t (t.length + 1) 0 none [] [] 0 = (vs, obF, deF)) (hv0 : 0 < vs.length) (hlen : (js_en vs 0).2.2.2.1 = len) (hlen2 : len ≤ 2048) (hkd : ∀ j, j < len → js_kid vs 0 j < vs.length) (hj : j < len) (hy : js_ent t vs (js_kid vs 0 j) y) : jv_M l D dA zz y_Sh_take b_Sh_take 7 none 6 [.ref x, .int (nI k), .int (nI k), .int (nI j)] [(x, .inr (5, [.ref tp, .ref rs, .ref sl, .ref rd, .ref ol, .ref cp, .int pl])), (sl, .inl (dA 5, 8, .inr (.inr (.inr (.inr fs))))), (ol, .inr (3, [.ref s1, .ref s2, .ref s3, .ref s4, .ref s5, .ref s6, .ref s7, .ref h0, .int cc, .int cd, .int ce])), (s1, .inl (dA 1, 2048, .inl fS)), (s2, .inl (dA 1, 2048, .inl fE)), (s3, .inl (dA 1, 2048, .inl fF)), (s4, .inl (dA 1, 2048, .inl fC)), (s5, .inl (dA 1, 2048, .inl fN)), (s6, .inl (dA 1, 2048, .inl fH)), (s7, .inl (dA 1, 32, .inl fO)), (h, .inr (0, [.ref b, .int (nI t.length)])), (b, .inl (dA 0, 4096, .inl f))] (jv_pv fun (u : ((Nat → Int32) × (Nat → Int32) × (Nat → Int32) × (Nat → Int32) × (Nat → Int32) × (Nat → Int32) × (Nat → Int32)) × (Nat → Int32)) => js_tx u.2 y) (fun u => [(x, .inr (5, [.ref tp, .ref rs, .ref sl, .ref rd, .ref ol, .ref cp, .int pl])), (sl, .inl (dA 5, 8, .inr (.inr (.inr (.inr fs))))), (ol, .inr (3, [.ref s1, .ref s2, .ref s3, .ref s4, .ref s5, .ref s6, .ref s7, .ref h, .int (nI vs.length), .int (nI obF.length), .int (nI deF)])), (s1, .inl (dA 1, 2048, .inl u.1.1)), (s2, .inl (dA 1, 2048, .inl u.1.2.1)), (s3, .inl (dA 1, 2048, .inl u.1.2.2.1)), (s4, .inl (dA 1, 2048, .inl u.1.2.2.2.1)), (s5, .inl (dA 1, 2048, .inl u.1.2.2.2.2.1)), (s6, .inl (dA 1, 2048, .inl u.1.2.2.2.2.2.1)), (s7, .inl (dA 1, 32, .inl u.1.2.2.2.2.2.2)), (h, .inr (0, [.ref b, .int (nI y.length)])), (b, .inl (dA 0, 4096, .inl u.2))]) 0 0 := by
  refine jv_M.of [(0, .ref x), (1, .int (nI k)), (2, .int (nI k)), (3, .int (nI j))] (by decide) (Nat.le_of_ble_eq_true rfl) rfl ?_
  intro pR eR sR mR belowR methR cR AR C hr hin
  refine jv_aload_n C (jd D_Sh_take 0 rfl) rfl 0 rfl ?_
  refine jv_iload_n C (jd D_Sh_take 1 rfl) rfl 1 rfl ?_
  refine jv_callV (wr := [(ol, .inr (3, [.ref s1, .ref s2, .ref s3, .ref s4, .ref s5, .ref s6, .ref s7, .ref h0, .int cc, .int cd, .int ce])), (s1, .inl (dA 1, 2048, .inl fS)), (s2, .inl (dA 1, 2048, .inl fE)), (s3, .inl (dA 1, 2048, .inl fF)), (s4, .inl (dA 1, 2048, .inl fC)), (s5, .inl (dA 1, 2048, .inl fN)), (s6, .inl (dA 1, 2048, .inl fH)), (s7, .inl (dA 1, 32, .inl fO)), (h, .inr (0, [.ref b, .int (nI t.length)])), (b, .inl (dA 0, 4096, .inl f))]) C cl_Sh_70 (c_Sh_slotAt_ok x tp rs sl rd ol cp pl h k fs hk hh) [0, 1] [2, 3, 4, 5, 6, 7, 8, 9, 10, 11] rfl rfl rfl rfl (by decide) rfl rfl 0 rfl ⟨Nat.le_of_ble_eq_true rfl, Nat.le_of_ble_eq_true rfl⟩ ⟨Nat.le_of_ble_eq_true rfl, Nat.le_of_ble_eq_true rfl⟩ rfl rfl (Nat.le_of_ble_eq_true rfl) (jd D_Sh_take 2 rfl) (fun v1 _ ka2 => ?_)
  obtain ⟨a2, rfl, ka2⟩ := ka2
  refine jv_fix [10, 11, 0, 1, 2, 3, 4, 5, 6, 7, 8, 9] [(x, .inr (5, [.ref tp, .ref rs, .ref sl, .ref rd, .ref ol, .ref cp, .int pl])), (sl, .inl (dA 5, 8, .inr (.inr (.inr (.inr fs))))), (ol, .inr (3, [.ref s1, .ref s2, .ref s3, .ref s4, .ref s5, .ref s6, .ref s7, .ref h0, .int cc, .int cd, .int ce])), (s1, .inl (dA 1, 2048, .inl fS)), (s2, .inl (dA 1, 2048, .inl fE)), (s3, .inl (dA 1, 2048, .inl fF)), (s4, .inl (dA 1, 2048, .inl fC)), (s5, .inl (dA 1, 2048, .inl fN)), (s6, .inl (dA 1, 2048, .inl fH)), (s7, .inl (dA 1, 32, .inl fO)), (h, .inr (0, [.ref b, .int (nI t.length)])), (b, .inl (dA 0, 4096, .inl f))] [.ref a2] 0 0 rfl rfl rfl (Nat.le_refl _) (Nat.le_refl _) ?_
  have ka2 := ka2.symm
  subst ka2
  refine jv_astore C [(4, .ref h), (0, .ref x), (1, .int (nI k)), (2, .int (nI k)), (3, .int (nI j))] (jd D_Sh_take 3 rfl) (by decide) rfl ?_
  refine jv_aload_n C (jd D_Sh_take 4 rfl) rfl 1 rfl ?_
  refine jv_iload_n C (jd D_Sh_take 5 rfl) rfl 3 rfl ?_
  refine jv_callV (wr := [(ol, .inr (3, [.ref s1, .ref s2, .ref s3, .ref s4, .ref s5, .ref s6, .ref s7, .ref h0, .int cc, .int cd, .int ce])), (s1, .inl (dA 1, 2048, .inl fS)), (s2, .inl (dA 1, 2048, .inl fE)), (s3, .inl (dA 1, 2048, .inl fF)), (s4, .inl (dA 1, 2048, .inl fC)), (s5, .inl (dA 1, 2048, .inl fN)), (s6, .inl (dA 1, 2048, .inl fH)), (s7, .inl (dA 1, 32, .inl fO)), (h, .inr (0, [.ref b, .int (nI t.length)])), (b, .inl (dA 0, 4096, .inl f))]) C cl_Sh_70 (c_Sh_slotAt_ok x tp rs sl rd ol cp pl h k fs hk hh) [0, 1] [2, 3, 4, 5, 6, 7, 8, 9, 10, 11] rfl rfl rfl rfl (by decide) rfl rfl 0 rfl ⟨Nat.le_of_ble_eq_true rfl, Nat.le_of_ble_eq_true rfl⟩ ⟨Nat.le_of_ble_eq_true rfl, Nat.le_of_ble_eq_true rfl⟩ rfl rfl (Nat.le_of_ble_eq_true rfl) (jd D_Sh_take 6 rfl) (fun v2 _ ka1 => ?_)
  obtain ⟨a1, rfl, ka1⟩ := ka1
  refine jv_fix [10, 11, 0, 1, 2, 3, 4, 5, 6, 7, 8, 9] [(x, .inr (5, [.ref tp, .ref rs, .ref sl, .ref rd, .ref ol, .ref cp, .int pl])), (sl, .inl (dA 5, 8, .inr (.inr (.inr (.inr fs))))), (ol, .inr (3, [.ref s1, .ref s2, .ref s3, .ref s4, .ref s5, .ref s6, .ref s7, .ref h0, .int cc, .int cd, .int ce])), (s1, .inl (dA 1, 2048, .inl fS)), (s2, .inl (dA 1, 2048, .inl fE)), (s3, .inl (dA 1, 2048, .inl fF)), (s4, .inl (dA 1, 2048, .inl fC)), (s5, .inl (dA 1, 2048, .inl fN)), (s6, .inl (dA 1, 2048, .inl fH)), (s7, .inl (dA 1, 32, .inl fO)), (h, .inr (0, [.ref b, .int (nI t.length)])), (b, .inl (dA 0, 4096, .inl f))] [.ref a1] 0 0 rfl rfl rfl (Nat.le_refl _) (Nat.le_refl _) ?_
  have ka1 := ka1.symm
  subst ka1
  refine jv_callS (wr := [(x, .inr (5, [.ref tp, .ref rs, .ref sl, .ref rd, .ref ol, .ref cp, .int pl])), (sl, .inl (dA 5, 8, .inr (.inr (.inr (.inr fs))))), (ol, .inr (3, [.ref s1, .ref s2, .ref s3, .ref s4, .ref s5, .ref s6, .ref s7, .ref h0, .int cc, .int cd, .int ce])), (s1, .inl (dA 1, 2048, .inl fS)), (s2, .inl (dA 1, 2048, .inl fE)), (s3, .inl (dA 1, 2048, .inl fF)), (s4, .inl (dA 1, 2048, .inl fC)), (s5, .inl (dA 1, 2048, .inl fN)), (s6, .inl (dA 1, 2048, .inl fH)), (s7, .inl (dA 1, 32, .inl fO))]) C cl_Sh_88 (c_Sh_held_ok h b 4096 f t h1 (by omega)) [10, 11] [0, 1, 2, 3, 4, 5, 6, 7, 8, 9] rfl rfl rfl rfl (by decide) ⟨Nat.le_of_ble_eq_true rfl, Nat.le_of_ble_eq_true rfl⟩ ⟨Nat.le_of_ble_eq_true rfl, Nat.le_of_ble_eq_true rfl⟩ rfl rfl (Nat.le_of_ble_eq_true rfl) (jd D_Sh_take 7 rfl) (fun v3 _ ka3 => ?_)
  obtain ⟨a3, rfl, ka3⟩ := ka3
  refine jv_fix [0, 1, 2, 3, 4, 5, 6, 7, 8, 9, 10, 11] [(x, .inr (5, [.ref tp, .ref rs, .ref sl, .ref rd, .ref ol, .ref cp, .int pl])), (sl, .inl (dA 5, 8, .inr (.inr (.inr (.inr fs))))), (ol, .inr (3, [.ref s1, .ref s2, .ref s3, .ref s4, .ref s5, .ref s6, .ref s7, .ref h0, .int cc, .int cd, .int ce])), (s1, .inl (dA 1, 2048, .inl fS)), (s2, .inl (dA 1, 2048, .inl fE)), (s3, .inl (dA 1, 2048, .inl fF)), (s4, .inl (dA 1, 2048, .inl fC)), (s5, .inl (dA 1, 2048, .inl fN)), (s6, .inl (dA 1, 2048, .inl fH)), (s7, .inl (dA 1, 32, .inl fO)), (h, .inr (0, [.ref b, .int (nI t.length)])), (b, .inl (dA 0, 4096, .inl f))] [.ref a3] 0 0 rfl rfl rfl (Nat.le_refl _) (Nat.le_refl _) ?_
  have ka3 := ka3.symm
  subst ka3
  refine jv_astore C [(5, .ref h), (4, .ref h), (0, .ref x), (1, .int (nI k)), (2, .int (nI k)), (3, .int (nI j))] (jd D_Sh_take 8 rfl) (by decide) rfl ?_
  refine jv_aload_n C (jd D_Sh_take 9 rfl) rfl 2 rfl ?_
  refine jv_get C fl_Sh_37 0 rfl rfl (jd D_Sh_take 10 rfl) ?_
  refine jv_aload C (jd D_Sh_take 11 rfl) 0 rfl ?_
  refine jv_callV (wr := [(x, .inr (5, [.ref tp, .ref rs, .ref sl, .ref rd, .ref ol, .ref cp, .int pl])), (sl, .inl (dA 5, 8, .inr (.inr (.inr (.inr fs)))))]) C cl_Sh_103 (c_Ol_draw ol s1 s2 s3 s4 s5 s6 s7 h b 4096 fS fE fF fC fN fH fO f t h0 cc cd ce vs obF deF hl (by decide) ht hd) [2, 3, 4, 5, 6, 7, 8, 9, 10, 11] [0, 1] rfl rfl rfl rfl (by decide) rfl rfl 0 rfl ⟨Nat.le_of_ble_eq_true rfl, Nat.le_of_ble_eq_true rfl⟩ ⟨Nat.le_of_ble_eq_true rfl, Nat.le_of_ble_eq_true rfl⟩ rfl rfl (Nat.le_of_ble_eq_true rfl) (jd D_Sh_take 12 rfl) (fun v4 u kd1 => ?_)
  obtain ⟨rfl, kd1⟩ := kd1
  refine jv_fix [0, 1, 2, 3, 4, 5, 6, 7, 8, 9, 10, 11] [(x, .inr (5, [.ref tp, .ref rs, .ref sl, .ref rd, .ref ol, .ref cp, .int pl])), (sl, .inl (dA 5, 8, .inr (.inr (.inr (.inr fs))))), (ol, .inr (3, [.ref s1, .ref s2, .ref s3, .ref s4, .ref s5, .ref s6, .ref s7, .ref h, .int (nI vs.length), .int (nI obF.length), .int (nI deF)])), (s1, .inl (dA 1, 2048, .inl u.1)), (s2, .inl (dA 1, 2048, .inl u.2.1)), (s3, .inl (dA 1, 2048, .inl u.2.2.1)), (s4, .inl (dA 1, 2048, .inl u.2.2.2.1)), (s5, .inl (dA 1, 2048, .inl u.2.2.2.2.1)), (s6, .inl (dA 1, 2048, .inl u.2.2.2.2.2.1)), (s7, .inl (dA 1, 32, .inl u.2.2.2.2.2.2)), (h, .inr (0, [.ref b, .int (nI t.length)])), (b, .inl (dA 0, 4096, .inl f))] [] 0 0 rfl rfl rfl (Nat.le_refl _) (Nat.le_refl _) ?_
  refine jv_aload_n C (jd D_Sh_take 13 rfl) rfl 2 rfl ?_
  refine jv_get C fl_Sh_37 0 rfl rfl (jd D_Sh_take 14 rfl) ?_
  refine jv_iload_n C (jd D_Sh_take 15 rfl) rfl 5 rfl ?_
  refine jv_callV (wr := [(x, .inr (5, [.ref tp, .ref rs, .ref sl, .ref rd, .ref ol, .ref cp, .int pl])), (sl, .inl (dA 5, 8, .inr (.inr (.inr (.inr fs))))), (h, .inr (0, [.ref b, .int (nI t.length)])), (b, .inl (dA 0, 4096, .inl f))]) C cl_Sh_113 (c_Ol_childOfRoot ol s1 s2 s3 s4 s5 s6 s7 h b 4096 u.1 u.2.1 u.2.2.1 u.2.2.2.1 u.2.2.2.2.1 u.2.2.2.2.2.1 u.2.2.2.2.2.2 f t (nI vs.length) (nI obF.length) (nI deF) vs obF (nI j) len kd1 hv0 hlen hlen2 hkd) [2, 3, 4, 5, 6, 7, 8, 9] [0, 1, 10, 11] rfl rfl rfl rfl (by decide) rfl rfl 0 rfl ⟨Nat.le_of_ble_eq_true rfl, Nat.le_of_ble_eq_true rfl⟩ ⟨Nat.le_of_ble_eq_true rfl, Nat.le_of_ble_eq_true rfl⟩ rfl rfl (Nat.le_of_ble_eq_true rfl) (jd D_Sh_take 16 rfl) (fun v5 _ k5 => ?_)
  obtain ⟨rv5, rfl, k5⟩ := k5
  refine jv_fix [0, 1, 4, 5, 6, 7, 8, 9, 10, 11, 2, 3] [(x, .inr (5, [.ref tp, .ref rs, .ref sl, .ref rd, .ref ol, .ref cp, .int pl])), (sl, .inl (dA 5, 8, .inr (.inr (.inr (.inr fs))))), (ol, .inr (3, [.ref s1, .ref s2, .ref s3, .ref s4, .ref s5, .ref s6, .ref s7, .ref h, .int (nI vs.length), .int (nI obF.length), .int (nI deF)])), (s1, .inl (dA 1, 2048, .inl u.1)), (s2, .inl (dA 1, 2048, .inl u.2.1)), (s3, .inl (dA 1, 2048, .inl u.2.2.1)), (s4, .inl (dA 1, 2048, .inl u.2.2.2.1)), (s5, .inl (dA 1, 2048, .inl u.2.2.2.2.1)), (s6, .inl (dA 1, 2048, .inl u.2.2.2.2.2.1)), (s7, .inl (dA 1, 32, .inl u.2.2.2.2.2.2)), (h, .inr (0, [.ref b, .int (nI t.length)])), (b, .inl (dA 0, 4096, .inl f))] [.int rv5] 0 0 rfl rfl rfl (Nat.le_refl _) (Nat.le_refl _) ?_
  have hr5 : rv5 = nI (js_kid vs 0 j) := by
    rcases k5 with ⟨-, z | z⟩ | ⟨j2, hj2, e1, e2⟩
    · exact absurd z (nI_pos (by omega))
    · exact absurd ((nI_leI (a := len) (b := j) (by omega) (by omega)).mp z) (by omega)
    · rw [(nI_eq (by omega) (by omega)).mp e1]; exact e2
  subst hr5
  obtain ⟨y1, y2, y3, y4⟩ := hy
  have hv := kd1.1
  refine jv_istore C [(6, .int (nI (js_kid vs 0 j))), (5, .ref h), (4, .ref h), (0, .ref x), (1, .int (nI k)), (2, .int (nI k)), (3, .int (nI j))] (jd D_Sh_take 17 rfl) (by decide) rfl ?_
  refine jv_iload C (jd D_Sh_take 18 rfl) 0 rfl ?_
  refine jv_iconst (v := -1) C (jd D_Sh_take 19 rfl) (by decide) ?_
  refine jv_icmp_ne (tgt := 50) C (jd D_Sh_take 20 rfl) (by decide) (fun c39 => ?_) (fun c39 => absurd c39 (js_nm1 (by omega)))
  refine jv_aload C (jd D_Sh_take 25 rfl) 2 rfl ?_
  refine jv_aload C (jd D_Sh_take 26 rfl) 1 rfl ?_
  refine jv_aload_n C (jd D_Sh_take 27 rfl) rfl 3 rfl ?_
  refine jv_get C fl_Sh_37 0 rfl rfl (jd D_Sh_take 28 rfl) ?_
  refine jv_iload C (jd D_Sh_take 29 rfl) 0 rfl ?_
  refine jv_callV (wr := [(x, .inr (5, [.ref tp, .ref rs, .ref sl, .ref rd, .ref ol, .ref cp, .int pl])), (sl, .inl (dA 5, 8, .inr (.inr (.inr (.inr fs))))), (s2, .inl (dA 1, 2048, .inl u.2.1)), (s3, .inl (dA 1, 2048, .inl u.2.2.1)), (s4, .inl (dA 1, 2048, .inl u.2.2.2.1)), (s5, .inl (dA 1, 2048, .inl u.2.2.2.2.1)), (s6, .inl (dA 1, 2048, .inl u.2.2.2.2.2.1)), (s7, .inl (dA 1, 32, .inl u.2.2.2.2.2.2)), (h, .inr (0, [.ref b, .int (nI t.length)])), (b, .inl (dA 0, 4096, .inl f))]) C cl_Sh_120 (c_Ol_startOf ol s1 s2 s3 s4 s5 s6 s7 h (nI vs.length) (nI obF.length) (nI deF) (js_kid vs 0 j) u.1 (by omega)) [2, 3] [0, 1, 4, 5, 6, 7, 8, 9, 10, 11] rfl rfl rfl rfl (by decide) rfl rfl 0 rfl ⟨Nat.le_of_ble_eq_true rfl, Nat.le_of_ble_eq_true rfl⟩ ⟨Nat.le_of_ble_eq_true rfl, Nat.le_of_ble_eq_true rfl⟩ rfl rfl (Nat.le_of_ble_eq_true rfl) (jd D_Sh_take 30 rfl) (fun v6 _ k6 => ?_)
  obtain ⟨rv6, rfl, k6⟩ := k6
  refine jv_fix [0, 1, 10, 11, 2, 3, 4, 5, 6, 7, 8, 9] [(x, .inr (5, [.ref tp, .ref rs, .ref sl, .ref rd, .ref ol, .ref cp, .int pl])), (sl, .inl (dA 5, 8, .inr (.inr (.inr (.inr fs))))), (ol, .inr (3, [.ref s1, .ref s2, .ref s3, .ref s4, .ref s5, .ref s6, .ref s7, .ref h, .int (nI vs.length), .int (nI obF.length), .int (nI deF)])), (s1, .inl (dA 1, 2048, .inl u.1)), (s2, .inl (dA 1, 2048, .inl u.2.1)), (s3, .inl (dA 1, 2048, .inl u.2.2.1)), (s4, .inl (dA 1, 2048, .inl u.2.2.2.1)), (s5, .inl (dA 1, 2048, .inl u.2.2.2.2.1)), (s6, .inl (dA 1, 2048, .inl u.2.2.2.2.2.1)), (s7, .inl (dA 1, 32, .inl u.2.2.2.2.2.2)), (h, .inr (0, [.ref b, .int (nI t.length)])), (b, .inl (dA 0, 4096, .inl f))] [.int rv6, .ref h, .ref h] 0 0 rfl rfl rfl (Nat.le_refl _) (Nat.le_refl _) ?_
  rw [(kd1.en y1).1] at k6
  subst k6
  refine jv_aload_n C (jd D_Sh_take 31 rfl) rfl 3 rfl ?_
  refine jv_get C fl_Sh_37 0 rfl rfl (jd D_Sh_take 32 rfl) ?_
  refine jv_iload C (jd D_Sh_take 33 rfl) 0 rfl ?_
  refine jv_callV (wr := [(x, .inr (5, [.ref tp, .ref rs, .ref sl, .ref rd, .ref ol, .ref cp, .int pl])), (sl, .inl (dA 5, 8, .inr (.inr (.inr (.inr fs))))), (s1, .inl (dA 1, 2048, .inl u.1)), (s3, .inl (dA 1, 2048, .inl u.2.2.1)), (s4, .inl (dA 1, 2048, .inl u.2.2.2.1)), (s5, .inl (dA 1, 2048, .inl u.2.2.2.2.1)), (s6, .inl (dA 1, 2048, .inl u.2.2.2.2.2.1)), (s7, .inl (dA 1, 32, .inl u.2.2.2.2.2.2)), (h, .inr (0, [.ref b, .int (nI t.length)])), (b, .inl (dA 0, 4096, .inl f))]) C cl_Sh_123 (c_Ol_endOf ol s1 s2 s3 s4 s5 s6 s7 h (nI vs.length) (nI obF.length) (nI deF) (js_kid vs 0 j) u.2.1 (by omega)) [2, 4] [0, 1, 3, 5, 6, 7, 8, 9, 10, 11] rfl rfl rfl rfl (by decide) rfl rfl 0 rfl ⟨Nat.le_of_ble_eq_true rfl, Nat.le_of_ble_eq_true rfl⟩ ⟨Nat.le_of_ble_eq_true rfl, Nat.le_of_ble_eq_true rfl⟩ rfl rfl (Nat.le_of_ble_eq_true rfl) (jd D_Sh_take 34 rfl) (fun v7 _ k7 => ?_)
  obtain ⟨rv7, rfl, k7⟩ := k7
  refine jv_fix [0, 1, 10, 2, 11, 3, 4, 5, 6, 7, 8, 9] [(x, .inr (5, [.ref tp, .ref rs, .ref sl, .ref rd, .ref ol, .ref cp, .int pl])), (sl, .inl (dA 5, 8, .inr (.inr (.inr (.inr fs))))), (ol, .inr (3, [.ref s1, .ref s2, .ref s3, .ref s4, .ref s5, .ref s6, .ref s7, .ref h, .int (nI vs.length), .int (nI obF.length), .int (nI deF)])), (s1, .inl (dA 1, 2048, .inl u.1)), (s2, .inl (dA 1, 2048, .inl u.2.1)), (s3, .inl (dA 1, 2048, .inl u.2.2.1)), (s4, .inl (dA 1, 2048, .inl u.2.2.2.1)), (s5, .inl (dA 1, 2048, .inl u.2.2.2.2.1)), (s6, .inl (dA 1, 2048, .inl u.2.2.2.2.2.1)), (s7, .inl (dA 1, 32, .inl u.2.2.2.2.2.2)), (h, .inr (0, [.ref b, .int (nI t.length)])), (b, .inl (dA 0, 4096, .inl f))] [.int rv7, .int (nI (js_en vs (js_kid vs 0 j)).1), .ref h, .ref h] 0 0 rfl rfl rfl (Nat.le_refl _) (Nat.le_refl _) ?_
  rw [(kd1.en y1).2.1] at k7
  subst k7
  refine jv_callV (wr := [(x, .inr (5, [.ref tp, .ref rs, .ref sl, .ref rd, .ref ol, .ref cp, .int pl])), (sl, .inl (dA 5, 8, .inr (.inr (.inr (.inr fs))))), (ol, .inr (3, [.ref s1, .ref s2, .ref s3, .ref s4, .ref s5, .ref s6, .ref s7, .ref h, .int (nI vs.length), .int (nI obF.length), .int (nI deF)])), (s1, .inl (dA 1, 2048, .inl u.1)), (s2, .inl (dA 1, 2048, .inl u.2.1)), (s3, .inl (dA 1, 2048, .inl u.2.2.1)), (s4, .inl (dA 1, 2048, .inl u.2.2.2.1)), (s5, .inl (dA 1, 2048, .inl u.2.2.2.2.1)), (s6, .inl (dA 1, 2048, .inl u.2.2.2.2.2.1)), (s7, .inl (dA 1, 32, .inl u.2.2.2.2.2.2))]) C cl_Sh_84 (c_Tx_become_s h b 4096 f t (js_en vs (js_kid vs 0 j)).1 (js_en vs (js_kid vs 0 j)).2.1 hl (by decide) ht (by omega) (by omega) (by omega)) [10, 11] [0, 1, 2, 3, 4, 5, 6, 7, 8, 9] rfl rfl rfl rfl (by decide) rfl rfl 0 rfl ⟨Nat.le_of_ble_eq_true rfl, Nat.le_of_ble_eq_true rfl⟩ ⟨Nat.le_of_ble_eq_true rfl, Nat.le_of_ble_eq_true rfl⟩ rfl rfl (Nat.le_of_ble_eq_true rfl) (jd D_Sh_take 35 rfl) (fun v8 g k8 => ?_)
  obtain ⟨rfl, k8⟩ := k8
  refine jv_fix [0, 1, 2, 3, 4, 5, 6, 7, 8, 9, 10, 11] [(x, .inr (5, [.ref tp, .ref rs, .ref sl, .ref rd, .ref ol, .ref cp, .int pl])), (sl, .inl (dA 5, 8, .inr (.inr (.inr (.inr fs))))), (ol, .inr (3, [.ref s1, .ref s2, .ref s3, .ref s4, .ref s5, .ref s6, .ref s7, .ref h, .int (nI vs.length), .int (nI obF.length), .int (nI deF)])), (s1, .inl (dA 1, 2048, .inl u.1)), (s2, .inl (dA 1, 2048, .inl u.2.1)), (s3, .inl (dA 1, 2048, .inl u.2.2.1)), (s4, .inl (dA 1, 2048, .inl u.2.2.2.1)), (s5, .inl (dA 1, 2048, .inl u.2.2.2.2.1)), (s6, .inl (dA 1, 2048, .inl u.2.2.2.2.2.1)), (s7, .inl (dA 1, 32, .inl u.2.2.2.2.2.2)), (h, .inr (0, [.ref b, .int (nI ((t.drop (js_en vs (js_kid vs 0 j)).1).take ((js_en vs (js_kid vs 0 j)).2.1 - (js_en vs (js_kid vs 0 j)).1)).length)])), (b, .inl (dA 0, 4096, .inl g))] [] 0 0 rfl rfl rfl (Nat.le_refl _) (Nat.le_refl _) ?_
  have e8 : (t.drop (js_en vs (js_kid vs 0 j)).1).take ((js_en vs (js_kid vs 0 j)).2.1 - (js_en vs (js_kid vs 0 j)).1) = y := y4
  rw [e8] at k8
  refine jv_weq (ws' := [(x, .inr (5, [.ref tp, .ref rs, .ref sl, .ref rd, .ref ol, .ref cp, .int pl])), (sl, .inl (dA 5, 8, .inr (.inr (.inr (.inr fs))))), (ol, .inr (3, [.ref s1, .ref s2, .ref s3, .ref s4, .ref s5, .ref s6, .ref s7, .ref h, .int (nI vs.length), .int (nI obF.length), .int (nI deF)])), (s1, .inl (dA 1, 2048, .inl u.1)), (s2, .inl (dA 1, 2048, .inl u.2.1)), (s3, .inl (dA 1, 2048, .inl u.2.2.1)), (s4, .inl (dA 1, 2048, .inl u.2.2.2.1)), (s5, .inl (dA 1, 2048, .inl u.2.2.2.2.1)), (s6, .inl (dA 1, 2048, .inl u.2.2.2.2.2.1)), (s7, .inl (dA 1, 32, .inl u.2.2.2.2.2.2)), (h, .inr (0, [.ref b, .int (nI y.length)])), (b, .inl (dA 0, 4096, .inl g))]) (by rw [e8]) ?_
  exact jv_vret C hr (u, g) (k8) [0, 1, 2, 3, 4, 5, 6, 7, 8, 9, 10, 11] rfl rfl (Nat.le_of_ble_eq_true rfl) (Nat.le_of_ble_eq_true rfl) (jd D_Sh_take 36 rfl)
