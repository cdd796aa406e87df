set_option maxHeartbeats 4000000 in
set_option maxRecDepth 100000 in
/-- Reader.open(b, next), where it may -/
theorem c_Rd_open_ok {l : Launch} {D : va_G} {dA : Nat → ClassId} {zz : (Nat → Nat) × (Nat → Nat)} (o tp pp nn ob nb tb pb s1 s2 s3 : Nat) (f g fS fE fH fO fB : Nat → Int32) (t pr : List Nat) (sk ns : List (Nat × Nat)) (i : Nat) (ub pl : Int32) (b : Nat) (nx : Int32) (ht : js_tx f t) (h4 : t.length ≤ 4096) (hR : js_R t i pr sk ns g fS fE fH fO fB) (hi : i < t.length) (hb : b < 128) (hs : sk.length < 32) : jv_M l D dA zz y_Rd_open b_Rd_open 3 (some (FieldType.int)) 3 [.ref o, .int (nI b), .int nx] [(o, .inr (2, [.ref tp, .ref pp, .ref nn, .ref ob, .ref nb, .int (nI sk.length), .int (nI i), .int ub, .int pl])), (tp, .inr (0, [.ref tb, .int (nI t.length)])), (tb, .inl (dA 0, 4096, .inl f)), (pp, .inr (0, [.ref pb, .int (nI pr.length)])), (pb, .inl (dA 0, 4096, .inl g)), (nn, .inr (1, [.ref pp, .ref s1, .ref s2, .ref s3, .int (nI ns.length)])), (s1, .inl (dA 1, 1024, .inl fS)), (s2, .inl (dA 1, 1024, .inl fE)), (s3, .inl (dA 1, 1024, .inl fH)), (ob, .inl (dA 0, 32, .inl fO)), (nb, .inl (dA 1, 32, .inl fB))] (jv_pi fun r (g2 : Nat → Int32) => r = nx ∧ js_R t (i + 1) (pr ++ [b]) (sk ++ [(b, ns.length)]) ns g2 fS fE fH (upd fO sk.length (nI b)) (upd fB sk.length (nI ns.length))) (fun g2 => [(o, .inr (2, [.ref tp, .ref pp, .ref nn, .ref ob, .ref nb, .int (nI ((sk ++ [(b, ns.length)]).length)), .int (nI (i + 1)), .int ub, .int pl])), (tp, .inr (0, [.ref tb, .int (nI t.length)])), (tb, .inl (dA 0, 4096, .inl f)), (pp, .inr (0, [.ref pb, .int (nI (pr ++ [b]).length)])), (pb, .inl (dA 0, 4096, .inl g2)), (nn, .inr (1, [.ref pp, .ref s1, .ref s2, .ref s3, .int (nI ns.length)])), (s1, .inl (dA 1, 1024, .inl fS)), (s2, .inl (dA 1, 1024, .inl fE)), (s3, .inl (dA 1, 1024, .inl fH)), (ob, .inl (dA 0, 32, .inl (upd fO sk.length (nI b)))), (nb, .inl (dA 1, 32, .inl (upd fB sk.length (nI ns.length))))]) 0 0 := by
  refine jv_M.of [(0, .ref o), (1, .int (nI b)), (2, .int nx)] (by decide) (Nat.le_of_ble_eq_true rfl) rfl ?_
  intro pR eR sR mR belowR methR cR AR C hr hin
  refine jv_aload_n C (jd D_Rd_open 0 rfl) rfl 0 rfl ?_
  refine jv_get C fl_Rd_75 0 rfl rfl (jd D_Rd_open 1 rfl) ?_
  refine jv_bipush (v := 32) C (jd D_Rd_open 2 rfl) (by decide) ?_
  refine jv_icmp_lt (tgt := 18) C (jd D_Rd_open 3 rfl) (by decide) (fun c6 => ?_) (fun c6 => absurd (nI_lt hs (by decide)) c6)
  refine jv_aload_n C (jd D_Rd_open 9 rfl) rfl 0 rfl ?_
  refine jv_get C fl_Rd_32 0 rfl rfl (jd D_Rd_open 10 rfl) ?_
  refine jv_aload_n C (jd D_Rd_open 11 rfl) rfl 0 rfl ?_
  refine jv_get C fl_Rd_75 0 rfl rfl (jd D_Rd_open 12 rfl) ?_
  refine jv_iload_n C (jd D_Rd_open 13 rfl) rfl 1 rfl ?_
  refine jv_i2b C (jd D_Rd_open 14 rfl) ?_
  refine jv_bast C 9 [(o, .inr (2, [.ref tp, .ref pp, .ref nn, .ref ob, .ref nb, .int (nI sk.length), .int (nI i), .int ub, .int pl])), (tp, .inr (0, [.ref tb, .int (nI t.length)])), (tb, .inl (dA 0, 4096, .inl f)), (pp, .inr (0, [.ref pb, .int (nI pr.length)])), (pb, .inl (dA 0, 4096, .inl g)), (nn, .inr (1, [.ref pp, .ref s1, .ref s2, .ref s3, .int (nI ns.length)])), (s1, .inl (dA 1, 1024, .inl fS)), (s2, .inl (dA 1, 1024, .inl fE)), (s3, .inl (dA 1, 1024, .inl fH)), (ob, .inl (dA 0, 32, .inl (upd fO (nI sk.length).toNatClampNeg ((nI b).toInt8.toInt32).toInt8.toInt32))), (nb, .inl (dA 1, 32, .inl fB))] rfl rfl (vp_in_nI hs (by decide)) (jd D_Rd_open 15 rfl) ?_
  refine jv_weq (ws' := [(o, .inr (2, [.ref tp, .ref pp, .ref nn, .ref ob, .ref nb, .int (nI sk.length), .int (nI i), .int ub, .int pl])), (tp, .inr (0, [.ref tb, .int (nI t.length)])), (tb, .inl (dA 0, 4096, .inl f)), (pp, .inr (0, [.ref pb, .int (nI pr.length)])), (pb, .inl (dA 0, 4096, .inl g)), (nn, .inr (1, [.ref pp, .ref s1, .ref s2, .ref s3, .int (nI ns.length)])), (s1, .inl (dA 1, 1024, .inl fS)), (s2, .inl (dA 1, 1024, .inl fE)), (s3, .inl (dA 1, 1024, .inl fH)), (ob, .inl (dA 0, 32, .inl (upd fO sk.length (nI b)))), (nb, .inl (dA 1, 32, .inl fB))]) (by rw [nI_clamp (by omega), js_b8, js_i8 b hb]) ?_
  refine jv_aload_n C (jd D_Rd_open 16 rfl) rfl 0 rfl ?_
  refine jv_get C fl_Rd_36 0 rfl rfl (jd D_Rd_open 17 rfl) ?_
  refine jv_aload_n C (jd D_Rd_open 18 rfl) rfl 0 rfl ?_
  refine jv_get C fl_Rd_75 0 rfl rfl (jd D_Rd_open 19 rfl) ?_
  refine jv_aload_n C (jd D_Rd_open 20 rfl) rfl 0 rfl ?_
  refine jv_get C fl_Rd_28 0 rfl rfl (jd D_Rd_open 21 rfl) ?_
  refine jv_callV (wr := [(o, .inr (2, [.ref tp, .ref pp, .ref nn, .ref ob, .ref nb, .int (nI sk.length), .int (nI i), .int ub, .int pl])), (tp, .inr (0, [.ref tb, .int (nI t.length)])), (tb, .inl (dA 0, 4096, .inl f)), (pp, .inr (0, [.ref pb, .int (nI pr.length)])), (pb, .inl (dA 0, 4096, .inl g)), (ob, .inl (dA 0, 32, .inl (upd fO sk.length (nI b)))), (nb, .inl (dA 1, 32, .inl fB))]) C cl_Rd_115 (c_Nm_size nn pp s1 s2 s3 ns.length fS fE fH) [5, 6, 7, 8] [0, 1, 2, 3, 4, 9, 10] rfl rfl rfl rfl (by decide) rfl rfl 0 rfl ⟨Nat.le_of_ble_eq_true rfl, Nat.le_of_ble_eq_true rfl⟩ ⟨Nat.le_of_ble_eq_true rfl, Nat.le_of_ble_eq_true rfl⟩ rfl rfl (Nat.le_of_ble_eq_true rfl) (jd D_Rd_open 22 rfl) (fun v1 _ k1 => ?_)
  obtain ⟨r1, rfl, k1⟩ := k1
  refine jv_fix [0, 1, 2, 3, 4, 7, 8, 9, 10, 5, 6] [(o, .inr (2, [.ref tp, .ref pp, .ref nn, .ref ob, .ref nb, .int (nI sk.length), .int (nI i), .int ub, .int pl])), (tp, .inr (0, [.ref tb, .int (nI t.length)])), (tb, .inl (dA 0, 4096, .inl f)), (pp, .inr (0, [.ref pb, .int (nI pr.length)])), (pb, .inl (dA 0, 4096, .inl g)), (nn, .inr (1, [.ref pp, .ref s1, .ref s2, .ref s3, .int (nI ns.length)])), (s1, .inl (dA 1, 1024, .inl fS)), (s2, .inl (dA 1, 1024, .inl fE)), (s3, .inl (dA 1, 1024, .inl fH)), (ob, .inl (dA 0, 32, .inl (upd fO sk.length (nI b)))), (nb, .inl (dA 1, 32, .inl fB))] [.int r1, .int (nI sk.length), .ref nb] 0 0 rfl rfl rfl (Nat.le_refl _) (Nat.le_refl _) ?_
  subst k1
  refine jv_iast C 10 [(o, .inr (2, [.ref tp, .ref pp, .ref nn, .ref ob, .ref nb, .int (nI sk.length), .int (nI i), .int ub, .int pl])), (tp, .inr (0, [.ref tb, .int (nI t.length)])), (tb, .inl (dA 0, 4096, .inl f)), (pp, .inr (0, [.ref pb, .int (nI pr.length)])), (pb, .inl (dA 0, 4096, .inl g)), (nn, .inr (1, [.ref pp, .ref s1, .ref s2, .ref s3, .int (nI ns.length)])), (s1, .inl (dA 1, 1024, .inl fS)), (s2, .inl (dA 1, 1024, .inl fE)), (s3, .inl (dA 1, 1024, .inl fH)), (ob, .inl (dA 0, 32, .inl (upd fO sk.length (nI b)))), (nb, .inl (dA 1, 32, .inl (upd fB (nI sk.length).toNatClampNeg (nI ns.length))))] rfl rfl (vp_in_nI hs (by decide)) (jd D_Rd_open 23 rfl) ?_
  refine jv_weq (ws' := [(o, .inr (2, [.ref tp, .ref pp, .ref nn, .ref ob, .ref nb, .int (nI sk.length), .int (nI i), .int ub, .int pl])), (tp, .inr (0, [.ref tb, .int (nI t.length)])), (tb, .inl (dA 0, 4096, .inl f)), (pp, .inr (0, [.ref pb, .int (nI pr.length)])), (pb, .inl (dA 0, 4096, .inl g)), (nn, .inr (1, [.ref pp, .ref s1, .ref s2, .ref s3, .int (nI ns.length)])), (s1, .inl (dA 1, 1024, .inl fS)), (s2, .inl (dA 1, 1024, .inl fE)), (s3, .inl (dA 1, 1024, .inl fH)), (ob, .inl (dA 0, 32, .inl (upd fO sk.length (nI b)))), (nb, .inl (dA 1, 32, .inl (upd fB sk.length (nI ns.length))))]) (by rw [nI_clamp (by omega)]) ?_
  refine jv_aload_n C (jd D_Rd_open 24 rfl) rfl 0 rfl ?_
  refine jv_dup C (jd D_Rd_open 25 rfl) rfl ?_
  refine jv_get C fl_Rd_75 0 rfl rfl (jd D_Rd_open 26 rfl) ?_
  refine jv_iconst (v := 1) C (jd D_Rd_open 27 rfl) (by decide) ?_
  refine jv_iadd C (jd D_Rd_open 28 rfl) ?_
  refine jv_ati (y := nI (sk ++ [(b, ns.length)]).length) (js_len1p _ _) ?_
  refine jv_put C fl_Rd_75 Y_Rd rfl 0 [(o, .inr (2, [.ref tp, .ref pp, .ref nn, .ref ob, .ref nb, .int (nI (sk ++ [(b, ns.length)]).length), .int (nI i), .int ub, .int pl])), (tp, .inr (0, [.ref tb, .int (nI t.length)])), (tb, .inl (dA 0, 4096, .inl f)), (pp, .inr (0, [.ref pb, .int (nI pr.length)])), (pb, .inl (dA 0, 4096, .inl g)), (nn, .inr (1, [.ref pp, .ref s1, .ref s2, .ref s3, .int (nI ns.length)])), (s1, .inl (dA 1, 1024, .inl fS)), (s2, .inl (dA 1, 1024, .inl fE)), (s3, .inl (dA 1, 1024, .inl fH)), (ob, .inl (dA 0, 32, .inl (upd fO sk.length (nI b)))), (nb, .inl (dA 1, 32, .inl (upd fB sk.length (nI ns.length))))] rfl rfl rfl (Nat.le_of_ble_eq_true rfl) rfl rfl (jd D_Rd_open 29 rfl) ?_
  refine jv_aload_n C (jd D_Rd_open 30 rfl) rfl 0 rfl ?_
  refine jv_iload_n C (jd D_Rd_open 31 rfl) rfl 1 rfl ?_
  refine jv_callV (wr := [(tp, .inr (0, [.ref tb, .int (nI t.length)])), (tb, .inl (dA 0, 4096, .inl f)), (nn, .inr (1, [.ref pp, .ref s1, .ref s2, .ref s3, .int (nI ns.length)])), (s1, .inl (dA 1, 1024, .inl fS)), (s2, .inl (dA 1, 1024, .inl fE)), (s3, .inl (dA 1, 1024, .inl fH)), (ob, .inl (dA 0, 32, .inl (upd fO sk.length (nI b)))), (nb, .inl (dA 1, 32, .inl (upd fB sk.length (nI ns.length))))]) C cl_Rd_112 (c_Rd_pass o tp pp nn ob nb (nI ((sk ++ [(b, ns.length)]).length)) ub pl i pb 4096 g pr (nI b) (by have := hR.2.1; omega) (by decide) hR.2.2.2.2.1) [0, 3, 4] [1, 2, 5, 6, 7, 8, 9, 10] rfl rfl rfl rfl (by decide) rfl rfl 0 rfl ⟨Nat.le_of_ble_eq_true rfl, Nat.le_of_ble_eq_true rfl⟩ ⟨Nat.le_of_ble_eq_true rfl, Nat.le_of_ble_eq_true rfl⟩ rfl rfl (Nat.le_of_ble_eq_true rfl) (jd D_Rd_open 32 rfl) (fun v2 g2 k2 => ?_)
  obtain ⟨rfl, k2⟩ := k2
  refine jv_fix [8, 0, 1, 9, 10, 2, 3, 4, 5, 6, 7] [(o, .inr (2, [.ref tp, .ref pp, .ref nn, .ref ob, .ref nb, .int (nI ((sk ++ [(b, ns.length)]).length)), .int (nI (i + 1)), .int ub, .int pl])), (tp, .inr (0, [.ref tb, .int (nI t.length)])), (tb, .inl (dA 0, 4096, .inl f)), (pp, .inr (0, [.ref pb, .int (nI (pr ++ [(nI b).toBitVec.toNat % 256]).length)])), (pb, .inl (dA 0, 4096, .inl g2)), (nn, .inr (1, [.ref pp, .ref s1, .ref s2, .ref s3, .int (nI ns.length)])), (s1, .inl (dA 1, 1024, .inl fS)), (s2, .inl (dA 1, 1024, .inl fE)), (s3, .inl (dA 1, 1024, .inl fH)), (ob, .inl (dA 0, 32, .inl (upd fO sk.length (nI b)))), (nb, .inl (dA 1, 32, .inl (upd fB sk.length (nI ns.length))))] [] 0 0 rfl rfl rfl (Nat.le_refl _) (Nat.le_refl _) ?_
  rw [js_pu1 (by omega)] at k2
  refine jv_weq (ws' := [(o, .inr (2, [.ref tp, .ref pp, .ref nn, .ref ob, .ref nb, .int (nI ((sk ++ [(b, ns.length)]).length)), .int (nI (i + 1)), .int ub, .int pl])), (tp, .inr (0, [.ref tb, .int (nI t.length)])), (tb, .inl (dA 0, 4096, .inl f)), (pp, .inr (0, [.ref pb, .int (nI (pr ++ [b]).length)])), (pb, .inl (dA 0, 4096, .inl g2)), (nn, .inr (1, [.ref pp, .ref s1, .ref s2, .ref s3, .int (nI ns.length)])), (s1, .inl (dA 1, 1024, .inl fS)), (s2, .inl (dA 1, 1024, .inl fE)), (s3, .inl (dA 1, 1024, .inl fH)), (ob, .inl (dA 0, 32, .inl (upd fO sk.length (nI b)))), (nb, .inl (dA 1, 32, .inl (upd fB sk.length (nI ns.length))))]) (by rw [js_pu1 (by omega)]) ?_
  refine jv_iload_n C (jd D_Rd_open 33 rfl) rfl 2 rfl ?_
  exact jv_iret C hr g2 (⟨rfl, (hR.opens hb hs).more k2 (by omega) (by have := hR.2.1; rw [List.length_append]; exact Nat.succ_le_succ this)⟩) rfl [0, 1, 2, 3, 4, 5, 6, 7, 8, 9, 10] rfl rfl (Nat.le_of_ble_eq_true rfl) (Nat.le_of_ble_eq_true rfl) (jd D_Rd_open 34 rfl)

set_option maxHeartbeats 4000000 in
set_option maxRecDepth 100000 in
/-- Reader.open(b, next), where it may not -/
theorem c_Rd_open_no {l : Launch} {D : va_G} {dA : Nat → ClassId} {zz : (Nat → Nat) × (Nat → Nat)} (o tp pp nn ob nb tb pb s1 s2 s3 : Nat) (f g fS fE fH fO fB : Nat → Int32) (t pr : List Nat) (sk ns : List (Nat × Nat)) (i : Nat) (ub pl : Int32) (b : Nat) (nx : Int32) (hs : 32 ≤ sk.length) (hs2 : sk.length ≤ 32) : jv_M l D dA zz y_Rd_open b_Rd_open 3 (some (FieldType.int)) 3 [.ref o, .int (nI b), .int nx] [(o, .inr (2, [.ref tp, .ref pp, .ref nn, .ref ob, .ref nb, .int (nI sk.length), .int (nI i), .int ub, .int pl])), (tp, .inr (0, [.ref tb, .int (nI t.length)])), (tb, .inl (dA 0, 4096, .inl f)), (pp, .inr (0, [.ref pb, .int (nI pr.length)])), (pb, .inl (dA 0, 4096, .inl g)), (nn, .inr (1, [.ref pp, .ref s1, .ref s2, .ref s3, .int (nI ns.length)])), (s1, .inl (dA 1, 1024, .inl fS)), (s2, .inl (dA 1, 1024, .inl fE)), (s3, .inl (dA 1, 1024, .inl fH)), (ob, .inl (dA 0, 32, .inl fO)), (nb, .inl (dA 1, 32, .inl fB))] (jv_pi fun r (_ : Unit) => r = 6) (fun _ => [(o, .inr (2, [.ref tp, .ref pp, .ref nn, .ref ob, .ref nb, .int (nI sk.length), .int (nI i), .int ub, .int (nI i)])), (tp, .inr (0, [.ref tb, .int (nI t.length)])), (tb, .inl (dA 0, 4096, .inl f)), (pp, .inr (0, [.ref pb, .int (nI pr.length)])), (pb, .inl (dA 0, 4096, .inl g)), (nn, .inr (1, [.ref pp, .ref s1, .ref s2, .ref s3, .int (nI ns.length)])), (s1, .inl (dA 1, 1024, .inl fS)), (s2, .inl (dA 1, 1024, .inl fE)), (s3, .inl (dA 1, 1024, .inl fH)), (ob, .inl (dA 0, 32, .inl fO)), (nb, .inl (dA 1, 32, .inl fB))]) 0 0 := by
  refine jv_M.of [(0, .ref o), (1, .int (nI b)), (2, .int nx)] (by decide) (Nat.le_of_ble_eq_true rfl) rfl ?_
  intro pR eR sR mR belowR methR cR AR C hr hin
  refine jv_aload_n C (jd D_Rd_open 0 rfl) rfl 0 rfl ?_
  refine jv_get C fl_Rd_75 0 rfl rfl (jd D_Rd_open 1 rfl) ?_
  refine jv_bipush (v := 32) C (jd D_Rd_open 2 rfl) (by decide) ?_
  refine jv_icmp_lt (tgt := 18) C (jd D_Rd_open 3 rfl) (by decide) (fun c6 => absurd c6 (nI_nlt hs (by omega))) (fun c6 => ?_)
  refine jv_aload_n C (jd D_Rd_open 4 rfl) rfl 0 rfl ?_
  refine jv_aload_n C (jd D_Rd_open 5 rfl) rfl 0 rfl ?_
  refine jv_get C fl_Rd_46 0 rfl rfl (jd D_Rd_open 6 rfl) ?_
  refine jv_callV (wr := [(tp, .inr (0, [.ref tb, .int (nI t.length)])), (tb, .inl (dA 0, 4096, .inl f)), (pp, .inr (0, [.ref pb, .int (nI pr.length)])), (pb, .inl (dA 0, 4096, .inl g)), (nn, .inr (1, [.ref pp, .ref s1, .ref s2, .ref s3, .int (nI ns.length)])), (s1, .inl (dA 1, 1024, .inl fS)), (s2, .inl (dA 1, 1024, .inl fE)), (s3, .inl (dA 1, 1024, .inl fH)), (ob, .inl (dA 0, 32, .inl fO)), (nb, .inl (dA 1, 32, .inl fB))]) C cl_Rd_109 (c_Rd_breakAt o tp pp nn ob nb (nI sk.length) ub pl i (nI i)) [0] [1, 2, 3, 4, 5, 6, 7, 8, 9, 10] rfl rfl rfl rfl (by decide) rfl rfl 0 rfl ⟨Nat.le_of_ble_eq_true rfl, Nat.le_of_ble_eq_true rfl⟩ ⟨Nat.le_of_ble_eq_true rfl, Nat.le_of_ble_eq_true rfl⟩ rfl rfl (Nat.le_of_ble_eq_true rfl) (jd D_Rd_open 7 rfl) (fun v1 _ k7 => ?_)
  obtain ⟨r7, rfl, k7⟩ := k7
  refine jv_fix [10, 0, 1, 2, 3, 4, 5, 6, 7, 8, 9] [(o, .inr (2, [.ref tp, .ref pp, .ref nn, .ref ob, .ref nb, .int (nI sk.length), .int (nI i), .int ub, .int (nI i)])), (tp, .inr (0, [.ref tb, .int (nI t.length)])), (tb, .inl (dA 0, 4096, .inl f)), (pp, .inr (0, [.ref pb, .int (nI pr.length)])), (pb, .inl (dA 0, 4096, .inl g)), (nn, .inr (1, [.ref pp, .ref s1, .ref s2, .ref s3, .int (nI ns.length)])), (s1, .inl (dA 1, 1024, .inl fS)), (s2, .inl (dA 1, 1024, .inl fE)), (s3, .inl (dA 1, 1024, .inl fH)), (ob, .inl (dA 0, 32, .inl fO)), (nb, .inl (dA 1, 32, .inl fB))] [.int r7] 0 0 rfl rfl rfl (Nat.le_refl _) (Nat.le_refl _) ?_
  subst k7
  exact jv_iret C hr () (rfl) rfl [0, 1, 2, 3, 4, 5, 6, 7, 8, 9, 10] rfl rfl (Nat.le_of_ble_eq_true rfl) (Nat.le_of_ble_eq_true rfl) (jd D_Rd_open 8 rfl)

set_option maxHeartbeats 4000000 in
set_option maxRecDepth 100000 in
/-- Reader.close(b) -/
theorem c_Rd_close {l : Launch} {D : va_G} {dA : Nat → ClassId} {zz : (Nat → Nat) × (Nat → Nat)} (o tp pp nn ob nb tb pb s1 s2 s3 : Nat) (f g fS fE fH fO fB : Nat → Int32) (t pr : List Nat) (sk ns : List (Nat × Nat)) (i : Nat) (ub pl : Int32) (y n0 b : Nat) (ht : js_tx f t) (h4 : t.length ≤ 4096) (hR : js_R t i pr (sk ++ [(y, n0)]) ns g fS fE fH fO fB) (hi : i < t.length) (hb : b < 128) (hm : ∀ q ∈ sk, q.2 ≤ n0) : jv_M l D dA zz y_Rd_close b_Rd_close 2 (some (FieldType.int)) 3 [.ref o, .int (nI b)] [(o, .inr (2, [.ref tp, .ref pp, .ref nn, .ref ob, .ref nb, .int (nI ((sk ++ [(y, n0)]).length)), .int (nI i), .int ub, .int pl])), (tp, .inr (0, [.ref tb, .int (nI t.length)])), (tb, .inl (dA 0, 4096, .inl f)), (pp, .inr (0, [.ref pb, .int (nI pr.length)])), (pb, .inl (dA 0, 4096, .inl g)), (nn, .inr (1, [.ref pp, .ref s1, .ref s2, .ref s3, .int (nI ns.length)])), (s1, .inl (dA 1, 1024, .inl fS)), (s2, .inl (dA 1, 1024, .inl fE)), (s3, .inl (dA 1, 1024, .inl fH)), (ob, .inl (dA 0, 32, .inl fO)), (nb, .inl (dA 1, 32, .inl fB))] (jv_pi fun r (g2 : Nat → Int32) => r = 5 ∧ js_R t (i + 1) (pr ++ [b]) sk (ns.take n0) g2 fS fE fH fO fB) (fun g2 => [(o, .inr (2, [.ref tp, .ref pp, .ref nn, .ref ob, .ref nb, .int (nI sk.length), .int (nI (i + 1)), .int ub, .int pl])), (tp, .inr (0, [.ref tb, .int (nI t.length)])), (tb, .inl (dA 0, 4096, .inl f)), (pp, .inr (0, [.ref pb, .int (nI (pr ++ [b]).length)])), (pb, .inl (dA 0, 4096, .inl g2)), (nn, .inr (1, [.ref pp, .ref s1, .ref s2, .ref s3, .int (nI ((ns.take n0).length))])), (s1, .inl (dA 1, 1024, .inl fS)), (s2, .inl (dA 1, 1024, .inl fE)), (s3, .inl (dA 1, 1024, .inl fH)), (ob, .inl (dA 0, 32, .inl fO)), (nb, .inl (dA 1, 32, .inl fB))]) 0 0 := by
  refine jv_M.of [(0, .ref o), (1, .int (nI b))] (by decide) (Nat.le_of_ble_eq_true rfl) rfl ?_
  intro pR eR sR mR belowR methR cR AR C hr hin
  have hcl := hR.closes hm
  have hs : (sk ++ [(y, n0)]).length ≤ 32 := hR.2.2.1
  have hs1 : sk.length < 32 := by rw [List.length_append] at hs; exact hs
  refine jv_aload_n C (jd D_Rd_close 0 rfl) rfl 0 rfl ?_
  refine jv_get C fl_Rd_75 0 rfl rfl (jd D_Rd_close 1 rfl) ?_
  refine jv_if_le (tgt := 33) C (jd D_Rd_close 2 rfl) (by decide) (fun c4 => absurd c4 (nI_nle (js_lpos _ _) (by omega))) (fun c4 => ?_)
  refine jv_aload_n C (jd D_Rd_close 3 rfl) rfl 0 rfl ?_
  refine jv_dup C (jd D_Rd_close 4 rfl) rfl ?_
  refine jv_get C fl_Rd_75 0 rfl rfl (jd D_Rd_close 5 rfl) ?_
  refine jv_iconst (v := 1) C (jd D_Rd_close 6 rfl) (by decide) ?_
  refine jv_isub C (jd D_Rd_close 7 rfl) ?_
  refine jv_ati (y := nI sk.length) (js_lenm1 _ _) ?_
  refine jv_put C fl_Rd_75 Y_Rd rfl 0 [(o, .inr (2, [.ref tp, .ref pp, .ref nn, .ref ob, .ref nb, .int (nI sk.length), .int (nI i), .int ub, .int pl])), (tp, .inr (0, [.ref tb, .int (nI t.length)])), (tb, .inl (dA 0, 4096, .inl f)), (pp, .inr (0, [.ref pb, .int (nI pr.length)])), (pb, .inl (dA 0, 4096, .inl g)), (nn, .inr (1, [.ref pp, .ref s1, .ref s2, .ref s3, .int (nI ns.length)])), (s1, .inl (dA 1, 1024, .inl fS)), (s2, .inl (dA 1, 1024, .inl fE)), (s3, .inl (dA 1, 1024, .inl fH)), (ob, .inl (dA 0, 32, .inl fO)), (nb, .inl (dA 1, 32, .inl fB))] rfl rfl rfl (Nat.le_of_ble_eq_true rfl) rfl rfl (jd D_Rd_close 8 rfl) ?_
  refine jv_aload_n C (jd D_Rd_close 9 rfl) rfl 0 rfl ?_
  refine jv_get C fl_Rd_28 0 rfl rfl (jd D_Rd_close 10 rfl) ?_
  refine jv_aload_n C (jd D_Rd_close 11 rfl) rfl 0 rfl ?_
  refine jv_get C fl_Rd_36 0 rfl rfl (jd D_Rd_close 12 rfl) ?_
  refine jv_aload_n C (jd D_Rd_close 13 rfl) rfl 0 rfl ?_
  refine jv_get C fl_Rd_75 0 rfl rfl (jd D_Rd_close 14 rfl) ?_
  refine jv_iald C 10 rfl (vp_in_nI hs1 (by decide)) (jd D_Rd_close 15 rfl) ?_
  refine jv_ati (y := nI n0) (by rw [nI_clamp (by omega)]; exact hcl.2.1) ?_
  refine jv_callV (wr := [(o, .inr (2, [.ref tp, .ref pp, .ref nn, .ref ob, .ref nb, .int (nI sk.length), .int (nI i), .int ub, .int pl])), (tp, .inr (0, [.ref tb, .int (nI t.length)])), (tb, .inl (dA 0, 4096, .inl f)), (pp, .inr (0, [.ref pb, .int (nI pr.length)])), (pb, .inl (dA 0, 4096, .inl g)), (ob, .inl (dA 0, 32, .inl fO)), (nb, .inl (dA 1, 32, .inl fB))]) C cl_Rd_74 (c_Nm_keep nn pp s1 s2 s3 ns.length fS fE fH n0 hcl.2.2.1 (by have := hR.2.2.2.1; omega)) [5, 6, 7, 8] [0, 1, 2, 3, 4, 9, 10] rfl rfl rfl rfl (by decide) rfl rfl 0 rfl ⟨Nat.le_of_ble_eq_true rfl, Nat.le_of_ble_eq_true rfl⟩ ⟨Nat.le_of_ble_eq_true rfl, Nat.le_of_ble_eq_true rfl⟩ rfl rfl (Nat.le_of_ble_eq_true rfl) (jd D_Rd_close 16 rfl) (fun v1 _ k1 => ?_)
  obtain ⟨rfl, k1⟩ := k1
  refine jv_fix [0, 1, 2, 3, 4, 7, 8, 9, 10, 5, 6] [(o, .inr (2, [.ref tp, .ref pp, .ref nn, .ref ob, .ref nb, .int (nI sk.length), .int (nI i), .int ub, .int pl])), (tp, .inr (0, [.ref tb, .int (nI t.length)])), (tb, .inl (dA 0, 4096, .inl f)), (pp, .inr (0, [.ref pb, .int (nI pr.length)])), (pb, .inl (dA 0, 4096, .inl g)), (nn, .inr (1, [.ref pp, .ref s1, .ref s2, .ref s3, .int (nI n0)])), (s1, .inl (dA 1, 1024, .inl fS)), (s2, .inl (dA 1, 1024, .inl fE)), (s3, .inl (dA 1, 1024, .inl fH)), (ob, .inl (dA 0, 32, .inl fO)), (nb, .inl (dA 1, 32, .inl fB))] [] 0 0 rfl rfl rfl (Nat.le_refl _) (Nat.le_refl _) ?_
  refine jv_aload_n C (jd D_Rd_close 17 rfl) rfl 0 rfl ?_
  refine jv_iload_n C (jd D_Rd_close 18 rfl) rfl 1 rfl ?_
  refine jv_callV (wr := [(tp, .inr (0, [.ref tb, .int (nI t.length)])), (tb, .inl (dA 0, 4096, .inl f)), (nn, .inr (1, [.ref pp, .ref s1, .ref s2, .ref s3, .int (nI n0)])), (s1, .inl (dA 1, 1024, .inl fS)), (s2, .inl (dA 1, 1024, .inl fE)), (s3, .inl (dA 1, 1024, .inl fH)), (ob, .inl (dA 0, 32, .inl fO)), (nb, .inl (dA 1, 32, .inl fB))]) C cl_Rd_112 (c_Rd_pass o tp pp nn ob nb (nI sk.length) ub pl i pb 4096 g pr (nI b) (by have := hR.2.1; omega) (by decide) hR.2.2.2.2.1) [0, 3, 4] [1, 2, 5, 6, 7, 8, 9, 10] rfl rfl rfl rfl (by decide) rfl rfl 0 rfl ⟨Nat.le_of_ble_eq_true rfl, Nat.le_of_ble_eq_true rfl⟩ ⟨Nat.le_of_ble_eq_true rfl, Nat.le_of_ble_eq_true rfl⟩ rfl rfl (Nat.le_of_ble_eq_true rfl) (jd D_Rd_close 19 rfl) (fun v2 g2 k2 => ?_)
  obtain ⟨rfl, k2⟩ := k2
  refine jv_fix [8, 0, 1, 9, 10, 2, 3, 4, 5, 6, 7] [(o, .inr (2, [.ref tp, .ref pp, .ref nn, .ref ob, .ref nb, .int (nI sk.length), .int (nI (i + 1)), .int ub, .int pl])), (tp, .inr (0, [.ref tb, .int (nI t.length)])), (tb, .inl (dA 0, 4096, .inl f)), (pp, .inr (0, [.ref pb, .int (nI (pr ++ [(nI b).toBitVec.toNat % 256]).length)])), (pb, .inl (dA 0, 4096, .inl g2)), (nn, .inr (1, [.ref pp, .ref s1, .ref s2, .ref s3, .int (nI n0)])), (s1, .inl (dA 1, 1024, .inl fS)), (s2, .inl (dA 1, 1024, .inl fE)), (s3, .inl (dA 1, 1024, .inl fH)), (ob, .inl (dA 0, 32, .inl fO)), (nb, .inl (dA 1, 32, .inl fB))] [] 0 0 rfl rfl rfl (Nat.le_refl _) (Nat.le_refl _) ?_
  rw [js_pu1 (by omega)] at k2
  refine jv_weq (ws' := [(o, .inr (2, [.ref tp, .ref pp, .ref nn, .ref ob, .ref nb, .int (nI sk.length), .int (nI (i + 1)), .int ub, .int pl])), (tp, .inr (0, [.ref tb, .int (nI t.length)])), (tb, .inl (dA 0, 4096, .inl f)), (pp, .inr (0, [.ref pb, .int (nI (pr ++ [b]).length)])), (pb, .inl (dA 0, 4096, .inl g2)), (nn, .inr (1, [.ref pp, .ref s1, .ref s2, .ref s3, .int (nI ((ns.take n0).length))])), (s1, .inl (dA 1, 1024, .inl fS)), (s2, .inl (dA 1, 1024, .inl fE)), (s3, .inl (dA 1, 1024, .inl fH)), (ob, .inl (dA 0, 32, .inl fO)), (nb, .inl (dA 1, 32, .inl fB))]) (by rw [js_pu1 (by omega), List.length_take, Nat.min_eq_left hcl.2.2.1]) ?_
  refine jv_iconst (v := 5) C (jd D_Rd_close 20 rfl) (by decide) ?_
  exact jv_iret C hr g2 (⟨rfl, hcl.1.more k2 (by omega) (by have := hR.2.1; rw [List.length_append]; exact Nat.succ_le_succ this)⟩) rfl [0, 1, 2, 3, 4, 5, 6, 7, 8, 9, 10] rfl rfl (Nat.le_of_ble_eq_true rfl) (Nat.le_of_ble_eq_true rfl) (jd D_Rd_close 21 rfl)

set_option maxHeartbeats 4000000 in
set_option maxRecDepth 100000 in
/-- Reader.colon(58) -/
theorem c_Rd_colon_ok {l : Launch} {D : va_G} {dA : Nat → ClassId} {zz : (Nat → Nat) × (Nat → Nat)} (o tp pp nn ob nb tb pb s1 s2 s3 : Nat) (f g fS fE fH fO fB : Nat → Int32) (t pr : List Nat) (sk ns : List (Nat × Nat)) (i : Nat) (ub pl : Int32) (ht : js_tx f t) (h4 : t.length ≤ 4096) (hR : js_R t i pr sk ns g fS fE fH fO fB) (hi : i < t.length) : jv_M l D dA zz y_Rd_colon b_Rd_colon 2 (some (FieldType.int)) 3 [.ref o, .int 58] [(o, .inr (2, [.ref tp, .ref pp, .ref nn, .ref ob, .ref nb, .int (nI sk.length), .int (nI i), .int ub, .int pl])), (tp, .inr (0, [.ref tb, .int (nI t.length)])), (tb, .inl (dA 0, 4096, .inl f)), (pp, .inr (0, [.ref pb, .int (nI pr.length)])), (pb, .inl (dA 0, 4096, .inl g)), (nn, .inr (1, [.ref pp, .ref s1, .ref s2, .ref s3, .int (nI ns.length)])), (s1, .inl (dA 1, 1024, .inl fS)), (s2, .inl (dA 1, 1024, .inl fE)), (s3, .inl (dA 1, 1024, .inl fH)), (ob, .inl (dA 0, 32, .inl fO)), (nb, .inl (dA 1, 32, .inl fB))] (jv_pi fun r (g2 : Nat → Int32) => r = 0 ∧ js_R t (i + 1) (pr ++ [58]) sk ns g2 fS fE fH fO fB) (fun g2 => [(o, .inr (2, [.ref tp, .ref pp, .ref nn, .ref ob, .ref nb, .int (nI sk.length), .int (nI (i + 1)), .int ub, .int pl])), (tp, .inr (0, [.ref tb, .int (nI t.length)])), (tb, .inl (dA 0, 4096, .inl f)), (pp, .inr (0, [.ref pb, .int (nI (pr ++ [58]).length)])), (pb, .inl (dA 0, 4096, .inl g2)), (nn, .inr (1, [.ref pp, .ref s1, .ref s2, .ref s3, .int (nI ns.length)])), (s1, .inl (dA 1, 1024, .inl fS)), (s2, .inl (dA 1, 1024, .inl fE)), (s3, .inl (dA 1, 1024, .inl fH)), (ob, .inl (dA 0, 32, .inl fO)), (nb, .inl (dA 1, 32, .inl fB))]) 0 0 := by
  refine jv_M.of [(0, .ref o), (1, .int 58)] (by decide) (Nat.le_of_ble_eq_true rfl) rfl ?_
  intro pR eR sR mR belowR methR cR AR C hr hin
  refine jv_iload_n C (jd D_Rd_colon 0 rfl) rfl 1 rfl ?_
  refine jv_bipush (v := 58) C (jd D_Rd_colon 1 rfl) (by decide) ?_
  refine jv_icmp_eq (tgt := 15) C (jd D_Rd_colon 2 rfl) (by decide) (fun c3 => ?_) (fun c3 => absurd (rfl) c3)
  refine jv_aload_n C (jd D_Rd_colon 8 rfl) rfl 0 rfl ?_
  refine jv_iload_n C (jd D_Rd_colon 9 rfl) rfl 1 rfl ?_
  refine jv_callV (wr := [(tp, .inr (0, [.ref tb, .int (nI t.length)])), (tb, .inl (dA 0, 4096, .inl f)), (nn, .inr (1, [.ref pp, .ref s1, .ref s2, .ref s3, .int (nI ns.length)])), (s1, .inl (dA 1, 1024, .inl fS)), (s2, .inl (dA 1, 1024, .inl fE)), (s3, .inl (dA 1, 1024, .inl fH)), (ob, .inl (dA 0, 32, .inl fO)), (nb, .inl (dA 1, 32, .inl fB))]) C cl_Rd_112 (c_Rd_pass o tp pp nn ob nb (nI sk.length) ub pl i pb 4096 g pr 58 (by have := hR.2.1; omega) (by decide) hR.2.2.2.2.1) [0, 3, 4] [1, 2, 5, 6, 7, 8, 9, 10] rfl rfl rfl rfl (by decide) rfl rfl 0 rfl ⟨Nat.le_of_ble_eq_true rfl, Nat.le_of_ble_eq_true rfl⟩ ⟨Nat.le_of_ble_eq_true rfl, Nat.le_of_ble_eq_true rfl⟩ rfl rfl (Nat.le_of_ble_eq_true rfl) (jd D_Rd_colon 10 rfl) (fun v1 g2 k2 => ?_)
  obtain ⟨rfl, k2⟩ := k2
  refine jv_fix [8, 0, 1, 9, 10, 2, 3, 4, 5, 6, 7] [(o, .inr (2, [.ref tp, .ref pp, .ref nn, .ref ob, .ref nb, .int (nI sk.length), .int (nI (i + 1)), .int ub, .int pl])), (tp, .inr (0, [.ref tb, .int (nI t.length)])), (tb, .inl (dA 0, 4096, .inl f)), (pp, .inr (0, [.ref pb, .int (nI (pr ++ [(58 : Int32).toBitVec.toNat % 256]).length)])), (pb, .inl (dA 0, 4096, .inl g2)), (nn, .inr (1, [.ref pp, .ref s1, .ref s2, .ref s3, .int (nI ns.length)])), (s1, .inl (dA 1, 1024, .inl fS)), (s2, .inl (dA 1, 1024, .inl fE)), (s3, .inl (dA 1, 1024, .inl fH)), (ob, .inl (dA 0, 32, .inl fO)), (nb, .inl (dA 1, 32, .inl fB))] [] 0 0 rfl rfl rfl (Nat.le_refl _) (Nat.le_refl _) ?_
  refine jv_weq (ws' := [(o, .inr (2, [.ref tp, .ref pp, .ref nn, .ref ob, .ref nb, .int (nI sk.length), .int (nI (i + 1)), .int ub, .int pl])), (tp, .inr (0, [.ref tb, .int (nI t.length)])), (tb, .inl (dA 0, 4096, .inl f)), (pp, .inr (0, [.ref pb, .int (nI (pr ++ [58]).length)])), (pb, .inl (dA 0, 4096, .inl g2)), (nn, .inr (1, [.ref pp, .ref s1, .ref s2, .ref s3, .int (nI ns.length)])), (s1, .inl (dA 1, 1024, .inl fS)), (s2, .inl (dA 1, 1024, .inl fE)), (s3, .inl (dA 1, 1024, .inl fH)), (ob, .inl (dA 0, 32, .inl fO)), (nb, .inl (dA 1, 32, .inl fB))]) (by rfl) ?_
  refine jv_iconst (v := 0) C (jd D_Rd_colon 11 rfl) (by decide) ?_
  exact jv_iret C hr g2 (⟨rfl, hR.more k2 (by omega) (by have := hR.2.1; rw [List.length_append]; exact Nat.succ_le_succ this)⟩) rfl [0, 1, 2, 3, 4, 5, 6, 7, 8, 9, 10] rfl rfl (Nat.le_of_ble_eq_true rfl) (Nat.le_of_ble_eq_true rfl) (jd D_Rd_colon 12 rfl)

set_option maxHeartbeats 4000000 in
set_option maxRecDepth 100000 in
/-- Reader.colon(x), x is none -/
theorem c_Rd_colon_no {l : Launch} {D : va_G} {dA : Nat → ClassId} {zz : (Nat → Nat) × (Nat → Nat)} (o tp pp nn ob nb tb pb s1 s2 s3 : Nat) (f g fS fE fH fO fB : Nat → Int32) (t pr : List Nat) (sk ns : List (Nat × Nat)) (i : Nat) (ub pl : Int32) (x : Int32) (hx : ¬ x = 58) : jv_M l D dA zz y_Rd_colon b_Rd_colon 2 (some (FieldType.int)) 3 [.ref o, .int x] [(o, .inr (2, [.ref tp, .ref pp, .ref nn, .ref ob, .ref nb, .int (nI sk.length), .int (nI i), .int ub, .int pl])), (tp, .inr (0, [.ref tb, .int (nI t.length)])), (tb, .inl (dA 0, 4096, .inl f)), (pp, .inr (0, [.ref pb, .int (nI pr.length)])), (pb, .inl (dA 0, 4096, .inl g)), (nn, .inr (1, [.ref pp, .ref s1, .ref s2, .ref s3, .int (nI ns.length)])), (s1, .inl (dA 1, 1024, .inl fS)), (s2, .inl (dA 1, 1024, .inl fE)), (s3, .inl (dA 1, 1024, .inl fH)), (ob, .inl (dA 0, 32, .inl fO)), (nb, .inl (dA 1, 32, .inl fB))] (jv_pi fun r (_ : Unit) => r = 6) (fun _ => [(o, .inr (2, [.ref tp, .ref pp, .ref nn, .ref ob, .ref nb, .int (nI sk.length), .int (nI i), .int ub, .int (nI i)])), (tp, .inr (0, [.ref tb, .int (nI t.length)])), (tb, .inl (dA 0, 4096, .inl f)), (pp, .inr (0, [.ref pb, .int (nI pr.length)])), (pb, .inl (dA 0, 4096, .inl g)), (nn, .inr (1, [.ref pp, .ref s1, .ref s2, .ref s3, .int (nI ns.length)])), (s1, .inl (dA 1, 1024, .inl fS)), (s2, .inl (dA 1, 1024, .inl fE)), (s3, .inl (dA 1, 1024, .inl fH)), (ob, .inl (dA 0, 32, .inl fO)), (nb, .inl (dA 1, 32, .inl fB))]) 0 0 := by
  refine jv_M.of [(0, .ref o), (1, .int x)] (by decide) (Nat.le_of_ble_eq_true rfl) rfl ?_
  intro pR eR sR mR belowR methR cR AR C hr hin
  refine jv_iload_n C (jd D_Rd_colon 0 rfl) rfl 1 rfl ?_
  refine jv_bipush (v := 58) C (jd D_Rd_colon 1 rfl) (by decide) ?_
  refine jv_icmp_eq (tgt := 15) C (jd D_Rd_colon 2 rfl) (by decide) (fun c3 => absurd c3 (hx)) (fun c3 => ?_)
  refine jv_aload_n C (jd D_Rd_colon 3 rfl) rfl 0 rfl ?_
  refine jv_aload_n C (jd D_Rd_colon 4 rfl) rfl 0 rfl ?_
  refine jv_get C fl_Rd_46 0 rfl rfl (jd D_Rd_colon 5 rfl) ?_
  refine jv_callV (wr := [(tp, .inr (0, [.ref tb, .int (nI t.length)])), (tb, .inl (dA 0, 4096, .inl f)), (pp, .inr (0, [.ref pb, .int (nI pr.length)])), (pb, .inl (dA 0, 4096, .inl g)), (nn, .inr (1, [.ref pp, .ref s1, .ref s2, .ref s3, .int (nI ns.length)])), (s1, .inl (dA 1, 1024, .inl fS)), (s2, .inl (dA 1, 1024, .inl fE)), (s3, .inl (dA 1, 1024, .inl fH)), (ob, .inl (dA 0, 32, .inl fO)), (nb, .inl (dA 1, 32, .inl fB))]) C cl_Rd_109 (c_Rd_breakAt o tp pp nn ob nb (nI sk.length) ub pl i (nI i)) [0] [1, 2, 3, 4, 5, 6, 7, 8, 9, 10] rfl rfl rfl rfl (by decide) rfl rfl 0 rfl ⟨Nat.le_of_ble_eq_true rfl, Nat.le_of_ble_eq_true rfl⟩ ⟨Nat.le_of_ble_eq_true rfl, Nat.le_of_ble_eq_true rfl⟩ rfl rfl (Nat.le_of_ble_eq_true rfl) (jd D_Rd_colon 6 rfl) (fun v1 _ k7 => ?_)
  obtain ⟨r7, rfl, k7⟩ := k7
  refine jv_fix [10, 0, 1, 2, 3, 4, 5, 6, 7, 8, 9] [(o, .inr (2, [.ref tp, .ref pp, .ref nn, .ref ob, .ref nb, .int (nI sk.length), .int (nI i), .int ub, .int (nI i)])), (tp, .inr (0, [.ref tb, .int (nI t.length)])), (tb, .inl (dA 0, 4096, .inl f)), (pp, .inr (0, [.ref pb, .int (nI pr.length)])), (pb, .inl (dA 0, 4096, .inl g)), (nn, .inr (1, [.ref pp, .ref s1, .ref s2, .ref s3, .int (nI ns.length)])), (s1, .inl (dA 1, 1024, .inl fS)), (s2, .inl (dA 1, 1024, .inl fE)), (s3, .inl (dA 1, 1024, .inl fH)), (ob, .inl (dA 0, 32, .inl fO)), (nb, .inl (dA 1, 32, .inl fB))] [.int r7] 0 0 rfl rfl rfl (Nat.le_refl _) (Nat.le_refl _) ?_
  subst k7
  exact jv_iret C hr () (rfl) rfl [0, 1, 2, 3, 4, 5, 6, 7, 8, 9, 10] rfl rfl (Nat.le_of_ble_eq_true rfl) (Nat.le_of_ble_eq_true rfl) (jd D_Rd_colon 7 rfl)

set_option maxHeartbeats 4000000 in
set_option maxRecDepth 100000 in
/-- Reader.behindValue(-1), nothing is open -/
theorem c_Rd_behindValue_end {l : Launch} {D : va_G} {dA : Nat → ClassId} {zz : (Nat → Nat) × (Nat → Nat)} (o tp pp nn ob nb tb pb s1 s2 s3 : Nat) (f g fS fE fH fO fB : Nat → Int32) (t pr : List Nat) (sk ns : List (Nat × Nat)) (i : Nat) (ub pl : Int32)  : jv_M l D dA zz y_Rd_behindValue b_Rd_behindValue 3 (some (FieldType.int)) 4 [.ref o, .int (-1)] [(o, .inr (2, [.ref tp, .ref pp, .ref nn, .ref ob, .ref nb, .int (nI 0), .int (nI i), .int ub, .int pl])), (tp, .inr (0, [.ref tb, .int (nI t.length)])), (tb, .inl (dA 0, 4096, .inl f)), (pp, .inr (0, [.ref pb, .int (nI pr.length)])), (pb, .inl (dA 0, 4096, .inl g)), (nn, .inr (1, [.ref pp, .ref s1, .ref s2, .ref s3, .int (nI ns.length)])), (s1, .inl (dA 1, 1024, .inl fS)), (s2, .inl (dA 1, 1024, .inl fE)), (s3, .inl (dA 1, 1024, .inl fH)), (ob, .inl (dA 0, 32, .inl fO)), (nb, .inl (dA 1, 32, .inl fB))] (jv_pi fun r (_ : Unit) => r = 6) (fun _ => [(o, .inr (2, [.ref tp, .ref pp, .ref nn, .ref ob, .ref nb, .int (nI 0), .int (nI i), .int ub, .int pl])), (tp, .inr (0, [.ref tb, .int (nI t.length)])), (tb, .inl (dA 0, 4096, .inl f)), (pp, .inr (0, [.ref pb, .int (nI pr.length)])), (pb, .inl (dA 0, 4096, .inl g)), (nn, .inr (1, [.ref pp, .ref s1, .ref s2, .ref s3, .int (nI ns.length)])), (s1, .inl (dA 1, 1024, .inl fS)), (s2, .inl (dA 1, 1024, .inl fE)), (s3, .inl (dA 1, 1024, .inl fH)), (ob, .inl (dA 0, 32, .inl fO)), (nb, .inl (dA 1, 32, .inl fB))]) 0 0 := by
  refine jv_M.of [(0, .ref o), (1, .int (-1))] (by decide) (Nat.le_of_ble_eq_true rfl) rfl ?_
  intro pR eR sR mR belowR methR cR AR C hr hin
  refine jv_aload_n C (jd D_Rd_behindValue 0 rfl) rfl 0 rfl ?_
  refine jv_get C fl_Rd_75 0 rfl rfl (jd D_Rd_behindValue 1 rfl) ?_
  refine jv_if_ne (tgt := 26) C (jd D_Rd_behindValue 2 rfl) (by decide) (fun c4 => absurd c4 (fun y => y rfl)) (fun c4 => ?_)
  refine jv_iload_n C (jd D_Rd_behindValue 3 rfl) rfl 1 rfl ?_
  refine jv_iconst (v := -1) C (jd D_Rd_behindValue 4 rfl) (by decide) ?_
  refine jv_icmp_ne (tgt := 17) C (jd D_Rd_behindValue 5 rfl) (by decide) (fun c9 => absurd c9 (fun y => y rfl)) (fun c9 => ?_)
  refine jv_bipush (v := 6) C (jd D_Rd_behindValue 6 rfl) (by decide) ?_
  refine jv_goto (tgt := 25) C (jd D_Rd_behindValue 7 rfl) (by decide) ?_
  exact jv_iret C hr () (rfl) rfl [0, 1, 2, 3, 4, 5, 6, 7, 8, 9, 10] rfl rfl (Nat.le_of_ble_eq_true rfl) (Nat.le_of_ble_eq_true rfl) (jd D_Rd_behindValue 12 rfl)

set_option maxHeartbeats 4000000 in
set_option maxRecDepth 100000 in
/-- Reader.behindValue(x), nothing is open -/
theorem c_Rd_behindValue_more {l : Launch} {D : va_G} {dA : Nat → ClassId} {zz : (Nat → Nat) × (Nat → Nat)} (o tp pp nn ob nb tb pb s1 s2 s3 : Nat) (f g fS fE fH fO fB : Nat → Int32) (t pr : List Nat) (sk ns : List (Nat × Nat)) (i : Nat) (ub pl : Int32) (x : Int32) (hx : ¬ x = -1) : jv_M l D dA zz y_Rd_behindValue b_Rd_behindValue 3 (some (FieldType.int)) 4 [.ref o, .int x] [(o, .inr (2, [.ref tp, .ref pp, .ref nn, .ref ob, .ref nb, .int (nI 0), .int (nI i), .int ub, .int pl])), (tp, .inr (0, [.ref tb, .int (nI t.length)])), (tb, .inl (dA 0, 4096, .inl f)), (pp, .inr (0, [.ref pb, .int (nI pr.length)])), (pb, .inl (dA 0, 4096, .inl g)), (nn, .inr (1, [.ref pp, .ref s1, .ref s2, .ref s3, .int (nI ns.length)])), (s1, .inl (dA 1, 1024, .inl fS)), (s2, .inl (dA 1, 1024, .inl fE)), (s3, .inl (dA 1, 1024, .inl fH)), (ob, .inl (dA 0, 32, .inl fO)), (nb, .inl (dA 1, 32, .inl fB))] (jv_pi fun r (_ : Unit) => r = 6) (fun _ => [(o, .inr (2, [.ref tp, .ref pp, .ref nn, .ref ob, .ref nb, .int (nI 0), .int (nI i), .int ub, .int (nI i)])), (tp, .inr (0, [.ref tb, .int (nI t.length)])), (tb, .inl (dA 0, 4096, .inl f)), (pp, .inr (0, [.ref pb, .int (nI pr.length)])), (pb, .inl (dA 0, 4096, .inl g)), (nn, .inr (1, [.ref pp, .ref s1, .ref s2, .ref s3, .int (nI ns.length)])), (s1, .inl (dA 1, 1024, .inl fS)), (s2, .inl (dA 1, 1024, .inl fE)), (s3, .inl (dA 1, 1024, .inl fH)), (ob, .inl (dA 0, 32, .inl fO)), (nb, .inl (dA 1, 32, .inl fB))]) 0 0 := by
  refine jv_M.of [(0, .ref o), (1, .int x)] (by decide) (Nat.le_of_ble_eq_true rfl) rfl ?_
  intro pR eR sR mR belowR methR cR AR C hr hin
  refine jv_aload_n C (jd D_Rd_behindValue 0 rfl) rfl 0 rfl ?_
  refine jv_get C fl_Rd_75 0 rfl rfl (jd D_Rd_behindValue 1 rfl) ?_
  refine jv_if_ne (tgt := 26) C (jd D_Rd_behindValue 2 rfl) (by decide) (fun c4 => absurd c4 (fun y => y rfl)) (fun c4 => ?_)
  refine jv_iload_n C (jd D_Rd_behindValue 3 rfl) rfl 1 rfl ?_
  refine jv_iconst (v := -1) C (jd D_Rd_behindValue 4 rfl) (by decide) ?_
  refine jv_icmp_ne (tgt := 17) C (jd D_Rd_behindValue 5 rfl) (by decide) (fun c9 => ?_) (fun c9 => absurd c9 (hx))
  refine jv_aload_n C (jd D_Rd_behindValue 8 rfl) rfl 0 rfl ?_
  refine jv_aload_n C (jd D_Rd_behindValue 9 rfl) rfl 0 rfl ?_
  refine jv_get C fl_Rd_46 0 rfl rfl (jd D_Rd_behindValue 10 rfl) ?_
  refine jv_callV (wr := [(tp, .inr (0, [.ref tb, .int (nI t.length)])), (tb, .inl (dA 0, 4096, .inl f)), (pp, .inr (0, [.ref pb, .int (nI pr.length)])), (pb, .inl (dA 0, 4096, .inl g)), (nn, .inr (1, [.ref pp, .ref s1, .ref s2, .ref s3, .int (nI ns.length)])), (s1, .inl (dA 1, 1024, .inl fS)), (s2, .inl (dA 1, 1024, .inl fE)), (s3, .inl (dA 1, 1024, .inl fH)), (ob, .inl (dA 0, 32, .inl fO)), (nb, .inl (dA 1, 32, .inl fB))]) C cl_Rd_109 (c_Rd_breakAt o tp pp nn ob nb (nI 0) ub pl i (nI i)) [0] [1, 2, 3, 4, 5, 6, 7, 8, 9, 10] rfl rfl rfl rfl (by decide) rfl rfl 0 rfl ⟨Nat.le_of_ble_eq_true rfl, Nat.le_of_ble_eq_true rfl⟩ ⟨Nat.le_of_ble_eq_true rfl, Nat.le_of_ble_eq_true rfl⟩ rfl rfl (Nat.le_of_ble_eq_true rfl) (jd D_Rd_behindValue 11 rfl) (fun v1 _ k7 => ?_)
  obtain ⟨r7, rfl, k7⟩ := k7
  refine jv_fix [10, 0, 1, 2, 3, 4, 5, 6, 7, 8, 9] [(o, .inr (2, [.ref tp, .ref pp, .ref nn, .ref ob, .ref nb, .int (nI 0), .int (nI i), .int ub, .int (nI i)])), (tp, .inr (0, [.ref tb, .int (nI t.length)])), (tb, .inl (dA 0, 4096, .inl f)), (pp, .inr (0, [.ref pb, .int (nI pr.length)])), (pb, .inl (dA 0, 4096, .inl g)), (nn, .inr (1, [.ref pp, .ref s1, .ref s2, .ref s3, .int (nI ns.length)])), (s1, .inl (dA 1, 1024, .inl fS)), (s2, .inl (dA 1, 1024, .inl fE)), (s3, .inl (dA 1, 1024, .inl fH)), (ob, .inl (dA 0, 32, .inl fO)), (nb, .inl (dA 1, 32, .inl fB))] [.int r7] 0 0 rfl rfl rfl (Nat.le_refl _) (Nat.le_refl _) ?_
  subst k7
  exact jv_iret C hr () (rfl) rfl [0, 1, 2, 3, 4, 5, 6, 7, 8, 9, 10] rfl rfl (Nat.le_of_ble_eq_true rfl) (Nat.le_of_ble_eq_true rfl) (jd D_Rd_behindValue 12 rfl)

set_option maxHeartbeats 4000000 in
set_option maxRecDepth 100000 in
/-- Reader.behindValue(44) -/
theorem c_Rd_behindValue_comma91 {l : Launch} {D : va_G} {dA : Nat → ClassId} {zz : (Nat → Nat) × (Nat → Nat)} (o tp pp nn ob nb tb pb s1 s2 s3 : Nat) (f g fS fE fH fO fB : Nat → Int32) (t pr : List Nat) (sk ns : List (Nat × Nat)) (i : Nat) (ub pl : Int32) (n0 : Nat) (ht : js_tx f t) (h4 : t.length ≤ 4096) (hR : js_R t i pr (sk ++ [(91, n0)]) ns g fS fE fH fO fB) (hm : ∀ q ∈ sk, q.2 ≤ n0) (hi : i < t.length) : jv_M l D dA zz y_Rd_behindValue b_Rd_behindValue 3 (some (FieldType.int)) 4 [.ref o, .int 44] [(o, .inr (2, [.ref tp, .ref pp, .ref nn, .ref ob, .ref nb, .int (nI ((sk ++ [(91, n0)]).length)), .int (nI i), .int ub, .int pl])), (tp, .inr (0, [.ref tb, .int (nI t.length)])), (tb, .inl (dA 0, 4096, .inl f)), (pp, .inr (0, [.ref pb, .int (nI pr.length)])), (pb, .inl (dA 0, 4096, .inl g)), (nn, .inr (1, [.ref pp, .ref s1, .ref s2, .ref s3, .int (nI ns.length)])), (s1, .inl (dA 1, 1024, .inl fS)), (s2, .inl (dA 1, 1024, .inl fE)), (s3, .inl (dA 1, 1024, .inl fH)), (ob, .inl (dA 0, 32, .inl fO)), (nb, .inl (dA 1, 32, .inl fB))] (jv_pi fun r (g2 : Nat → Int32) => r = 0 ∧ js_R t (i + 1) (pr ++ [44]) (sk ++ [(91, n0)]) ns g2 fS fE fH fO fB) (fun g2 => [(o, .inr (2, [.ref tp, .ref pp, .ref nn, .ref ob, .ref nb, .int (nI ((sk ++ [(91, n0)]).length)), .int (nI (i + 1)), .int ub, .int pl])), (tp, .inr (0, [.ref tb, .int (nI t.length)])), (tb, .inl (dA 0, 4096, .inl f)), (pp, .inr (0, [.ref pb, .int (nI (pr ++ [44]).length)])), (pb, .inl (dA 0, 4096, .inl g2)), (nn, .inr (1, [.ref pp, .ref s1, .ref s2, .ref s3, .int (nI ns.length)])), (s1, .inl (dA 1, 1024, .inl fS)), (s2, .inl (dA 1, 1024, .inl fE)), (s3, .inl (dA 1, 1024, .inl fH)), (ob, .inl (dA 0, 32, .inl fO)), (nb, .inl (dA 1, 32, .inl fB))]) 0 0 := by
  refine jv_M.of [(0, .ref o), (1, .int 44)] (by decide) (Nat.le_of_ble_eq_true rfl) rfl ?_
  intro pR eR sR mR belowR methR cR AR C hr hin
  have hcl := hR.closes hm
  have hs : (sk ++ [(91, n0)]).length ≤ 32 := hR.2.2.1
  have hs1 : sk.length < 32 := by rw [List.length_append] at hs; exact hs
  refine jv_aload_n C (jd D_Rd_behindValue 0 rfl) rfl 0 rfl ?_
  refine jv_get C fl_Rd_75 0 rfl rfl (jd D_Rd_behindValue 1 rfl) ?_
  refine jv_if_ne (tgt := 26) C (jd D_Rd_behindValue 2 rfl) (by decide) (fun c4 => ?_) (fun c4 => absurd c4 (nI_ne0 (js_lpos _ _) (by omega)))
  refine jv_aload_n C (jd D_Rd_behindValue 13 rfl) rfl 0 rfl ?_
  refine jv_get C fl_Rd_32 0 rfl rfl (jd D_Rd_behindValue 14 rfl) ?_
  refine jv_aload_n C (jd D_Rd_behindValue 15 rfl) rfl 0 rfl ?_
  refine jv_get C fl_Rd_75 0 rfl rfl (jd D_Rd_behindValue 16 rfl) ?_
  refine jv_iconst (v := 1) C (jd D_Rd_behindValue 17 rfl) (by decide) ?_
  refine jv_isub C (jd D_Rd_behindValue 18 rfl) ?_
  refine jv_ati (y := nI sk.length) (js_lenm1 _ _) ?_
  refine jv_bald C 9 rfl (vp_in_nI hs1 (by decide)) (jd D_Rd_behindValue 19 rfl) ?_
  refine jv_ati (y := 91) (by rw [nI_clamp (by omega)]; exact hcl.2.2.2.1) ?_
  refine jv_bipush (v := 91) C (jd D_Rd_behindValue 20 rfl) (by decide) ?_
  refine jv_icmp_ne (tgt := 46) C (jd D_Rd_behindValue 21 rfl) (by decide) (fun c39 => absurd c39 (fun y => y rfl)) (fun c39 => ?_)
  refine jv_iconst (v := 1) C (jd D_Rd_behindValue 22 rfl) (by decide) ?_
  refine jv_goto (tgt := 47) C (jd D_Rd_behindValue 23 rfl) (by decide) ?_
  refine jv_istore_n C [(2, .int 1), (0, .ref o), (1, .int 44)] (jd D_Rd_behindValue 25 rfl) rfl (by decide) rfl ?_
  refine jv_iload_n C (jd D_Rd_behindValue 26 rfl) rfl 2 rfl ?_
  refine jv_bipush (v := 44) C (jd D_Rd_behindValue 27 rfl) (by decide) ?_
  refine jv_icmp_ne (tgt := 69) C (jd D_Rd_behindValue 28 rfl) (by decide) (fun c51 => absurd c51 (fun y => y rfl)) (fun c51 => ?_)
  refine jv_aload_n C (jd D_Rd_behindValue 29 rfl) rfl 1 rfl ?_
  refine jv_iload_n C (jd D_Rd_behindValue 30 rfl) rfl 2 rfl ?_
  refine jv_callV (wr := [(tp, .inr (0, [.ref tb, .int (nI t.length)])), (tb, .inl (dA 0, 4096, .inl f)), (nn, .inr (1, [.ref pp, .ref s1, .ref s2, .ref s3, .int (nI ns.length)])), (s1, .inl (dA 1, 1024, .inl fS)), (s2, .inl (dA 1, 1024, .inl fE)), (s3, .inl (dA 1, 1024, .inl fH)), (ob, .inl (dA 0, 32, .inl fO)), (nb, .inl (dA 1, 32, .inl fB))]) C cl_Rd_112 (c_Rd_pass o tp pp nn ob nb (nI ((sk ++ [(91, n0)]).length)) ub pl i pb 4096 g pr 44 (by have := hR.2.1; omega) (by decide) hR.2.2.2.2.1) [0, 3, 4] [1, 2, 5, 6, 7, 8, 9, 10] rfl rfl rfl rfl (by decide) rfl rfl 0 rfl ⟨Nat.le_of_ble_eq_true rfl, Nat.le_of_ble_eq_true rfl⟩ ⟨Nat.le_of_ble_eq_true rfl, Nat.le_of_ble_eq_true rfl⟩ rfl rfl (Nat.le_of_ble_eq_true rfl) (jd D_Rd_behindValue 31 rfl) (fun v1 g2 k2 => ?_)
  obtain ⟨rfl, k2⟩ := k2
  refine jv_fix [8, 0, 1, 9, 10, 2, 3, 4, 5, 6, 7] [(o, .inr (2, [.ref tp, .ref pp, .ref nn, .ref ob, .ref nb, .int (nI ((sk ++ [(91, n0)]).length)), .int (nI (i + 1)), .int ub, .int pl])), (tp, .inr (0, [.ref tb, .int (nI t.length)])), (tb, .inl (dA 0, 4096, .inl f)), (pp, .inr (0, [.ref pb, .int (nI (pr ++ [(44 : Int32).toBitVec.toNat % 256]).length)])), (pb, .inl (dA 0, 4096, .inl g2)), (nn, .inr (1, [.ref pp, .ref s1, .ref s2, .ref s3, .int (nI ns.length)])), (s1, .inl (dA 1, 1024, .inl fS)), (s2, .inl (dA 1, 1024, .inl fE)), (s3, .inl (dA 1, 1024, .inl fH)), (ob, .inl (dA 0, 32, .inl fO)), (nb, .inl (dA 1, 32, .inl fB))] [] 0 0 rfl rfl rfl (Nat.le_refl _) (Nat.le_refl _) ?_
  refine jv_iload_n C (jd D_Rd_behindValue 32 rfl) rfl 0 rfl ?_
  refine jv_if_eq (tgt := 67) C (jd D_Rd_behindValue 33 rfl) (by decide) (fun c60 => absurd c60 (by decide)) (fun c60 => ?_)
  refine jv_iconst (v := 0) C (jd D_Rd_behindValue 34 rfl) (by decide) ?_
  refine jv_goto (tgt := 68) C (jd D_Rd_behindValue 35 rfl) (by decide) ?_
  refine jv_weq (ws' := [(o, .inr (2, [.ref tp, .ref pp, .ref nn, .ref ob, .ref nb, .int (nI ((sk ++ [(91, n0)]).length)), .int (nI (i + 1)), .int ub, .int pl])), (tp, .inr (0, [.ref tb, .int (nI t.length)])), (tb, .inl (dA 0, 4096, .inl f)), (pp, .inr (0, [.ref pb, .int (nI (pr ++ [44]).length)])), (pb, .inl (dA 0, 4096, .inl g2)), (nn, .inr (1, [.ref pp, .ref s1, .ref s2, .ref s3, .int (nI ns.length)])), (s1, .inl (dA 1, 1024, .inl fS)), (s2, .inl (dA 1, 1024, .inl fE)), (s3, .inl (dA 1, 1024, .inl fH)), (ob, .inl (dA 0, 32, .inl fO)), (nb, .inl (dA 1, 32, .inl fB))]) (by rfl) ?_
  exact jv_iret C hr g2 (⟨rfl, hR.more k2 (by omega) (by have := hR.2.1; rw [List.length_append]; exact Nat.succ_le_succ this)⟩) rfl [0, 1, 2, 3, 4, 5, 6, 7, 8, 9, 10] rfl rfl (Nat.le_of_ble_eq_true rfl) (Nat.le_of_ble_eq_true rfl) (jd D_Rd_behindValue 37 rfl)

set_option maxHeartbeats 4000000 in
set_option maxRecDepth 100000 in
/-- Reader.behindValue(93) -/
theorem c_Rd_behindValue_close91 {l : Launch} {D : va_G} {dA : Nat → ClassId} {zz : (Nat → Nat) × (Nat → Nat)} (o tp pp nn ob nb tb pb s1 s2 s3 : Nat) (f g fS fE fH fO fB : Nat → Int32) (t pr : List Nat) (sk ns : List (Nat × Nat)) (i : Nat) (ub pl : Int32) (n0 : Nat) (ht : js_tx f t) (h4 : t.length ≤ 4096) (hR : js_R t i pr (sk ++ [(91, n0)]) ns g fS fE fH fO fB) (hm : ∀ q ∈ sk, q.2 ≤ n0) (hi : i < t.length) : jv_M l D dA zz y_Rd_behindValue b_Rd_behindValue 3 (some (FieldType.int)) 4 [.ref o, .int 93] [(o, .inr (2, [.ref tp, .ref pp, .ref nn, .ref ob, .ref nb, .int (nI ((sk ++ [(91, n0)]).length)), .int (nI i), .int ub, .int pl])), (tp, .inr (0, [.ref tb, .int (nI t.length)])), (tb, .inl (dA 0, 4096, .inl f)), (pp, .inr (0, [.ref pb, .int (nI pr.length)])), (pb, .inl (dA 0, 4096, .inl g)), (nn, .inr (1, [.ref pp, .ref s1, .ref s2, .ref s3, .int (nI ns.length)])), (s1, .inl (dA 1, 1024, .inl fS)), (s2, .inl (dA 1, 1024, .inl fE)), (s3, .inl (dA 1, 1024, .inl fH)), (ob, .inl (dA 0, 32, .inl fO)), (nb, .inl (dA 1, 32, .inl fB))] (jv_pi fun r (g2 : Nat → Int32) => r = 5 ∧ js_R t (i + 1) (pr ++ [93]) sk (ns.take n0) g2 fS fE fH fO fB) (fun g2 => [(o, .inr (2, [.ref tp, .ref pp, .ref nn, .ref ob, .ref nb, .int (nI sk.length), .int (nI (i + 1)), .int ub, .int pl])), (tp, .inr (0, [.ref tb, .int (nI t.length)])), (tb, .inl (dA 0, 4096, .inl f)), (pp, .inr (0, [.ref pb, .int (nI (pr ++ [93]).length)])), (pb, .inl (dA 0, 4096, .inl g2)), (nn, .inr (1, [.ref pp, .ref s1, .ref s2, .ref s3, .int (nI ((ns.take n0).length))])), (s1, .inl (dA 1, 1024, .inl fS)), (s2, .inl (dA 1, 1024, .inl fE)), (s3, .inl (dA 1, 1024, .inl fH)), (ob, .inl (dA 0, 32, .inl fO)), (nb, .inl (dA 1, 32, .inl fB))]) 0 0 := by
  refine jv_M.of [(0, .ref o), (1, .int 93)] (by decide) (Nat.le_of_ble_eq_true rfl) rfl ?_
  intro pR eR sR mR belowR methR cR AR C hr hin
  have hcl := hR.closes hm
  have hs : (sk ++ [(91, n0)]).length ≤ 32 := hR.2.2.1
  have hs1 : sk.length < 32 := by rw [List.length_append] at hs; exact hs
  refine jv_aload_n C (jd D_Rd_behindValue 0 rfl) rfl 0 rfl ?_
  refine jv_get C fl_Rd_75 0 rfl rfl (jd D_Rd_behindValue 1 rfl) ?_
  refine jv_if_ne (tgt := 26) C (jd D_Rd_behindValue 2 rfl) (by decide) (fun c4 => ?_) (fun c4 => absurd c4 (nI_ne0 (js_lpos _ _) (by omega)))
  refine jv_aload_n C (jd D_Rd_behindValue 13 rfl) rfl 0 rfl ?_
  refine jv_get C fl_Rd_32 0 rfl rfl (jd D_Rd_behindValue 14 rfl) ?_
  refine jv_aload_n C (jd D_Rd_behindValue 15 rfl) rfl 0 rfl ?_
  refine jv_get C fl_Rd_75 0 rfl rfl (jd D_Rd_behindValue 16 rfl) ?_
  refine jv_iconst (v := 1) C (jd D_Rd_behindValue 17 rfl) (by decide) ?_
  refine jv_isub C (jd D_Rd_behindValue 18 rfl) ?_
  refine jv_ati (y := nI sk.length) (js_lenm1 _ _) ?_
  refine jv_bald C 9 rfl (vp_in_nI hs1 (by decide)) (jd D_Rd_behindValue 19 rfl) ?_
  refine jv_ati (y := 91) (by rw [nI_clamp (by omega)]; exact hcl.2.2.2.1) ?_
  refine jv_bipush (v := 91) C (jd D_Rd_behindValue 20 rfl) (by decide) ?_
  refine jv_icmp_ne (tgt := 46) C (jd D_Rd_behindValue 21 rfl) (by decide) (fun c39 => absurd c39 (fun y => y rfl)) (fun c39 => ?_)
  refine jv_iconst (v := 1) C (jd D_Rd_behindValue 22 rfl) (by decide) ?_
  refine jv_goto (tgt := 47) C (jd D_Rd_behindValue 23 rfl) (by decide) ?_
  refine jv_istore_n C [(2, .int 1), (0, .ref o), (1, .int 93)] (jd D_Rd_behindValue 25 rfl) rfl (by decide) rfl ?_
  refine jv_iload_n C (jd D_Rd_behindValue 26 rfl) rfl 2 rfl ?_
  refine jv_bipush (v := 44) C (jd D_Rd_behindValue 27 rfl) (by decide) ?_
  refine jv_icmp_ne (tgt := 69) C (jd D_Rd_behindValue 28 rfl) (by decide) (fun c51 => ?_) (fun c51 => absurd c51 (by decide))
  refine jv_iload_n C (jd D_Rd_behindValue 38 rfl) rfl 2 rfl ?_
  refine jv_iload_n C (jd D_Rd_behindValue 39 rfl) rfl 0 rfl ?_
  refine jv_if_eq (tgt := 79) C (jd D_Rd_behindValue 40 rfl) (by decide) (fun c71 => absurd c71 (by decide)) (fun c71 => ?_)
  refine jv_bipush (v := 93) C (jd D_Rd_behindValue 41 rfl) (by decide) ?_
  refine jv_goto (tgt := 81) C (jd D_Rd_behindValue 42 rfl) (by decide) ?_
  refine jv_icmp_ne (tgt := 92) C (jd D_Rd_behindValue 44 rfl) (by decide) (fun c81 => absurd c81 (fun y => y rfl)) (fun c81 => ?_)
  refine jv_aload_n C (jd D_Rd_behindValue 45 rfl) rfl 1 rfl ?_
  refine jv_iload_n C (jd D_Rd_behindValue 46 rfl) rfl 2 rfl ?_
  refine jv_callV (wr := []) C cl_Rd_56 (c_Rd_close o tp pp nn ob nb tb pb s1 s2 s3 f g fS fE fH fO fB t pr sk ns i ub pl 91 n0 93 ht h4 hR hi (by decide) hm) [0, 1, 2, 3, 4, 5, 6, 7, 8, 9, 10] [] rfl rfl rfl rfl (by decide) rfl rfl 0 rfl ⟨Nat.le_of_ble_eq_true rfl, Nat.le_of_ble_eq_true rfl⟩ ⟨Nat.le_of_ble_eq_true rfl, Nat.le_of_ble_eq_true rfl⟩ rfl rfl (Nat.le_of_ble_eq_true rfl) (jd D_Rd_behindValue 47 rfl) (fun v1 g2 k1 => ?_)
  obtain ⟨r1, rfl, k1⟩ := k1
  refine jv_fix [0, 1, 2, 3, 4, 5, 6, 7, 8, 9, 10] [(o, .inr (2, [.ref tp, .ref pp, .ref nn, .ref ob, .ref nb, .int (nI sk.length), .int (nI (i + 1)), .int ub, .int pl])), (tp, .inr (0, [.ref tb, .int (nI t.length)])), (tb, .inl (dA 0, 4096, .inl f)), (pp, .inr (0, [.ref pb, .int (nI (pr ++ [93]).length)])), (pb, .inl (dA 0, 4096, .inl g2)), (nn, .inr (1, [.ref pp, .ref s1, .ref s2, .ref s3, .int (nI ((ns.take n0).length))])), (s1, .inl (dA 1, 1024, .inl fS)), (s2, .inl (dA 1, 1024, .inl fE)), (s3, .inl (dA 1, 1024, .inl fH)), (ob, .inl (dA 0, 32, .inl fO)), (nb, .inl (dA 1, 32, .inl fB))] [.int r1] 0 0 rfl rfl rfl (Nat.le_refl _) (Nat.le_refl _) ?_
  obtain ⟨k1a, k1⟩ := k1
  subst k1a
  refine jv_goto (tgt := 100) C (jd D_Rd_behindValue 48 rfl) (by decide) ?_
  exact jv_iret C hr g2 (⟨rfl, k1⟩) rfl [0, 1, 2, 3, 4, 5, 6, 7, 8, 9, 10] rfl rfl (Nat.le_of_ble_eq_true rfl) (Nat.le_of_ble_eq_true rfl) (jd D_Rd_behindValue 53 rfl)

set_option maxHeartbeats 4000000 in
set_option maxRecDepth 100000 in
/-- Reader.behindValue(x), x is none -/
theorem c_Rd_behindValue_bad91 {l : Launch} {D : va_G} {dA : Nat → ClassId} {zz : (Nat → Nat) × (Nat → Nat)} (o tp pp nn ob nb tb pb s1 s2 s3 : Nat) (f g fS fE fH fO fB : Nat → Int32) (t pr : List Nat) (sk ns : List (Nat × Nat)) (i : Nat) (ub pl : Int32) (n0 : Nat) (x : Int32) (ht : js_tx f t) (h4 : t.length ≤ 4096) (hR : js_R t i pr (sk ++ [(91, n0)]) ns g fS fE fH fO fB) (hm : ∀ q ∈ sk, q.2 ≤ n0) (hx : ¬ x = 44) (hx2 : ¬ x = 93) : jv_M l D dA zz y_Rd_behindValue b_Rd_behindValue 3 (some (FieldType.int)) 4 [.ref o, .int x] [(o, .inr (2, [.ref tp, .ref pp, .ref nn, .ref ob, .ref nb, .int (nI ((sk ++ [(91, n0)]).length)), .int (nI i), .int ub, .int pl])), (tp, .inr (0, [.ref tb, .int (nI t.length)])), (tb, .inl (dA 0, 4096, .inl f)), (pp, .inr (0, [.ref pb, .int (nI pr.length)])), (pb, .inl (dA 0, 4096, .inl g)), (nn, .inr (1, [.ref pp, .ref s1, .ref s2, .ref s3, .int (nI ns.length)])), (s1, .inl (dA 1, 1024, .inl fS)), (s2, .inl (dA 1, 1024, .inl fE)), (s3, .inl (dA 1, 1024, .inl fH)), (ob, .inl (dA 0, 32, .inl fO)), (nb, .inl (dA 1, 32, .inl fB))] (jv_pi fun r (_ : Unit) => r = 6) (fun _ => [(o, .inr (2, [.ref tp, .ref pp, .ref nn, .ref ob, .ref nb, .int (nI ((sk ++ [(91, n0)]).length)), .int (nI i), .int ub, .int (nI i)])), (tp, .inr (0, [.ref tb, .int (nI t.length)])), (tb, .inl (dA 0, 4096, .inl f)), (pp, .inr (0, [.ref pb, .int (nI pr.length)])), (pb, .inl (dA 0, 4096, .inl g)), (nn, .inr (1, [.ref pp, .ref s1, .ref s2, .ref s3, .int (nI ns.length)])), (s1, .inl (dA 1, 1024, .inl fS)), (s2, .inl (dA 1, 1024, .inl fE)), (s3, .inl (dA 1, 1024, .inl fH)), (ob, .inl (dA 0, 32, .inl fO)), (nb, .inl (dA 1, 32, .inl fB))]) 0 0 := by
  refine jv_M.of [(0, .ref o), (1, .int x)] (by decide) (Nat.le_of_ble_eq_true rfl) rfl ?_
  intro pR eR sR mR belowR methR cR AR C hr hin
  have hcl := hR.closes hm
  have hs : (sk ++ [(91, n0)]).length ≤ 32 := hR.2.2.1
  have hs1 : sk.length < 32 := by rw [List.length_append] at hs; exact hs
  refine jv_aload_n C (jd D_Rd_behindValue 0 rfl) rfl 0 rfl ?_
  refine jv_get C fl_Rd_75 0 rfl rfl (jd D_Rd_behindValue 1 rfl) ?_
  refine jv_if_ne (tgt := 26) C (jd D_Rd_behindValue 2 rfl) (by decide) (fun c4 => ?_) (fun c4 => absurd c4 (nI_ne0 (js_lpos _ _) (by omega)))
  refine jv_aload_n C (jd D_Rd_behindValue 13 rfl) rfl 0 rfl ?_
  refine jv_get C fl_Rd_32 0 rfl rfl (jd D_Rd_behindValue 14 rfl) ?_
  refine jv_aload_n C (jd D_Rd_behindValue 15 rfl) rfl 0 rfl ?_
  refine jv_get C fl_Rd_75 0 rfl rfl (jd D_Rd_behindValue 16 rfl) ?_
  refine jv_iconst (v := 1) C (jd D_Rd_behindValue 17 rfl) (by decide) ?_
  refine jv_isub C (jd D_Rd_behindValue 18 rfl) ?_
  refine jv_ati (y := nI sk.length) (js_lenm1 _ _) ?_
  refine jv_bald C 9 rfl (vp_in_nI hs1 (by decide)) (jd D_Rd_behindValue 19 rfl) ?_
  refine jv_ati (y := 91) (by rw [nI_clamp (by omega)]; exact hcl.2.2.2.1) ?_
  refine jv_bipush (v := 91) C (jd D_Rd_behindValue 20 rfl) (by decide) ?_
  refine jv_icmp_ne (tgt := 46) C (jd D_Rd_behindValue 21 rfl) (by decide) (fun c39 => absurd c39 (fun y => y rfl)) (fun c39 => ?_)
  refine jv_iconst (v := 1) C (jd D_Rd_behindValue 22 rfl) (by decide) ?_
  refine jv_goto (tgt := 47) C (jd D_Rd_behindValue 23 rfl) (by decide) ?_
  refine jv_istore_n C [(2, .int 1), (0, .ref o), (1, .int x)] (jd D_Rd_behindValue 25 rfl) rfl (by decide) rfl ?_
  refine jv_iload_n C (jd D_Rd_behindValue 26 rfl) rfl 2 rfl ?_
  refine jv_bipush (v := 44) C (jd D_Rd_behindValue 27 rfl) (by decide) ?_
  refine jv_icmp_ne (tgt := 69) C (jd D_Rd_behindValue 28 rfl) (by decide) (fun c51 => ?_) (fun c51 => absurd c51 (hx))
  refine jv_iload_n C (jd D_Rd_behindValue 38 rfl) rfl 2 rfl ?_
  refine jv_iload_n C (jd D_Rd_behindValue 39 rfl) rfl 0 rfl ?_
  refine jv_if_eq (tgt := 79) C (jd D_Rd_behindValue 40 rfl) (by decide) (fun c71 => absurd c71 (by decide)) (fun c71 => ?_)
  refine jv_bipush (v := 93) C (jd D_Rd_behindValue 41 rfl) (by decide) ?_
  refine jv_goto (tgt := 81) C (jd D_Rd_behindValue 42 rfl) (by decide) ?_
  refine jv_icmp_ne (tgt := 92) C (jd D_Rd_behindValue 44 rfl) (by decide) (fun c81 => ?_) (fun c81 => absurd c81 (hx2))
  refine jv_aload_n C (jd D_Rd_behindValue 49 rfl) rfl 1 rfl ?_
  refine jv_aload_n C (jd D_Rd_behindValue 50 rfl) rfl 1 rfl ?_
  refine jv_get C fl_Rd_46 0 rfl rfl (jd D_Rd_behindValue 51 rfl) ?_
  refine jv_callV (wr := [(tp, .inr (0, [.ref tb, .int (nI t.length)])), (tb, .inl (dA 0, 4096, .inl f)), (pp, .inr (0, [.ref pb, .int (nI pr.length)])), (pb, .inl (dA 0, 4096, .inl g)), (nn, .inr (1, [.ref pp, .ref s1, .ref s2, .ref s3, .int (nI ns.length)])), (s1, .inl (dA 1, 1024, .inl fS)), (s2, .inl (dA 1, 1024, .inl fE)), (s3, .inl (dA 1, 1024, .inl fH)), (ob, .inl (dA 0, 32, .inl fO)), (nb, .inl (dA 1, 32, .inl fB))]) C cl_Rd_109 (c_Rd_breakAt o tp pp nn ob nb (nI ((sk ++ [(91, n0)]).length)) ub pl i (nI i)) [0] [1, 2, 3, 4, 5, 6, 7, 8, 9, 10] rfl rfl rfl rfl (by decide) rfl rfl 0 rfl ⟨Nat.le_of_ble_eq_true rfl, Nat.le_of_ble_eq_true rfl⟩ ⟨Nat.le_of_ble_eq_true rfl, Nat.le_of_ble_eq_true rfl⟩ rfl rfl (Nat.le_of_ble_eq_true rfl) (jd D_Rd_behindValue 52 rfl) (fun v1 _ k7 => ?_)
  obtain ⟨r7, rfl, k7⟩ := k7
  refine jv_fix [10, 0, 1, 2, 3, 4, 5, 6, 7, 8, 9] [(o, .inr (2, [.ref tp, .ref pp, .ref nn, .ref ob, .ref nb, .int (nI ((sk ++ [(91, n0)]).length)), .int (nI i), .int ub, .int (nI i)])), (tp, .inr (0, [.ref tb, .int (nI t.length)])), (tb, .inl (dA 0, 4096, .inl f)), (pp, .inr (0, [.ref pb, .int (nI pr.length)])), (pb, .inl (dA 0, 4096, .inl g)), (nn, .inr (1, [.ref pp, .ref s1, .ref s2, .ref s3, .int (nI ns.length)])), (s1, .inl (dA 1, 1024, .inl fS)), (s2, .inl (dA 1, 1024, .inl fE)), (s3, .inl (dA 1, 1024, .inl fH)), (ob, .inl (dA 0, 32, .inl fO)), (nb, .inl (dA 1, 32, .inl fB))] [.int r7] 0 0 rfl rfl rfl (Nat.le_refl _) (Nat.le_refl _) ?_
  subst k7
  exact jv_iret C hr () (rfl) rfl [0, 1, 2, 3, 4, 5, 6, 7, 8, 9, 10] rfl rfl (Nat.le_of_ble_eq_true rfl) (Nat.le_of_ble_eq_true rfl) (jd D_Rd_behindValue 53 rfl)

set_option maxHeartbeats 4000000 in
set_option maxRecDepth 100000 in
/-- Reader.behindValue(44) -/
theorem c_Rd_behindValue_comma123 {l : Launch} {D : va_G} {dA : Nat → ClassId} {zz : (Nat → Nat) × (Nat → Nat)} (o tp pp nn ob nb tb pb s1 s2 s3 : Nat) (f g fS fE fH fO fB : Nat → Int32) (t pr : List Nat) (sk ns : List (Nat × Nat)) (i : Nat) (ub pl : Int32) (n0 : Nat) (ht : js_tx f t) (h4 : t.length ≤ 4096) (hR : js_R t i pr (sk ++ [(123, n0)]) ns g fS fE fH fO fB) (hm : ∀ q ∈ sk, q.2 ≤ n0) (hi : i < t.length) : jv_M l D dA zz y_Rd_behindValue b_Rd_behindValue 3 (some (FieldType.int)) 4 [.ref o, .int 44] [(o, .inr (2, [.ref tp, .ref pp, .ref nn, .ref ob, .ref nb, .int (nI ((sk ++ [(123, n0)]).length)), .int (nI i), .int ub, .int pl])), (tp, .inr (0, [.ref tb, .int (nI t.length)])), (tb, .inl (dA 0, 4096, .inl f)), (pp, .inr (0, [.ref pb, .int (nI pr.length)])), (pb, .inl (dA 0, 4096, .inl g)), (nn, .inr (1, [.ref pp, .ref s1, .ref s2, .ref s3, .int (nI ns.length)])), (s1, .inl (dA 1, 1024, .inl fS)), (s2, .inl (dA 1, 1024, .inl fE)), (s3, .inl (dA 1, 1024, .inl fH)), (ob, .inl (dA 0, 32, .inl fO)), (nb, .inl (dA 1, 32, .inl fB))] (jv_pi fun r (g2 : Nat → Int32) => r = 2 ∧ js_R t (i + 1) (pr ++ [44]) (sk ++ [(123, n0)]) ns g2 fS fE fH fO fB) (fun g2 => [(o, .inr (2, [.ref tp, .ref pp, .ref nn, .ref ob, .ref nb, .int (nI ((sk ++ [(123, n0)]).length)), .int (nI (i + 1)), .int ub, .int pl])), (tp, .inr (0, [.ref tb, .int (nI t.length)])), (tb, .inl (dA 0, 4096, .inl f)), (pp, .inr (0, [.ref pb, .int (nI (pr ++ [44]).length)])), (pb, .inl (dA 0, 4096, .inl g2)), (nn, .inr (1, [.ref pp, .ref s1, .ref s2, .ref s3, .int (nI ns.length)])), (s1, .inl (dA 1, 1024, .inl fS)), (s2, .inl (dA 1, 1024, .inl fE)), (s3, .inl (dA 1, 1024, .inl fH)), (ob, .inl (dA 0, 32, .inl fO)), (nb, .inl (dA 1, 32, .inl fB))]) 0 0 := by
  refine jv_M.of [(0, .ref o), (1, .int 44)] (by decide) (Nat.le_of_ble_eq_true rfl) rfl ?_
  intro pR eR sR mR belowR methR cR AR C hr hin
  have hcl := hR.closes hm
  have hs : (sk ++ [(123, n0)]).length ≤ 32 := hR.2.2.1
  have hs1 : sk.length < 32 := by rw [List.length_append] at hs; exact hs
  refine jv_aload_n C (jd D_Rd_behindValue 0 rfl) rfl 0 rfl ?_
  refine jv_get C fl_Rd_75 0 rfl rfl (jd D_Rd_behindValue 1 rfl) ?_
  refine jv_if_ne (tgt := 26) C (jd D_Rd_behindValue 2 rfl) (by decide) (fun c4 => ?_) (fun c4 => absurd c4 (nI_ne0 (js_lpos _ _) (by omega)))
  refine jv_aload_n C (jd D_Rd_behindValue 13 rfl) rfl 0 rfl ?_
  refine jv_get C fl_Rd_32 0 rfl rfl (jd D_Rd_behindValue 14 rfl) ?_
  refine jv_aload_n C (jd D_Rd_behindValue 15 rfl) rfl 0 rfl ?_
  refine jv_get C fl_Rd_75 0 rfl rfl (jd D_Rd_behindValue 16 rfl) ?_
  refine jv_iconst (v := 1) C (jd D_Rd_behindValue 17 rfl) (by decide) ?_
  refine jv_isub C (jd D_Rd_behindValue 18 rfl) ?_
  refine jv_ati (y := nI sk.length) (js_lenm1 _ _) ?_
  refine jv_bald C 9 rfl (vp_in_nI hs1 (by decide)) (jd D_Rd_behindValue 19 rfl) ?_
  refine jv_ati (y := 123) (by rw [nI_clamp (by omega)]; exact hcl.2.2.2.1) ?_
  refine jv_bipush (v := 91) C (jd D_Rd_behindValue 20 rfl) (by decide) ?_
  refine jv_icmp_ne (tgt := 46) C (jd D_Rd_behindValue 21 rfl) (by decide) (fun c39 => ?_) (fun c39 => absurd c39 (by decide))
  refine jv_iconst (v := 0) C (jd D_Rd_behindValue 24 rfl) (by decide) ?_
  refine jv_istore_n C [(2, .int 0), (0, .ref o), (1, .int 44)] (jd D_Rd_behindValue 25 rfl) rfl (by decide) rfl ?_
  refine jv_iload_n C (jd D_Rd_behindValue 26 rfl) rfl 2 rfl ?_
  refine jv_bipush (v := 44) C (jd D_Rd_behindValue 27 rfl) (by decide) ?_
  refine jv_icmp_ne (tgt := 69) C (jd D_Rd_behindValue 28 rfl) (by decide) (fun c51 => absurd c51 (fun y => y rfl)) (fun c51 => ?_)
  refine jv_aload_n C (jd D_Rd_behindValue 29 rfl) rfl 1 rfl ?_
  refine jv_iload_n C (jd D_Rd_behindValue 30 rfl) rfl 2 rfl ?_
  refine jv_callV (wr := [(tp, .inr (0, [.ref tb, .int (nI t.length)])), (tb, .inl (dA 0, 4096, .inl f)), (nn, .inr (1, [.ref pp, .ref s1, .ref s2, .ref s3, .int (nI ns.length)])), (s1, .inl (dA 1, 1024, .inl fS)), (s2, .inl (dA 1, 1024, .inl fE)), (s3, .inl (dA 1, 1024, .inl fH)), (ob, .inl (dA 0, 32, .inl fO)), (nb, .inl (dA 1, 32, .inl fB))]) C cl_Rd_112 (c_Rd_pass o tp pp nn ob nb (nI ((sk ++ [(123, n0)]).length)) ub pl i pb 4096 g pr 44 (by have := hR.2.1; omega) (by decide) hR.2.2.2.2.1) [0, 3, 4] [1, 2, 5, 6, 7, 8, 9, 10] rfl rfl rfl rfl (by decide) rfl rfl 0 rfl ⟨Nat.le_of_ble_eq_true rfl, Nat.le_of_ble_eq_true rfl⟩ ⟨Nat.le_of_ble_eq_true rfl, Nat.le_of_ble_eq_true rfl⟩ rfl rfl (Nat.le_of_ble_eq_true rfl) (jd D_Rd_behindValue 31 rfl) (fun v1 g2 k2 => ?_)
  obtain ⟨rfl, k2⟩ := k2
  refine jv_fix [8, 0, 1, 9, 10, 2, 3, 4, 5, 6, 7] [(o, .inr (2, [.ref tp, .ref pp, .ref nn, .ref ob, .ref nb, .int (nI ((sk ++ [(123, n0)]).length)), .int (nI (i + 1)), .int ub, .int pl])), (tp, .inr (0, [.ref tb, .int (nI t.length)])), (tb, .inl (dA 0, 4096, .inl f)), (pp, .inr (0, [.ref pb, .int (nI (pr ++ [(44 : Int32).toBitVec.toNat % 256]).length)])), (pb, .inl (dA 0, 4096, .inl g2)), (nn, .inr (1, [.ref pp, .ref s1, .ref s2, .ref s3, .int (nI ns.length)])), (s1, .inl (dA 1, 1024, .inl fS)), (s2, .inl (dA 1, 1024, .inl fE)), (s3, .inl (dA 1, 1024, .inl fH)), (ob, .inl (dA 0, 32, .inl fO)), (nb, .inl (dA 1, 32, .inl fB))] [] 0 0 rfl rfl rfl (Nat.le_refl _) (Nat.le_refl _) ?_
  refine jv_iload_n C (jd D_Rd_behindValue 32 rfl) rfl 0 rfl ?_
  refine jv_if_eq (tgt := 67) C (jd D_Rd_behindValue 33 rfl) (by decide) (fun c60 => ?_) (fun c60 => absurd (rfl) c60)
  refine jv_iconst (v := 2) C (jd D_Rd_behindValue 36 rfl) (by decide) ?_
  refine jv_weq (ws' := [(o, .inr (2, [.ref tp, .ref pp, .ref nn, .ref ob, .ref nb, .int (nI ((sk ++ [(123, n0)]).length)), .int (nI (i + 1)), .int ub, .int pl])), (tp, .inr (0, [.ref tb, .int (nI t.length)])), (tb, .inl (dA 0, 4096, .inl f)), (pp, .inr (0, [.ref pb, .int (nI (pr ++ [44]).length)])), (pb, .inl (dA 0, 4096, .inl g2)), (nn, .inr (1, [.ref pp, .ref s1, .ref s2, .ref s3, .int (nI ns.length)])), (s1, .inl (dA 1, 1024, .inl fS)), (s2, .inl (dA 1, 1024, .inl fE)), (s3, .inl (dA 1, 1024, .inl fH)), (ob, .inl (dA 0, 32, .inl fO)), (nb, .inl (dA 1, 32, .inl fB))]) (by rfl) ?_
  exact jv_iret C hr g2 (⟨rfl, hR.more k2 (by omega) (by have := hR.2.1; rw [List.length_append]; exact Nat.succ_le_succ this)⟩) rfl [0, 1, 2, 3, 4, 5, 6, 7, 8, 9, 10] rfl rfl (Nat.le_of_ble_eq_true rfl) (Nat.le_of_ble_eq_true rfl) (jd D_Rd_behindValue 37 rfl)

set_option maxHeartbeats 4000000 in
set_option maxRecDepth 100000 in
/-- Reader.behindValue(125) -/
theorem c_Rd_behindValue_close123 {l : Launch} {D : va_G} {dA : Nat → ClassId} {zz : (Nat → Nat) × (Nat → Nat)} (o tp pp nn ob nb tb pb s1 s2 s3 : Nat) (f g fS fE fH fO fB : Nat → Int32) (t pr : List Nat) (sk ns : List (Nat × Nat)) (i : Nat) (ub pl : Int32) (n0 : Nat) (ht : js_tx f t) (h4 : t.length ≤ 4096) (hR : js_R t i pr (sk ++ [(123, n0)]) ns g fS fE fH fO fB) (hm : ∀ q ∈ sk, q.2 ≤ n0) (hi : i < t.length) : jv_M l D dA zz y_Rd_behindValue b_Rd_behindValue 3 (some (FieldType.int)) 4 [.ref o, .int 125] [(o, .inr (2, [.ref tp, .ref pp, .ref nn, .ref ob, .ref nb, .int (nI ((sk ++ [(123, n0)]).length)), .int (nI i), .int ub, .int pl])), (tp, .inr (0, [.ref tb, .int (nI t.length)])), (tb, .inl (dA 0, 4096, .inl f)), (pp, .inr (0, [.ref pb, .int (nI pr.length)])), (pb, .inl (dA 0, 4096, .inl g)), (nn, .inr (1, [.ref pp, .ref s1, .ref s2, .ref s3, .int (nI ns.length)])), (s1, .inl (dA 1, 1024, .inl fS)), (s2, .inl (dA 1, 1024, .inl fE)), (s3, .inl (dA 1, 1024, .inl fH)), (ob, .inl (dA 0, 32, .inl fO)), (nb, .inl (dA 1, 32, .inl fB))] (jv_pi fun r (g2 : Nat → Int32) => r = 5 ∧ js_R t (i + 1) (pr ++ [125]) sk (ns.take n0) g2 fS fE fH fO fB) (fun g2 => [(o, .inr (2, [.ref tp, .ref pp, .ref nn, .ref ob, .ref nb, .int (nI sk.length), .int (nI (i + 1)), .int ub, .int pl])), (tp, .inr (0, [.ref tb, .int (nI t.length)])), (tb, .inl (dA 0, 4096, .inl f)), (pp, .inr (0, [.ref pb, .int (nI (pr ++ [125]).length)])), (pb, .inl (dA 0, 4096, .inl g2)), (nn, .inr (1, [.ref pp, .ref s1, .ref s2, .ref s3, .int (nI ((ns.take n0).length))])), (s1, .inl (dA 1, 1024, .inl fS)), (s2, .inl (dA 1, 1024, .inl fE)), (s3, .inl (dA 1, 1024, .inl fH)), (ob, .inl (dA 0, 32, .inl fO)), (nb, .inl (dA 1, 32, .inl fB))]) 0 0 := by
  refine jv_M.of [(0, .ref o), (1, .int 125)] (by decide) (Nat.le_of_ble_eq_true rfl) rfl ?_
  intro pR eR sR mR belowR methR cR AR C hr hin
  have hcl := hR.closes hm
  have hs : (sk ++ [(123, n0)]).length ≤ 32 := hR.2.2.1
  have hs1 : sk.length < 32 := by rw [List.length_append] at hs; exact hs
  refine jv_aload_n C (jd D_Rd_behindValue 0 rfl) rfl 0 rfl ?_
  refine jv_get C fl_Rd_75 0 rfl rfl (jd D_Rd_behindValue 1 rfl) ?_
  refine jv_if_ne (tgt := 26) C (jd D_Rd_behindValue 2 rfl) (by decide) (fun c4 => ?_) (fun c4 => absurd c4 (nI_ne0 (js_lpos _ _) (by omega)))
  refine jv_aload_n C (jd D_Rd_behindValue 13 rfl) rfl 0 rfl ?_
  refine jv_get C fl_Rd_32 0 rfl rfl (jd D_Rd_behindValue 14 rfl) ?_
  refine jv_aload_n C (jd D_Rd_behindValue 15 rfl) rfl 0 rfl ?_
  refine jv_get C fl_Rd_75 0 rfl rfl (jd D_Rd_behindValue 16 rfl) ?_
  refine jv_iconst (v := 1) C (jd D_Rd_behindValue 17 rfl) (by decide) ?_
  refine jv_isub C (jd D_Rd_behindValue 18 rfl) ?_
  refine jv_ati (y := nI sk.length) (js_lenm1 _ _) ?_
  refine jv_bald C 9 rfl (vp_in_nI hs1 (by decide)) (jd D_Rd_behindValue 19 rfl) ?_
  refine jv_ati (y := 123) (by rw [nI_clamp (by omega)]; exact hcl.2.2.2.1) ?_
  refine jv_bipush (v := 91) C (jd D_Rd_behindValue 20 rfl) (by decide) ?_
  refine jv_icmp_ne (tgt := 46) C (jd D_Rd_behindValue 21 rfl) (by decide) (fun c39 => ?_) (fun c39 => absurd c39 (by decide))
  refine jv_iconst (v := 0) C (jd D_Rd_behindValue 24 rfl) (by decide) ?_
  refine jv_istore_n C [(2, .int 0), (0, .ref o), (1, .int 125)] (jd D_Rd_behindValue 25 rfl) rfl (by decide) rfl ?_
  refine jv_iload_n C (jd D_Rd_behindValue 26 rfl) rfl 2 rfl ?_
  refine jv_bipush (v := 44) C (jd D_Rd_behindValue 27 rfl) (by decide) ?_
  refine jv_icmp_ne (tgt := 69) C (jd D_Rd_behindValue 28 rfl) (by decide) (fun c51 => ?_) (fun c51 => absurd c51 (by decide))
  refine jv_iload_n C (jd D_Rd_behindValue 38 rfl) rfl 2 rfl ?_
  refine jv_iload_n C (jd D_Rd_behindValue 39 rfl) rfl 0 rfl ?_
  refine jv_if_eq (tgt := 79) C (jd D_Rd_behindValue 40 rfl) (by decide) (fun c71 => ?_) (fun c71 => absurd (rfl) c71)
  refine jv_bipush (v := 125) C (jd D_Rd_behindValue 43 rfl) (by decide) ?_
  refine jv_icmp_ne (tgt := 92) C (jd D_Rd_behindValue 44 rfl) (by decide) (fun c81 => absurd c81 (fun y => y rfl)) (fun c81 => ?_)
  refine jv_aload_n C (jd D_Rd_behindValue 45 rfl) rfl 1 rfl ?_
  refine jv_iload_n C (jd D_Rd_behindValue 46 rfl) rfl 2 rfl ?_
  refine jv_callV (wr := []) C cl_Rd_56 (c_Rd_close o tp pp nn ob nb tb pb s1 s2 s3 f g fS fE fH fO fB t pr sk ns i ub pl 123 n0 125 ht h4 hR hi (by decide) hm) [0, 1, 2, 3, 4, 5, 6, 7, 8, 9, 10] [] rfl rfl rfl rfl (by decide) rfl rfl 0 rfl ⟨Nat.le_of_ble_eq_true rfl, Nat.le_of_ble_eq_true rfl⟩ ⟨Nat.le_of_ble_eq_true rfl, Nat.le_of_ble_eq_true rfl⟩ rfl rfl (Nat.le_of_ble_eq_true rfl) (jd D_Rd_behindValue 47 rfl) (fun v1 g2 k1 => ?_)
  obtain ⟨r1, rfl, k1⟩ := k1
  refine jv_fix [0, 1, 2, 3, 4, 5, 6, 7, 8, 9, 10] [(o, .inr (2, [.ref tp, .ref pp, .ref nn, .ref ob, .ref nb, .int (nI sk.length), .int (nI (i + 1)), .int ub, .int pl])), (tp, .inr (0, [.ref tb, .int (nI t.length)])), (tb, .inl (dA 0, 4096, .inl f)), (pp, .inr (0, [.ref pb, .int (nI (pr ++ [125]).length)])), (pb, .inl (dA 0, 4096, .inl g2)), (nn, .inr (1, [.ref pp, .ref s1, .ref s2, .ref s3, .int (nI ((ns.take n0).length))])), (s1, .inl (dA 1, 1024, .inl fS)), (s2, .inl (dA 1, 1024, .inl fE)), (s3, .inl (dA 1, 1024, .inl fH)), (ob, .inl (dA 0, 32, .inl fO)), (nb, .inl (dA 1, 32, .inl fB))] [.int r1] 0 0 rfl rfl rfl (Nat.le_refl _) (Nat.le_refl _) ?_
  obtain ⟨k1a, k1⟩ := k1
  subst k1a
  refine jv_goto (tgt := 100) C (jd D_Rd_behindValue 48 rfl) (by decide) ?_
  exact jv_iret C hr g2 (⟨rfl, k1⟩) rfl [0, 1, 2, 3, 4, 5, 6, 7, 8, 9, 10] rfl rfl (Nat.le_of_ble_eq_true rfl) (Nat.le_of_ble_eq_true rfl) (jd D_Rd_behindValue 53 rfl)

set_option maxHeartbeats 4000000 in
set_option maxRecDepth 100000 in
/-- Reader.behindValue(x), x is none -/
theorem c_Rd_behindValue_bad123 {l : Launch} {D : va_G} {dA : Nat → ClassId} {zz : (Nat → Nat) × (Nat → Nat)} (o tp pp nn ob nb tb pb s1 s2 s3 : Nat) (f g fS fE fH fO fB : Nat → Int32) (t pr : List Nat) (sk ns : List (Nat × Nat)) (i : Nat) (ub pl : Int32) (n0 : Nat) (x : Int32) (ht : js_tx f t) (h4 : t.length ≤ 4096) (hR : js_R t i pr (sk ++ [(123, n0)]) ns g fS fE fH fO fB) (hm : ∀ q ∈ sk, q.2 ≤ n0) (hx : ¬ x = 44) (hx2 : ¬ x = 125) : jv_M l D dA zz y_Rd_behindValue b_Rd_behindValue 3 (some (FieldType.int)) 4 [.ref o, .int x] [(o, .inr (2, [.ref tp, .ref pp, .ref nn, .ref ob, .ref nb, .int (nI ((sk ++ [(123, n0)]).length)), .int (nI i), .int ub, .int pl])), (tp, .inr (0, [.ref tb, .int (nI t.length)])), (tb, .inl (dA 0, 4096, .inl f)), (pp, .inr (0, [.ref pb, .int (nI pr.length)])), (pb, .inl (dA 0, 4096, .inl g)), (nn, .inr (1, [.ref pp, .ref s1, .ref s2, .ref s3, .int (nI ns.length)])), (s1, .inl (dA 1, 1024, .inl fS)), (s2, .inl (dA 1, 1024, .inl fE)), (s3, .inl (dA 1, 1024, .inl fH)), (ob, .inl (dA 0, 32, .inl fO)), (nb, .inl (dA 1, 32, .inl fB))] (jv_pi fun r (_ : Unit) => r = 6) (fun _ => [(o, .inr (2, [.ref tp, .ref pp, .ref nn, .ref ob, .ref nb, .int (nI ((sk ++ [(123, n0)]).length)), .int (nI i), .int ub, .int (nI i)])), (tp, .inr (0, [.ref tb, .int (nI t.length)])), (tb, .inl (dA 0, 4096, .inl f)), (pp, .inr (0, [.ref pb, .int (nI pr.length)])), (pb, .inl (dA 0, 4096, .inl g)), (nn, .inr (1, [.ref pp, .ref s1, .ref s2, .ref s3, .int (nI ns.length)])), (s1, .inl (dA 1, 1024, .inl fS)), (s2, .inl (dA 1, 1024, .inl fE)), (s3, .inl (dA 1, 1024, .inl fH)), (ob, .inl (dA 0, 32, .inl fO)), (nb, .inl (dA 1, 32, .inl fB))]) 0 0 := by
  refine jv_M.of [(0, .ref o), (1, .int x)] (by decide) (Nat.le_of_ble_eq_true rfl) rfl ?_
  intro pR eR sR mR belowR methR cR AR C hr hin
  have hcl := hR.closes hm
  have hs : (sk ++ [(123, n0)]).length ≤ 32 := hR.2.2.1
  have hs1 : sk.length < 32 := by rw [List.length_append] at hs; exact hs
  refine jv_aload_n C (jd D_Rd_behindValue 0 rfl) rfl 0 rfl ?_
  refine jv_get C fl_Rd_75 0 rfl rfl (jd D_Rd_behindValue 1 rfl) ?_
  refine jv_if_ne (tgt := 26) C (jd D_Rd_behindValue 2 rfl) (by decide) (fun c4 => ?_) (fun c4 => absurd c4 (nI_ne0 (js_lpos _ _) (by omega)))
  refine jv_aload_n C (jd D_Rd_behindValue 13 rfl) rfl 0 rfl ?_
  refine jv_get C fl_Rd_32 0 rfl rfl (jd D_Rd_behindValue 14 rfl) ?_
  refine jv_aload_n C (jd D_Rd_behindValue 15 rfl) rfl 0 rfl ?_
  refine jv_get C fl_Rd_75 0 rfl rfl (jd D_Rd_behindValue 16 rfl) ?_
  refine jv_iconst (v := 1) C (jd D_Rd_behindValue 17 rfl) (by decide) ?_
  refine jv_isub C (jd D_Rd_behindValue 18 rfl) ?_
  refine jv_ati (y := nI sk.length) (js_lenm1 _ _) ?_
  refine jv_bald C 9 rfl (vp_in_nI hs1 (by decide)) (jd D_Rd_behindValue 19 rfl) ?_
  refine jv_ati (y := 123) (by rw [nI_clamp (by omega)]; exact hcl.2.2.2.1) ?_
  refine jv_bipush (v := 91) C (jd D_Rd_behindValue 20 rfl) (by decide) ?_
  refine jv_icmp_ne (tgt := 46) C (jd D_Rd_behindValue 21 rfl) (by decide) (fun c39 => ?_) (fun c39 => absurd c39 (by decide))
  refine jv_iconst (v := 0) C (jd D_Rd_behindValue 24 rfl) (by decide) ?_
  refine jv_istore_n C [(2, .int 0), (0, .ref o), (1, .int x)] (jd D_Rd_behindValue 25 rfl) rfl (by decide) rfl ?_
  refine jv_iload_n C (jd D_Rd_behindValue 26 rfl) rfl 2 rfl ?_
  refine jv_bipush (v := 44) C (jd D_Rd_behindValue 27 rfl) (by decide) ?_
  refine jv_icmp_ne (tgt := 69) C (jd D_Rd_behindValue 28 rfl) (by decide) (fun c51 => ?_) (fun c51 => absurd c51 (hx))
  refine jv_iload_n C (jd D_Rd_behindValue 38 rfl) rfl 2 rfl ?_
  refine jv_iload_n C (jd D_Rd_behindValue 39 rfl) rfl 0 rfl ?_
  refine jv_if_eq (tgt := 79) C (jd D_Rd_behindValue 40 rfl) (by decide) (fun c71 => ?_) (fun c71 => absurd (rfl) c71)
  refine jv_bipush (v := 125) C (jd D_Rd_behindValue 43 rfl) (by decide) ?_
  refine jv_icmp_ne (tgt := 92) C (jd D_Rd_behindValue 44 rfl) (by decide) (fun c81 => ?_) (fun c81 => absurd c81 (hx2))
  refine jv_aload_n C (jd D_Rd_behindValue 49 rfl) rfl 1 rfl ?_
  refine jv_aload_n C (jd D_Rd_behindValue 50 rfl) rfl 1 rfl ?_
  refine jv_get C fl_Rd_46 0 rfl rfl (jd D_Rd_behindValue 51 rfl) ?_
  refine jv_callV (wr := [(tp, .inr (0, [.ref tb, .int (nI t.length)])), (tb, .inl (dA 0, 4096, .inl f)), (pp, .inr (0, [.ref pb, .int (nI pr.length)])), (pb, .inl (dA 0, 4096, .inl g)), (nn, .inr (1, [.ref pp, .ref s1, .ref s2, .ref s3, .int (nI ns.length)])), (s1, .inl (dA 1, 1024, .inl fS)), (s2, .inl (dA 1, 1024, .inl fE)), (s3, .inl (dA 1, 1024, .inl fH)), (ob, .inl (dA 0, 32, .inl fO)), (nb, .inl (dA 1, 32, .inl fB))]) C cl_Rd_109 (c_Rd_breakAt o tp pp nn ob nb (nI ((sk ++ [(123, n0)]).length)) ub pl i (nI i)) [0] [1, 2, 3, 4, 5, 6, 7, 8, 9, 10] rfl rfl rfl rfl (by decide) rfl rfl 0 rfl ⟨Nat.le_of_ble_eq_true rfl, Nat.le_of_ble_eq_true rfl⟩ ⟨Nat.le_of_ble_eq_true rfl, Nat.le_of_ble_eq_true rfl⟩ rfl rfl (Nat.le_of_ble_eq_true rfl) (jd D_Rd_behindValue 52 rfl) (fun v1 _ k7 => ?_)
  obtain ⟨r7, rfl, k7⟩ := k7
  refine jv_fix [10, 0, 1, 2, 3, 4, 5, 6, 7, 8, 9] [(o, .inr (2, [.ref tp, .ref pp, .ref nn, .ref ob, .ref nb, .int (nI ((sk ++ [(123, n0)]).length)), .int (nI i), .int ub, .int (nI i)])), (tp, .inr (0, [.ref tb, .int (nI t.length)])), (tb, .inl (dA 0, 4096, .inl f)), (pp, .inr (0, [.ref pb, .int (nI pr.length)])), (pb, .inl (dA 0, 4096, .inl g)), (nn, .inr (1, [.ref pp, .ref s1, .ref s2, .ref s3, .int (nI ns.length)])), (s1, .inl (dA 1, 1024, .inl fS)), (s2, .inl (dA 1, 1024, .inl fE)), (s3, .inl (dA 1, 1024, .inl fH)), (ob, .inl (dA 0, 32, .inl fO)), (nb, .inl (dA 1, 32, .inl fB))] [.int r7] 0 0 rfl rfl rfl (Nat.le_refl _) (Nat.le_refl _) ?_
  subst k7
  exact jv_iret C hr () (rfl) rfl [0, 1, 2, 3, 4, 5, 6, 7, 8, 9, 10] rfl rfl (Nat.le_of_ble_eq_true rfl) (Nat.le_of_ble_eq_true rfl) (jd D_Rd_behindValue 53 rfl)

set_option maxHeartbeats 4000000 in
set_option maxRecDepth 100000 in
/-- Reader.restart() -/
theorem c_Rd_restart {l : Launch} {D : va_G} {dA : Nat → ClassId} {zz : (Nat → Nat) × (Nat → Nat)} (o tp pp nn ob nb pb s1 s2 s3 : Nat) (g fS fE fH : Nat → Int32) (pr : List Nat) (c : Nat) (dp at0 ub pl : Int32) (hpr : pr.length ≤ 4096) (hc : c ≤ 1024) : jv_M l D dA zz y_Rd_restart b_Rd_restart 1 none 2 [.ref o] [(o, .inr (2, [.ref tp, .ref pp, .ref nn, .ref ob, .ref nb, .int dp, .int at0, .int ub, .int pl])), (pp, .inr (0, [.ref pb, .int (nI pr.length)])), (pb, .inl (dA 0, 4096, .inl g)), (nn, .inr (1, [.ref pp, .ref s1, .ref s2, .ref s3, .int (nI c)])), (s1, .inl (dA 1, 1024, .inl fS)), (s2, .inl (dA 1, 1024, .inl fE)), (s3, .inl (dA 1, 1024, .inl fH))] (jv_pv fun (_ : Unit) => True) (fun _ => [(o, .inr (2, [.ref tp, .ref pp, .ref nn, .ref ob, .ref nb, .int (nI 0), .int (nI 0), .int ub, .int (-1)])), (pp, .inr (0, [.ref pb, .int (nI ([] : List Nat).length)])), (pb, .inl (dA 0, 4096, .inl g)), (nn, .inr (1, [.ref pp, .ref s1, .ref s2, .ref s3, .int (nI 0)])), (s1, .inl (dA 1, 1024, .inl fS)), (s2, .inl (dA 1, 1024, .inl fE)), (s3, .inl (dA 1, 1024, .inl fH))]) 0 0 := by
  refine jv_M.of [(0, .ref o)] (by decide) (Nat.le_of_ble_eq_true rfl) rfl ?_
  intro pR eR sR mR belowR methR cR AR C hr hin
  refine jv_aload_n C (jd D_Rd_restart 0 rfl) rfl 0 rfl ?_
  refine jv_get C fl_Rd_20 0 rfl rfl (jd D_Rd_restart 1 rfl) ?_
  refine jv_iconst (v := 0) C (jd D_Rd_restart 2 rfl) (by decide) ?_
  refine jv_callV (wr := [(o, .inr (2, [.ref tp, .ref pp, .ref nn, .ref ob, .ref nb, .int dp, .int at0, .int ub, .int pl])), (nn, .inr (1, [.ref pp, .ref s1, .ref s2, .ref s3, .int (nI c)])), (s1, .inl (dA 1, 1024, .inl fS)), (s2, .inl (dA 1, 1024, .inl fE)), (s3, .inl (dA 1, 1024, .inl fH))]) C cl_Rd_71 (c_Tx_keep pp pb 4096 g pr 0 (Nat.zero_le _) hpr (by decide)) [1, 2] [0, 3, 4, 5, 6] rfl rfl rfl rfl (by decide) rfl rfl 0 rfl ⟨Nat.le_of_ble_eq_true rfl, Nat.le_of_ble_eq_true rfl⟩ ⟨Nat.le_of_ble_eq_true rfl, Nat.le_of_ble_eq_true rfl⟩ rfl rfl (Nat.le_of_ble_eq_true rfl) (jd D_Rd_restart 3 rfl) (fun v1 _ k2 => ?_)
  obtain ⟨rfl, k2⟩ := k2
  refine jv_fix [0, 5, 6, 1, 2, 3, 4] [(o, .inr (2, [.ref tp, .ref pp, .ref nn, .ref ob, .ref nb, .int dp, .int at0, .int ub, .int pl])), (pp, .inr (0, [.ref pb, .int (nI (pr.take 0).length)])), (pb, .inl (dA 0, 4096, .inl g)), (nn, .inr (1, [.ref pp, .ref s1, .ref s2, .ref s3, .int (nI c)])), (s1, .inl (dA 1, 1024, .inl fS)), (s2, .inl (dA 1, 1024, .inl fE)), (s3, .inl (dA 1, 1024, .inl fH))] [] 0 0 rfl rfl rfl (Nat.le_refl _) (Nat.le_refl _) ?_
  refine jv_aload_n C (jd D_Rd_restart 4 rfl) rfl 0 rfl ?_
  refine jv_get C fl_Rd_28 0 rfl rfl (jd D_Rd_restart 5 rfl) ?_
  refine jv_iconst (v := 0) C (jd D_Rd_restart 6 rfl) (by decide) ?_
  refine jv_callV (wr := [(o, .inr (2, [.ref tp, .ref pp, .ref nn, .ref ob, .ref nb, .int dp, .int at0, .int ub, .int pl])), (pp, .inr (0, [.ref pb, .int (nI (pr.take 0).length)])), (pb, .inl (dA 0, 4096, .inl g))]) C cl_Rd_74 (c_Nm_keep nn pp s1 s2 s3 c fS fE fH 0 (Nat.zero_le _) (by omega)) [3, 4, 5, 6] [0, 1, 2] rfl rfl rfl rfl (by decide) rfl rfl 0 rfl ⟨Nat.le_of_ble_eq_true rfl, Nat.le_of_ble_eq_true rfl⟩ ⟨Nat.le_of_ble_eq_true rfl, Nat.le_of_ble_eq_true rfl⟩ rfl rfl (Nat.le_of_ble_eq_true rfl) (jd D_Rd_restart 7 rfl) (fun v2 _ k1 => ?_)
  obtain ⟨rfl, k1⟩ := k1
  refine jv_fix [0, 1, 2, 3, 4, 5, 6] [(o, .inr (2, [.ref tp, .ref pp, .ref nn, .ref ob, .ref nb, .int dp, .int at0, .int ub, .int pl])), (pp, .inr (0, [.ref pb, .int (nI (pr.take 0).length)])), (pb, .inl (dA 0, 4096, .inl g)), (nn, .inr (1, [.ref pp, .ref s1, .ref s2, .ref s3, .int (nI 0)])), (s1, .inl (dA 1, 1024, .inl fS)), (s2, .inl (dA 1, 1024, .inl fE)), (s3, .inl (dA 1, 1024, .inl fH))] [] 0 0 rfl rfl rfl (Nat.le_refl _) (Nat.le_refl _) ?_
  refine jv_aload_n C (jd D_Rd_restart 8 rfl) rfl 0 rfl ?_
  refine jv_iconst (v := 0) C (jd D_Rd_restart 9 rfl) (by decide) ?_
  refine jv_put C fl_Rd_75 Y_Rd rfl 0 [(o, .inr (2, [.ref tp, .ref pp, .ref nn, .ref ob, .ref nb, .int 0, .int at0, .int ub, .int pl])), (pp, .inr (0, [.ref pb, .int (nI (pr.take 0).length)])), (pb, .inl (dA 0, 4096, .inl g)), (nn, .inr (1, [.ref pp, .ref s1, .ref s2, .ref s3, .int (nI 0)])), (s1, .inl (dA 1, 1024, .inl fS)), (s2, .inl (dA 1, 1024, .inl fE)), (s3, .inl (dA 1, 1024, .inl fH))] rfl rfl rfl (Nat.le_of_ble_eq_true rfl) rfl rfl (jd D_Rd_restart 10 rfl) ?_
  refine jv_aload_n C (jd D_Rd_restart 11 rfl) rfl 0 rfl ?_
  refine jv_iconst (v := 0) C (jd D_Rd_restart 12 rfl) (by decide) ?_
  refine jv_put C fl_Rd_46 Y_Rd rfl 0 [(o, .inr (2, [.ref tp, .ref pp, .ref nn, .ref ob, .ref nb, .int 0, .int 0, .int ub, .int pl])), (pp, .inr (0, [.ref pb, .int (nI (pr.take 0).length)])), (pb, .inl (dA 0, 4096, .inl g)), (nn, .inr (1, [.ref pp, .ref s1, .ref s2, .ref s3, .int (nI 0)])), (s1, .inl (dA 1, 1024, .inl fS)), (s2, .inl (dA 1, 1024, .inl fE)), (s3, .inl (dA 1, 1024, .inl fH))] rfl rfl rfl (Nat.le_of_ble_eq_true rfl) rfl rfl (jd D_Rd_restart 13 rfl) ?_
  refine jv_aload_n C (jd D_Rd_restart 14 rfl) rfl 0 rfl ?_
  refine jv_iconst (v := -1) C (jd D_Rd_restart 15 rfl) (by decide) ?_
  refine jv_put C fl_Rd_68 Y_Rd rfl 0 [(o, .inr (2, [.ref tp, .ref pp, .ref nn, .ref ob, .ref nb, .int 0, .int 0, .int ub, .int (-1)])), (pp, .inr (0, [.ref pb, .int (nI (pr.take 0).length)])), (pb, .inl (dA 0, 4096, .inl g)), (nn, .inr (1, [.ref pp, .ref s1, .ref s2, .ref s3, .int (nI 0)])), (s1, .inl (dA 1, 1024, .inl fS)), (s2, .inl (dA 1, 1024, .inl fE)), (s3, .inl (dA 1, 1024, .inl fH))] rfl rfl rfl (Nat.le_of_ble_eq_true rfl) rfl rfl (jd D_Rd_restart 16 rfl) ?_
  refine jv_weq (ws' := [(o, .inr (2, [.ref tp, .ref pp, .ref nn, .ref ob, .ref nb, .int (nI 0), .int (nI 0), .int ub, .int (-1)])), (pp, .inr (0, [.ref pb, .int (nI ([] : List Nat).length)])), (pb, .inl (dA 0, 4096, .inl g)), (nn, .inr (1, [.ref pp, .ref s1, .ref s2, .ref s3, .int (nI 0)])), (s1, .inl (dA 1, 1024, .inl fS)), (s2, .inl (dA 1, 1024, .inl fE)), (s3, .inl (dA 1, 1024, .inl fH))]) (by rfl) ?_
  exact jv_vret C hr () (trivial) [0, 1, 2, 3, 4, 5, 6] rfl rfl (Nat.le_of_ble_eq_true rfl) (Nat.le_of_ble_eq_true rfl) (jd D_Rd_restart 17 rfl)
