set_option maxHeartbeats 4000000 in
set_option maxRecDepth 100000 in
/-- same: other kinds -/
theorem c_Md_same4_ne {l : Launch} {D : va_G} {dA : Nat → ClassId} {zz : (Nat → Nat) × (Nat → Nat)} (T : Nat) (A : Nat → Nat) (M Mu : Nat) (F : Nat → Nat → Int32) (G : Nat → Int64) (c u : Nat) (T2 : Nat) (A2 : Nat → Nat) (M2 Mu2 : Nat) (F2 : Nat → Nat → Int32) (G2 : Nat → Int64) (c2 u2 : Nat) (m k k2 : Nat) (ka kb : Nat) (hM : c ≤ js_cp M) (hU : u ≤ js_cu Mu) (hM2 : c2 ≤ js_cp M2) (hU2 : u2 ≤ js_cu Mu2) (hk : k < c) (hk2 : k2 < c2) (h0 : F 0 k = nI ka) (g0 : F2 0 k2 = nI kb) (hka : ka < 7) (hkb : kb < 7) (hne : ka ≠ kb) : jv_M l D dA zz y_Md_same4 b_Md_same4 7 (some (FieldType.boolean)) (m + 3) [.ref T, .int (nI k), .ref T2, .int (nI k2)] [(T, .inr (6, [.ref (A 0), .ref (A 1), .ref (A 2), .ref (A 3), .ref (A 4), .ref (A 5), .ref (A 6), .ref (A 7), .ref (A 8), .ref (A 9), .int (nI c), .ref (A 10), .int (nI u)])), ((A 0), .inl (dA 1, (js_cp M), .inl (F 0))), ((A 1), .inl (dA 2, (js_cp M), .inr (.inl G))), ((A 2), .inl (dA 1, (js_cp M), .inl (F 2))), ((A 3), .inl (dA 1, (js_cp M), .inl (F 3))), ((A 4), .inl (dA 1, (js_cp M), .inl (F 4))), ((A 5), .inl (dA 1, (js_cp M), .inl (F 5))), ((A 6), .inl (dA 1, (js_cp M), .inl (F 6))), ((A 7), .inl (dA 1, (js_cp M), .inl (F 7))), ((A 8), .inl (dA 1, (js_cp M), .inl (F 8))), ((A 9), .inl (dA 1, (js_cp M), .inl (F 9))), ((A 10), .inl (dA 3, (js_cu Mu), .inl (F 10))), (T2, .inr (6, [.ref (A2 0), .ref (A2 1), .ref (A2 2), .ref (A2 3), .ref (A2 4), .ref (A2 5), .ref (A2 6), .ref (A2 7), .ref (A2 8), .ref (A2 9), .int (nI c2), .ref (A2 10), .int (nI u2)])), ((A2 0), .inl (dA 1, (js_cp M2), .inl (F2 0))), ((A2 1), .inl (dA 2, (js_cp M2), .inr (.inl G2))), ((A2 2), .inl (dA 1, (js_cp M2), .inl (F2 2))), ((A2 3), .inl (dA 1, (js_cp M2), .inl (F2 3))), ((A2 4), .inl (dA 1, (js_cp M2), .inl (F2 4))), ((A2 5), .inl (dA 1, (js_cp M2), .inl (F2 5))), ((A2 6), .inl (dA 1, (js_cp M2), .inl (F2 6))), ((A2 7), .inl (dA 1, (js_cp M2), .inl (F2 7))), ((A2 8), .inl (dA 1, (js_cp M2), .inl (F2 8))), ((A2 9), .inl (dA 1, (js_cp M2), .inl (F2 9))), ((A2 10), .inl (dA 3, (js_cu Mu2), .inl (F2 10)))] (jv_pi fun r (_ : Unit) => r = 0) (fun _ => [(T, .inr (6, [.ref (A 0), .ref (A 1), .ref (A 2), .ref (A 3), .ref (A 4), .ref (A 5), .ref (A 6), .ref (A 7), .ref (A 8), .ref (A 9), .int (nI c), .ref (A 10), .int (nI u)])), ((A 0), .inl (dA 1, (js_cp M), .inl (F 0))), ((A 1), .inl (dA 2, (js_cp M), .inr (.inl G))), ((A 2), .inl (dA 1, (js_cp M), .inl (F 2))), ((A 3), .inl (dA 1, (js_cp M), .inl (F 3))), ((A 4), .inl (dA 1, (js_cp M), .inl (F 4))), ((A 5), .inl (dA 1, (js_cp M), .inl (F 5))), ((A 6), .inl (dA 1, (js_cp M), .inl (F 6))), ((A 7), .inl (dA 1, (js_cp M), .inl (F 7))), ((A 8), .inl (dA 1, (js_cp M), .inl (F 8))), ((A 9), .inl (dA 1, (js_cp M), .inl (F 9))), ((A 10), .inl (dA 3, (js_cu Mu), .inl (F 10))), (T2, .inr (6, [.ref (A2 0), .ref (A2 1), .ref (A2 2), .ref (A2 3), .ref (A2 4), .ref (A2 5), .ref (A2 6), .ref (A2 7), .ref (A2 8), .ref (A2 9), .int (nI c2), .ref (A2 10), .int (nI u2)])), ((A2 0), .inl (dA 1, (js_cp M2), .inl (F2 0))), ((A2 1), .inl (dA 2, (js_cp M2), .inr (.inl G2))), ((A2 2), .inl (dA 1, (js_cp M2), .inl (F2 2))), ((A2 3), .inl (dA 1, (js_cp M2), .inl (F2 3))), ((A2 4), .inl (dA 1, (js_cp M2), .inl (F2 4))), ((A2 5), .inl (dA 1, (js_cp M2), .inl (F2 5))), ((A2 6), .inl (dA 1, (js_cp M2), .inl (F2 6))), ((A2 7), .inl (dA 1, (js_cp M2), .inl (F2 7))), ((A2 8), .inl (dA 1, (js_cp M2), .inl (F2 8))), ((A2 9), .inl (dA 1, (js_cp M2), .inl (F2 9))), ((A2 10), .inl (dA 3, (js_cu Mu2), .inl (F2 10)))]) 0 0 := by
  refine jv_M.of [(0, .ref T), (1, .int (nI k)), (2, .ref T2), (3, .int (nI k2))] (by decide) (Nat.le_of_ble_eq_true rfl) rfl ?_
  intro pR eR sR mR belowR methR cR AR C hr hin
  have hb1 := js_cp_b M
  have hb2 := js_cu_b Mu
  have hb3 := js_cp_b M2
  have hb4 := js_cu_b Mu2
  refine jv_aload_n C (jd D_Md_same4 0 rfl) rfl 0 rfl ?_
  refine jv_get C fl_Md_46 0 rfl rfl (jd D_Md_same4 1 rfl) ?_
  refine jv_iload_n C (jd D_Md_same4 2 rfl) rfl 1 rfl ?_
  refine jv_iald C 1 rfl (vp_in_nI (by omega) (by omega)) (jd D_Md_same4 3 rfl) ?_
  refine jv_ati (y := nI ka) (by rw [nI_clamp (by omega)]; exact h0) ?_
  refine jv_aload_n C (jd D_Md_same4 4 rfl) rfl 2 rfl ?_
  refine jv_get C fl_Md_46 12 rfl rfl (jd D_Md_same4 5 rfl) ?_
  refine jv_iload_n C (jd D_Md_same4 6 rfl) rfl 3 rfl ?_
  refine jv_iald C 13 rfl (vp_in_nI (by omega) (by omega)) (jd D_Md_same4 7 rfl) ?_
  refine jv_ati (y := nI kb) (by rw [nI_clamp (by omega)]; exact g0) ?_
  refine jv_icmp_eq (tgt := 17) C (jd D_Md_same4 8 rfl) (by decide) (fun c12 => absurd c12 (fun z => hne ((nI_eq (by omega) (by omega)).mp z))) (fun c12 => ?_)
  refine jv_iconst (v := 0) C (jd D_Md_same4 9 rfl) (by decide) ?_
  exact jv_iret C hr () (rfl) rfl [0, 1, 2, 3, 4, 5, 6, 7, 8, 9, 10, 11, 12, 13, 14, 15, 16, 17, 18, 19, 20, 21, 22, 23] rfl rfl (Nat.le_of_ble_eq_true rfl) (Nat.le_of_ble_eq_true rfl) (jd D_Md_same4 10 rfl)

set_option maxHeartbeats 4000000 in
set_option maxRecDepth 100000 in
/-- same: words -/
theorem c_Md_same4_w0 {l : Launch} {D : va_G} {dA : Nat → ClassId} {zz : (Nat → Nat) × (Nat → Nat)} (T : Nat) (A : Nat → Nat) (M Mu : Nat) (F : Nat → Nat → Int32) (G : Nat → Int64) (c u : Nat) (T2 : Nat) (A2 : Nat → Nat) (M2 Mu2 : Nat) (F2 : Nat → Nat → Int32) (G2 : Nat → Int64) (c2 u2 : Nat) (m k k2 : Nat) (hM : c ≤ js_cp M) (hU : u ≤ js_cu Mu) (hM2 : c2 ≤ js_cp M2) (hU2 : u2 ≤ js_cu Mu2) (hk : k < c) (hk2 : k2 < c2) (h0 : F 0 k = 0) (g0 : F2 0 k2 = 0) : jv_M l D dA zz y_Md_same4 b_Md_same4 7 (some (FieldType.boolean)) (m + 3) [.ref T, .int (nI k), .ref T2, .int (nI k2)] [(T, .inr (6, [.ref (A 0), .ref (A 1), .ref (A 2), .ref (A 3), .ref (A 4), .ref (A 5), .ref (A 6), .ref (A 7), .ref (A 8), .ref (A 9), .int (nI c), .ref (A 10), .int (nI u)])), ((A 0), .inl (dA 1, (js_cp M), .inl (F 0))), ((A 1), .inl (dA 2, (js_cp M), .inr (.inl G))), ((A 2), .inl (dA 1, (js_cp M), .inl (F 2))), ((A 3), .inl (dA 1, (js_cp M), .inl (F 3))), ((A 4), .inl (dA 1, (js_cp M), .inl (F 4))), ((A 5), .inl (dA 1, (js_cp M), .inl (F 5))), ((A 6), .inl (dA 1, (js_cp M), .inl (F 6))), ((A 7), .inl (dA 1, (js_cp M), .inl (F 7))), ((A 8), .inl (dA 1, (js_cp M), .inl (F 8))), ((A 9), .inl (dA 1, (js_cp M), .inl (F 9))), ((A 10), .inl (dA 3, (js_cu Mu), .inl (F 10))), (T2, .inr (6, [.ref (A2 0), .ref (A2 1), .ref (A2 2), .ref (A2 3), .ref (A2 4), .ref (A2 5), .ref (A2 6), .ref (A2 7), .ref (A2 8), .ref (A2 9), .int (nI c2), .ref (A2 10), .int (nI u2)])), ((A2 0), .inl (dA 1, (js_cp M2), .inl (F2 0))), ((A2 1), .inl (dA 2, (js_cp M2), .inr (.inl G2))), ((A2 2), .inl (dA 1, (js_cp M2), .inl (F2 2))), ((A2 3), .inl (dA 1, (js_cp M2), .inl (F2 3))), ((A2 4), .inl (dA 1, (js_cp M2), .inl (F2 4))), ((A2 5), .inl (dA 1, (js_cp M2), .inl (F2 5))), ((A2 6), .inl (dA 1, (js_cp M2), .inl (F2 6))), ((A2 7), .inl (dA 1, (js_cp M2), .inl (F2 7))), ((A2 8), .inl (dA 1, (js_cp M2), .inl (F2 8))), ((A2 9), .inl (dA 1, (js_cp M2), .inl (F2 9))), ((A2 10), .inl (dA 3, (js_cu Mu2), .inl (F2 10)))] (jv_pi fun r (_ : Unit) => r = 1) (fun _ => [(T, .inr (6, [.ref (A 0), .ref (A 1), .ref (A 2), .ref (A 3), .ref (A 4), .ref (A 5), .ref (A 6), .ref (A 7), .ref (A 8), .ref (A 9), .int (nI c), .ref (A 10), .int (nI u)])), ((A 0), .inl (dA 1, (js_cp M), .inl (F 0))), ((A 1), .inl (dA 2, (js_cp M), .inr (.inl G))), ((A 2), .inl (dA 1, (js_cp M), .inl (F 2))), ((A 3), .inl (dA 1, (js_cp M), .inl (F 3))), ((A 4), .inl (dA 1, (js_cp M), .inl (F 4))), ((A 5), .inl (dA 1, (js_cp M), .inl (F 5))), ((A 6), .inl (dA 1, (js_cp M), .inl (F 6))), ((A 7), .inl (dA 1, (js_cp M), .inl (F 7))), ((A 8), .inl (dA 1, (js_cp M), .inl (F 8))), ((A 9), .inl (dA 1, (js_cp M), .inl (F 9))), ((A 10), .inl (dA 3, (js_cu Mu), .inl (F 10))), (T2, .inr (6, [.ref (A2 0), .ref (A2 1), .ref (A2 2), .ref (A2 3), .ref (A2 4), .ref (A2 5), .ref (A2 6), .ref (A2 7), .ref (A2 8), .ref (A2 9), .int (nI c2), .ref (A2 10), .int (nI u2)])), ((A2 0), .inl (dA 1, (js_cp M2), .inl (F2 0))), ((A2 1), .inl (dA 2, (js_cp M2), .inr (.inl G2))), ((A2 2), .inl (dA 1, (js_cp M2), .inl (F2 2))), ((A2 3), .inl (dA 1, (js_cp M2), .inl (F2 3))), ((A2 4), .inl (dA 1, (js_cp M2), .inl (F2 4))), ((A2 5), .inl (dA 1, (js_cp M2), .inl (F2 5))), ((A2 6), .inl (dA 1, (js_cp M2), .inl (F2 6))), ((A2 7), .inl (dA 1, (js_cp M2), .inl (F2 7))), ((A2 8), .inl (dA 1, (js_cp M2), .inl (F2 8))), ((A2 9), .inl (dA 1, (js_cp M2), .inl (F2 9))), ((A2 10), .inl (dA 3, (js_cu Mu2), .inl (F2 10)))]) 0 0 := by
  refine jv_M.of [(0, .ref T), (1, .int (nI k)), (2, .ref T2), (3, .int (nI k2))] (by decide) (Nat.le_of_ble_eq_true rfl) rfl ?_
  intro pR eR sR mR belowR methR cR AR C hr hin
  have hb1 := js_cp_b M
  have hb2 := js_cu_b Mu
  have hb3 := js_cp_b M2
  have hb4 := js_cu_b Mu2
  refine jv_aload_n C (jd D_Md_same4 0 rfl) rfl 0 rfl ?_
  refine jv_get C fl_Md_46 0 rfl rfl (jd D_Md_same4 1 rfl) ?_
  refine jv_iload_n C (jd D_Md_same4 2 rfl) rfl 1 rfl ?_
  refine jv_iald C 1 rfl (vp_in_nI (by omega) (by omega)) (jd D_Md_same4 3 rfl) ?_
  refine jv_ati (y := 0) (by rw [nI_clamp (by omega)]; exact h0) ?_
  refine jv_aload_n C (jd D_Md_same4 4 rfl) rfl 2 rfl ?_
  refine jv_get C fl_Md_46 12 rfl rfl (jd D_Md_same4 5 rfl) ?_
  refine jv_iload_n C (jd D_Md_same4 6 rfl) rfl 3 rfl ?_
  refine jv_iald C 13 rfl (vp_in_nI (by omega) (by omega)) (jd D_Md_same4 7 rfl) ?_
  refine jv_ati (y := 0) (by rw [nI_clamp (by omega)]; exact g0) ?_
  refine jv_icmp_eq (tgt := 17) C (jd D_Md_same4 8 rfl) (by decide) (fun c12 => ?_) (fun c12 => absurd (rfl) c12)
  refine jv_aload_n C (jd D_Md_same4 11 rfl) rfl 0 rfl ?_
  refine jv_get C fl_Md_46 0 rfl rfl (jd D_Md_same4 12 rfl) ?_
  refine jv_iload_n C (jd D_Md_same4 13 rfl) rfl 1 rfl ?_
  refine jv_iald C 1 rfl (vp_in_nI (by omega) (by omega)) (jd D_Md_same4 14 rfl) ?_
  refine jv_ati (y := 0) (by rw [nI_clamp (by omega)]; exact h0) ?_
  refine jv_tableOut (tgt := 245) C (jd D_Md_same4 15 rfl) (by decide) (by decide) ?_
  refine jv_iconst (v := 1) C (jd D_Md_same4 126 rfl) (by decide) ?_
  exact jv_iret C hr () (rfl) rfl [0, 1, 2, 3, 4, 5, 6, 7, 8, 9, 10, 11, 12, 13, 14, 15, 16, 17, 18, 19, 20, 21, 22, 23] rfl rfl (Nat.le_of_ble_eq_true rfl) (Nat.le_of_ble_eq_true rfl) (jd D_Md_same4 127 rfl)

set_option maxHeartbeats 4000000 in
set_option maxRecDepth 100000 in
/-- same: words -/
theorem c_Md_same4_w1 {l : Launch} {D : va_G} {dA : Nat → ClassId} {zz : (Nat → Nat) × (Nat → Nat)} (T : Nat) (A : Nat → Nat) (M Mu : Nat) (F : Nat → Nat → Int32) (G : Nat → Int64) (c u : Nat) (T2 : Nat) (A2 : Nat → Nat) (M2 Mu2 : Nat) (F2 : Nat → Nat → Int32) (G2 : Nat → Int64) (c2 u2 : Nat) (m k k2 : Nat) (hM : c ≤ js_cp M) (hU : u ≤ js_cu Mu) (hM2 : c2 ≤ js_cp M2) (hU2 : u2 ≤ js_cu Mu2) (hk : k < c) (hk2 : k2 < c2) (h0 : F 0 k = 1) (g0 : F2 0 k2 = 1) : jv_M l D dA zz y_Md_same4 b_Md_same4 7 (some (FieldType.boolean)) (m + 3) [.ref T, .int (nI k), .ref T2, .int (nI k2)] [(T, .inr (6, [.ref (A 0), .ref (A 1), .ref (A 2), .ref (A 3), .ref (A 4), .ref (A 5), .ref (A 6), .ref (A 7), .ref (A 8), .ref (A 9), .int (nI c), .ref (A 10), .int (nI u)])), ((A 0), .inl (dA 1, (js_cp M), .inl (F 0))), ((A 1), .inl (dA 2, (js_cp M), .inr (.inl G))), ((A 2), .inl (dA 1, (js_cp M), .inl (F 2))), ((A 3), .inl (dA 1, (js_cp M), .inl (F 3))), ((A 4), .inl (dA 1, (js_cp M), .inl (F 4))), ((A 5), .inl (dA 1, (js_cp M), .inl (F 5))), ((A 6), .inl (dA 1, (js_cp M), .inl (F 6))), ((A 7), .inl (dA 1, (js_cp M), .inl (F 7))), ((A 8), .inl (dA 1, (js_cp M), .inl (F 8))), ((A 9), .inl (dA 1, (js_cp M), .inl (F 9))), ((A 10), .inl (dA 3, (js_cu Mu), .inl (F 10))), (T2, .inr (6, [.ref (A2 0), .ref (A2 1), .ref (A2 2), .ref (A2 3), .ref (A2 4), .ref (A2 5), .ref (A2 6), .ref (A2 7), .ref (A2 8), .ref (A2 9), .int (nI c2), .ref (A2 10), .int (nI u2)])), ((A2 0), .inl (dA 1, (js_cp M2), .inl (F2 0))), ((A2 1), .inl (dA 2, (js_cp M2), .inr (.inl G2))), ((A2 2), .inl (dA 1, (js_cp M2), .inl (F2 2))), ((A2 3), .inl (dA 1, (js_cp M2), .inl (F2 3))), ((A2 4), .inl (dA 1, (js_cp M2), .inl (F2 4))), ((A2 5), .inl (dA 1, (js_cp M2), .inl (F2 5))), ((A2 6), .inl (dA 1, (js_cp M2), .inl (F2 6))), ((A2 7), .inl (dA 1, (js_cp M2), .inl (F2 7))), ((A2 8), .inl (dA 1, (js_cp M2), .inl (F2 8))), ((A2 9), .inl (dA 1, (js_cp M2), .inl (F2 9))), ((A2 10), .inl (dA 3, (js_cu Mu2), .inl (F2 10)))] (jv_pi fun r (_ : Unit) => r = 1) (fun _ => [(T, .inr (6, [.ref (A 0), .ref (A 1), .ref (A 2), .ref (A 3), .ref (A 4), .ref (A 5), .ref (A 6), .ref (A 7), .ref (A 8), .ref (A 9), .int (nI c), .ref (A 10), .int (nI u)])), ((A 0), .inl (dA 1, (js_cp M), .inl (F 0))), ((A 1), .inl (dA 2, (js_cp M), .inr (.inl G))), ((A 2), .inl (dA 1, (js_cp M), .inl (F 2))), ((A 3), .inl (dA 1, (js_cp M), .inl (F 3))), ((A 4), .inl (dA 1, (js_cp M), .inl (F 4))), ((A 5), .inl (dA 1, (js_cp M), .inl (F 5))), ((A 6), .inl (dA 1, (js_cp M), .inl (F 6))), ((A 7), .inl (dA 1, (js_cp M), .inl (F 7))), ((A 8), .inl (dA 1, (js_cp M), .inl (F 8))), ((A 9), .inl (dA 1, (js_cp M), .inl (F 9))), ((A 10), .inl (dA 3, (js_cu Mu), .inl (F 10))), (T2, .inr (6, [.ref (A2 0), .ref (A2 1), .ref (A2 2), .ref (A2 3), .ref (A2 4), .ref (A2 5), .ref (A2 6), .ref (A2 7), .ref (A2 8), .ref (A2 9), .int (nI c2), .ref (A2 10), .int (nI u2)])), ((A2 0), .inl (dA 1, (js_cp M2), .inl (F2 0))), ((A2 1), .inl (dA 2, (js_cp M2), .inr (.inl G2))), ((A2 2), .inl (dA 1, (js_cp M2), .inl (F2 2))), ((A2 3), .inl (dA 1, (js_cp M2), .inl (F2 3))), ((A2 4), .inl (dA 1, (js_cp M2), .inl (F2 4))), ((A2 5), .inl (dA 1, (js_cp M2), .inl (F2 5))), ((A2 6), .inl (dA 1, (js_cp M2), .inl (F2 6))), ((A2 7), .inl (dA 1, (js_cp M2), .inl (F2 7))), ((A2 8), .inl (dA 1, (js_cp M2), .inl (F2 8))), ((A2 9), .inl (dA 1, (js_cp M2), .inl (F2 9))), ((A2 10), .inl (dA 3, (js_cu Mu2), .inl (F2 10)))]) 0 0 := by
  refine jv_M.of [(0, .ref T), (1, .int (nI k)), (2, .ref T2), (3, .int (nI k2))] (by decide) (Nat.le_of_ble_eq_true rfl) rfl ?_
  intro pR eR sR mR belowR methR cR AR C hr hin
  have hb1 := js_cp_b M
  have hb2 := js_cu_b Mu
  have hb3 := js_cp_b M2
  have hb4 := js_cu_b Mu2
  refine jv_aload_n C (jd D_Md_same4 0 rfl) rfl 0 rfl ?_
  refine jv_get C fl_Md_46 0 rfl rfl (jd D_Md_same4 1 rfl) ?_
  refine jv_iload_n C (jd D_Md_same4 2 rfl) rfl 1 rfl ?_
  refine jv_iald C 1 rfl (vp_in_nI (by omega) (by omega)) (jd D_Md_same4 3 rfl) ?_
  refine jv_ati (y := 1) (by rw [nI_clamp (by omega)]; exact h0) ?_
  refine jv_aload_n C (jd D_Md_same4 4 rfl) rfl 2 rfl ?_
  refine jv_get C fl_Md_46 12 rfl rfl (jd D_Md_same4 5 rfl) ?_
  refine jv_iload_n C (jd D_Md_same4 6 rfl) rfl 3 rfl ?_
  refine jv_iald C 13 rfl (vp_in_nI (by omega) (by omega)) (jd D_Md_same4 7 rfl) ?_
  refine jv_ati (y := 1) (by rw [nI_clamp (by omega)]; exact g0) ?_
  refine jv_icmp_eq (tgt := 17) C (jd D_Md_same4 8 rfl) (by decide) (fun c12 => ?_) (fun c12 => absurd (rfl) c12)
  refine jv_aload_n C (jd D_Md_same4 11 rfl) rfl 0 rfl ?_
  refine jv_get C fl_Md_46 0 rfl rfl (jd D_Md_same4 12 rfl) ?_
  refine jv_iload_n C (jd D_Md_same4 13 rfl) rfl 1 rfl ?_
  refine jv_iald C 1 rfl (vp_in_nI (by omega) (by omega)) (jd D_Md_same4 14 rfl) ?_
  refine jv_ati (y := 1) (by rw [nI_clamp (by omega)]; exact h0) ?_
  refine jv_tableOut (tgt := 245) C (jd D_Md_same4 15 rfl) (by decide) (by decide) ?_
  refine jv_iconst (v := 1) C (jd D_Md_same4 126 rfl) (by decide) ?_
  exact jv_iret C hr () (rfl) rfl [0, 1, 2, 3, 4, 5, 6, 7, 8, 9, 10, 11, 12, 13, 14, 15, 16, 17, 18, 19, 20, 21, 22, 23] rfl rfl (Nat.le_of_ble_eq_true rfl) (Nat.le_of_ble_eq_true rfl) (jd D_Md_same4 127 rfl)

set_option maxHeartbeats 4000000 in
set_option maxRecDepth 100000 in
/-- same: words -/
theorem c_Md_same4_w2 {l : Launch} {D : va_G} {dA : Nat → ClassId} {zz : (Nat → Nat) × (Nat → Nat)} (T : Nat) (A : Nat → Nat) (M Mu : Nat) (F : Nat → Nat → Int32) (G : Nat → Int64) (c u : Nat) (T2 : Nat) (A2 : Nat → Nat) (M2 Mu2 : Nat) (F2 : Nat → Nat → Int32) (G2 : Nat → Int64) (c2 u2 : Nat) (m k k2 : Nat) (hM : c ≤ js_cp M) (hU : u ≤ js_cu Mu) (hM2 : c2 ≤ js_cp M2) (hU2 : u2 ≤ js_cu Mu2) (hk : k < c) (hk2 : k2 < c2) (h0 : F 0 k = 2) (g0 : F2 0 k2 = 2) : jv_M l D dA zz y_Md_same4 b_Md_same4 7 (some (FieldType.boolean)) (m + 3) [.ref T, .int (nI k), .ref T2, .int (nI k2)] [(T, .inr (6, [.ref (A 0), .ref (A 1), .ref (A 2), .ref (A 3), .ref (A 4), .ref (A 5), .ref (A 6), .ref (A 7), .ref (A 8), .ref (A 9), .int (nI c), .ref (A 10), .int (nI u)])), ((A 0), .inl (dA 1, (js_cp M), .inl (F 0))), ((A 1), .inl (dA 2, (js_cp M), .inr (.inl G))), ((A 2), .inl (dA 1, (js_cp M), .inl (F 2))), ((A 3), .inl (dA 1, (js_cp M), .inl (F 3))), ((A 4), .inl (dA 1, (js_cp M), .inl (F 4))), ((A 5), .inl (dA 1, (js_cp M), .inl (F 5))), ((A 6), .inl (dA 1, (js_cp M), .inl (F 6))), ((A 7), .inl (dA 1, (js_cp M), .inl (F 7))), ((A 8), .inl (dA 1, (js_cp M), .inl (F 8))), ((A 9), .inl (dA 1, (js_cp M), .inl (F 9))), ((A 10), .inl (dA 3, (js_cu Mu), .inl (F 10))), (T2, .inr (6, [.ref (A2 0), .ref (A2 1), .ref (A2 2), .ref (A2 3), .ref (A2 4), .ref (A2 5), .ref (A2 6), .ref (A2 7), .ref (A2 8), .ref (A2 9), .int (nI c2), .ref (A2 10), .int (nI u2)])), ((A2 0), .inl (dA 1, (js_cp M2), .inl (F2 0))), ((A2 1), .inl (dA 2, (js_cp M2), .inr (.inl G2))), ((A2 2), .inl (dA 1, (js_cp M2), .inl (F2 2))), ((A2 3), .inl (dA 1, (js_cp M2), .inl (F2 3))), ((A2 4), .inl (dA 1, (js_cp M2), .inl (F2 4))), ((A2 5), .inl (dA 1, (js_cp M2), .inl (F2 5))), ((A2 6), .inl (dA 1, (js_cp M2), .inl (F2 6))), ((A2 7), .inl (dA 1, (js_cp M2), .inl (F2 7))), ((A2 8), .inl (dA 1, (js_cp M2), .inl (F2 8))), ((A2 9), .inl (dA 1, (js_cp M2), .inl (F2 9))), ((A2 10), .inl (dA 3, (js_cu Mu2), .inl (F2 10)))] (jv_pi fun r (_ : Unit) => r = 1) (fun _ => [(T, .inr (6, [.ref (A 0), .ref (A 1), .ref (A 2), .ref (A 3), .ref (A 4), .ref (A 5), .ref (A 6), .ref (A 7), .ref (A 8), .ref (A 9), .int (nI c), .ref (A 10), .int (nI u)])), ((A 0), .inl (dA 1, (js_cp M), .inl (F 0))), ((A 1), .inl (dA 2, (js_cp M), .inr (.inl G))), ((A 2), .inl (dA 1, (js_cp M), .inl (F 2))), ((A 3), .inl (dA 1, (js_cp M), .inl (F 3))), ((A 4), .inl (dA 1, (js_cp M), .inl (F 4))), ((A 5), .inl (dA 1, (js_cp M), .inl (F 5))), ((A 6), .inl (dA 1, (js_cp M), .inl (F 6))), ((A 7), .inl (dA 1, (js_cp M), .inl (F 7))), ((A 8), .inl (dA 1, (js_cp M), .inl (F 8))), ((A 9), .inl (dA 1, (js_cp M), .inl (F 9))), ((A 10), .inl (dA 3, (js_cu Mu), .inl (F 10))), (T2, .inr (6, [.ref (A2 0), .ref (A2 1), .ref (A2 2), .ref (A2 3), .ref (A2 4), .ref (A2 5), .ref (A2 6), .ref (A2 7), .ref (A2 8), .ref (A2 9), .int (nI c2), .ref (A2 10), .int (nI u2)])), ((A2 0), .inl (dA 1, (js_cp M2), .inl (F2 0))), ((A2 1), .inl (dA 2, (js_cp M2), .inr (.inl G2))), ((A2 2), .inl (dA 1, (js_cp M2), .inl (F2 2))), ((A2 3), .inl (dA 1, (js_cp M2), .inl (F2 3))), ((A2 4), .inl (dA 1, (js_cp M2), .inl (F2 4))), ((A2 5), .inl (dA 1, (js_cp M2), .inl (F2 5))), ((A2 6), .inl (dA 1, (js_cp M2), .inl (F2 6))), ((A2 7), .inl (dA 1, (js_cp M2), .inl (F2 7))), ((A2 8), .inl (dA 1, (js_cp M2), .inl (F2 8))), ((A2 9), .inl (dA 1, (js_cp M2), .inl (F2 9))), ((A2 10), .inl (dA 3, (js_cu Mu2), .inl (F2 10)))]) 0 0 := by
  refine jv_M.of [(0, .ref T), (1, .int (nI k)), (2, .ref T2), (3, .int (nI k2))] (by decide) (Nat.le_of_ble_eq_true rfl) rfl ?_
  intro pR eR sR mR belowR methR cR AR C hr hin
  have hb1 := js_cp_b M
  have hb2 := js_cu_b Mu
  have hb3 := js_cp_b M2
  have hb4 := js_cu_b Mu2
  refine jv_aload_n C (jd D_Md_same4 0 rfl) rfl 0 rfl ?_
  refine jv_get C fl_Md_46 0 rfl rfl (jd D_Md_same4 1 rfl) ?_
  refine jv_iload_n C (jd D_Md_same4 2 rfl) rfl 1 rfl ?_
  refine jv_iald C 1 rfl (vp_in_nI (by omega) (by omega)) (jd D_Md_same4 3 rfl) ?_
  refine jv_ati (y := 2) (by rw [nI_clamp (by omega)]; exact h0) ?_
  refine jv_aload_n C (jd D_Md_same4 4 rfl) rfl 2 rfl ?_
  refine jv_get C fl_Md_46 12 rfl rfl (jd D_Md_same4 5 rfl) ?_
  refine jv_iload_n C (jd D_Md_same4 6 rfl) rfl 3 rfl ?_
  refine jv_iald C 13 rfl (vp_in_nI (by omega) (by omega)) (jd D_Md_same4 7 rfl) ?_
  refine jv_ati (y := 2) (by rw [nI_clamp (by omega)]; exact g0) ?_
  refine jv_icmp_eq (tgt := 17) C (jd D_Md_same4 8 rfl) (by decide) (fun c12 => ?_) (fun c12 => absurd (rfl) c12)
  refine jv_aload_n C (jd D_Md_same4 11 rfl) rfl 0 rfl ?_
  refine jv_get C fl_Md_46 0 rfl rfl (jd D_Md_same4 12 rfl) ?_
  refine jv_iload_n C (jd D_Md_same4 13 rfl) rfl 1 rfl ?_
  refine jv_iald C 1 rfl (vp_in_nI (by omega) (by omega)) (jd D_Md_same4 14 rfl) ?_
  refine jv_ati (y := 2) (by rw [nI_clamp (by omega)]; exact h0) ?_
  refine jv_tableOut (tgt := 245) C (jd D_Md_same4 15 rfl) (by decide) (by decide) ?_
  refine jv_iconst (v := 1) C (jd D_Md_same4 126 rfl) (by decide) ?_
  exact jv_iret C hr () (rfl) rfl [0, 1, 2, 3, 4, 5, 6, 7, 8, 9, 10, 11, 12, 13, 14, 15, 16, 17, 18, 19, 20, 21, 22, 23] rfl rfl (Nat.le_of_ble_eq_true rfl) (Nat.le_of_ble_eq_true rfl) (jd D_Md_same4 127 rfl)

set_option maxHeartbeats 4000000 in
set_option maxRecDepth 100000 in
/-- same: numbers -/
theorem c_Md_same4_d {l : Launch} {D : va_G} {dA : Nat → ClassId} {zz : (Nat → Nat) × (Nat → Nat)} (T : Nat) (A : Nat → Nat) (M Mu : Nat) (F : Nat → Nat → Int32) (G : Nat → Int64) (c u : Nat) (T2 : Nat) (A2 : Nat → Nat) (M2 Mu2 : Nat) (F2 : Nat → Nat → Int32) (G2 : Nat → Int64) (c2 u2 : Nat) (m k k2 : Nat) (x y : Int64) (hM : c ≤ js_cp M) (hU : u ≤ js_cu Mu) (hM2 : c2 ≤ js_cp M2) (hU2 : u2 ≤ js_cu Mu2) (hk : k < c) (hk2 : k2 < c2) (h0 : F 0 k = 3) (g0 : F2 0 k2 = 3) (hG : G k = x) (hG2 : G2 k2 = y) : jv_M l D dA zz y_Md_same4 b_Md_same4 7 (some (FieldType.boolean)) (m + 3) [.ref T, .int (nI k), .ref T2, .int (nI k2)] [(T, .inr (6, [.ref (A 0), .ref (A 1), .ref (A 2), .ref (A 3), .ref (A 4), .ref (A 5), .ref (A 6), .ref (A 7), .ref (A 8), .ref (A 9), .int (nI c), .ref (A 10), .int (nI u)])), ((A 0), .inl (dA 1, (js_cp M), .inl (F 0))), ((A 1), .inl (dA 2, (js_cp M), .inr (.inl G))), ((A 2), .inl (dA 1, (js_cp M), .inl (F 2))), ((A 3), .inl (dA 1, (js_cp M), .inl (F 3))), ((A 4), .inl (dA 1, (js_cp M), .inl (F 4))), ((A 5), .inl (dA 1, (js_cp M), .inl (F 5))), ((A 6), .inl (dA 1, (js_cp M), .inl (F 6))), ((A 7), .inl (dA 1, (js_cp M), .inl (F 7))), ((A 8), .inl (dA 1, (js_cp M), .inl (F 8))), ((A 9), .inl (dA 1, (js_cp M), .inl (F 9))), ((A 10), .inl (dA 3, (js_cu Mu), .inl (F 10))), (T2, .inr (6, [.ref (A2 0), .ref (A2 1), .ref (A2 2), .ref (A2 3), .ref (A2 4), .ref (A2 5), .ref (A2 6), .ref (A2 7), .ref (A2 8), .ref (A2 9), .int (nI c2), .ref (A2 10), .int (nI u2)])), ((A2 0), .inl (dA 1, (js_cp M2), .inl (F2 0))), ((A2 1), .inl (dA 2, (js_cp M2), .inr (.inl G2))), ((A2 2), .inl (dA 1, (js_cp M2), .inl (F2 2))), ((A2 3), .inl (dA 1, (js_cp M2), .inl (F2 3))), ((A2 4), .inl (dA 1, (js_cp M2), .inl (F2 4))), ((A2 5), .inl (dA 1, (js_cp M2), .inl (F2 5))), ((A2 6), .inl (dA 1, (js_cp M2), .inl (F2 6))), ((A2 7), .inl (dA 1, (js_cp M2), .inl (F2 7))), ((A2 8), .inl (dA 1, (js_cp M2), .inl (F2 8))), ((A2 9), .inl (dA 1, (js_cp M2), .inl (F2 9))), ((A2 10), .inl (dA 3, (js_cu Mu2), .inl (F2 10)))] (jv_pi fun r (_ : Unit) => js_bool (x = y) r) (fun _ => [(T, .inr (6, [.ref (A 0), .ref (A 1), .ref (A 2), .ref (A 3), .ref (A 4), .ref (A 5), .ref (A 6), .ref (A 7), .ref (A 8), .ref (A 9), .int (nI c), .ref (A 10), .int (nI u)])), ((A 0), .inl (dA 1, (js_cp M), .inl (F 0))), ((A 1), .inl (dA 2, (js_cp M), .inr (.inl G))), ((A 2), .inl (dA 1, (js_cp M), .inl (F 2))), ((A 3), .inl (dA 1, (js_cp M), .inl (F 3))), ((A 4), .inl (dA 1, (js_cp M), .inl (F 4))), ((A 5), .inl (dA 1, (js_cp M), .inl (F 5))), ((A 6), .inl (dA 1, (js_cp M), .inl (F 6))), ((A 7), .inl (dA 1, (js_cp M), .inl (F 7))), ((A 8), .inl (dA 1, (js_cp M), .inl (F 8))), ((A 9), .inl (dA 1, (js_cp M), .inl (F 9))), ((A 10), .inl (dA 3, (js_cu Mu), .inl (F 10))), (T2, .inr (6, [.ref (A2 0), .ref (A2 1), .ref (A2 2), .ref (A2 3), .ref (A2 4), .ref (A2 5), .ref (A2 6), .ref (A2 7), .ref (A2 8), .ref (A2 9), .int (nI c2), .ref (A2 10), .int (nI u2)])), ((A2 0), .inl (dA 1, (js_cp M2), .inl (F2 0))), ((A2 1), .inl (dA 2, (js_cp M2), .inr (.inl G2))), ((A2 2), .inl (dA 1, (js_cp M2), .inl (F2 2))), ((A2 3), .inl (dA 1, (js_cp M2), .inl (F2 3))), ((A2 4), .inl (dA 1, (js_cp M2), .inl (F2 4))), ((A2 5), .inl (dA 1, (js_cp M2), .inl (F2 5))), ((A2 6), .inl (dA 1, (js_cp M2), .inl (F2 6))), ((A2 7), .inl (dA 1, (js_cp M2), .inl (F2 7))), ((A2 8), .inl (dA 1, (js_cp M2), .inl (F2 8))), ((A2 9), .inl (dA 1, (js_cp M2), .inl (F2 9))), ((A2 10), .inl (dA 3, (js_cu Mu2), .inl (F2 10)))]) 0 0 := by
  refine jv_M.of [(0, .ref T), (1, .int (nI k)), (2, .ref T2), (3, .int (nI k2))] (by decide) (Nat.le_of_ble_eq_true rfl) rfl ?_
  intro pR eR sR mR belowR methR cR AR C hr hin
  have hb1 := js_cp_b M
  have hb2 := js_cu_b Mu
  have hb3 := js_cp_b M2
  have hb4 := js_cu_b Mu2
  refine jv_aload_n C (jd D_Md_same4 0 rfl) rfl 0 rfl ?_
  refine jv_get C fl_Md_46 0 rfl rfl (jd D_Md_same4 1 rfl) ?_
  refine jv_iload_n C (jd D_Md_same4 2 rfl) rfl 1 rfl ?_
  refine jv_iald C 1 rfl (vp_in_nI (by omega) (by omega)) (jd D_Md_same4 3 rfl) ?_
  refine jv_ati (y := 3) (by rw [nI_clamp (by omega)]; exact h0) ?_
  refine jv_aload_n C (jd D_Md_same4 4 rfl) rfl 2 rfl ?_
  refine jv_get C fl_Md_46 12 rfl rfl (jd D_Md_same4 5 rfl) ?_
  refine jv_iload_n C (jd D_Md_same4 6 rfl) rfl 3 rfl ?_
  refine jv_iald C 13 rfl (vp_in_nI (by omega) (by omega)) (jd D_Md_same4 7 rfl) ?_
  refine jv_ati (y := 3) (by rw [nI_clamp (by omega)]; exact g0) ?_
  refine jv_icmp_eq (tgt := 17) C (jd D_Md_same4 8 rfl) (by decide) (fun c12 => ?_) (fun c12 => absurd (rfl) c12)
  refine jv_aload_n C (jd D_Md_same4 11 rfl) rfl 0 rfl ?_
  refine jv_get C fl_Md_46 0 rfl rfl (jd D_Md_same4 12 rfl) ?_
  refine jv_iload_n C (jd D_Md_same4 13 rfl) rfl 1 rfl ?_
  refine jv_iald C 1 rfl (vp_in_nI (by omega) (by omega)) (jd D_Md_same4 14 rfl) ?_
  refine jv_ati (y := 3) (by rw [nI_clamp (by omega)]; exact h0) ?_
  refine jv_tableIn (tgt := 52) (off := 29) C (jd D_Md_same4 15 rfl) (by decide) (by decide) rfl (by decide) ?_
  refine jv_aload_n C (jd D_Md_same4 16 rfl) rfl 0 rfl ?_
  refine jv_get C fl_Md_49 0 rfl rfl (jd D_Md_same4 17 rfl) ?_
  refine jv_iload_n C (jd D_Md_same4 18 rfl) rfl 1 rfl ?_
  refine jv_lald C 2 rfl (vp_in_nI (by omega) (by omega)) (jd D_Md_same4 19 rfl) ?_
  refine jv_atl (y := x) (by rw [nI_clamp (by omega)]; exact hG) ?_
  refine jv_aload_n C (jd D_Md_same4 20 rfl) rfl 2 rfl ?_
  refine jv_get C fl_Md_49 12 rfl rfl (jd D_Md_same4 21 rfl) ?_
  refine jv_iload_n C (jd D_Md_same4 22 rfl) rfl 3 rfl ?_
  refine jv_lald C 14 rfl (vp_in_nI (by omega) (by omega)) (jd D_Md_same4 23 rfl) ?_
  refine jv_atl (y := y) (by rw [nI_clamp (by omega)]; exact hG2) ?_
  refine jv_lcmp C (jd D_Md_same4 24 rfl) ?_
  refine jv_if_ne (tgt := 72) C (jd D_Md_same4 25 rfl) (by decide) (fun c65 => ?_) (fun c65 => ?_)
  · refine jv_iconst (v := 0) C (jd D_Md_same4 28 rfl) (by decide) ?_
    exact jv_iret C hr () (Or.inr ⟨rfl, fun z => c65 ((lg_cmp_eq _ _).mpr z)⟩) rfl [0, 1, 2, 3, 4, 5, 6, 7, 8, 9, 10, 11, 12, 13, 14, 15, 16, 17, 18, 19, 20, 21, 22, 23] rfl rfl (Nat.le_of_ble_eq_true rfl) (Nat.le_of_ble_eq_true rfl) (jd D_Md_same4 29 rfl)
  · refine jv_iconst (v := 1) C (jd D_Md_same4 26 rfl) (by decide) ?_
    refine jv_goto (tgt := 73) C (jd D_Md_same4 27 rfl) (by decide) ?_
    exact jv_iret C hr () (Or.inl ⟨rfl, (lg_cmp_eq _ _).mp c65⟩) rfl [0, 1, 2, 3, 4, 5, 6, 7, 8, 9, 10, 11, 12, 13, 14, 15, 16, 17, 18, 19, 20, 21, 22, 23] rfl rfl (Nat.le_of_ble_eq_true rfl) (Nat.le_of_ble_eq_true rfl) (jd D_Md_same4 29 rfl)

set_option maxHeartbeats 4000000 in
set_option maxRecDepth 100000 in
/-- same: strings -/
theorem c_Md_same4_s {l : Launch} {D : va_G} {dA : Nat → ClassId} {zz : (Nat → Nat) × (Nat → Nat)} (T : Nat) (A : Nat → Nat) (M Mu : Nat) (F : Nat → Nat → Int32) (G : Nat → Int64) (c u : Nat) (T2 : Nat) (A2 : Nat → Nat) (M2 Mu2 : Nat) (F2 : Nat → Nat → Int32) (G2 : Nat → Int64) (c2 u2 : Nat) (m k k2 : Nat) (s s2 : Nat) (us us2 : List Nat) (hM : c ≤ js_cp M) (hU : u ≤ js_cu Mu) (hM2 : c2 ≤ js_cp M2) (hU2 : u2 ≤ js_cu Mu2) (hk : k < c) (hk2 : k2 < c2) (h0 : F 0 k = 4) (g0 : F2 0 k2 = 4) (h2 : F 2 k = nI s) (h3 : F 3 k = nI us.length) (hT : js_TU F u s us) (hp1 : js_pa false us) (g2 : F2 2 k2 = nI s2) (g3 : F2 3 k2 = nI us2.length) (hT2 : js_TU F2 u2 s2 us2) (hp2 : js_pa false us2) : jv_M l D dA zz y_Md_same4 b_Md_same4 7 (some (FieldType.boolean)) (m + 3) [.ref T, .int (nI k), .ref T2, .int (nI k2)] [(T, .inr (6, [.ref (A 0), .ref (A 1), .ref (A 2), .ref (A 3), .ref (A 4), .ref (A 5), .ref (A 6), .ref (A 7), .ref (A 8), .ref (A 9), .int (nI c), .ref (A 10), .int (nI u)])), ((A 0), .inl (dA 1, (js_cp M), .inl (F 0))), ((A 1), .inl (dA 2, (js_cp M), .inr (.inl G))), ((A 2), .inl (dA 1, (js_cp M), .inl (F 2))), ((A 3), .inl (dA 1, (js_cp M), .inl (F 3))), ((A 4), .inl (dA 1, (js_cp M), .inl (F 4))), ((A 5), .inl (dA 1, (js_cp M), .inl (F 5))), ((A 6), .inl (dA 1, (js_cp M), .inl (F 6))), ((A 7), .inl (dA 1, (js_cp M), .inl (F 7))), ((A 8), .inl (dA 1, (js_cp M), .inl (F 8))), ((A 9), .inl (dA 1, (js_cp M), .inl (F 9))), ((A 10), .inl (dA 3, (js_cu Mu), .inl (F 10))), (T2, .inr (6, [.ref (A2 0), .ref (A2 1), .ref (A2 2), .ref (A2 3), .ref (A2 4), .ref (A2 5), .ref (A2 6), .ref (A2 7), .ref (A2 8), .ref (A2 9), .int (nI c2), .ref (A2 10), .int (nI u2)])), ((A2 0), .inl (dA 1, (js_cp M2), .inl (F2 0))), ((A2 1), .inl (dA 2, (js_cp M2), .inr (.inl G2))), ((A2 2), .inl (dA 1, (js_cp M2), .inl (F2 2))), ((A2 3), .inl (dA 1, (js_cp M2), .inl (F2 3))), ((A2 4), .inl (dA 1, (js_cp M2), .inl (F2 4))), ((A2 5), .inl (dA 1, (js_cp M2), .inl (F2 5))), ((A2 6), .inl (dA 1, (js_cp M2), .inl (F2 6))), ((A2 7), .inl (dA 1, (js_cp M2), .inl (F2 7))), ((A2 8), .inl (dA 1, (js_cp M2), .inl (F2 8))), ((A2 9), .inl (dA 1, (js_cp M2), .inl (F2 9))), ((A2 10), .inl (dA 3, (js_cu Mu2), .inl (F2 10)))] (jv_pi fun r (_ : Unit) => js_bool (us = us2) r) (fun _ => [(T, .inr (6, [.ref (A 0), .ref (A 1), .ref (A 2), .ref (A 3), .ref (A 4), .ref (A 5), .ref (A 6), .ref (A 7), .ref (A 8), .ref (A 9), .int (nI c), .ref (A 10), .int (nI u)])), ((A 0), .inl (dA 1, (js_cp M), .inl (F 0))), ((A 1), .inl (dA 2, (js_cp M), .inr (.inl G))), ((A 2), .inl (dA 1, (js_cp M), .inl (F 2))), ((A 3), .inl (dA 1, (js_cp M), .inl (F 3))), ((A 4), .inl (dA 1, (js_cp M), .inl (F 4))), ((A 5), .inl (dA 1, (js_cp M), .inl (F 5))), ((A 6), .inl (dA 1, (js_cp M), .inl (F 6))), ((A 7), .inl (dA 1, (js_cp M), .inl (F 7))), ((A 8), .inl (dA 1, (js_cp M), .inl (F 8))), ((A 9), .inl (dA 1, (js_cp M), .inl (F 9))), ((A 10), .inl (dA 3, (js_cu Mu), .inl (F 10))), (T2, .inr (6, [.ref (A2 0), .ref (A2 1), .ref (A2 2), .ref (A2 3), .ref (A2 4), .ref (A2 5), .ref (A2 6), .ref (A2 7), .ref (A2 8), .ref (A2 9), .int (nI c2), .ref (A2 10), .int (nI u2)])), ((A2 0), .inl (dA 1, (js_cp M2), .inl (F2 0))), ((A2 1), .inl (dA 2, (js_cp M2), .inr (.inl G2))), ((A2 2), .inl (dA 1, (js_cp M2), .inl (F2 2))), ((A2 3), .inl (dA 1, (js_cp M2), .inl (F2 3))), ((A2 4), .inl (dA 1, (js_cp M2), .inl (F2 4))), ((A2 5), .inl (dA 1, (js_cp M2), .inl (F2 5))), ((A2 6), .inl (dA 1, (js_cp M2), .inl (F2 6))), ((A2 7), .inl (dA 1, (js_cp M2), .inl (F2 7))), ((A2 8), .inl (dA 1, (js_cp M2), .inl (F2 8))), ((A2 9), .inl (dA 1, (js_cp M2), .inl (F2 9))), ((A2 10), .inl (dA 3, (js_cu Mu2), .inl (F2 10)))]) 0 0 := by
  refine jv_M.of [(0, .ref T), (1, .int (nI k)), (2, .ref T2), (3, .int (nI k2))] (by decide) (Nat.le_of_ble_eq_true rfl) rfl ?_
  intro pR eR sR mR belowR methR cR AR C hr hin
  have hb1 := js_cp_b M
  have hb2 := js_cu_b Mu
  have hb3 := js_cp_b M2
  have hb4 := js_cu_b Mu2
  refine jv_aload_n C (jd D_Md_same4 0 rfl) rfl 0 rfl ?_
  refine jv_get C fl_Md_46 0 rfl rfl (jd D_Md_same4 1 rfl) ?_
  refine jv_iload_n C (jd D_Md_same4 2 rfl) rfl 1 rfl ?_
  refine jv_iald C 1 rfl (vp_in_nI (by omega) (by omega)) (jd D_Md_same4 3 rfl) ?_
  refine jv_ati (y := 4) (by rw [nI_clamp (by omega)]; exact h0) ?_
  refine jv_aload_n C (jd D_Md_same4 4 rfl) rfl 2 rfl ?_
  refine jv_get C fl_Md_46 12 rfl rfl (jd D_Md_same4 5 rfl) ?_
  refine jv_iload_n C (jd D_Md_same4 6 rfl) rfl 3 rfl ?_
  refine jv_iald C 13 rfl (vp_in_nI (by omega) (by omega)) (jd D_Md_same4 7 rfl) ?_
  refine jv_ati (y := 4) (by rw [nI_clamp (by omega)]; exact g0) ?_
  refine jv_icmp_eq (tgt := 17) C (jd D_Md_same4 8 rfl) (by decide) (fun c12 => ?_) (fun c12 => absurd (rfl) c12)
  refine jv_aload_n C (jd D_Md_same4 11 rfl) rfl 0 rfl ?_
  refine jv_get C fl_Md_46 0 rfl rfl (jd D_Md_same4 12 rfl) ?_
  refine jv_iload_n C (jd D_Md_same4 13 rfl) rfl 1 rfl ?_
  refine jv_iald C 1 rfl (vp_in_nI (by omega) (by omega)) (jd D_Md_same4 14 rfl) ?_
  refine jv_ati (y := 4) (by rw [nI_clamp (by omega)]; exact h0) ?_
  refine jv_tableIn (tgt := 74) (off := 51) C (jd D_Md_same4 15 rfl) (by decide) (by decide) rfl (by decide) ?_
  refine jv_aload_n C (jd D_Md_same4 30 rfl) rfl 0 rfl ?_
  refine jv_iload_n C (jd D_Md_same4 31 rfl) rfl 1 rfl ?_
  refine jv_aload_n C (jd D_Md_same4 32 rfl) rfl 2 rfl ?_
  refine jv_iload_n C (jd D_Md_same4 33 rfl) rfl 3 rfl ?_
  refine jv_callS (wr := []) C cl_Md_53 (c_Md_order T A M Mu F G c u T2 A2 M2 Mu2 F2 G2 c2 u2 k k2 s s2 us us2 hM hU hM2 hU2 hk hk2 h2 h3 hT hp1 g2 g3 hT2 hp2) [0, 1, 2, 3, 4, 5, 6, 7, 8, 9, 10, 11, 12, 13, 14, 15, 16, 17, 18, 19, 20, 21, 22, 23] [] rfl rfl rfl rfl (by decide) ⟨(by simp only [jv_rm]; omega), (by simp only [jv_rm]; omega)⟩ ⟨Nat.le_of_ble_eq_true rfl, Nat.le_of_ble_eq_true rfl⟩ rfl rfl (Nat.le_of_ble_eq_true rfl) (jd D_Md_same4 34 rfl) (fun v1 _ k1 => ?_)
  obtain ⟨r1, rfl, k1⟩ := k1
  refine jv_fix [0, 1, 2, 3, 4, 5, 6, 7, 8, 9, 10, 11, 12, 13, 14, 15, 16, 17, 18, 19, 20, 21, 22, 23] [(T, .inr (6, [.ref (A 0), .ref (A 1), .ref (A 2), .ref (A 3), .ref (A 4), .ref (A 5), .ref (A 6), .ref (A 7), .ref (A 8), .ref (A 9), .int (nI c), .ref (A 10), .int (nI u)])), ((A 0), .inl (dA 1, (js_cp M), .inl (F 0))), ((A 1), .inl (dA 2, (js_cp M), .inr (.inl G))), ((A 2), .inl (dA 1, (js_cp M), .inl (F 2))), ((A 3), .inl (dA 1, (js_cp M), .inl (F 3))), ((A 4), .inl (dA 1, (js_cp M), .inl (F 4))), ((A 5), .inl (dA 1, (js_cp M), .inl (F 5))), ((A 6), .inl (dA 1, (js_cp M), .inl (F 6))), ((A 7), .inl (dA 1, (js_cp M), .inl (F 7))), ((A 8), .inl (dA 1, (js_cp M), .inl (F 8))), ((A 9), .inl (dA 1, (js_cp M), .inl (F 9))), ((A 10), .inl (dA 3, (js_cu Mu), .inl (F 10))), (T2, .inr (6, [.ref (A2 0), .ref (A2 1), .ref (A2 2), .ref (A2 3), .ref (A2 4), .ref (A2 5), .ref (A2 6), .ref (A2 7), .ref (A2 8), .ref (A2 9), .int (nI c2), .ref (A2 10), .int (nI u2)])), ((A2 0), .inl (dA 1, (js_cp M2), .inl (F2 0))), ((A2 1), .inl (dA 2, (js_cp M2), .inr (.inl G2))), ((A2 2), .inl (dA 1, (js_cp M2), .inl (F2 2))), ((A2 3), .inl (dA 1, (js_cp M2), .inl (F2 3))), ((A2 4), .inl (dA 1, (js_cp M2), .inl (F2 4))), ((A2 5), .inl (dA 1, (js_cp M2), .inl (F2 5))), ((A2 6), .inl (dA 1, (js_cp M2), .inl (F2 6))), ((A2 7), .inl (dA 1, (js_cp M2), .inl (F2 7))), ((A2 8), .inl (dA 1, (js_cp M2), .inl (F2 8))), ((A2 9), .inl (dA 1, (js_cp M2), .inl (F2 9))), ((A2 10), .inl (dA 3, (js_cu Mu2), .inl (F2 10)))] [.int r1] 0 0 rfl rfl rfl (Nat.le_refl _) (Nat.le_refl _) ?_
  refine jv_if_ne (tgt := 88) C (jd D_Md_same4 35 rfl) (by decide) (fun c81 => ?_) (fun c81 => ?_)
  · refine jv_iconst (v := 0) C (jd D_Md_same4 38 rfl) (by decide) ?_
    exact jv_iret C hr () (Or.inr ⟨rfl, by
    rcases k1 with q | q
    · exact absurd q.1 c81
    · exact q.2⟩) rfl [0, 1, 2, 3, 4, 5, 6, 7, 8, 9, 10, 11, 12, 13, 14, 15, 16, 17, 18, 19, 20, 21, 22, 23] rfl rfl (Nat.le_of_ble_eq_true rfl) (Nat.le_of_ble_eq_true rfl) (jd D_Md_same4 39 rfl)
  · refine jv_iconst (v := 1) C (jd D_Md_same4 36 rfl) (by decide) ?_
    refine jv_goto (tgt := 89) C (jd D_Md_same4 37 rfl) (by decide) ?_
    exact jv_iret C hr () (Or.inl ⟨rfl, by
    rcases k1 with q | q
    · exact q.2
    · exact absurd c81 q.1⟩) rfl [0, 1, 2, 3, 4, 5, 6, 7, 8, 9, 10, 11, 12, 13, 14, 15, 16, 17, 18, 19, 20, 21, 22, 23] rfl rfl (Nat.le_of_ble_eq_true rfl) (Nat.le_of_ble_eq_true rfl) (jd D_Md_same4 39 rfl)

/-- what same does, of values at depth m -/
def jv_SM (l : Launch) (D : va_G) (dA : Nat → ClassId) (zz : (Nat → Nat) × (Nat → Nat)) (T : Nat) (A : Nat → Nat) (M Mu : Nat) (F : Nat → Nat → Int32) (G : Nat → Int64) (c u : Nat) (T2 : Nat) (A2 : Nat → Nat) (M2 Mu2 : Nat) (F2 : Nat → Nat → Int32) (G2 : Nat → Int64) (c2 u2 : Nat) (m : Nat) : Prop := ∀ (v w : js_J m) (k k2 : Nat), js_ok m v → js_ok m w → js_TV F G u m v k → js_TV F2 G2 u2 m w k2 → k + js_cnt m v ≤ c → k2 + js_cnt m w ≤ c2 → jv_M l D dA zz y_Md_same4 b_Md_same4 7 (some (FieldType.boolean)) (m + 3) [.ref T, .int (nI k), .ref T2, .int (nI k2)] [(T, .inr (6, [.ref (A 0), .ref (A 1), .ref (A 2), .ref (A 3), .ref (A 4), .ref (A 5), .ref (A 6), .ref (A 7), .ref (A 8), .ref (A 9), .int (nI c), .ref (A 10), .int (nI u)])), ((A 0), .inl (dA 1, (js_cp M), .inl (F 0))), ((A 1), .inl (dA 2, (js_cp M), .inr (.inl G))), ((A 2), .inl (dA 1, (js_cp M), .inl (F 2))), ((A 3), .inl (dA 1, (js_cp M), .inl (F 3))), ((A 4), .inl (dA 1, (js_cp M), .inl (F 4))), ((A 5), .inl (dA 1, (js_cp M), .inl (F 5))), ((A 6), .inl (dA 1, (js_cp M), .inl (F 6))), ((A 7), .inl (dA 1, (js_cp M), .inl (F 7))), ((A 8), .inl (dA 1, (js_cp M), .inl (F 8))), ((A 9), .inl (dA 1, (js_cp M), .inl (F 9))), ((A 10), .inl (dA 3, (js_cu Mu), .inl (F 10))), (T2, .inr (6, [.ref (A2 0), .ref (A2 1), .ref (A2 2), .ref (A2 3), .ref (A2 4), .ref (A2 5), .ref (A2 6), .ref (A2 7), .ref (A2 8), .ref (A2 9), .int (nI c2), .ref (A2 10), .int (nI u2)])), ((A2 0), .inl (dA 1, (js_cp M2), .inl (F2 0))), ((A2 1), .inl (dA 2, (js_cp M2), .inr (.inl G2))), ((A2 2), .inl (dA 1, (js_cp M2), .inl (F2 2))), ((A2 3), .inl (dA 1, (js_cp M2), .inl (F2 3))), ((A2 4), .inl (dA 1, (js_cp M2), .inl (F2 4))), ((A2 5), .inl (dA 1, (js_cp M2), .inl (F2 5))), ((A2 6), .inl (dA 1, (js_cp M2), .inl (F2 6))), ((A2 7), .inl (dA 1, (js_cp M2), .inl (F2 7))), ((A2 8), .inl (dA 1, (js_cp M2), .inl (F2 8))), ((A2 9), .inl (dA 1, (js_cp M2), .inl (F2 9))), ((A2 10), .inl (dA 3, (js_cu Mu2), .inl (F2 10)))] (jv_pi fun r (_ : Unit) => js_bool (js_same m v w) r) (fun _ => [(T, .inr (6, [.ref (A 0), .ref (A 1), .ref (A 2), .ref (A 3), .ref (A 4), .ref (A 5), .ref (A 6), .ref (A 7), .ref (A 8), .ref (A 9), .int (nI c), .ref (A 10), .int (nI u)])), ((A 0), .inl (dA 1, (js_cp M), .inl (F 0))), ((A 1), .inl (dA 2, (js_cp M), .inr (.inl G))), ((A 2), .inl (dA 1, (js_cp M), .inl (F 2))), ((A 3), .inl (dA 1, (js_cp M), .inl (F 3))), ((A 4), .inl (dA 1, (js_cp M), .inl (F 4))), ((A 5), .inl (dA 1, (js_cp M), .inl (F 5))), ((A 6), .inl (dA 1, (js_cp M), .inl (F 6))), ((A 7), .inl (dA 1, (js_cp M), .inl (F 7))), ((A 8), .inl (dA 1, (js_cp M), .inl (F 8))), ((A 9), .inl (dA 1, (js_cp M), .inl (F 9))), ((A 10), .inl (dA 3, (js_cu Mu), .inl (F 10))), (T2, .inr (6, [.ref (A2 0), .ref (A2 1), .ref (A2 2), .ref (A2 3), .ref (A2 4), .ref (A2 5), .ref (A2 6), .ref (A2 7), .ref (A2 8), .ref (A2 9), .int (nI c2), .ref (A2 10), .int (nI u2)])), ((A2 0), .inl (dA 1, (js_cp M2), .inl (F2 0))), ((A2 1), .inl (dA 2, (js_cp M2), .inr (.inl G2))), ((A2 2), .inl (dA 1, (js_cp M2), .inl (F2 2))), ((A2 3), .inl (dA 1, (js_cp M2), .inl (F2 3))), ((A2 4), .inl (dA 1, (js_cp M2), .inl (F2 4))), ((A2 5), .inl (dA 1, (js_cp M2), .inl (F2 5))), ((A2 6), .inl (dA 1, (js_cp M2), .inl (F2 6))), ((A2 7), .inl (dA 1, (js_cp M2), .inl (F2 7))), ((A2 8), .inl (dA 1, (js_cp M2), .inl (F2 8))), ((A2 9), .inl (dA 1, (js_cp M2), .inl (F2 9))), ((A2 10), .inl (dA 3, (js_cu Mu2), .inl (F2 10)))]) 0 0

set_option maxHeartbeats 4000000 in
set_option maxRecDepth 100000 in
/-- same: arrays -/
theorem c_Md_same4_a {l : Launch} {D : va_G} {dA : Nat → ClassId} {zz : (Nat → Nat) × (Nat → Nat)} (T : Nat) (A : Nat → Nat) (M Mu : Nat) (F : Nat → Nat → Int32) (G : Nat → Int64) (c u : Nat) (T2 : Nat) (A2 : Nat → Nat) (M2 Mu2 : Nat) (F2 : Nat → Nat → Int32) (G2 : Nat → Int64) (c2 u2 : Nat) (m k k2 : Nat) (l1 l2 : List (List Nat × js_J m)) (hM : c ≤ js_cp M) (hU : u ≤ js_cu Mu) (hM2 : c2 ≤ js_cp M2) (hU2 : u2 ≤ js_cu Mu2) (o1 : js_ok (m + 1) (Sum.inr (false, l1))) (o2 : js_ok (m + 1) (Sum.inr (false, l2))) (hv : js_TV F G u (m + 1) (Sum.inr (false, l1)) k) (hv2 : js_TV F2 G2 u2 (m + 1) (Sum.inr (false, l2)) k2) (hk : k + js_cnt (m + 1) (Sum.inr (false, l1)) ≤ c) (hk2 : k2 + js_cnt (m + 1) (Sum.inr (false, l2)) ≤ c2) (SM : jv_SM l D dA zz T A M Mu F G c u T2 A2 M2 Mu2 F2 G2 c2 u2 m) : jv_M l D dA zz y_Md_same4 b_Md_same4 7 (some (FieldType.boolean)) (m + 1 + 3) [.ref T, .int (nI k), .ref T2, .int (nI k2)] [(T, .inr (6, [.ref (A 0), .ref (A 1), .ref (A 2), .ref (A 3), .ref (A 4), .ref (A 5), .ref (A 6), .ref (A 7), .ref (A 8), .ref (A 9), .int (nI c), .ref (A 10), .int (nI u)])), ((A 0), .inl (dA 1, (js_cp M), .inl (F 0))), ((A 1), .inl (dA 2, (js_cp M), .inr (.inl G))), ((A 2), .inl (dA 1, (js_cp M), .inl (F 2))), ((A 3), .inl (dA 1, (js_cp M), .inl (F 3))), ((A 4), .inl (dA 1, (js_cp M), .inl (F 4))), ((A 5), .inl (dA 1, (js_cp M), .inl (F 5))), ((A 6), .inl (dA 1, (js_cp M), .inl (F 6))), ((A 7), .inl (dA 1, (js_cp M), .inl (F 7))), ((A 8), .inl (dA 1, (js_cp M), .inl (F 8))), ((A 9), .inl (dA 1, (js_cp M), .inl (F 9))), ((A 10), .inl (dA 3, (js_cu Mu), .inl (F 10))), (T2, .inr (6, [.ref (A2 0), .ref (A2 1), .ref (A2 2), .ref (A2 3), .ref (A2 4), .ref (A2 5), .ref (A2 6), .ref (A2 7), .ref (A2 8), .ref (A2 9), .int (nI c2), .ref (A2 10), .int (nI u2)])), ((A2 0), .inl (dA 1, (js_cp M2), .inl (F2 0))), ((A2 1), .inl (dA 2, (js_cp M2), .inr (.inl G2))), ((A2 2), .inl (dA 1, (js_cp M2), .inl (F2 2))), ((A2 3), .inl (dA 1, (js_cp M2), .inl (F2 3))), ((A2 4), .inl (dA 1, (js_cp M2), .inl (F2 4))), ((A2 5), .inl (dA 1, (js_cp M2), .inl (F2 5))), ((A2 6), .inl (dA 1, (js_cp M2), .inl (F2 6))), ((A2 7), .inl (dA 1, (js_cp M2), .inl (F2 7))), ((A2 8), .inl (dA 1, (js_cp M2), .inl (F2 8))), ((A2 9), .inl (dA 1, (js_cp M2), .inl (F2 9))), ((A2 10), .inl (dA 3, (js_cu Mu2), .inl (F2 10)))] (jv_pi fun r (_ : Unit) => js_bool (js_same (m + 1) (Sum.inr (false, l1)) (Sum.inr (false, l2))) r) (fun _ => [(T, .inr (6, [.ref (A 0), .ref (A 1), .ref (A 2), .ref (A 3), .ref (A 4), .ref (A 5), .ref (A 6), .ref (A 7), .ref (A 8), .ref (A 9), .int (nI c), .ref (A 10), .int (nI u)])), ((A 0), .inl (dA 1, (js_cp M), .inl (F 0))), ((A 1), .inl (dA 2, (js_cp M), .inr (.inl G))), ((A 2), .inl (dA 1, (js_cp M), .inl (F 2))), ((A 3), .inl (dA 1, (js_cp M), .inl (F 3))), ((A 4), .inl (dA 1, (js_cp M), .inl (F 4))), ((A 5), .inl (dA 1, (js_cp M), .inl (F 5))), ((A 6), .inl (dA 1, (js_cp M), .inl (F 6))), ((A 7), .inl (dA 1, (js_cp M), .inl (F 7))), ((A 8), .inl (dA 1, (js_cp M), .inl (F 8))), ((A 9), .inl (dA 1, (js_cp M), .inl (F 9))), ((A 10), .inl (dA 3, (js_cu Mu), .inl (F 10))), (T2, .inr (6, [.ref (A2 0), .ref (A2 1), .ref (A2 2), .ref (A2 3), .ref (A2 4), .ref (A2 5), .ref (A2 6), .ref (A2 7), .ref (A2 8), .ref (A2 9), .int (nI c2), .ref (A2 10), .int (nI u2)])), ((A2 0), .inl (dA 1, (js_cp M2), .inl (F2 0))), ((A2 1), .inl (dA 2, (js_cp M2), .inr (.inl G2))), ((A2 2), .inl (dA 1, (js_cp M2), .inl (F2 2))), ((A2 3), .inl (dA 1, (js_cp M2), .inl (F2 3))), ((A2 4), .inl (dA 1, (js_cp M2), .inl (F2 4))), ((A2 5), .inl (dA 1, (js_cp M2), .inl (F2 5))), ((A2 6), .inl (dA 1, (js_cp M2), .inl (F2 6))), ((A2 7), .inl (dA 1, (js_cp M2), .inl (F2 7))), ((A2 8), .inl (dA 1, (js_cp M2), .inl (F2 8))), ((A2 9), .inl (dA 1, (js_cp M2), .inl (F2 9))), ((A2 10), .inl (dA 3, (js_cu Mu2), .inl (F2 10)))]) 0 0 := by
  refine jv_M.of [(0, .ref T), (1, .int (nI k)), (2, .ref T2), (3, .int (nI k2))] (by decide) (Nat.le_of_ble_eq_true rfl) rfl ?_
  intro pR eR sR mR belowR methR cR AR C hr hin
  obtain ⟨QR, hQ⟩ : ∃ QR, QR = jv_E D (jv_pi fun r (_ : Unit) => js_bool (js_same (m + 1) (Sum.inr (false, l1)) (Sum.inr (false, l2))) r) (fun _ => [(T, .inr (6, [.ref (A 0), .ref (A 1), .ref (A 2), .ref (A 3), .ref (A 4), .ref (A 5), .ref (A 6), .ref (A 7), .ref (A 8), .ref (A 9), .int (nI c), .ref (A 10), .int (nI u)])), ((A 0), .inl (dA 1, (js_cp M), .inl (F 0))), ((A 1), .inl (dA 2, (js_cp M), .inr (.inl G))), ((A 2), .inl (dA 1, (js_cp M), .inl (F 2))), ((A 3), .inl (dA 1, (js_cp M), .inl (F 3))), ((A 4), .inl (dA 1, (js_cp M), .inl (F 4))), ((A 5), .inl (dA 1, (js_cp M), .inl (F 5))), ((A 6), .inl (dA 1, (js_cp M), .inl (F 6))), ((A 7), .inl (dA 1, (js_cp M), .inl (F 7))), ((A 8), .inl (dA 1, (js_cp M), .inl (F 8))), ((A 9), .inl (dA 1, (js_cp M), .inl (F 9))), ((A 10), .inl (dA 3, (js_cu Mu), .inl (F 10))), (T2, .inr (6, [.ref (A2 0), .ref (A2 1), .ref (A2 2), .ref (A2 3), .ref (A2 4), .ref (A2 5), .ref (A2 6), .ref (A2 7), .ref (A2 8), .ref (A2 9), .int (nI c2), .ref (A2 10), .int (nI u2)])), ((A2 0), .inl (dA 1, (js_cp M2), .inl (F2 0))), ((A2 1), .inl (dA 2, (js_cp M2), .inr (.inl G2))), ((A2 2), .inl (dA 1, (js_cp M2), .inl (F2 2))), ((A2 3), .inl (dA 1, (js_cp M2), .inl (F2 3))), ((A2 4), .inl (dA 1, (js_cp M2), .inl (F2 4))), ((A2 5), .inl (dA 1, (js_cp M2), .inl (F2 5))), ((A2 6), .inl (dA 1, (js_cp M2), .inl (F2 6))), ((A2 7), .inl (dA 1, (js_cp M2), .inl (F2 7))), ((A2 8), .inl (dA 1, (js_cp M2), .inl (F2 8))), ((A2 9), .inl (dA 1, (js_cp M2), .inl (F2 9))), ((A2 10), .inl (dA 3, (js_cu Mu2), .inl (F2 10)))]) belowR ([.ref T, .int (nI k), .ref T2, .int (nI k2)] : List Value).toArray sR AR 0 0 := ⟨_, rfl⟩
  rw [← hQ]
  have hb1 := js_cp_b M
  have hb2 := js_cu_b Mu
  have hb3 := js_cp_b M2
  have hb4 := js_cu_b Mu2
  have hc1 := js_cnt_pos (m + 1) (Sum.inr (false, l1))
  have hc2 := js_cnt_pos (m + 1) (Sum.inr (false, l2))
  refine jv_aload_n C (jd D_Md_same4 0 rfl) rfl 0 rfl ?_
  refine jv_get C fl_Md_46 0 rfl rfl (jd D_Md_same4 1 rfl) ?_
  refine jv_iload_n C (jd D_Md_same4 2 rfl) rfl 1 rfl ?_
  refine jv_iald C 1 rfl (vp_in_nI (by omega) (by omega)) (jd D_Md_same4 3 rfl) ?_
  refine jv_ati (y := 5) (by rw [nI_clamp (by omega)]; exact hv.1) ?_
  refine jv_aload_n C (jd D_Md_same4 4 rfl) rfl 2 rfl ?_
  refine jv_get C fl_Md_46 12 rfl rfl (jd D_Md_same4 5 rfl) ?_
  refine jv_iload_n C (jd D_Md_same4 6 rfl) rfl 3 rfl ?_
  refine jv_iald C 13 rfl (vp_in_nI (by omega) (by omega)) (jd D_Md_same4 7 rfl) ?_
  refine jv_ati (y := 5) (by rw [nI_clamp (by omega)]; exact hv2.1) ?_
  refine jv_icmp_eq (tgt := 17) C (jd D_Md_same4 8 rfl) (by decide) (fun c12 => ?_) (fun c12 => absurd (rfl) c12)
  refine jv_aload_n C (jd D_Md_same4 11 rfl) rfl 0 rfl ?_
  refine jv_get C fl_Md_46 0 rfl rfl (jd D_Md_same4 12 rfl) ?_
  refine jv_iload_n C (jd D_Md_same4 13 rfl) rfl 1 rfl ?_
  refine jv_iald C 1 rfl (vp_in_nI (by omega) (by omega)) (jd D_Md_same4 14 rfl) ?_
  refine jv_ati (y := 5) (by rw [nI_clamp (by omega)]; exact hv.1) ?_
  refine jv_tableIn (tgt := 90) (off := 67) C (jd D_Md_same4 15 rfl) (by decide) (by decide) rfl (by decide) ?_
  refine jv_aload_n C (jd D_Md_same4 40 rfl) rfl 2 rfl ?_
  refine jv_get C fl_Md_57 12 rfl rfl (jd D_Md_same4 41 rfl) ?_
  refine jv_iload_n C (jd D_Md_same4 42 rfl) rfl 3 rfl ?_
  refine jv_iald C 17 rfl (vp_in_nI (by omega) (by omega)) (jd D_Md_same4 43 rfl) ?_
  refine jv_ati (y := js_kx l2 k2 0) (by rw [nI_clamp (by omega)]; exact js_TV_k0 hv2) ?_
  refine jv_istore C [(4, .int (js_kx l2 k2 0)), (0, .ref T), (1, .int (nI k)), (2, .ref T2), (3, .int (nI k2))] (jd D_Md_same4 44 rfl) (by decide) rfl ?_
  refine jv_aload_n C (jd D_Md_same4 45 rfl) rfl 1 rfl ?_
  refine jv_get C fl_Md_57 0 rfl rfl (jd D_Md_same4 46 rfl) ?_
  refine jv_iload_n C (jd D_Md_same4 47 rfl) rfl 2 rfl ?_
  refine jv_iald C 5 rfl (vp_in_nI (by omega) (by omega)) (jd D_Md_same4 48 rfl) ?_
  refine jv_ati (y := js_kx l1 k 0) (by rw [nI_clamp (by omega)]; exact js_TV_k0 hv) ?_
  refine jv_istore C [(5, .int (js_kx l1 k 0)), (4, .int (js_kx l2 k2 0)), (0, .ref T), (1, .int (nI k)), (2, .ref T2), (3, .int (nI k2))] (jd D_Md_same4 49 rfl) (by decide) rfl ?_
  have hL106 : ∀ (n : Nat) (i0 : Nat), i0 ≤ l1.length → i0 ≤ l2.length → l1.length + 1 ≤ i0 + n → (∀ (j : Nat) (q q2 : List Nat × js_J m), j < i0 → l1[j]? = some q → l2[j]? = some q2 → js_same m q.2 q2.2) → jv_V pR l eR (jv_rm (m + 1 + 3) 0 0) sR mR ([.ref T, .int (nI k), .ref T2, .int (nI k2)] : List Value).toArray belowR methR cR 0 0 QR D AR 7 [(T, .inr (6, [.ref (A 0), .ref (A 1), .ref (A 2), .ref (A 3), .ref (A 4), .ref (A 5), .ref (A 6), .ref (A 7), .ref (A 8), .ref (A 9), .int (nI c), .ref (A 10), .int (nI u)])), ((A 0), .inl (dA 1, (js_cp M), .inl (F 0))), ((A 1), .inl (dA 2, (js_cp M), .inr (.inl G))), ((A 2), .inl (dA 1, (js_cp M), .inl (F 2))), ((A 3), .inl (dA 1, (js_cp M), .inl (F 3))), ((A 4), .inl (dA 1, (js_cp M), .inl (F 4))), ((A 5), .inl (dA 1, (js_cp M), .inl (F 5))), ((A 6), .inl (dA 1, (js_cp M), .inl (F 6))), ((A 7), .inl (dA 1, (js_cp M), .inl (F 7))), ((A 8), .inl (dA 1, (js_cp M), .inl (F 8))), ((A 9), .inl (dA 1, (js_cp M), .inl (F 9))), ((A 10), .inl (dA 3, (js_cu Mu), .inl (F 10))), (T2, .inr (6, [.ref (A2 0), .ref (A2 1), .ref (A2 2), .ref (A2 3), .ref (A2 4), .ref (A2 5), .ref (A2 6), .ref (A2 7), .ref (A2 8), .ref (A2 9), .int (nI c2), .ref (A2 10), .int (nI u2)])), ((A2 0), .inl (dA 1, (js_cp M2), .inl (F2 0))), ((A2 1), .inl (dA 2, (js_cp M2), .inr (.inl G2))), ((A2 2), .inl (dA 1, (js_cp M2), .inl (F2 2))), ((A2 3), .inl (dA 1, (js_cp M2), .inl (F2 3))), ((A2 4), .inl (dA 1, (js_cp M2), .inl (F2 4))), ((A2 5), .inl (dA 1, (js_cp M2), .inl (F2 5))), ((A2 6), .inl (dA 1, (js_cp M2), .inl (F2 6))), ((A2 7), .inl (dA 1, (js_cp M2), .inl (F2 7))), ((A2 8), .inl (dA 1, (js_cp M2), .inl (F2 8))), ((A2 9), .inl (dA 1, (js_cp M2), .inl (F2 9))), ((A2 10), .inl (dA 3, (js_cu Mu2), .inl (F2 10)))] [(0, .ref T), (1, .int (nI k)), (2, .ref T2), (3, .int (nI k2)), (4, .int (js_kx l2 k2 i0)), (5, .int (js_kx l1 k i0))] 106 [] := by
    intro n
    induction n with
    | zero =>
      intro i0 h0 h1 h2
      exact absurd h2 (by omega)
    | succ n ih =>
      intro i0 hi1 hi2 hm hi
      refine jv_iload C (jd D_Md_same4 50 rfl) 5 rfl ?_
      refine jv_if_lt (tgt := 151) C (jd D_Md_same4 51 rfl) (by decide) (fun c108 => ?_) (fun c108 => ?_)
      · have hge1 : l1.length ≤ i0 := by
          rcases Nat.lt_or_ge i0 l1.length with y | y
          · have hpb := js_pos_b (b := false) (k := k) y
            have hcp := js_cnt_pos m l1[i0].2
            exact js_kx_neg c108 (by omega)
          · exact y
        refine jv_iload C (jd D_Md_same4 73 rfl) 4 rfl ?_
        refine jv_if_ge (tgt := 160) C (jd D_Md_same4 74 rfl) (by decide) (fun c153 => ?_) (fun c153 => ?_)
        · have hl2 : i0 < l2.length := js_kx_pos (Int32.not_lt.mpr c153)
          refine jv_iconst (v := 0) C (jd D_Md_same4 77 rfl) (by decide) ?_
          rw [hQ]
          exact jv_iret C hr () (Or.inr ⟨rfl, fun z => by have z2 := z.2.1; omega⟩) rfl [0, 1, 2, 3, 4, 5, 6, 7, 8, 9, 10, 11, 12, 13, 14, 15, 16, 17, 18, 19, 20, 21, 22, 23] rfl rfl (Nat.le_of_ble_eq_true rfl) (Nat.le_of_ble_eq_true rfl) (jd D_Md_same4 78 rfl)
        · have hge2 : l2.length ≤ i0 := by
            rcases Nat.lt_or_ge i0 l2.length with y | y
            · have hpb := js_pos_b (b := false) (k := k2) y
              have hcp := js_cnt_pos m l2[i0].2
              exact js_kx_neg (Int32.not_le.mp c153) (by omega)
            · exact y
          refine jv_iconst (v := 1) C (jd D_Md_same4 75 rfl) (by decide) ?_
          refine jv_goto (tgt := 161) C (jd D_Md_same4 76 rfl) (by decide) ?_
          rw [hQ]
          exact jv_iret C hr () (Or.inl ⟨rfl, rfl, by omega, fun e => absurd e (by decide), fun _ j q q2 e1 e2 => hi j q q2 (by have := (List.getElem?_eq_some_iff.mp e1).1; omega) e1 e2⟩) rfl [0, 1, 2, 3, 4, 5, 6, 7, 8, 9, 10, 11, 12, 13, 14, 15, 16, 17, 18, 19, 20, 21, 22, 23] rfl rfl (Nat.le_of_ble_eq_true rfl) (Nat.le_of_ble_eq_true rfl) (jd D_Md_same4 78 rfl)
      · have hl1 : i0 < l1.length := js_kx_pos c108
        have hpb1 := js_pos_b (b := false) (k := k) hl1
        have hcp1 := js_cnt_pos m l1[i0].2
        have hkid1 := js_TV_kid hv hl1
        rw [js_kx_in hl1]
        refine jv_iload C (jd D_Md_same4 52 rfl) 4 rfl ?_
        refine jv_if_lt (tgt := 128) C (jd D_Md_same4 53 rfl) (by decide) (fun c113 => ?_) (fun c113 => ?_)
        · have hge2 : l2.length ≤ i0 := by
            rcases Nat.lt_or_ge i0 l2.length with y | y
            · have hpb := js_pos_b (b := false) (k := k2) y
              have hcp := js_cnt_pos m l2[i0].2
              exact js_kx_neg c113 (by omega)
            · exact y
          have hno : ¬ js_same (m + 1) (Sum.inr (false, l1)) (Sum.inr (false, l2)) := fun z => by have z2 := z.2.1; omega
          refine jv_iconst (v := 0) C (jd D_Md_same4 60 rfl) (by decide) ?_
          rw [hQ]
          exact jv_iret C hr () (Or.inr ⟨rfl, hno⟩) rfl [0, 1, 2, 3, 4, 5, 6, 7, 8, 9, 10, 11, 12, 13, 14, 15, 16, 17, 18, 19, 20, 21, 22, 23] rfl rfl (Nat.le_of_ble_eq_true rfl) (Nat.le_of_ble_eq_true rfl) (jd D_Md_same4 61 rfl)
        · have hl2 : i0 < l2.length := js_kx_pos c113
          have hpb2 := js_pos_b (b := false) (k := k2) hl2
          have hcp2 := js_cnt_pos m l2[i0].2
          have hkid2 := js_TV_kid hv2 hl2
          rw [js_kx_in hl2]
          refine jv_aload_n C (jd D_Md_same4 54 rfl) rfl 0 rfl ?_
          refine jv_iload C (jd D_Md_same4 55 rfl) 5 rfl ?_
          refine jv_aload_n C (jd D_Md_same4 56 rfl) rfl 2 rfl ?_
          refine jv_iload C (jd D_Md_same4 57 rfl) 4 rfl ?_
          refine jv_callS (wr := []) C cl_Md_60 (SM l1[i0].2 l2[i0].2 (js_pos l1 (k + 1) i0) (js_pos l2 (k2 + 1) i0) (o1.1 _ (List.getElem_mem hl1)) (o2.1 _ (List.getElem_mem hl2)) hkid1.1 hkid2.1 (by omega) (by omega)) [0, 1, 2, 3, 4, 5, 6, 7, 8, 9, 10, 11, 12, 13, 14, 15, 16, 17, 18, 19, 20, 21, 22, 23] [] rfl rfl rfl rfl (by decide) ⟨(by simp only [jv_rm]; omega), (by simp only [jv_rm]; omega)⟩ ⟨Nat.le_of_ble_eq_true rfl, Nat.le_of_ble_eq_true rfl⟩ rfl rfl (Nat.le_of_ble_eq_true rfl) (jd D_Md_same4 58 rfl) (fun v1 _ k1 => ?_)
          obtain ⟨r1, rfl, k1⟩ := k1
          refine jv_fix [0, 1, 2, 3, 4, 5, 6, 7, 8, 9, 10, 11, 12, 13, 14, 15, 16, 17, 18, 19, 20, 21, 22, 23] [(T, .inr (6, [.ref (A 0), .ref (A 1), .ref (A 2), .ref (A 3), .ref (A 4), .ref (A 5), .ref (A 6), .ref (A 7), .ref (A 8), .ref (A 9), .int (nI c), .ref (A 10), .int (nI u)])), ((A 0), .inl (dA 1, (js_cp M), .inl (F 0))), ((A 1), .inl (dA 2, (js_cp M), .inr (.inl G))), ((A 2), .inl (dA 1, (js_cp M), .inl (F 2))), ((A 3), .inl (dA 1, (js_cp M), .inl (F 3))), ((A 4), .inl (dA 1, (js_cp M), .inl (F 4))), ((A 5), .inl (dA 1, (js_cp M), .inl (F 5))), ((A 6), .inl (dA 1, (js_cp M), .inl (F 6))), ((A 7), .inl (dA 1, (js_cp M), .inl (F 7))), ((A 8), .inl (dA 1, (js_cp M), .inl (F 8))), ((A 9), .inl (dA 1, (js_cp M), .inl (F 9))), ((A 10), .inl (dA 3, (js_cu Mu), .inl (F 10))), (T2, .inr (6, [.ref (A2 0), .ref (A2 1), .ref (A2 2), .ref (A2 3), .ref (A2 4), .ref (A2 5), .ref (A2 6), .ref (A2 7), .ref (A2 8), .ref (A2 9), .int (nI c2), .ref (A2 10), .int (nI u2)])), ((A2 0), .inl (dA 1, (js_cp M2), .inl (F2 0))), ((A2 1), .inl (dA 2, (js_cp M2), .inr (.inl G2))), ((A2 2), .inl (dA 1, (js_cp M2), .inl (F2 2))), ((A2 3), .inl (dA 1, (js_cp M2), .inl (F2 3))), ((A2 4), .inl (dA 1, (js_cp M2), .inl (F2 4))), ((A2 5), .inl (dA 1, (js_cp M2), .inl (F2 5))), ((A2 6), .inl (dA 1, (js_cp M2), .inl (F2 6))), ((A2 7), .inl (dA 1, (js_cp M2), .inl (F2 7))), ((A2 8), .inl (dA 1, (js_cp M2), .inl (F2 8))), ((A2 9), .inl (dA 1, (js_cp M2), .inl (F2 9))), ((A2 10), .inl (dA 3, (js_cu Mu2), .inl (F2 10)))] [.int r1] 0 0 rfl rfl rfl (Nat.le_refl _) (Nat.le_refl _) ?_
          refine jv_if_ne (tgt := 130) C (jd D_Md_same4 59 rfl) (by decide) (fun c125 => ?_) (fun c125 => ?_)
          · have hpos : js_same m l1[i0].2 l2[i0].2 := by
              rcases k1 with q | q
              · exact q.2
              · exact absurd q.1 c125
            refine jv_aload_n C (jd D_Md_same4 62 rfl) rfl 2 rfl ?_
            refine jv_get C fl_Md_64 12 rfl rfl (jd D_Md_same4 63 rfl) ?_
            refine jv_iload C (jd D_Md_same4 64 rfl) 4 rfl ?_
            refine jv_iald C 18 rfl (vp_in_nI (by omega) (by omega)) (jd D_Md_same4 65 rfl) ?_
            refine jv_ati (y := js_kx l2 k2 (i0 + 1)) (by rw [nI_clamp (by omega)]; exact hkid2.2.1) ?_
            refine jv_istore C [(4, .int (js_kx l2 k2 (i0 + 1))), (0, .ref T), (1, .int (nI k)), (2, .ref T2), (3, .int (nI k2)), (5, .int (nI (js_pos l1 (k + 1) i0)))] (jd D_Md_same4 66 rfl) (by decide) rfl ?_
            refine jv_aload_n C (jd D_Md_same4 67 rfl) rfl 1 rfl ?_
            refine jv_get C fl_Md_64 0 rfl rfl (jd D_Md_same4 68 rfl) ?_
            refine jv_iload C (jd D_Md_same4 69 rfl) 5 rfl ?_
            refine jv_iald C 6 rfl (vp_in_nI (by omega) (by omega)) (jd D_Md_same4 70 rfl) ?_
            refine jv_ati (y := js_kx l1 k (i0 + 1)) (by rw [nI_clamp (by omega)]; exact hkid1.2.1) ?_
            refine jv_istore C [(5, .int (js_kx l1 k (i0 + 1))), (4, .int (js_kx l2 k2 (i0 + 1))), (0, .ref T), (1, .int (nI k)), (2, .ref T2), (3, .int (nI k2))] (jd D_Md_same4 71 rfl) (by decide) rfl ?_
            refine jv_goto (tgt := 106) C (jd D_Md_same4 72 rfl) (by decide) ?_
            refine jv_lvsub [2, 3, 4, 5, 1, 0] rfl ?_
            exact ih (i0 + 1) (by omega) (by omega) (by omega) (fun j q q2 hj e1 e2 => by
              rcases Nat.lt_or_ge j i0 with y | y
              · exact hi j q q2 y e1 e2
              · have : j = i0 := by omega
                subst this
                rw [List.getElem?_eq_getElem hl1] at e1
                rw [List.getElem?_eq_getElem hl2] at e2
                cases e1
                cases e2
                exact hpos)
          · have hno : ¬ js_same (m + 1) (Sum.inr (false, l1)) (Sum.inr (false, l2)) := fun z => by
              have z2 := z.2.2.2 rfl i0 l1[i0] l2[i0] (List.getElem?_eq_getElem hl1) (List.getElem?_eq_getElem hl2)
              rcases k1 with q | q
              · exact absurd (q.1.symm.trans c125) (by decide)
              · exact q.2 z2
            refine jv_iconst (v := 0) C (jd D_Md_same4 60 rfl) (by decide) ?_
            rw [hQ]
            exact jv_iret C hr () (Or.inr ⟨rfl, hno⟩) rfl [0, 1, 2, 3, 4, 5, 6, 7, 8, 9, 10, 11, 12, 13, 14, 15, 16, 17, 18, 19, 20, 21, 22, 23] rfl rfl (Nat.le_of_ble_eq_true rfl) (Nat.le_of_ble_eq_true rfl) (jd D_Md_same4 61 rfl)
  refine jv_lvsub [2, 3, 4, 5, 1, 0] rfl ?_
  exact hL106 (l1.length + 1) 0 (Nat.zero_le _) (Nat.zero_le _) (by omega) (fun j q q2 hj => absurd hj (Nat.not_lt_zero _))

set_option maxHeartbeats 4000000 in
set_option maxRecDepth 100000 in
/-- same: objects -/
theorem c_Md_same4_o {l : Launch} {D : va_G} {dA : Nat → ClassId} {zz : (Nat → Nat) × (Nat → Nat)} (T : Nat) (A : Nat → Nat) (M Mu : Nat) (F : Nat → Nat → Int32) (G : Nat → Int64) (c u : Nat) (T2 : Nat) (A2 : Nat → Nat) (M2 Mu2 : Nat) (F2 : Nat → Nat → Int32) (G2 : Nat → Int64) (c2 u2 : Nat) (m k k2 : Nat) (l1 l2 : List (List Nat × js_J m)) (hM : c ≤ js_cp M) (hU : u ≤ js_cu Mu) (hM2 : c2 ≤ js_cp M2) (hU2 : u2 ≤ js_cu Mu2) (o1 : js_ok (m + 1) (Sum.inr (true, l1))) (o2 : js_ok (m + 1) (Sum.inr (true, l2))) (hv : js_TV F G u (m + 1) (Sum.inr (true, l1)) k) (hv2 : js_TV F2 G2 u2 (m + 1) (Sum.inr (true, l2)) k2) (hk : k + js_cnt (m + 1) (Sum.inr (true, l1)) ≤ c) (hk2 : k2 + js_cnt (m + 1) (Sum.inr (true, l2)) ≤ c2) (SM : jv_SM l D dA zz T A M Mu F G c u T2 A2 M2 Mu2 F2 G2 c2 u2 m) : jv_M l D dA zz y_Md_same4 b_Md_same4 7 (some (FieldType.boolean)) (m + 1 + 3) [.ref T, .int (nI k), .ref T2, .int (nI k2)] [(T, .inr (6, [.ref (A 0), .ref (A 1), .ref (A 2), .ref (A 3), .ref (A 4), .ref (A 5), .ref (A 6), .ref (A 7), .ref (A 8), .ref (A 9), .int (nI c), .ref (A 10), .int (nI u)])), ((A 0), .inl (dA 1, (js_cp M), .inl (F 0))), ((A 1), .inl (dA 2, (js_cp M), .inr (.inl G))), ((A 2), .inl (dA 1, (js_cp M), .inl (F 2))), ((A 3), .inl (dA 1, (js_cp M), .inl (F 3))), ((A 4), .inl (dA 1, (js_cp M), .inl (F 4))), ((A 5), .inl (dA 1, (js_cp M), .inl (F 5))), ((A 6), .inl (dA 1, (js_cp M), .inl (F 6))), ((A 7), .inl (dA 1, (js_cp M), .inl (F 7))), ((A 8), .inl (dA 1, (js_cp M), .inl (F 8))), ((A 9), .inl (dA 1, (js_cp M), .inl (F 9))), ((A 10), .inl (dA 3, (js_cu Mu), .inl (F 10))), (T2, .inr (6, [.ref (A2 0), .ref (A2 1), .ref (A2 2), .ref (A2 3), .ref (A2 4), .ref (A2 5), .ref (A2 6), .ref (A2 7), .ref (A2 8), .ref (A2 9), .int (nI c2), .ref (A2 10), .int (nI u2)])), ((A2 0), .inl (dA 1, (js_cp M2), .inl (F2 0))), ((A2 1), .inl (dA 2, (js_cp M2), .inr (.inl G2))), ((A2 2), .inl (dA 1, (js_cp M2), .inl (F2 2))), ((A2 3), .inl (dA 1, (js_cp M2), .inl (F2 3))), ((A2 4), .inl (dA 1, (js_cp M2), .inl (F2 4))), ((A2 5), .inl (dA 1, (js_cp M2), .inl (F2 5))), ((A2 6), .inl (dA 1, (js_cp M2), .inl (F2 6))), ((A2 7), .inl (dA 1, (js_cp M2), .inl (F2 7))), ((A2 8), .inl (dA 1, (js_cp M2), .inl (F2 8))), ((A2 9), .inl (dA 1, (js_cp M2), .inl (F2 9))), ((A2 10), .inl (dA 3, (js_cu Mu2), .inl (F2 10)))] (jv_pi fun r (_ : Unit) => js_bool (js_same (m + 1) (Sum.inr (true, l1)) (Sum.inr (true, l2))) r) (fun _ => [(T, .inr (6, [.ref (A 0), .ref (A 1), .ref (A 2), .ref (A 3), .ref (A 4), .ref (A 5), .ref (A 6), .ref (A 7), .ref (A 8), .ref (A 9), .int (nI c), .ref (A 10), .int (nI u)])), ((A 0), .inl (dA 1, (js_cp M), .inl (F 0))), ((A 1), .inl (dA 2, (js_cp M), .inr (.inl G))), ((A 2), .inl (dA 1, (js_cp M), .inl (F 2))), ((A 3), .inl (dA 1, (js_cp M), .inl (F 3))), ((A 4), .inl (dA 1, (js_cp M), .inl (F 4))), ((A 5), .inl (dA 1, (js_cp M), .inl (F 5))), ((A 6), .inl (dA 1, (js_cp M), .inl (F 6))), ((A 7), .inl (dA 1, (js_cp M), .inl (F 7))), ((A 8), .inl (dA 1, (js_cp M), .inl (F 8))), ((A 9), .inl (dA 1, (js_cp M), .inl (F 9))), ((A 10), .inl (dA 3, (js_cu Mu), .inl (F 10))), (T2, .inr (6, [.ref (A2 0), .ref (A2 1), .ref (A2 2), .ref (A2 3), .ref (A2 4), .ref (A2 5), .ref (A2 6), .ref (A2 7), .ref (A2 8), .ref (A2 9), .int (nI c2), .ref (A2 10), .int (nI u2)])), ((A2 0), .inl (dA 1, (js_cp M2), .inl (F2 0))), ((A2 1), .inl (dA 2, (js_cp M2), .inr (.inl G2))), ((A2 2), .inl (dA 1, (js_cp M2), .inl (F2 2))), ((A2 3), .inl (dA 1, (js_cp M2), .inl (F2 3))), ((A2 4), .inl (dA 1, (js_cp M2), .inl (F2 4))), ((A2 5), .inl (dA 1, (js_cp M2), .inl (F2 5))), ((A2 6), .inl (dA 1, (js_cp M2), .inl (F2 6))), ((A2 7), .inl (dA 1, (js_cp M2), .inl (F2 7))), ((A2 8), .inl (dA 1, (js_cp M2), .inl (F2 8))), ((A2 9), .inl (dA 1, (js_cp M2), .inl (F2 9))), ((A2 10), .inl (dA 3, (js_cu Mu2), .inl (F2 10)))]) 0 0 := by
  refine jv_M.of [(0, .ref T), (1, .int (nI k)), (2, .ref T2), (3, .int (nI k2))] (by decide) (Nat.le_of_ble_eq_true rfl) rfl ?_
  intro pR eR sR mR belowR methR cR AR C hr hin
  obtain ⟨QR, hQ⟩ : ∃ QR, QR = jv_E D (jv_pi fun r (_ : Unit) => js_bool (js_same (m + 1) (Sum.inr (true, l1)) (Sum.inr (true, l2))) r) (fun _ => [(T, .inr (6, [.ref (A 0), .ref (A 1), .ref (A 2), .ref (A 3), .ref (A 4), .ref (A 5), .ref (A 6), .ref (A 7), .ref (A 8), .ref (A 9), .int (nI c), .ref (A 10), .int (nI u)])), ((A 0), .inl (dA 1, (js_cp M), .inl (F 0))), ((A 1), .inl (dA 2, (js_cp M), .inr (.inl G))), ((A 2), .inl (dA 1, (js_cp M), .inl (F 2))), ((A 3), .inl (dA 1, (js_cp M), .inl (F 3))), ((A 4), .inl (dA 1, (js_cp M), .inl (F 4))), ((A 5), .inl (dA 1, (js_cp M), .inl (F 5))), ((A 6), .inl (dA 1, (js_cp M), .inl (F 6))), ((A 7), .inl (dA 1, (js_cp M), .inl (F 7))), ((A 8), .inl (dA 1, (js_cp M), .inl (F 8))), ((A 9), .inl (dA 1, (js_cp M), .inl (F 9))), ((A 10), .inl (dA 3, (js_cu Mu), .inl (F 10))), (T2, .inr (6, [.ref (A2 0), .ref (A2 1), .ref (A2 2), .ref (A2 3), .ref (A2 4), .ref (A2 5), .ref (A2 6), .ref (A2 7), .ref (A2 8), .ref (A2 9), .int (nI c2), .ref (A2 10), .int (nI u2)])), ((A2 0), .inl (dA 1, (js_cp M2), .inl (F2 0))), ((A2 1), .inl (dA 2, (js_cp M2), .inr (.inl G2))), ((A2 2), .inl (dA 1, (js_cp M2), .inl (F2 2))), ((A2 3), .inl (dA 1, (js_cp M2), .inl (F2 3))), ((A2 4), .inl (dA 1, (js_cp M2), .inl (F2 4))), ((A2 5), .inl (dA 1, (js_cp M2), .inl (F2 5))), ((A2 6), .inl (dA 1, (js_cp M2), .inl (F2 6))), ((A2 7), .inl (dA 1, (js_cp M2), .inl (F2 7))), ((A2 8), .inl (dA 1, (js_cp M2), .inl (F2 8))), ((A2 9), .inl (dA 1, (js_cp M2), .inl (F2 9))), ((A2 10), .inl (dA 3, (js_cu Mu2), .inl (F2 10)))]) belowR ([.ref T, .int (nI k), .ref T2, .int (nI k2)] : List Value).toArray sR AR 0 0 := ⟨_, rfl⟩
  rw [← hQ]
  have hb1 := js_cp_b M
  have hb2 := js_cu_b Mu
  have hb3 := js_cp_b M2
  have hb4 := js_cu_b Mu2
  have hc1 := js_cnt_pos (m + 1) (Sum.inr (true, l1))
  have hc2 := js_cnt_pos (m + 1) (Sum.inr (true, l2))
  have hll1 := js_cnt_l l1
  have hll2 := js_cnt_l l2
  have hcn1 := js_cnt_inr true l1
  have hcn2 := js_cnt_inr true l2
  refine jv_aload_n C (jd D_Md_same4 0 rfl) rfl 0 rfl ?_
  refine jv_get C fl_Md_46 0 rfl rfl (jd D_Md_same4 1 rfl) ?_
  refine jv_iload_n C (jd D_Md_same4 2 rfl) rfl 1 rfl ?_
  refine jv_iald C 1 rfl (vp_in_nI (by omega) (by omega)) (jd D_Md_same4 3 rfl) ?_
  refine jv_ati (y := 6) (by rw [nI_clamp (by omega)]; exact hv.1) ?_
  refine jv_aload_n C (jd D_Md_same4 4 rfl) rfl 2 rfl ?_
  refine jv_get C fl_Md_46 12 rfl rfl (jd D_Md_same4 5 rfl) ?_
  refine jv_iload_n C (jd D_Md_same4 6 rfl) rfl 3 rfl ?_
  refine jv_iald C 13 rfl (vp_in_nI (by omega) (by omega)) (jd D_Md_same4 7 rfl) ?_
  refine jv_ati (y := 6) (by rw [nI_clamp (by omega)]; exact hv2.1) ?_
  refine jv_icmp_eq (tgt := 17) C (jd D_Md_same4 8 rfl) (by decide) (fun c12 => ?_) (fun c12 => absurd (rfl) c12)
  refine jv_aload_n C (jd D_Md_same4 11 rfl) rfl 0 rfl ?_
  refine jv_get C fl_Md_46 0 rfl rfl (jd D_Md_same4 12 rfl) ?_
  refine jv_iload_n C (jd D_Md_same4 13 rfl) rfl 1 rfl ?_
  refine jv_iald C 1 rfl (vp_in_nI (by omega) (by omega)) (jd D_Md_same4 14 rfl) ?_
  refine jv_ati (y := 6) (by rw [nI_clamp (by omega)]; exact hv.1) ?_
  refine jv_tableIn (tgt := 162) (off := 139) C (jd D_Md_same4 15 rfl) (by decide) (by decide) rfl (by decide) ?_
  refine jv_aload_n C (jd D_Md_same4 79 rfl) rfl 0 rfl ?_
  refine jv_iload_n C (jd D_Md_same4 80 rfl) rfl 1 rfl ?_
  refine jv_callV (wr := [(T2, .inr (6, [.ref (A2 0), .ref (A2 1), .ref (A2 2), .ref (A2 3), .ref (A2 4), .ref (A2 5), .ref (A2 6), .ref (A2 7), .ref (A2 8), .ref (A2 9), .int (nI c2), .ref (A2 10), .int (nI u2)])), ((A2 0), .inl (dA 1, (js_cp M2), .inl (F2 0))), ((A2 1), .inl (dA 2, (js_cp M2), .inr (.inl G2))), ((A2 2), .inl (dA 1, (js_cp M2), .inl (F2 2))), ((A2 3), .inl (dA 1, (js_cp M2), .inl (F2 3))), ((A2 4), .inl (dA 1, (js_cp M2), .inl (F2 4))), ((A2 5), .inl (dA 1, (js_cp M2), .inl (F2 5))), ((A2 6), .inl (dA 1, (js_cp M2), .inl (F2 6))), ((A2 7), .inl (dA 1, (js_cp M2), .inl (F2 7))), ((A2 8), .inl (dA 1, (js_cp M2), .inl (F2 8))), ((A2 9), .inl (dA 1, (js_cp M2), .inl (F2 9))), ((A2 10), .inl (dA 3, (js_cu Mu2), .inl (F2 10)))]) C cl_Md_67 (c_Tr_size T A M Mu F G c u m k true l1 hM hv hk) [0, 1, 2, 3, 4, 5, 6, 7, 8, 9, 10, 11] [12, 13, 14, 15, 16, 17, 18, 19, 20, 21, 22, 23] rfl rfl rfl rfl (by decide) rfl rfl 0 rfl ⟨(by simp only [jv_rm]; omega), (by simp only [jv_rm]; omega)⟩ ⟨Nat.le_of_ble_eq_true rfl, Nat.le_of_ble_eq_true rfl⟩ rfl rfl (Nat.le_of_ble_eq_true rfl) (jd D_Md_same4 81 rfl) (fun v1 _ k1 => ?_)
  obtain ⟨r1, rfl, k1⟩ := k1
  refine jv_fix [12, 13, 14, 15, 16, 17, 18, 19, 20, 21, 22, 23, 0, 1, 2, 3, 4, 5, 6, 7, 8, 9, 10, 11] [(T, .inr (6, [.ref (A 0), .ref (A 1), .ref (A 2), .ref (A 3), .ref (A 4), .ref (A 5), .ref (A 6), .ref (A 7), .ref (A 8), .ref (A 9), .int (nI c), .ref (A 10), .int (nI u)])), ((A 0), .inl (dA 1, (js_cp M), .inl (F 0))), ((A 1), .inl (dA 2, (js_cp M), .inr (.inl G))), ((A 2), .inl (dA 1, (js_cp M), .inl (F 2))), ((A 3), .inl (dA 1, (js_cp M), .inl (F 3))), ((A 4), .inl (dA 1, (js_cp M), .inl (F 4))), ((A 5), .inl (dA 1, (js_cp M), .inl (F 5))), ((A 6), .inl (dA 1, (js_cp M), .inl (F 6))), ((A 7), .inl (dA 1, (js_cp M), .inl (F 7))), ((A 8), .inl (dA 1, (js_cp M), .inl (F 8))), ((A 9), .inl (dA 1, (js_cp M), .inl (F 9))), ((A 10), .inl (dA 3, (js_cu Mu), .inl (F 10))), (T2, .inr (6, [.ref (A2 0), .ref (A2 1), .ref (A2 2), .ref (A2 3), .ref (A2 4), .ref (A2 5), .ref (A2 6), .ref (A2 7), .ref (A2 8), .ref (A2 9), .int (nI c2), .ref (A2 10), .int (nI u2)])), ((A2 0), .inl (dA 1, (js_cp M2), .inl (F2 0))), ((A2 1), .inl (dA 2, (js_cp M2), .inr (.inl G2))), ((A2 2), .inl (dA 1, (js_cp M2), .inl (F2 2))), ((A2 3), .inl (dA 1, (js_cp M2), .inl (F2 3))), ((A2 4), .inl (dA 1, (js_cp M2), .inl (F2 4))), ((A2 5), .inl (dA 1, (js_cp M2), .inl (F2 5))), ((A2 6), .inl (dA 1, (js_cp M2), .inl (F2 6))), ((A2 7), .inl (dA 1, (js_cp M2), .inl (F2 7))), ((A2 8), .inl (dA 1, (js_cp M2), .inl (F2 8))), ((A2 9), .inl (dA 1, (js_cp M2), .inl (F2 9))), ((A2 10), .inl (dA 3, (js_cu Mu2), .inl (F2 10)))] [.int r1] 0 0 rfl rfl rfl (Nat.le_refl _) (Nat.le_refl _) ?_
  subst k1
  refine jv_aload_n C (jd D_Md_same4 82 rfl) rfl 2 rfl ?_
  refine jv_iload_n C (jd D_Md_same4 83 rfl) rfl 3 rfl ?_
  refine jv_callV (wr := [(T, .inr (6, [.ref (A 0), .ref (A 1), .ref (A 2), .ref (A 3), .ref (A 4), .ref (A 5), .ref (A 6), .ref (A 7), .ref (A 8), .ref (A 9), .int (nI c), .ref (A 10), .int (nI u)])), ((A 0), .inl (dA 1, (js_cp M), .inl (F 0))), ((A 1), .inl (dA 2, (js_cp M), .inr (.inl G))), ((A 2), .inl (dA 1, (js_cp M), .inl (F 2))), ((A 3), .inl (dA 1, (js_cp M), .inl (F 3))), ((A 4), .inl (dA 1, (js_cp M), .inl (F 4))), ((A 5), .inl (dA 1, (js_cp M), .inl (F 5))), ((A 6), .inl (dA 1, (js_cp M), .inl (F 6))), ((A 7), .inl (dA 1, (js_cp M), .inl (F 7))), ((A 8), .inl (dA 1, (js_cp M), .inl (F 8))), ((A 9), .inl (dA 1, (js_cp M), .inl (F 9))), ((A 10), .inl (dA 3, (js_cu Mu), .inl (F 10)))]) C cl_Md_67 (c_Tr_size T2 A2 M2 Mu2 F2 G2 c2 u2 m k2 true l2 hM2 hv2 hk2) [12, 13, 14, 15, 16, 17, 18, 19, 20, 21, 22, 23] [0, 1, 2, 3, 4, 5, 6, 7, 8, 9, 10, 11] rfl rfl rfl rfl (by decide) rfl rfl 0 rfl ⟨(by simp only [jv_rm]; omega), (by simp only [jv_rm]; omega)⟩ ⟨Nat.le_of_ble_eq_true rfl, Nat.le_of_ble_eq_true rfl⟩ rfl rfl (Nat.le_of_ble_eq_true rfl) (jd D_Md_same4 84 rfl) (fun v2 _ k2_ => ?_)
  obtain ⟨r2, rfl, k2_⟩ := k2_
  refine jv_fix [0, 1, 2, 3, 4, 5, 6, 7, 8, 9, 10, 11, 12, 13, 14, 15, 16, 17, 18, 19, 20, 21, 22, 23] [(T, .inr (6, [.ref (A 0), .ref (A 1), .ref (A 2), .ref (A 3), .ref (A 4), .ref (A 5), .ref (A 6), .ref (A 7), .ref (A 8), .ref (A 9), .int (nI c), .ref (A 10), .int (nI u)])), ((A 0), .inl (dA 1, (js_cp M), .inl (F 0))), ((A 1), .inl (dA 2, (js_cp M), .inr (.inl G))), ((A 2), .inl (dA 1, (js_cp M), .inl (F 2))), ((A 3), .inl (dA 1, (js_cp M), .inl (F 3))), ((A 4), .inl (dA 1, (js_cp M), .inl (F 4))), ((A 5), .inl (dA 1, (js_cp M), .inl (F 5))), ((A 6), .inl (dA 1, (js_cp M), .inl (F 6))), ((A 7), .inl (dA 1, (js_cp M), .inl (F 7))), ((A 8), .inl (dA 1, (js_cp M), .inl (F 8))), ((A 9), .inl (dA 1, (js_cp M), .inl (F 9))), ((A 10), .inl (dA 3, (js_cu Mu), .inl (F 10))), (T2, .inr (6, [.ref (A2 0), .ref (A2 1), .ref (A2 2), .ref (A2 3), .ref (A2 4), .ref (A2 5), .ref (A2 6), .ref (A2 7), .ref (A2 8), .ref (A2 9), .int (nI c2), .ref (A2 10), .int (nI u2)])), ((A2 0), .inl (dA 1, (js_cp M2), .inl (F2 0))), ((A2 1), .inl (dA 2, (js_cp M2), .inr (.inl G2))), ((A2 2), .inl (dA 1, (js_cp M2), .inl (F2 2))), ((A2 3), .inl (dA 1, (js_cp M2), .inl (F2 3))), ((A2 4), .inl (dA 1, (js_cp M2), .inl (F2 4))), ((A2 5), .inl (dA 1, (js_cp M2), .inl (F2 5))), ((A2 6), .inl (dA 1, (js_cp M2), .inl (F2 6))), ((A2 7), .inl (dA 1, (js_cp M2), .inl (F2 7))), ((A2 8), .inl (dA 1, (js_cp M2), .inl (F2 8))), ((A2 9), .inl (dA 1, (js_cp M2), .inl (F2 9))), ((A2 10), .inl (dA 3, (js_cu Mu2), .inl (F2 10)))] [.int r2, .int (nI l1.length)] 0 0 rfl rfl rfl (Nat.le_refl _) (Nat.le_refl _) ?_
  subst k2_
  refine jv_icmp_eq (tgt := 177) C (jd D_Md_same4 85 rfl) (by decide) (fun c172 => ?_) (fun c172 => ?_)
  · have hle : l1.length = l2.length := (nI_eq (by omega) (by omega)).mp c172
    refine jv_aload_n C (jd D_Md_same4 88 rfl) rfl 0 rfl ?_
    refine jv_get C fl_Md_57 0 rfl rfl (jd D_Md_same4 89 rfl) ?_
    refine jv_iload_n C (jd D_Md_same4 90 rfl) rfl 1 rfl ?_
    refine jv_iald C 5 rfl (vp_in_nI (by omega) (by omega)) (jd D_Md_same4 91 rfl) ?_
    refine jv_ati (y := js_kx l1 k 0) (by rw [nI_clamp (by omega)]; exact js_TV_k0 hv) ?_
    refine jv_istore C [(5, .int (js_kx l1 k 0)), (0, .ref T), (1, .int (nI k)), (2, .ref T2), (3, .int (nI k2))] (jd D_Md_same4 92 rfl) (by decide) rfl ?_
    have hL185 : ∀ (n : Nat) (i0 : Nat), i0 ≤ l1.length → l1.length + 1 ≤ i0 + n → (∀ (j : Nat) (q : List Nat × js_J m), j < i0 → l1[j]? = some q → ∃ q2 ∈ l2, js_pq q.1 = js_pq q2.1 ∧ js_same m q.2 q2.2) → jv_V pR l eR (jv_rm (m + 1 + 3) 0 0) sR mR ([.ref T, .int (nI k), .ref T2, .int (nI k2)] : List Value).toArray belowR methR cR 0 0 QR D AR 7 [(T, .inr (6, [.ref (A 0), .ref (A 1), .ref (A 2), .ref (A 3), .ref (A 4), .ref (A 5), .ref (A 6), .ref (A 7), .ref (A 8), .ref (A 9), .int (nI c), .ref (A 10), .int (nI u)])), ((A 0), .inl (dA 1, (js_cp M), .inl (F 0))), ((A 1), .inl (dA 2, (js_cp M), .inr (.inl G))), ((A 2), .inl (dA 1, (js_cp M), .inl (F 2))), ((A 3), .inl (dA 1, (js_cp M), .inl (F 3))), ((A 4), .inl (dA 1, (js_cp M), .inl (F 4))), ((A 5), .inl (dA 1, (js_cp M), .inl (F 5))), ((A 6), .inl (dA 1, (js_cp M), .inl (F 6))), ((A 7), .inl (dA 1, (js_cp M), .inl (F 7))), ((A 8), .inl (dA 1, (js_cp M), .inl (F 8))), ((A 9), .inl (dA 1, (js_cp M), .inl (F 9))), ((A 10), .inl (dA 3, (js_cu Mu), .inl (F 10))), (T2, .inr (6, [.ref (A2 0), .ref (A2 1), .ref (A2 2), .ref (A2 3), .ref (A2 4), .ref (A2 5), .ref (A2 6), .ref (A2 7), .ref (A2 8), .ref (A2 9), .int (nI c2), .ref (A2 10), .int (nI u2)])), ((A2 0), .inl (dA 1, (js_cp M2), .inl (F2 0))), ((A2 1), .inl (dA 2, (js_cp M2), .inr (.inl G2))), ((A2 2), .inl (dA 1, (js_cp M2), .inl (F2 2))), ((A2 3), .inl (dA 1, (js_cp M2), .inl (F2 3))), ((A2 4), .inl (dA 1, (js_cp M2), .inl (F2 4))), ((A2 5), .inl (dA 1, (js_cp M2), .inl (F2 5))), ((A2 6), .inl (dA 1, (js_cp M2), .inl (F2 6))), ((A2 7), .inl (dA 1, (js_cp M2), .inl (F2 7))), ((A2 8), .inl (dA 1, (js_cp M2), .inl (F2 8))), ((A2 9), .inl (dA 1, (js_cp M2), .inl (F2 9))), ((A2 10), .inl (dA 3, (js_cu Mu2), .inl (F2 10)))] [(0, .ref T), (1, .int (nI k)), (2, .ref T2), (3, .int (nI k2)), (5, .int (js_kx l1 k i0))] 185 [] := by
      intro n
      induction n with
      | zero =>
        intro i0 h0 h1
        exact absurd h1 (by omega)
      | succ n ih =>
        intro i0 hi1 hm hi
        refine jv_iload C (jd D_Md_same4 93 rfl) 4 rfl ?_
        refine jv_if_lt (tgt := 243) C (jd D_Md_same4 94 rfl) (by decide) (fun c187 => ?_) (fun c187 => ?_)
        · have hge1 : l1.length ≤ i0 := by
            rcases Nat.lt_or_ge i0 l1.length with y | y
            · have hpb := js_pos_b (b := true) (k := k) y
              have hcp := js_cnt_pos m l1[i0].2
              exact js_kx_neg c187 (by omega)
            · exact y
          refine jv_iconst (v := 1) C (jd D_Md_same4 124 rfl) (by decide) ?_
          rw [hQ]
          exact jv_iret C hr () (Or.inl ⟨rfl, rfl, hle, fun _ q hq => by
    obtain ⟨j, hj⟩ := List.getElem?_of_mem hq
    exact hi j q (by have := (List.getElem?_eq_some_iff.mp hj).1; omega) hj, fun e => absurd e (by decide)⟩) rfl [0, 1, 2, 3, 4, 5, 6, 7, 8, 9, 10, 11, 12, 13, 14, 15, 16, 17, 18, 19, 20, 21, 22, 23] rfl rfl (Nat.le_of_ble_eq_true rfl) (Nat.le_of_ble_eq_true rfl) (jd D_Md_same4 125 rfl)
        · have hl1 : i0 < l1.length := js_kx_pos c187
          have hpb1 := js_pos_b (b := true) (k := k) hl1
          have hcp1 := js_cnt_pos m l1[i0].2
          have hkid1 := js_TV_kid hv hl1
          obtain ⟨s, n1, n2, n3⟩ := hkid1.2.2 rfl
          have hna := js_pa_un ((o1.2.1 rfl).1 _ (List.getElem_mem hl1))
          rw [js_kx_in hl1]
          refine jv_aload_n C (jd D_Md_same4 95 rfl) rfl 2 rfl ?_
          refine jv_iload_n C (jd D_Md_same4 96 rfl) rfl 3 rfl ?_
          refine jv_aload_n C (jd D_Md_same4 97 rfl) rfl 0 rfl ?_
          refine jv_aload_n C (jd D_Md_same4 98 rfl) rfl 0 rfl ?_
          refine jv_get C fl_Md_71 0 rfl rfl (jd D_Md_same4 99 rfl) ?_
          refine jv_iload C (jd D_Md_same4 100 rfl) 4 rfl ?_
          refine jv_iald C 7 rfl (vp_in_nI (by omega) (by omega)) (jd D_Md_same4 101 rfl) ?_
          refine jv_ati (y := nI s) (by rw [nI_clamp (by omega)]; exact n1) ?_
          refine jv_aload_n C (jd D_Md_same4 102 rfl) rfl 0 rfl ?_
          refine jv_get C fl_Md_74 0 rfl rfl (jd D_Md_same4 103 rfl) ?_
          refine jv_iload C (jd D_Md_same4 104 rfl) 4 rfl ?_
          refine jv_iald C 8 rfl (vp_in_nI (by omega) (by omega)) (jd D_Md_same4 105 rfl) ?_
          refine jv_ati (y := nI l1[i0].1.length) (by rw [nI_clamp (by omega)]; exact n2) ?_
          refine jv_callV (wr := []) C cl_Md_77 (c_Tr_find_t T2 A2 M2 Mu2 F2 G2 c2 u2 T A M Mu F G c u m k2 s l2 l1[i0].1 hM2 hU2 hU hv2 hk2 n3 (fun q hq => js_pa_un ((o2.2.1 rfl).1 q hq)) hna) [12, 13, 14, 15, 16, 17, 18, 19, 20, 21, 22, 23, 0, 1, 2, 3, 4, 5, 6, 7, 8, 9, 10, 11] [] rfl rfl rfl rfl (by decide) rfl rfl 0 rfl ⟨(by simp only [jv_rm]; omega), (by simp only [jv_rm]; omega)⟩ ⟨Nat.le_of_ble_eq_true rfl, Nat.le_of_ble_eq_true rfl⟩ rfl rfl (Nat.le_of_ble_eq_true rfl) (jd D_Md_same4 106 rfl) (fun v3 _ k4 => ?_)
          obtain ⟨r4, rfl, k4⟩ := k4
          refine jv_fix [12, 13, 14, 15, 16, 17, 18, 19, 20, 21, 22, 23, 0, 1, 2, 3, 4, 5, 6, 7, 8, 9, 10, 11] [(T, .inr (6, [.ref (A 0), .ref (A 1), .ref (A 2), .ref (A 3), .ref (A 4), .ref (A 5), .ref (A 6), .ref (A 7), .ref (A 8), .ref (A 9), .int (nI c), .ref (A 10), .int (nI u)])), ((A 0), .inl (dA 1, (js_cp M), .inl (F 0))), ((A 1), .inl (dA 2, (js_cp M), .inr (.inl G))), ((A 2), .inl (dA 1, (js_cp M), .inl (F 2))), ((A 3), .inl (dA 1, (js_cp M), .inl (F 3))), ((A 4), .inl (dA 1, (js_cp M), .inl (F 4))), ((A 5), .inl (dA 1, (js_cp M), .inl (F 5))), ((A 6), .inl (dA 1, (js_cp M), .inl (F 6))), ((A 7), .inl (dA 1, (js_cp M), .inl (F 7))), ((A 8), .inl (dA 1, (js_cp M), .inl (F 8))), ((A 9), .inl (dA 1, (js_cp M), .inl (F 9))), ((A 10), .inl (dA 3, (js_cu Mu), .inl (F 10))), (T2, .inr (6, [.ref (A2 0), .ref (A2 1), .ref (A2 2), .ref (A2 3), .ref (A2 4), .ref (A2 5), .ref (A2 6), .ref (A2 7), .ref (A2 8), .ref (A2 9), .int (nI c2), .ref (A2 10), .int (nI u2)])), ((A2 0), .inl (dA 1, (js_cp M2), .inl (F2 0))), ((A2 1), .inl (dA 2, (js_cp M2), .inr (.inl G2))), ((A2 2), .inl (dA 1, (js_cp M2), .inl (F2 2))), ((A2 3), .inl (dA 1, (js_cp M2), .inl (F2 3))), ((A2 4), .inl (dA 1, (js_cp M2), .inl (F2 4))), ((A2 5), .inl (dA 1, (js_cp M2), .inl (F2 5))), ((A2 6), .inl (dA 1, (js_cp M2), .inl (F2 6))), ((A2 7), .inl (dA 1, (js_cp M2), .inl (F2 7))), ((A2 8), .inl (dA 1, (js_cp M2), .inl (F2 8))), ((A2 9), .inl (dA 1, (js_cp M2), .inl (F2 9))), ((A2 10), .inl (dA 3, (js_cu Mu2), .inl (F2 10)))] [.int r4] 0 0 rfl rfl rfl (Nat.le_refl _) (Nat.le_refl _) ?_
          refine jv_istore C [(6, .int r4), (0, .ref T), (1, .int (nI k)), (2, .ref T2), (3, .int (nI k2)), (5, .int (nI (js_pos l1 (k + 1) i0)))] (jd D_Md_same4 107 rfl) (by decide) rfl ?_
          rcases k4 with ⟨i9, q9, f1, f2, f3⟩ | ⟨f1, f2⟩
          · have hl9 := (List.getElem?_eq_some_iff.mp f1).1
            have hq9 : l2[i9] = q9 := (List.getElem?_eq_some_iff.mp f1).2
            have hpb2 := js_pos_b (b := true) (k := k2) hl9
            have hcp2 := js_cnt_pos m l2[i9].2
            have hkid2 := js_TV_kid hv2 hl9
            rw [f3]
            refine jv_iload C (jd D_Md_same4 108 rfl) 0 rfl ?_
            refine jv_if_lt (tgt := 229) C (jd D_Md_same4 109 rfl) (by decide) (fun c214 => absurd c214 (nI_pos (by omega))) (fun c214 => ?_)
            refine jv_aload_n C (jd D_Md_same4 110 rfl) rfl 1 rfl ?_
            refine jv_iload C (jd D_Md_same4 111 rfl) 5 rfl ?_
            refine jv_aload_n C (jd D_Md_same4 112 rfl) rfl 3 rfl ?_
            refine jv_iload C (jd D_Md_same4 113 rfl) 0 rfl ?_
            refine jv_callS (wr := []) C cl_Md_60 (SM l1[i0].2 l2[i9].2 (js_pos l1 (k + 1) i0) (js_pos l2 (k2 + 1) i9) (o1.1 _ (List.getElem_mem hl1)) (o2.1 _ (List.getElem_mem hl9)) hkid1.1 hkid2.1 (by omega) (by omega)) [0, 1, 2, 3, 4, 5, 6, 7, 8, 9, 10, 11, 12, 13, 14, 15, 16, 17, 18, 19, 20, 21, 22, 23] [] rfl rfl rfl rfl (by decide) ⟨(by simp only [jv_rm]; omega), (by simp only [jv_rm]; omega)⟩ ⟨Nat.le_of_ble_eq_true rfl, Nat.le_of_ble_eq_true rfl⟩ rfl rfl (Nat.le_of_ble_eq_true rfl) (jd D_Md_same4 114 rfl) (fun v4 _ k5 => ?_)
            obtain ⟨r5, rfl, k5⟩ := k5
            refine jv_fix [0, 1, 2, 3, 4, 5, 6, 7, 8, 9, 10, 11, 12, 13, 14, 15, 16, 17, 18, 19, 20, 21, 22, 23] [(T, .inr (6, [.ref (A 0), .ref (A 1), .ref (A 2), .ref (A 3), .ref (A 4), .ref (A 5), .ref (A 6), .ref (A 7), .ref (A 8), .ref (A 9), .int (nI c), .ref (A 10), .int (nI u)])), ((A 0), .inl (dA 1, (js_cp M), .inl (F 0))), ((A 1), .inl (dA 2, (js_cp M), .inr (.inl G))), ((A 2), .inl (dA 1, (js_cp M), .inl (F 2))), ((A 3), .inl (dA 1, (js_cp M), .inl (F 3))), ((A 4), .inl (dA 1, (js_cp M), .inl (F 4))), ((A 5), .inl (dA 1, (js_cp M), .inl (F 5))), ((A 6), .inl (dA 1, (js_cp M), .inl (F 6))), ((A 7), .inl (dA 1, (js_cp M), .inl (F 7))), ((A 8), .inl (dA 1, (js_cp M), .inl (F 8))), ((A 9), .inl (dA 1, (js_cp M), .inl (F 9))), ((A 10), .inl (dA 3, (js_cu Mu), .inl (F 10))), (T2, .inr (6, [.ref (A2 0), .ref (A2 1), .ref (A2 2), .ref (A2 3), .ref (A2 4), .ref (A2 5), .ref (A2 6), .ref (A2 7), .ref (A2 8), .ref (A2 9), .int (nI c2), .ref (A2 10), .int (nI u2)])), ((A2 0), .inl (dA 1, (js_cp M2), .inl (F2 0))), ((A2 1), .inl (dA 2, (js_cp M2), .inr (.inl G2))), ((A2 2), .inl (dA 1, (js_cp M2), .inl (F2 2))), ((A2 3), .inl (dA 1, (js_cp M2), .inl (F2 3))), ((A2 4), .inl (dA 1, (js_cp M2), .inl (F2 4))), ((A2 5), .inl (dA 1, (js_cp M2), .inl (F2 5))), ((A2 6), .inl (dA 1, (js_cp M2), .inl (F2 6))), ((A2 7), .inl (dA 1, (js_cp M2), .inl (F2 7))), ((A2 8), .inl (dA 1, (js_cp M2), .inl (F2 8))), ((A2 9), .inl (dA 1, (js_cp M2), .inl (F2 9))), ((A2 10), .inl (dA 3, (js_cu Mu2), .inl (F2 10)))] [.int r5] 0 0 rfl rfl rfl (Nat.le_refl _) (Nat.le_refl _) ?_
            refine jv_if_ne (tgt := 231) C (jd D_Md_same4 115 rfl) (by decide) (fun c226 => ?_) (fun c226 => ?_)
            · have hpos : js_same m l1[i0].2 q9.2 := by
                rcases k5 with q | q
                · rw [← hq9]; exact q.2
                · exact absurd q.1 c226
              refine jv_aload_n C (jd D_Md_same4 118 rfl) rfl 1 rfl ?_
              refine jv_get C fl_Md_64 0 rfl rfl (jd D_Md_same4 119 rfl) ?_
              refine jv_iload C (jd D_Md_same4 120 rfl) 5 rfl ?_
              refine jv_iald C 6 rfl (vp_in_nI (by omega) (by omega)) (jd D_Md_same4 121 rfl) ?_
              refine jv_ati (y := js_kx l1 k (i0 + 1)) (by rw [nI_clamp (by omega)]; exact hkid1.2.1) ?_
              refine jv_istore C [(5, .int (js_kx l1 k (i0 + 1))), (6, .int (nI (js_pos l2 (k2 + 1) i9))), (0, .ref T), (1, .int (nI k)), (2, .ref T2), (3, .int (nI k2))] (jd D_Md_same4 122 rfl) (by decide) rfl ?_
              refine jv_goto (tgt := 185) C (jd D_Md_same4 123 rfl) (by decide) ?_
              refine jv_lvsub [2, 3, 4, 5, 0] rfl ?_
              exact ih (i0 + 1) (by omega) (by omega) (fun j q hj e1 => by
                rcases Nat.lt_or_ge j i0 with y | y
                · exact hi j q y e1
                · have : j = i0 := by omega
                  subst this
                  rw [List.getElem?_eq_getElem hl1] at e1
                  cases e1
                  exact ⟨q9, List.mem_of_getElem? f1, by rw [f2], hpos⟩)
            · have hno : ¬ js_same (m + 1) (Sum.inr (true, l1)) (Sum.inr (true, l2)) := fun z => by
                obtain ⟨q8, m8, e8, s8⟩ := z.2.2.1 rfl l1[i0] (List.getElem_mem hl1)
                have e7 : l1[i0].1 = q8.1 := js_pq_inj hna (js_pa_un ((o2.2.1 rfl).1 q8 m8)) e8
                obtain ⟨j8, hj8⟩ := List.getElem?_of_mem m8
                have e6 : i9 = j8 := js_nodup_i (o2.2.1 rfl).2 (x := l1[i0].1) (by rw [List.getElem?_map, f1, ← f2]; rfl) (by rw [List.getElem?_map, hj8, e7]; rfl)
                rw [← e6, f1] at hj8
                cases hj8
                rcases k5 with q | q
                · exact absurd (q.1.symm.trans c226) (by decide)
                · exact q.2 (by rw [hq9]; exact s8)
              refine jv_iconst (v := 0) C (jd D_Md_same4 116 rfl) (by decide) ?_
              rw [hQ]
              exact jv_iret C hr () (Or.inr ⟨rfl, hno⟩) rfl [0, 1, 2, 3, 4, 5, 6, 7, 8, 9, 10, 11, 12, 13, 14, 15, 16, 17, 18, 19, 20, 21, 22, 23] rfl rfl (Nat.le_of_ble_eq_true rfl) (Nat.le_of_ble_eq_true rfl) (jd D_Md_same4 117 rfl)
          · rw [f1]
            refine jv_iload C (jd D_Md_same4 108 rfl) 0 rfl ?_
            refine jv_if_lt (tgt := 229) C (jd D_Md_same4 109 rfl) (by decide) (fun c214 => ?_) (fun c214 => absurd (by decide) c214)
            have hno : ¬ js_same (m + 1) (Sum.inr (true, l1)) (Sum.inr (true, l2)) := fun z => by
              obtain ⟨q8, m8, e8, s8⟩ := z.2.2.1 rfl l1[i0] (List.getElem_mem hl1)
              have e7 : l1[i0].1 = q8.1 := js_pq_inj hna (js_pa_un ((o2.2.1 rfl).1 q8 m8)) e8
              exact f2 q8 m8 e7.symm
            refine jv_iconst (v := 0) C (jd D_Md_same4 116 rfl) (by decide) ?_
            rw [hQ]
            exact jv_iret C hr () (Or.inr ⟨rfl, hno⟩) rfl [0, 1, 2, 3, 4, 5, 6, 7, 8, 9, 10, 11, 12, 13, 14, 15, 16, 17, 18, 19, 20, 21, 22, 23] rfl rfl (Nat.le_of_ble_eq_true rfl) (Nat.le_of_ble_eq_true rfl) (jd D_Md_same4 117 rfl)
    refine jv_lvsub [1, 2, 3, 4, 0] rfl ?_
    exact hL185 (l1.length + 1) 0 (Nat.zero_le _) (by omega) (fun j q hj => absurd hj (Nat.not_lt_zero _))
  · refine jv_iconst (v := 0) C (jd D_Md_same4 86 rfl) (by decide) ?_
    rw [hQ]
    exact jv_iret C hr () (Or.inr ⟨rfl, fun z => c172 (by rw [z.2.1])⟩) rfl [0, 1, 2, 3, 4, 5, 6, 7, 8, 9, 10, 11, 12, 13, 14, 15, 16, 17, 18, 19, 20, 21, 22, 23] rfl rfl (Nat.le_of_ble_eq_true rfl) (Nat.le_of_ble_eq_true rfl) (jd D_Md_same4 87 rfl)

theorem js_b1 {P : Prop} (h : P) : ∀ (v : Option Value) (u : Unit), jv_pi (fun r (_ : Unit) => r = 1) v u → ∃ u', jv_pi (fun r (_ : Unit) => js_bool P r) v u' ∧ True := fun v u ⟨r, e, p⟩ => ⟨u, ⟨r, e, Or.inl ⟨p, h⟩⟩, trivial⟩
theorem jv_M.b1 {l : Launch} {D : va_G} {dA : Nat → ClassId} {zz : (Nat → Nat) × (Nat → Nat)} {y : MethodName} {b : ByteArray} {nL : Nat} {ret : Option FieldType} {n : Nat} {av : List Value} {w0 : va_W} {P : Prop} {w1 : Unit → va_W} (hP : P) (h : jv_M l D dA zz y b nL ret n av w0 (jv_pi fun r (_ : Unit) => r = 1) w1 0 0) : jv_M l D dA zz y b nL ret n av w0 (jv_pi fun r (_ : Unit) => js_bool P r) w1 0 0 := h.weak (fun v u ⟨r, e, p⟩ => ⟨u, ⟨r, e, Or.inl ⟨p, hP⟩⟩, rfl⟩)
theorem jv_M.b0 {l : Launch} {D : va_G} {dA : Nat → ClassId} {zz : (Nat → Nat) × (Nat → Nat)} {y : MethodName} {b : ByteArray} {nL : Nat} {ret : Option FieldType} {n : Nat} {av : List Value} {w0 : va_W} {P : Prop} {w1 : Unit → va_W} (hP : ¬ P) (h : jv_M l D dA zz y b nL ret n av w0 (jv_pi fun r (_ : Unit) => r = 0) w1 0 0) : jv_M l D dA zz y b nL ret n av w0 (jv_pi fun r (_ : Unit) => js_bool P r) w1 0 0 := h.weak (fun v u ⟨r, e, p⟩ => ⟨u, ⟨r, e, Or.inr ⟨p, hP⟩⟩, rfl⟩)
theorem jv_M.bi {l : Launch} {D : va_G} {dA : Nat → ClassId} {zz : (Nat → Nat) × (Nat → Nat)} {y : MethodName} {b : ByteArray} {nL : Nat} {ret : Option FieldType} {n : Nat} {av : List Value} {w0 : va_W} {P P2 : Prop} {w1 : Unit → va_W} (hP : P ↔ P2) (h : jv_M l D dA zz y b nL ret n av w0 (jv_pi fun r (_ : Unit) => js_bool P r) w1 0 0) : jv_M l D dA zz y b nL ret n av w0 (jv_pi fun r (_ : Unit) => js_bool P2 r) w1 0 0 := h.weak (fun v u ⟨r, e, p⟩ => ⟨u, ⟨r, e, js_bool_iff hP p⟩, rfl⟩)
/-- the kind of a leaf's node -/
def js_kf : js_L → Nat
  | .inl w => js_rk w
  | .inr (.inl _) => 3
  | .inr (.inr _) => 4
theorem js_TL_kf {F : Nat → Nat → Int32} {G : Nat → Int64} {u k : Nat} : ∀ {x : js_L}, js_TL F G u k x → F 0 k = nI (js_kf x)
  | .inl _, h => h.1
  | .inr (.inl _), h => h.1
  | .inr (.inr _), h => h.1
theorem js_kf_lt {x : js_L} (h : js_okl x) : js_kf x < 5 := by
  match x, h with
  | .inl w, h => exact Nat.lt_of_lt_of_le (js_kind_b w h) (by decide)
  | .inr (.inl _), _ => exact (by decide : 3 < 5)
  | .inr (.inr _), _ => exact (by decide : 4 < 5)
theorem c_Md_same4_lf {l : Launch} {D : va_G} {dA : Nat → ClassId} {zz : (Nat → Nat) × (Nat → Nat)} (T : Nat) (A : Nat → Nat) (M Mu : Nat) (F : Nat → Nat → Int32) (G : Nat → Int64) (c u : Nat) (T2 : Nat) (A2 : Nat → Nat) (M2 Mu2 : Nat) (F2 : Nat → Nat → Int32) (G2 : Nat → Int64) (c2 u2 : Nat) (m k k2 : Nat) (x y : js_L) (hM : c ≤ js_cp M) (hU : u ≤ js_cu Mu) (hM2 : c2 ≤ js_cp M2) (hU2 : u2 ≤ js_cu Mu2) (hk : k < c) (hk2 : k2 < c2) (ox : js_okl x) (oy : js_okl y) (hx : js_TL F G u k x) (hy : js_TL F2 G2 u2 k2 y) : jv_M l D dA zz y_Md_same4 b_Md_same4 7 (some (FieldType.boolean)) (m + 3) [.ref T, .int (nI k), .ref T2, .int (nI k2)] [(T, .inr (6, [.ref (A 0), .ref (A 1), .ref (A 2), .ref (A 3), .ref (A 4), .ref (A 5), .ref (A 6), .ref (A 7), .ref (A 8), .ref (A 9), .int (nI c), .ref (A 10), .int (nI u)])), ((A 0), .inl (dA 1, (js_cp M), .inl (F 0))), ((A 1), .inl (dA 2, (js_cp M), .inr (.inl G))), ((A 2), .inl (dA 1, (js_cp M), .inl (F 2))), ((A 3), .inl (dA 1, (js_cp M), .inl (F 3))), ((A 4), .inl (dA 1, (js_cp M), .inl (F 4))), ((A 5), .inl (dA 1, (js_cp M), .inl (F 5))), ((A 6), .inl (dA 1, (js_cp M), .inl (F 6))), ((A 7), .inl (dA 1, (js_cp M), .inl (F 7))), ((A 8), .inl (dA 1, (js_cp M), .inl (F 8))), ((A 9), .inl (dA 1, (js_cp M), .inl (F 9))), ((A 10), .inl (dA 3, (js_cu Mu), .inl (F 10))), (T2, .inr (6, [.ref (A2 0), .ref (A2 1), .ref (A2 2), .ref (A2 3), .ref (A2 4), .ref (A2 5), .ref (A2 6), .ref (A2 7), .ref (A2 8), .ref (A2 9), .int (nI c2), .ref (A2 10), .int (nI u2)])), ((A2 0), .inl (dA 1, (js_cp M2), .inl (F2 0))), ((A2 1), .inl (dA 2, (js_cp M2), .inr (.inl G2))), ((A2 2), .inl (dA 1, (js_cp M2), .inl (F2 2))), ((A2 3), .inl (dA 1, (js_cp M2), .inl (F2 3))), ((A2 4), .inl (dA 1, (js_cp M2), .inl (F2 4))), ((A2 5), .inl (dA 1, (js_cp M2), .inl (F2 5))), ((A2 6), .inl (dA 1, (js_cp M2), .inl (F2 6))), ((A2 7), .inl (dA 1, (js_cp M2), .inl (F2 7))), ((A2 8), .inl (dA 1, (js_cp M2), .inl (F2 8))), ((A2 9), .inl (dA 1, (js_cp M2), .inl (F2 9))), ((A2 10), .inl (dA 3, (js_cu Mu2), .inl (F2 10)))] (jv_pi fun r (_ : Unit) => js_bool (js_pl x = js_pl y) r) (fun _ => [(T, .inr (6, [.ref (A 0), .ref (A 1), .ref (A 2), .ref (A 3), .ref (A 4), .ref (A 5), .ref (A 6), .ref (A 7), .ref (A 8), .ref (A 9), .int (nI c), .ref (A 10), .int (nI u)])), ((A 0), .inl (dA 1, (js_cp M), .inl (F 0))), ((A 1), .inl (dA 2, (js_cp M), .inr (.inl G))), ((A 2), .inl (dA 1, (js_cp M), .inl (F 2))), ((A 3), .inl (dA 1, (js_cp M), .inl (F 3))), ((A 4), .inl (dA 1, (js_cp M), .inl (F 4))), ((A 5), .inl (dA 1, (js_cp M), .inl (F 5))), ((A 6), .inl (dA 1, (js_cp M), .inl (F 6))), ((A 7), .inl (dA 1, (js_cp M), .inl (F 7))), ((A 8), .inl (dA 1, (js_cp M), .inl (F 8))), ((A 9), .inl (dA 1, (js_cp M), .inl (F 9))), ((A 10), .inl (dA 3, (js_cu Mu), .inl (F 10))), (T2, .inr (6, [.ref (A2 0), .ref (A2 1), .ref (A2 2), .ref (A2 3), .ref (A2 4), .ref (A2 5), .ref (A2 6), .ref (A2 7), .ref (A2 8), .ref (A2 9), .int (nI c2), .ref (A2 10), .int (nI u2)])), ((A2 0), .inl (dA 1, (js_cp M2), .inl (F2 0))), ((A2 1), .inl (dA 2, (js_cp M2), .inr (.inl G2))), ((A2 2), .inl (dA 1, (js_cp M2), .inl (F2 2))), ((A2 3), .inl (dA 1, (js_cp M2), .inl (F2 3))), ((A2 4), .inl (dA 1, (js_cp M2), .inl (F2 4))), ((A2 5), .inl (dA 1, (js_cp M2), .inl (F2 5))), ((A2 6), .inl (dA 1, (js_cp M2), .inl (F2 6))), ((A2 7), .inl (dA 1, (js_cp M2), .inl (F2 7))), ((A2 8), .inl (dA 1, (js_cp M2), .inl (F2 8))), ((A2 9), .inl (dA 1, (js_cp M2), .inl (F2 9))), ((A2 10), .inl (dA 3, (js_cu Mu2), .inl (F2 10)))]) 0 0 := by
  by_cases hne : js_kf x = js_kf y
  · match x, y, ox, oy, hx, hy, hne with
    | .inl w, .inl w2, ox, oy, hx, hy, hne =>
      have e : w = w2 := js_rk_inj w ox w2 oy hne
      subst e
      have hc : w = 0 ∨ w = 1 ∨ w = 2 := by have h3 : w < 3 := ox; omega
      rcases hc with e | e | e
      · subst e; exact jv_M.b1 rfl (c_Md_same4_w0 T A M Mu F G c u T2 A2 M2 Mu2 F2 G2 c2 u2 m k k2 hM hU hM2 hU2 hk hk2 hx.1 hy.1)
      · subst e; exact jv_M.b1 rfl (c_Md_same4_w2 T A M Mu F G c u T2 A2 M2 Mu2 F2 G2 c2 u2 m k k2 hM hU hM2 hU2 hk hk2 hx.1 hy.1)
      · subst e; exact jv_M.b1 rfl (c_Md_same4_w1 T A M Mu F G c u T2 A2 M2 Mu2 F2 G2 c2 u2 m k k2 hM hU hM2 hU2 hk hk2 hx.1 hy.1)
    | .inr (.inl ds), .inr (.inl ds2), ox, oy, hx, hy, _ =>
      obtain ⟨h0, -, n1, v1, a1, a2, a3, a4⟩ := hx
      obtain ⟨g0, -, n2, v2, b1, b2, b3, b4⟩ := hy
      refine jv_M.bi ?_ (c_Md_same4_d T A M Mu F G c u T2 A2 M2 Mu2 F2 G2 c2 u2 m k k2 _ _ hM hU hM2 hU2 hk hk2 h0 g0 a4 b4)
      show js_nvi n1 v1 = js_nvi n2 v2 ↔ ds = ds2
      rw [a3, b3]
      constructor
      · intro z
        have z2 := congrArg Int64.toInt z
        rw [js_nvi_toInt (by unfold js_M at a1; omega), js_nvi_toInt (by unfold js_M at b1; omega)] at z2
        cases n1 with
        | true =>
          have p1 := a2 rfl
          cases n2 with
          | true => rw [if_pos rfl, if_pos rfl] at z2; rw [show v1 = v2 by omega]
          | false => rw [if_pos rfl, if_neg (by decide)] at z2; omega
        | false =>
          cases n2 with
          | true => have p2 := b2 rfl; rw [if_neg (by decide), if_pos rfl] at z2; omega
          | false => rw [if_neg (by decide), if_neg (by decide)] at z2; rw [show v1 = v2 by omega]
      · intro z
        obtain ⟨e1, e2⟩ := js_nvi_inj a1 b1 z
        rw [e1, e2]
    | .inr (.inr us), .inr (.inr us2), ox, oy, hx, hy, _ =>
      obtain ⟨h0, -, s, a1, a2, a3⟩ := hx
      obtain ⟨g0, -, s2, b1, b2, b3⟩ := hy
      refine jv_M.bi ?_ (c_Md_same4_s T A M Mu F G c u T2 A2 M2 Mu2 F2 G2 c2 u2 m k k2 s s2 us us2 hM hU hM2 hU2 hk hk2 h0 g0 a1 a2 a3 ox b1 b2 b3 oy)
      exact ⟨fun z => by rw [z], fun z => js_pq_inj (js_pa_un ox) (js_pa_un oy) z⟩
    | .inl w, .inr (.inl _), ox, _, _, _, hne => have h3 := js_kind_b w ox; have h4 : js_rk w = 3 := hne; omega
    | .inl w, .inr (.inr _), ox, _, _, _, hne => have h3 := js_kind_b w ox; have h4 : js_rk w = 4 := hne; omega
    | .inr (.inl _), .inl w, _, oy, _, _, hne => have h3 := js_kind_b w oy; have h4 : 3 = js_rk w := hne; omega
    | .inr (.inr _), .inl w, _, oy, _, _, hne => have h3 := js_kind_b w oy; have h4 : 4 = js_rk w := hne; omega
    | .inr (.inl _), .inr (.inr _), _, _, _, _, hne => have h4 : 3 = 4 := hne; omega
    | .inr (.inr _), .inr (.inl _), _, _, _, _, hne => have h4 : 4 = 3 := hne; omega
  · refine jv_M.b0 ?_ (c_Md_same4_ne T A M Mu F G c u T2 A2 M2 Mu2 F2 G2 c2 u2 m k k2 (js_kf x) (js_kf y) hM hU hM2 hU2 hk hk2 (js_TL_kf hx) (js_TL_kf hy) (Nat.lt_of_lt_of_le (js_kf_lt ox) (by decide)) (Nat.lt_of_lt_of_le (js_kf_lt oy) (by decide)) hne)
    intro z
    exact hne (by rw [js_pl_inj ox oy z])
/-- same, at every depth -/
theorem c_Md_same4 {l : Launch} {D : va_G} {dA : Nat → ClassId} {zz : (Nat → Nat) × (Nat → Nat)} (T : Nat) (A : Nat → Nat) (M Mu : Nat) (F : Nat → Nat → Int32) (G : Nat → Int64) (c u : Nat) (T2 : Nat) (A2 : Nat → Nat) (M2 Mu2 : Nat) (F2 : Nat → Nat → Int32) (G2 : Nat → Int64) (c2 u2 : Nat) (hM : c ≤ js_cp M) (hU : u ≤ js_cu Mu) (hM2 : c2 ≤ js_cp M2) (hU2 : u2 ≤ js_cu Mu2) : ∀ m : Nat, jv_SM l D dA zz T A M Mu F G c u T2 A2 M2 Mu2 F2 G2 c2 u2 m := by
  intro m
  induction m with
  | zero =>
    intro v w k k2 ov ow hv hw hk hk2
    exact c_Md_same4_lf T A M Mu F G c u T2 A2 M2 Mu2 F2 G2 c2 u2 0 k k2 v w hM hU hM2 hU2 (by have := js_cnt_pos 0 v; omega) (by have := js_cnt_pos 0 w; omega) ov ow hv hw
  | succ m ih =>
    intro v w k k2 ov ow hv hw hk hk2
    have p1 := js_cnt_pos (m + 1) v
    have p2 := js_cnt_pos (m + 1) w
    match v, w, ov, ow, hv, hw, hk, hk2 with
    | Sum.inl x, Sum.inl y, ov, ow, hv, hw, hk, hk2 => exact c_Md_same4_lf T A M Mu F G c u T2 A2 M2 Mu2 F2 G2 c2 u2 (m + 1) k k2 x y hM hU hM2 hU2 (by have := js_cnt_pos (m + 1) (Sum.inl x); omega) (by have := js_cnt_pos (m + 1) (Sum.inl y); omega) ov ow hv hw
    | Sum.inr (false, l1), Sum.inr (false, l2), ov, ow, hv, hw, hk, hk2 => exact c_Md_same4_a T A M Mu F G c u T2 A2 M2 Mu2 F2 G2 c2 u2 m k k2 l1 l2 hM hU hM2 hU2 ov ow hv hw hk hk2 ih
    | Sum.inr (true, l1), Sum.inr (true, l2), ov, ow, hv, hw, hk, hk2 => exact c_Md_same4_o T A M Mu F G c u T2 A2 M2 Mu2 F2 G2 c2 u2 m k k2 l1 l2 hM hU hM2 hU2 ov ow hv hw hk hk2 ih
    | Sum.inr (false, l1), Sum.inr (true, l2), ov, ow, hv, hw, hk, hk2 => exact jv_M.b0 (fun z => absurd z.1 (by decide)) (c_Md_same4_ne T A M Mu F G c u T2 A2 M2 Mu2 F2 G2 c2 u2 (m + 1) k k2 5 6 hM hU hM2 hU2 (by omega) (by omega) hv.1 hw.1 (by decide) (by decide) (by decide))
    | Sum.inr (true, l1), Sum.inr (false, l2), ov, ow, hv, hw, hk, hk2 => exact jv_M.b0 (fun z => absurd z.1 (by decide)) (c_Md_same4_ne T A M Mu F G c u T2 A2 M2 Mu2 F2 G2 c2 u2 (m + 1) k k2 6 5 hM hU hM2 hU2 (by omega) (by omega) hv.1 hw.1 (by decide) (by decide) (by decide))
    | Sum.inl x, Sum.inr (b, l2), ov, ow, hv, hw, hk, hk2 => exact jv_M.b0 (fun z => z) (c_Md_same4_ne T A M Mu F G c u T2 A2 M2 Mu2 F2 G2 c2 u2 (m + 1) k k2 (js_kf x) (if b = true then 6 else 5) hM hU hM2 hU2 (by have := js_cnt_pos (m + 1) (Sum.inl x); omega) (by omega) (js_TL_kf hv) (by rw [hw.1]; split <;> rfl) (Nat.lt_of_lt_of_le (js_kf_lt ov) (by decide)) (by split <;> decide) (by have := js_kf_lt ov; split <;> omega))
    | Sum.inr (b, l1), Sum.inl y, ov, ow, hv, hw, hk, hk2 => exact jv_M.b0 (fun z => z) (c_Md_same4_ne T A M Mu F G c u T2 A2 M2 Mu2 F2 G2 c2 u2 (m + 1) k k2 (if b = true then 6 else 5) (js_kf y) hM hU hM2 hU2 (by omega) (by have := js_cnt_pos (m + 1) (Sum.inl y); omega) (by rw [hv.1]; split <;> rfl) (js_TL_kf hw) (by split <;> decide) (Nat.lt_of_lt_of_le (js_kf_lt ow) (by decide)) (by have := js_kf_lt ow; split <;> omega))
