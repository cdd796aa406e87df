set_option maxHeartbeats 4000000 in
set_option maxRecDepth 100000 in
/-- character -/
theorem c_Md_character {l : Launch} {D : va_G} {dA : Nat → ClassId} {zz : (Nat → Nat) × (Nat → Nat)} (a n0 i e : Nat) (fR : Nat → Int32) (ch : List Nat) (hn : n0 ≤ 4096) (he : e ≤ n0) (hend : i + ch.length = e) (hpa : js_pa false ch) (hne : ch ≠ []) (hf : ∀ (j x : Nat), ch[j]? = some x → fR (i + j) = nI x) : jv_M l D dA zz y_Md_character b_Md_character 4 (some (FieldType.int)) 1 [.ref a, .int (nI i), .int (nI e)] [(a, .inl (dA 3, n0, .inl fR))] (jv_pi fun r (_ : Unit) => r = nI (js_cv ch)) (fun _ => [(a, .inl (dA 3, n0, .inl fR))]) 0 0 := by
  refine jv_M.of [(0, .ref a), (1, .int (nI i)), (2, .int (nI e))] (by decide) (Nat.le_of_ble_eq_true rfl) rfl ?_
  intro pR eR sR mR belowR methR cR AR C hr hin
  rcases js_pa_c hpa hne with ⟨x, r, hch, h1, h2, h3, h5⟩ | ⟨x, y, r, hch, h1, h2, h5⟩
  · have hl1 : ch.length = r.length + 1 := by rw [hch]; rfl
    have hx0 : fR i = nI x := hf 0 x (by rw [hch]; rfl)
    have hcv := js_cv_1 (r := r) h1
    rw [← hch] at hcv
    refine jv_aload_n C (jd D_Md_character 0 rfl) rfl 0 rfl ?_
    refine jv_iload_n C (jd D_Md_character 1 rfl) rfl 1 rfl ?_
    refine jv_cald C 0 rfl (vp_in_nI (by omega) (by omega)) (jd D_Md_character 2 rfl) ?_
    refine jv_ati (y := nI x) (by rw [nI_clamp (by omega)]; exact hx0) ?_
    refine jv_istore_n C [(3, .int (nI x)), (0, .ref a), (1, .int (nI i)), (2, .int (nI e))] (jd D_Md_character 3 rfl) rfl (by decide) rfl ?_
    refine jv_iload_n C (jd D_Md_character 4 rfl) rfl 0 rfl ?_
    refine jv_ldc (v := 55296) C (jm5 (List.mem_of_getElem? (i := 45) rfl)) (jd D_Md_character 5 rfl) ?_
    refine jv_icmp_lt (tgt := 23) C (jd D_Md_character 6 rfl) (by decide) (fun c7 => ?_) (fun c7 => ?_)
    · refine jv_iload_n C (jd D_Md_character 15 rfl) rfl 0 rfl ?_
      exact jv_iret C hr () (by rw [hcv.1]) rfl [0] rfl rfl (Nat.le_of_ble_eq_true rfl) (Nat.le_of_ble_eq_true rfl) (jd D_Md_character 16 rfl)
    · refine jv_iload_n C (jd D_Md_character 7 rfl) rfl 0 rfl ?_
      refine jv_ldc (v := 56319) C (jm5 (List.mem_of_getElem? (i := 46) rfl)) (jd D_Md_character 8 rfl) ?_
      refine jv_icmp_gt (tgt := 23) C (jd D_Md_character 9 rfl) (by decide) (fun c13 => ?_) (fun c13 => absurd (by
  have z1 := mt (fun z => nI_lt (b := 55296) (a := x) z (by decide)) c7
  exact nI_lt (a := 56319) (by unfold js_hi at h1; omega) (by omega)) c13)
      refine jv_iload_n C (jd D_Md_character 15 rfl) rfl 0 rfl ?_
      exact jv_iret C hr () (by rw [hcv.1]) rfl [0] rfl rfl (Nat.le_of_ble_eq_true rfl) (Nat.le_of_ble_eq_true rfl) (jd D_Md_character 16 rfl)
  · have hl1 : ch.length = r.length + 2 := by rw [hch]; rfl
    have hx0 : fR i = nI x := hf 0 x (by rw [hch]; rfl)
    have hx1 : fR (i + 1) = nI y := hf 1 y (by rw [hch]; rfl)
    have hcv := js_cv_2 (y := y) (r := r) h1
    rw [← hch] at hcv
    have h1u : 55296 ≤ x ∧ x ≤ 56319 := h1
    refine jv_aload_n C (jd D_Md_character 0 rfl) rfl 0 rfl ?_
    refine jv_iload_n C (jd D_Md_character 1 rfl) rfl 1 rfl ?_
    refine jv_cald C 0 rfl (vp_in_nI (by omega) (by omega)) (jd D_Md_character 2 rfl) ?_
    refine jv_ati (y := nI x) (by rw [nI_clamp (by omega)]; exact hx0) ?_
    refine jv_istore_n C [(3, .int (nI x)), (0, .ref a), (1, .int (nI i)), (2, .int (nI e))] (jd D_Md_character 3 rfl) rfl (by decide) rfl ?_
    refine jv_iload_n C (jd D_Md_character 4 rfl) rfl 0 rfl ?_
    refine jv_ldc (v := 55296) C (jm5 (List.mem_of_getElem? (i := 45) rfl)) (jd D_Md_character 5 rfl) ?_
    refine jv_icmp_lt (tgt := 23) C (jd D_Md_character 6 rfl) (by decide) (fun c7 => absurd c7 (nI_nlt (b := 55296) h1u.1 (by omega))) (fun c7 => ?_)
    refine jv_iload_n C (jd D_Md_character 7 rfl) rfl 0 rfl ?_
    refine jv_ldc (v := 56319) C (jm5 (List.mem_of_getElem? (i := 46) rfl)) (jd D_Md_character 8 rfl) ?_
    refine jv_icmp_gt (tgt := 23) C (jd D_Md_character 9 rfl) (by decide) (fun c13 => absurd c13 (nI_nlt (a := 56319) h1u.2 (by decide))) (fun c13 => ?_)
    refine jv_iload_n C (jd D_Md_character 10 rfl) rfl 2 rfl ?_
    refine jv_iconst (v := 1) C (jd D_Md_character 11 rfl) (by decide) ?_
    refine jv_iadd C (jd D_Md_character 12 rfl) ?_
    refine jv_ati (y := nI (i + 1)) (nI_1 i) ?_
    refine jv_iload_n C (jd D_Md_character 13 rfl) rfl 3 rfl ?_
    refine jv_icmp_lt (tgt := 25) C (jd D_Md_character 14 rfl) (by decide) (fun c20 => ?_) (fun c20 => absurd (nI_lt (by omega) (by omega)) c20)
    refine jv_ldc (v := 65536) C (jm5 (List.mem_of_getElem? (i := 119) rfl)) (jd D_Md_character 17 rfl) ?_
    refine jv_iload_n C (jd D_Md_character 18 rfl) rfl 0 rfl ?_
    refine jv_ldc (v := 55296) C (jm5 (List.mem_of_getElem? (i := 45) rfl)) (jd D_Md_character 19 rfl) ?_
    refine jv_isub C (jd D_Md_character 20 rfl) ?_
    refine jv_bipush (v := 10) C (jd D_Md_character 21 rfl) (by decide) ?_
    refine jv_ishl C (jd D_Md_character 22 rfl) ?_
    refine jv_iadd C (jd D_Md_character 23 rfl) ?_
    refine jv_aload_n C (jd D_Md_character 24 rfl) rfl 1 rfl ?_
    refine jv_iload_n C (jd D_Md_character 25 rfl) rfl 2 rfl ?_
    refine jv_iconst (v := 1) C (jd D_Md_character 26 rfl) (by decide) ?_
    refine jv_iadd C (jd D_Md_character 27 rfl) ?_
    refine jv_ati (y := nI (i + 1)) (nI_1 i) ?_
    refine jv_cald C 0 rfl (vp_in_nI (by omega) (by omega)) (jd D_Md_character 28 rfl) ?_
    refine jv_ati (y := nI y) (by rw [nI_clamp (by omega)]; exact hx1) ?_
    refine jv_iadd C (jd D_Md_character 29 rfl) ?_
    refine jv_ldc (v := 56320) C (jm5 (List.mem_of_getElem? (i := 43) rfl)) (jd D_Md_character 30 rfl) ?_
    refine jv_isub C (jd D_Md_character 31 rfl) ?_
    refine jv_ati (y := nI (65536 + (x - 55296) * 1024 + (y - 56320))) (js_cv_i h1 h2) ?_
    exact jv_iret C hr () (by rw [hcv.1]) rfl [0] rfl rfl (Nat.le_of_ble_eq_true rfl) (Nat.le_of_ble_eq_true rfl) (jd D_Md_character 32 rfl)

set_option maxHeartbeats 4000000 in
set_option maxRecDepth 100000 in
/-- order -/
theorem c_Md_order {l : Launch} {D : va_G} {dA : Nat → ClassId} {zz : (Nat → Nat) × (Nat → Nat)} (T : Nat) (A : Nat → Nat) (M Mu : Nat) (F : Nat → Nat → Int32) (G : Nat → Int64) (c u : Nat) (T2 : Nat) (A2 : Nat → Nat) (M2 Mu2 : Nat) (F2 : Nat → Nat → Int32) (G2 : Nat → Int64) (c2 u2 : Nat) (k k2 s s2 : Nat) (us us2 : List Nat) (hM : c ≤ js_cp M) (hU : u ≤ js_cu Mu) (hM2 : c2 ≤ js_cp M2) (hU2 : u2 ≤ js_cu Mu2) (hk : k < c) (hk2 : k2 < c2) (h2 : F 2 k = nI s) (h3 : F 3 k = nI us.length) (hT : js_TU F u s us) (hp1 : js_pa false us) (g2 : F2 2 k2 = nI s2) (g3 : F2 3 k2 = nI us2.length) (hT2 : js_TU F2 u2 s2 us2) (hp2 : js_pa false us2) : jv_M l D dA zz y_Md_order b_Md_order 10 (some (FieldType.int)) 2 [.ref T, .int (nI k), .ref T2, .int (nI k2)] [(T, .inr (6, [.ref (A 0), .ref (A 1), .ref (A 2), .ref (A 3), .ref (A 4), .ref (A 5), .ref (A 6), .ref (A 7), .ref (A 8), .ref (A 9), .int (nI c), .ref (A 10), .int (nI u)])), ((A 0), .inl (dA 1, (js_cp M), .inl (F 0))), ((A 1), .inl (dA 2, (js_cp M), .inr (.inl G))), ((A 2), .inl (dA 1, (js_cp M), .inl (F 2))), ((A 3), .inl (dA 1, (js_cp M), .inl (F 3))), ((A 4), .inl (dA 1, (js_cp M), .inl (F 4))), ((A 5), .inl (dA 1, (js_cp M), .inl (F 5))), ((A 6), .inl (dA 1, (js_cp M), .inl (F 6))), ((A 7), .inl (dA 1, (js_cp M), .inl (F 7))), ((A 8), .inl (dA 1, (js_cp M), .inl (F 8))), ((A 9), .inl (dA 1, (js_cp M), .inl (F 9))), ((A 10), .inl (dA 3, (js_cu Mu), .inl (F 10))), (T2, .inr (6, [.ref (A2 0), .ref (A2 1), .ref (A2 2), .ref (A2 3), .ref (A2 4), .ref (A2 5), .ref (A2 6), .ref (A2 7), .ref (A2 8), .ref (A2 9), .int (nI c2), .ref (A2 10), .int (nI u2)])), ((A2 0), .inl (dA 1, (js_cp M2), .inl (F2 0))), ((A2 1), .inl (dA 2, (js_cp M2), .inr (.inl G2))), ((A2 2), .inl (dA 1, (js_cp M2), .inl (F2 2))), ((A2 3), .inl (dA 1, (js_cp M2), .inl (F2 3))), ((A2 4), .inl (dA 1, (js_cp M2), .inl (F2 4))), ((A2 5), .inl (dA 1, (js_cp M2), .inl (F2 5))), ((A2 6), .inl (dA 1, (js_cp M2), .inl (F2 6))), ((A2 7), .inl (dA 1, (js_cp M2), .inl (F2 7))), ((A2 8), .inl (dA 1, (js_cp M2), .inl (F2 8))), ((A2 9), .inl (dA 1, (js_cp M2), .inl (F2 9))), ((A2 10), .inl (dA 3, (js_cu Mu2), .inl (F2 10)))] (jv_pi fun r (_ : Unit) => (r = 0 ∧ us = us2) ∨ (¬ r = 0 ∧ ¬ us = us2)) (fun _ => [(T, .inr (6, [.ref (A 0), .ref (A 1), .ref (A 2), .ref (A 3), .ref (A 4), .ref (A 5), .ref (A 6), .ref (A 7), .ref (A 8), .ref (A 9), .int (nI c), .ref (A 10), .int (nI u)])), ((A 0), .inl (dA 1, (js_cp M), .inl (F 0))), ((A 1), .inl (dA 2, (js_cp M), .inr (.inl G))), ((A 2), .inl (dA 1, (js_cp M), .inl (F 2))), ((A 3), .inl (dA 1, (js_cp M), .inl (F 3))), ((A 4), .inl (dA 1, (js_cp M), .inl (F 4))), ((A 5), .inl (dA 1, (js_cp M), .inl (F 5))), ((A 6), .inl (dA 1, (js_cp M), .inl (F 6))), ((A 7), .inl (dA 1, (js_cp M), .inl (F 7))), ((A 8), .inl (dA 1, (js_cp M), .inl (F 8))), ((A 9), .inl (dA 1, (js_cp M), .inl (F 9))), ((A 10), .inl (dA 3, (js_cu Mu), .inl (F 10))), (T2, .inr (6, [.ref (A2 0), .ref (A2 1), .ref (A2 2), .ref (A2 3), .ref (A2 4), .ref (A2 5), .ref (A2 6), .ref (A2 7), .ref (A2 8), .ref (A2 9), .int (nI c2), .ref (A2 10), .int (nI u2)])), ((A2 0), .inl (dA 1, (js_cp M2), .inl (F2 0))), ((A2 1), .inl (dA 2, (js_cp M2), .inr (.inl G2))), ((A2 2), .inl (dA 1, (js_cp M2), .inl (F2 2))), ((A2 3), .inl (dA 1, (js_cp M2), .inl (F2 3))), ((A2 4), .inl (dA 1, (js_cp M2), .inl (F2 4))), ((A2 5), .inl (dA 1, (js_cp M2), .inl (F2 5))), ((A2 6), .inl (dA 1, (js_cp M2), .inl (F2 6))), ((A2 7), .inl (dA 1, (js_cp M2), .inl (F2 7))), ((A2 8), .inl (dA 1, (js_cp M2), .inl (F2 8))), ((A2 9), .inl (dA 1, (js_cp M2), .inl (F2 9))), ((A2 10), .inl (dA 3, (js_cu Mu2), .inl (F2 10)))]) 0 0 := by
  refine jv_M.of [(0, .ref T), (1, .int (nI k)), (2, .ref T2), (3, .int (nI k2))] (by decide) (Nat.le_of_ble_eq_true rfl) rfl ?_
  intro pR eR sR mR belowR methR cR AR C hr hin
  obtain ⟨QR, hQ⟩ : ∃ QR, QR = jv_E D (jv_pi fun r (_ : Unit) => (r = 0 ∧ us = us2) ∨ (¬ r = 0 ∧ ¬ us = us2)) (fun _ => [(T, .inr (6, [.ref (A 0), .ref (A 1), .ref (A 2), .ref (A 3), .ref (A 4), .ref (A 5), .ref (A 6), .ref (A 7), .ref (A 8), .ref (A 9), .int (nI c), .ref (A 10), .int (nI u)])), ((A 0), .inl (dA 1, (js_cp M), .inl (F 0))), ((A 1), .inl (dA 2, (js_cp M), .inr (.inl G))), ((A 2), .inl (dA 1, (js_cp M), .inl (F 2))), ((A 3), .inl (dA 1, (js_cp M), .inl (F 3))), ((A 4), .inl (dA 1, (js_cp M), .inl (F 4))), ((A 5), .inl (dA 1, (js_cp M), .inl (F 5))), ((A 6), .inl (dA 1, (js_cp M), .inl (F 6))), ((A 7), .inl (dA 1, (js_cp M), .inl (F 7))), ((A 8), .inl (dA 1, (js_cp M), .inl (F 8))), ((A 9), .inl (dA 1, (js_cp M), .inl (F 9))), ((A 10), .inl (dA 3, (js_cu Mu), .inl (F 10))), (T2, .inr (6, [.ref (A2 0), .ref (A2 1), .ref (A2 2), .ref (A2 3), .ref (A2 4), .ref (A2 5), .ref (A2 6), .ref (A2 7), .ref (A2 8), .ref (A2 9), .int (nI c2), .ref (A2 10), .int (nI u2)])), ((A2 0), .inl (dA 1, (js_cp M2), .inl (F2 0))), ((A2 1), .inl (dA 2, (js_cp M2), .inr (.inl G2))), ((A2 2), .inl (dA 1, (js_cp M2), .inl (F2 2))), ((A2 3), .inl (dA 1, (js_cp M2), .inl (F2 3))), ((A2 4), .inl (dA 1, (js_cp M2), .inl (F2 4))), ((A2 5), .inl (dA 1, (js_cp M2), .inl (F2 5))), ((A2 6), .inl (dA 1, (js_cp M2), .inl (F2 6))), ((A2 7), .inl (dA 1, (js_cp M2), .inl (F2 7))), ((A2 8), .inl (dA 1, (js_cp M2), .inl (F2 8))), ((A2 9), .inl (dA 1, (js_cp M2), .inl (F2 9))), ((A2 10), .inl (dA 3, (js_cu Mu2), .inl (F2 10)))]) belowR ([.ref T, .int (nI k), .ref T2, .int (nI k2)] : List Value).toArray sR AR 0 0 := ⟨_, rfl⟩
  rw [← hQ]
  have hb1 := js_cp_b M
  have hb2 := js_cu_b Mu
  have hb3 := js_cp_b M2
  have hb4 := js_cu_b Mu2
  have hT9 := hT.1
  have hT8 := hT2.1
  refine jv_aload_n C (jd D_Md_order 0 rfl) rfl 0 rfl ?_
  refine jv_get C fl_Md_85 0 rfl rfl (jd D_Md_order 1 rfl) ?_
  refine jv_iload_n C (jd D_Md_order 2 rfl) rfl 1 rfl ?_
  refine jv_iald C 3 rfl (vp_in_nI (by omega) (by omega)) (jd D_Md_order 3 rfl) ?_
  refine jv_ati (y := nI s) (by rw [nI_clamp (by omega)]; exact h2) ?_
  refine jv_istore C [(4, .int (nI s)), (0, .ref T), (1, .int (nI k)), (2, .ref T2), (3, .int (nI k2))] (jd D_Md_order 4 rfl) (by decide) rfl ?_
  refine jv_aload_n C (jd D_Md_order 5 rfl) rfl 3 rfl ?_
  refine jv_get C fl_Md_85 12 rfl rfl (jd D_Md_order 6 rfl) ?_
  refine jv_iload_n C (jd D_Md_order 7 rfl) rfl 4 rfl ?_
  refine jv_iald C 15 rfl (vp_in_nI (by omega) (by omega)) (jd D_Md_order 8 rfl) ?_
  refine jv_ati (y := nI s2) (by rw [nI_clamp (by omega)]; exact g2) ?_
  refine jv_istore C [(5, .int (nI s2)), (4, .int (nI s)), (0, .ref T), (1, .int (nI k)), (2, .ref T2), (3, .int (nI k2))] (jd D_Md_order 9 rfl) (by decide) rfl ?_
  refine jv_iload C (jd D_Md_order 10 rfl) 1 rfl ?_
  refine jv_aload_n C (jd D_Md_order 11 rfl) rfl 2 rfl ?_
  refine jv_get C fl_Md_88 0 rfl rfl (jd D_Md_order 12 rfl) ?_
  refine jv_iload_n C (jd D_Md_order 13 rfl) rfl 3 rfl ?_
  refine jv_iald C 4 rfl (vp_in_nI (by omega) (by omega)) (jd D_Md_order 14 rfl) ?_
  refine jv_ati (y := nI us.length) (by rw [nI_clamp (by omega)]; exact h3) ?_
  refine jv_iadd C (jd D_Md_order 15 rfl) ?_
  refine jv_ati (y := nI (s + us.length)) (nI_add s _) ?_
  refine jv_istore C [(6, .int (nI (s + us.length))), (5, .int (nI s2)), (4, .int (nI s)), (0, .ref T), (1, .int (nI k)), (2, .ref T2), (3, .int (nI k2))] (jd D_Md_order 16 rfl) (by decide) rfl ?_
  refine jv_iload C (jd D_Md_order 17 rfl) 1 rfl ?_
  refine jv_aload_n C (jd D_Md_order 18 rfl) rfl 5 rfl ?_
  refine jv_get C fl_Md_88 12 rfl rfl (jd D_Md_order 19 rfl) ?_
  refine jv_iload_n C (jd D_Md_order 20 rfl) rfl 6 rfl ?_
  refine jv_iald C 16 rfl (vp_in_nI (by omega) (by omega)) (jd D_Md_order 21 rfl) ?_
  refine jv_ati (y := nI us2.length) (by rw [nI_clamp (by omega)]; exact g3) ?_
  refine jv_iadd C (jd D_Md_order 22 rfl) ?_
  refine jv_ati (y := nI (s2 + us2.length)) (nI_add s2 _) ?_
  refine jv_istore C [(7, .int (nI (s2 + us2.length))), (6, .int (nI (s + us.length))), (5, .int (nI s2)), (4, .int (nI s)), (0, .ref T), (1, .int (nI k)), (2, .ref T2), (3, .int (nI k2))] (jd D_Md_order 23 rfl) (by decide) rfl ?_
  have hL38 : ∀ (n : Nat) (i0 : Nat), i0 ≤ us.length → i0 ≤ us2.length → us.length + 1 ≤ i0 + n → us.take i0 = us2.take i0 → js_pa false (us.drop i0) → js_pa false (us2.drop i0) → jv_V pR l eR (jv_rm 2 0 0) sR mR ([.ref T, .int (nI k), .ref T2, .int (nI k2)] : List Value).toArray belowR methR cR 0 0 QR D AR 10 [(T, .inr (6, [.ref (A 0), .ref (A 1), .ref (A 2), .ref (A 3), .ref (A 4), .ref (A 5), .ref (A 6), .ref (A 7), .ref (A 8), .ref (A 9), .int (nI c), .ref (A 10), .int (nI u)])), ((A 0), .inl (dA 1, (js_cp M), .inl (F 0))), ((A 1), .inl (dA 2, (js_cp M), .inr (.inl G))), ((A 2), .inl (dA 1, (js_cp M), .inl (F 2))), ((A 3), .inl (dA 1, (js_cp M), .inl (F 3))), ((A 4), .inl (dA 1, (js_cp M), .inl (F 4))), ((A 5), .inl (dA 1, (js_cp M), .inl (F 5))), ((A 6), .inl (dA 1, (js_cp M), .inl (F 6))), ((A 7), .inl (dA 1, (js_cp M), .inl (F 7))), ((A 8), .inl (dA 1, (js_cp M), .inl (F 8))), ((A 9), .inl (dA 1, (js_cp M), .inl (F 9))), ((A 10), .inl (dA 3, (js_cu Mu), .inl (F 10))), (T2, .inr (6, [.ref (A2 0), .ref (A2 1), .ref (A2 2), .ref (A2 3), .ref (A2 4), .ref (A2 5), .ref (A2 6), .ref (A2 7), .ref (A2 8), .ref (A2 9), .int (nI c2), .ref (A2 10), .int (nI u2)])), ((A2 0), .inl (dA 1, (js_cp M2), .inl (F2 0))), ((A2 1), .inl (dA 2, (js_cp M2), .inr (.inl G2))), ((A2 2), .inl (dA 1, (js_cp M2), .inl (F2 2))), ((A2 3), .inl (dA 1, (js_cp M2), .inl (F2 3))), ((A2 4), .inl (dA 1, (js_cp M2), .inl (F2 4))), ((A2 5), .inl (dA 1, (js_cp M2), .inl (F2 5))), ((A2 6), .inl (dA 1, (js_cp M2), .inl (F2 6))), ((A2 7), .inl (dA 1, (js_cp M2), .inl (F2 7))), ((A2 8), .inl (dA 1, (js_cp M2), .inl (F2 8))), ((A2 9), .inl (dA 1, (js_cp M2), .inl (F2 9))), ((A2 10), .inl (dA 3, (js_cu Mu2), .inl (F2 10)))] [(0, .ref T), (1, .int (nI k)), (2, .ref T2), (3, .int (nI k2)), (4, .int (nI (s + i0))), (5, .int (nI (s2 + i0))), (6, .int (nI (s + us.length))), (7, .int (nI (s2 + us2.length)))] 38 [] := by
    intro n
    induction n with
    | zero =>
      intro i0 h0 h1 h2
      exact absurd h2 (by omega)
    | succ n ih =>
      intro i0 hi1 hi2 hm htk hd1 hd2
      refine jv_iload C (jd D_Md_order 24 rfl) 4 rfl ?_
      refine jv_iload C (jd D_Md_order 25 rfl) 6 rfl ?_
      refine jv_icmp_ge (tgt := 135) C (jd D_Md_order 26 rfl) (by decide) (fun c42 => ?_) (fun c42 => ?_)
      · refine jv_iload C (jd D_Md_order 71 rfl) 4 rfl ?_
        refine jv_iload C (jd D_Md_order 72 rfl) 6 rfl ?_
        refine jv_icmp_ge (tgt := 146) C (jd D_Md_order 73 rfl) (by decide) (fun c139 => ?_) (fun c139 => absurd (c42) c139)
        refine jv_iload C (jd D_Md_order 76 rfl) 5 rfl ?_
        refine jv_iload C (jd D_Md_order 77 rfl) 7 rfl ?_
        refine jv_icmp_ge (tgt := 157) C (jd D_Md_order 78 rfl) (by decide) (fun c150 => ?_) (fun c150 => ?_)
        · refine jv_iconst (v := 0) C (jd D_Md_order 81 rfl) (by decide) ?_
          rw [hQ]
          exact jv_iret C hr () (Or.inl ⟨rfl, by
    have z1 := (nI_leI (a := s + us.length) (b := s + i0) (by omega) (by omega)).mp c42
    have z2 := (nI_leI (a := s2 + us2.length) (b := s2 + i0) (by omega) (by omega)).mp c150
    rw [List.take_of_length_le (by omega), List.take_of_length_le (by omega)] at htk
    exact htk⟩) rfl [0, 1, 2, 3, 4, 5, 6, 7, 8, 9, 10, 11, 12, 13, 14, 15, 16, 17, 18, 19, 20, 21, 22, 23] rfl rfl (Nat.le_of_ble_eq_true rfl) (Nat.le_of_ble_eq_true rfl) (jd D_Md_order 82 rfl)
        · refine jv_iconst (v := -1) C (jd D_Md_order 79 rfl) (by decide) ?_
          refine jv_goto (tgt := 158) C (jd D_Md_order 80 rfl) (by decide) ?_
          rw [hQ]
          exact jv_iret C hr () (Or.inr ⟨by decide, fun z => by
    have z1 := (nI_leI (a := s + us.length) (b := s + i0) (by omega) (by omega)).mp c42
    have z2 := mt (fun q => nI_le (show s2 + us2.length ≤ s2 + i0 from q) (by omega)) c150
    rw [z] at z1
    omega⟩) rfl [0, 1, 2, 3, 4, 5, 6, 7, 8, 9, 10, 11, 12, 13, 14, 15, 16, 17, 18, 19, 20, 21, 22, 23] rfl rfl (Nat.le_of_ble_eq_true rfl) (Nat.le_of_ble_eq_true rfl) (jd D_Md_order 82 rfl)
      · refine jv_iload C (jd D_Md_order 27 rfl) 5 rfl ?_
        refine jv_iload C (jd D_Md_order 28 rfl) 7 rfl ?_
        refine jv_icmp_ge (tgt := 135) C (jd D_Md_order 29 rfl) (by decide) (fun c49 => ?_) (fun c49 => ?_)
        · refine jv_iload C (jd D_Md_order 71 rfl) 4 rfl ?_
          refine jv_iload C (jd D_Md_order 72 rfl) 6 rfl ?_
          refine jv_icmp_ge (tgt := 146) C (jd D_Md_order 73 rfl) (by decide) (fun c139 => absurd c139 (c42)) (fun c139 => ?_)
          refine jv_iconst (v := 1) C (jd D_Md_order 74 rfl) (by decide) ?_
          refine jv_goto (tgt := 158) C (jd D_Md_order 75 rfl) (by decide) ?_
          rw [hQ]
          exact jv_iret C hr () (Or.inr ⟨by decide, fun z => by
    have z1 := (nI_leI (a := s2 + us2.length) (b := s2 + i0) (by omega) (by omega)).mp c49
    have z2 := mt (fun q => nI_le (show s + us.length ≤ s + i0 from q) (by omega)) c42
    rw [z] at z2
    omega⟩) rfl [0, 1, 2, 3, 4, 5, 6, 7, 8, 9, 10, 11, 12, 13, 14, 15, 16, 17, 18, 19, 20, 21, 22, 23] rfl rfl (Nat.le_of_ble_eq_true rfl) (Nat.le_of_ble_eq_true rfl) (jd D_Md_order 82 rfl)
        · have hl1 : i0 < us.length := by
            rcases Nat.lt_or_ge i0 us.length with q | q
            · exact q
            · exact absurd (nI_le (show s + us.length ≤ s + i0 by omega) (by omega)) c42
          have hl2 : i0 < us2.length := by
            rcases Nat.lt_or_ge i0 us2.length with q | q
            · exact q
            · exact absurd (nI_le (show s2 + us2.length ≤ s2 + i0 by omega) (by omega)) c49
          have hn1 : us.drop i0 ≠ [] := fun z => by have := congrArg List.length z; rw [List.length_drop] at this; have h0 : ([] : List Nat).length = 0 := rfl; omega
          have hn2 : us2.drop i0 ≠ [] := fun z => by have := congrArg List.length z; rw [List.length_drop] at this; have h0 : ([] : List Nat).length = 0 := rfl; omega
          have hw1 := js_cv_w hd1 hn1
          have hw2 := js_cv_w hd2 hn2
          rw [List.length_drop, List.drop_drop] at hw1 hw2
          refine jv_aload_n C (jd D_Md_order 30 rfl) rfl 0 rfl ?_
          refine jv_get C fl_Md_89 0 rfl rfl (jd D_Md_order 31 rfl) ?_
          refine jv_iload C (jd D_Md_order 32 rfl) 4 rfl ?_
          refine jv_iload C (jd D_Md_order 33 rfl) 6 rfl ?_
          refine jv_callS (wr := [(T, .inr (6, [.ref (A 0), .ref (A 1), .ref (A 2), .ref (A 3), .ref (A 4), .ref (A 5), .ref (A 6), .ref (A 7), .ref (A 8), .ref (A 9), .int (nI c), .ref (A 10), .int (nI u)])), ((A 0), .inl (dA 1, (js_cp M), .inl (F 0))), ((A 1), .inl (dA 2, (js_cp M), .inr (.inl G))), ((A 2), .inl (dA 1, (js_cp M), .inl (F 2))), ((A 3), .inl (dA 1, (js_cp M), .inl (F 3))), ((A 4), .inl (dA 1, (js_cp M), .inl (F 4))), ((A 5), .inl (dA 1, (js_cp M), .inl (F 5))), ((A 6), .inl (dA 1, (js_cp M), .inl (F 6))), ((A 7), .inl (dA 1, (js_cp M), .inl (F 7))), ((A 8), .inl (dA 1, (js_cp M), .inl (F 8))), ((A 9), .inl (dA 1, (js_cp M), .inl (F 9))), (T2, .inr (6, [.ref (A2 0), .ref (A2 1), .ref (A2 2), .ref (A2 3), .ref (A2 4), .ref (A2 5), .ref (A2 6), .ref (A2 7), .ref (A2 8), .ref (A2 9), .int (nI c2), .ref (A2 10), .int (nI u2)])), ((A2 0), .inl (dA 1, (js_cp M2), .inl (F2 0))), ((A2 1), .inl (dA 2, (js_cp M2), .inr (.inl G2))), ((A2 2), .inl (dA 1, (js_cp M2), .inl (F2 2))), ((A2 3), .inl (dA 1, (js_cp M2), .inl (F2 3))), ((A2 4), .inl (dA 1, (js_cp M2), .inl (F2 4))), ((A2 5), .inl (dA 1, (js_cp M2), .inl (F2 5))), ((A2 6), .inl (dA 1, (js_cp M2), .inl (F2 6))), ((A2 7), .inl (dA 1, (js_cp M2), .inl (F2 7))), ((A2 8), .inl (dA 1, (js_cp M2), .inl (F2 8))), ((A2 9), .inl (dA 1, (js_cp M2), .inl (F2 9))), ((A2 10), .inl (dA 3, (js_cu Mu2), .inl (F2 10)))]) C cl_Md_93 (c_Md_character (A 10) (js_cu Mu) (s + i0) (s + us.length) (F 10) (us.drop i0) (by omega) (by omega) (by rw [List.length_drop]; omega) hd1 (fun z => by have := congrArg List.length z; rw [List.length_drop] at this; have h0 : ([] : List Nat).length = 0 := rfl; omega) (fun j x hj => by rw [List.getElem?_drop] at hj; rw [Nat.add_assoc]; exact hT.2 (i0 + j) x hj)) [11] [0, 1, 2, 3, 4, 5, 6, 7, 8, 9, 10, 12, 13, 14, 15, 16, 17, 18, 19, 20, 21, 22, 23] rfl rfl rfl rfl (by decide) ⟨Nat.le_of_ble_eq_true rfl, Nat.le_of_ble_eq_true rfl⟩ ⟨Nat.le_of_ble_eq_true rfl, Nat.le_of_ble_eq_true rfl⟩ rfl rfl (Nat.le_of_ble_eq_true rfl) (jd D_Md_order 34 rfl) (fun v1 _ k1 => ?_)
          obtain ⟨r1, rfl, k1⟩ := k1
          refine jv_fix [0, 1, 2, 3, 4, 5, 6, 7, 8, 9, 10, 23, 11, 12, 13, 14, 15, 16, 17, 18, 19, 20, 21, 22] [(T, .inr (6, [.ref (A 0), .ref (A 1), .ref (A 2), .ref (A 3), .ref (A 4), .ref (A 5), .ref (A 6), .ref (A 7), .ref (A 8), .ref (A 9), .int (nI c), .ref (A 10), .int (nI u)])), ((A 0), .inl (dA 1, (js_cp M), .inl (F 0))), ((A 1), .inl (dA 2, (js_cp M), .inr (.inl G))), ((A 2), .inl (dA 1, (js_cp M), .inl (F 2))), ((A 3), .inl (dA 1, (js_cp M), .inl (F 3))), ((A 4), .inl (dA 1, (js_cp M), .inl (F 4))), ((A 5), .inl (dA 1, (js_cp M), .inl (F 5))), ((A 6), .inl (dA 1, (js_cp M), .inl (F 6))), ((A 7), .inl (dA 1, (js_cp M), .inl (F 7))), ((A 8), .inl (dA 1, (js_cp M), .inl (F 8))), ((A 9), .inl (dA 1, (js_cp M), .inl (F 9))), ((A 10), .inl (dA 3, (js_cu Mu), .inl (F 10))), (T2, .inr (6, [.ref (A2 0), .ref (A2 1), .ref (A2 2), .ref (A2 3), .ref (A2 4), .ref (A2 5), .ref (A2 6), .ref (A2 7), .ref (A2 8), .ref (A2 9), .int (nI c2), .ref (A2 10), .int (nI u2)])), ((A2 0), .inl (dA 1, (js_cp M2), .inl (F2 0))), ((A2 1), .inl (dA 2, (js_cp M2), .inr (.inl G2))), ((A2 2), .inl (dA 1, (js_cp M2), .inl (F2 2))), ((A2 3), .inl (dA 1, (js_cp M2), .inl (F2 3))), ((A2 4), .inl (dA 1, (js_cp M2), .inl (F2 4))), ((A2 5), .inl (dA 1, (js_cp M2), .inl (F2 5))), ((A2 6), .inl (dA 1, (js_cp M2), .inl (F2 6))), ((A2 7), .inl (dA 1, (js_cp M2), .inl (F2 7))), ((A2 8), .inl (dA 1, (js_cp M2), .inl (F2 8))), ((A2 9), .inl (dA 1, (js_cp M2), .inl (F2 9))), ((A2 10), .inl (dA 3, (js_cu Mu2), .inl (F2 10)))] [.int r1] 0 0 rfl rfl rfl (Nat.le_refl _) (Nat.le_refl _) ?_
          subst k1
          refine jv_istore C [(8, .int (nI (js_cv (us.drop i0)))), (0, .ref T), (1, .int (nI k)), (2, .ref T2), (3, .int (nI k2)), (4, .int (nI (s + i0))), (5, .int (nI (s2 + i0))), (6, .int (nI (s + us.length))), (7, .int (nI (s2 + us2.length)))] (jd D_Md_order 35 rfl) (by decide) rfl ?_
          refine jv_aload_n C (jd D_Md_order 36 rfl) rfl 3 rfl ?_
          refine jv_get C fl_Md_89 12 rfl rfl (jd D_Md_order 37 rfl) ?_
          refine jv_iload C (jd D_Md_order 38 rfl) 6 rfl ?_
          refine jv_iload C (jd D_Md_order 39 rfl) 8 rfl ?_
          refine jv_callS (wr := [(T, .inr (6, [.ref (A 0), .ref (A 1), .ref (A 2), .ref (A 3), .ref (A 4), .ref (A 5), .ref (A 6), .ref (A 7), .ref (A 8), .ref (A 9), .int (nI c), .ref (A 10), .int (nI u)])), ((A 0), .inl (dA 1, (js_cp M), .inl (F 0))), ((A 1), .inl (dA 2, (js_cp M), .inr (.inl G))), ((A 2), .inl (dA 1, (js_cp M), .inl (F 2))), ((A 3), .inl (dA 1, (js_cp M), .inl (F 3))), ((A 4), .inl (dA 1, (js_cp M), .inl (F 4))), ((A 5), .inl (dA 1, (js_cp M), .inl (F 5))), ((A 6), .inl (dA 1, (js_cp M), .inl (F 6))), ((A 7), .inl (dA 1, (js_cp M), .inl (F 7))), ((A 8), .inl (dA 1, (js_cp M), .inl (F 8))), ((A 9), .inl (dA 1, (js_cp M), .inl (F 9))), ((A 10), .inl (dA 3, (js_cu Mu), .inl (F 10))), (T2, .inr (6, [.ref (A2 0), .ref (A2 1), .ref (A2 2), .ref (A2 3), .ref (A2 4), .ref (A2 5), .ref (A2 6), .ref (A2 7), .ref (A2 8), .ref (A2 9), .int (nI c2), .ref (A2 10), .int (nI u2)])), ((A2 0), .inl (dA 1, (js_cp M2), .inl (F2 0))), ((A2 1), .inl (dA 2, (js_cp M2), .inr (.inl G2))), ((A2 2), .inl (dA 1, (js_cp M2), .inl (F2 2))), ((A2 3), .inl (dA 1, (js_cp M2), .inl (F2 3))), ((A2 4), .inl (dA 1, (js_cp M2), .inl (F2 4))), ((A2 5), .inl (dA 1, (js_cp M2), .inl (F2 5))), ((A2 6), .inl (dA 1, (js_cp M2), .inl (F2 6))), ((A2 7), .inl (dA 1, (js_cp M2), .inl (F2 7))), ((A2 8), .inl (dA 1, (js_cp M2), .inl (F2 8))), ((A2 9), .inl (dA 1, (js_cp M2), .inl (F2 9)))]) C cl_Md_93 (c_Md_character (A2 10) (js_cu Mu2) (s2 + i0) (s2 + us2.length) (F2 10) (us2.drop i0) (by omega) (by omega) (by rw [List.length_drop]; omega) hd2 (fun z => by have := congrArg List.length z; rw [List.length_drop] at this; have h0 : ([] : List Nat).length = 0 := rfl; omega) (fun j x hj => by rw [List.getElem?_drop] at hj; rw [Nat.add_assoc]; exact hT2.2 (i0 + j) x hj)) [23] [0, 1, 2, 3, 4, 5, 6, 7, 8, 9, 10, 11, 12, 13, 14, 15, 16, 17, 18, 19, 20, 21, 22] rfl rfl rfl rfl (by decide) ⟨Nat.le_of_ble_eq_true rfl, Nat.le_of_ble_eq_true rfl⟩ ⟨Nat.le_of_ble_eq_true rfl, Nat.le_of_ble_eq_true rfl⟩ rfl rfl (Nat.le_of_ble_eq_true rfl) (jd D_Md_order 40 rfl) (fun v2 _ k2 => ?_)
          obtain ⟨r2, rfl, k2⟩ := k2
          refine jv_fix [0, 1, 2, 3, 4, 5, 6, 7, 8, 9, 10, 11, 12, 13, 14, 15, 16, 17, 18, 19, 20, 21, 22, 23] [(T, .inr (6, [.ref (A 0), .ref (A 1), .ref (A 2), .ref (A 3), .ref (A 4), .ref (A 5), .ref (A 6), .ref (A 7), .ref (A 8), .ref (A 9), .int (nI c), .ref (A 10), .int (nI u)])), ((A 0), .inl (dA 1, (js_cp M), .inl (F 0))), ((A 1), .inl (dA 2, (js_cp M), .inr (.inl G))), ((A 2), .inl (dA 1, (js_cp M), .inl (F 2))), ((A 3), .inl (dA 1, (js_cp M), .inl (F 3))), ((A 4), .inl (dA 1, (js_cp M), .inl (F 4))), ((A 5), .inl (dA 1, (js_cp M), .inl (F 5))), ((A 6), .inl (dA 1, (js_cp M), .inl (F 6))), ((A 7), .inl (dA 1, (js_cp M), .inl (F 7))), ((A 8), .inl (dA 1, (js_cp M), .inl (F 8))), ((A 9), .inl (dA 1, (js_cp M), .inl (F 9))), ((A 10), .inl (dA 3, (js_cu Mu), .inl (F 10))), (T2, .inr (6, [.ref (A2 0), .ref (A2 1), .ref (A2 2), .ref (A2 3), .ref (A2 4), .ref (A2 5), .ref (A2 6), .ref (A2 7), .ref (A2 8), .ref (A2 9), .int (nI c2), .ref (A2 10), .int (nI u2)])), ((A2 0), .inl (dA 1, (js_cp M2), .inl (F2 0))), ((A2 1), .inl (dA 2, (js_cp M2), .inr (.inl G2))), ((A2 2), .inl (dA 1, (js_cp M2), .inl (F2 2))), ((A2 3), .inl (dA 1, (js_cp M2), .inl (F2 3))), ((A2 4), .inl (dA 1, (js_cp M2), .inl (F2 4))), ((A2 5), .inl (dA 1, (js_cp M2), .inl (F2 5))), ((A2 6), .inl (dA 1, (js_cp M2), .inl (F2 6))), ((A2 7), .inl (dA 1, (js_cp M2), .inl (F2 7))), ((A2 8), .inl (dA 1, (js_cp M2), .inl (F2 8))), ((A2 9), .inl (dA 1, (js_cp M2), .inl (F2 9))), ((A2 10), .inl (dA 3, (js_cu Mu2), .inl (F2 10)))] [.int r2] 0 0 rfl rfl rfl (Nat.le_refl _) (Nat.le_refl _) ?_
          subst k2
          refine jv_istore C [(9, .int (nI (js_cv (us2.drop i0)))), (8, .int (nI (js_cv (us.drop i0)))), (0, .ref T), (1, .int (nI k)), (2, .ref T2), (3, .int (nI k2)), (4, .int (nI (s + i0))), (5, .int (nI (s2 + i0))), (6, .int (nI (s + us.length))), (7, .int (nI (s2 + us2.length)))] (jd D_Md_order 41 rfl) (by decide) rfl ?_
          refine jv_iload C (jd D_Md_order 42 rfl) 1 rfl ?_
          refine jv_iload C (jd D_Md_order 43 rfl) 0 rfl ?_
          refine jv_icmp_eq (tgt := 98) C (jd D_Md_order 44 rfl) (by decide) (fun c82 => ?_) (fun c82 => ?_)
          · have hcv := (nI_eq (by omega) (by omega)).mp c82
            have hinj := js_cv_inj hd1 hd2 hn1 hn2 hcv
            have htk2 : us.take (i0 + js_cw (us.drop i0)) = us2.take (i0 + js_cw (us.drop i0)) := by
              rw [List.take_add, List.take_add, htk, hinj.1, hinj.2]
            have hd3 := hw2.2.2.2.1
            rw [← hinj.2] at hd3
            refine jv_iload C (jd D_Md_order 52 rfl) 6 rfl ?_
            refine jv_iload C (jd D_Md_order 53 rfl) 1 rfl ?_
            refine jv_ldc (v := 65535) C (jm5 (List.mem_of_getElem? (i := 120) rfl)) (jd D_Md_order 54 rfl) ?_
            refine jv_icmp_le (tgt := 111) C (jd D_Md_order 55 rfl) (by decide) (fun c104 => ?_) (fun c104 => ?_)
            · have hw : js_cw (us.drop i0) = 1 := by
                have z1 := (nI_leI (b := 65535) (by omega) (by decide)).mp c104
                have z2 : ¬ js_cw (us.drop i0) = 2 := fun z => absurd (hw1.2.2.2.2.1.mpr z) (by omega)
                omega
              have hb5 := htk2
              have hb6 := hw1.2.2.2.1
              have hb7 := hd3
              rw [hw] at hb5 hb6 hb7
              refine jv_iconst (v := 1) C (jd D_Md_order 58 rfl) (by decide) ?_
              refine jv_iadd C (jd D_Md_order 59 rfl) ?_
              refine jv_ati (y := nI (s + (i0 + 1))) (nI_1 (s + i0)) ?_
              refine jv_istore C [(4, .int (nI (s + (i0 + 1)))), (9, .int (nI (js_cv (us2.drop i0)))), (8, .int (nI (js_cv (us.drop i0)))), (0, .ref T), (1, .int (nI k)), (2, .ref T2), (3, .int (nI k2)), (5, .int (nI (s2 + i0))), (6, .int (nI (s + us.length))), (7, .int (nI (s2 + us2.length)))] (jd D_Md_order 60 rfl) (by decide) rfl ?_
              refine jv_iload C (jd D_Md_order 61 rfl) 7 rfl ?_
              refine jv_iload C (jd D_Md_order 62 rfl) 1 rfl ?_
              refine jv_ldc (v := 65535) C (jm5 (List.mem_of_getElem? (i := 120) rfl)) (jd D_Md_order 63 rfl) ?_
              refine jv_icmp_le (tgt := 128) C (jd D_Md_order 64 rfl) (by decide) (fun c121 => ?_) (fun c121 => absurd (by rw [← hcv]; exact c104) c121)
              refine jv_iconst (v := 1) C (jd D_Md_order 67 rfl) (by decide) ?_
              refine jv_iadd C (jd D_Md_order 68 rfl) ?_
              refine jv_ati (y := nI (s2 + (i0 + 1))) (nI_1 (s2 + i0)) ?_
              refine jv_istore C [(5, .int (nI (s2 + (i0 + 1)))), (4, .int (nI (s + (i0 + 1)))), (9, .int (nI (js_cv (us2.drop i0)))), (8, .int (nI (js_cv (us.drop i0)))), (0, .ref T), (1, .int (nI k)), (2, .ref T2), (3, .int (nI k2)), (6, .int (nI (s + us.length))), (7, .int (nI (s2 + us2.length)))] (jd D_Md_order 69 rfl) (by decide) rfl ?_
              refine jv_goto (tgt := 38) C (jd D_Md_order 70 rfl) (by decide) ?_
              refine jv_lvsub [4, 5, 6, 7, 1, 0, 8, 9] rfl ?_
              exact ih (i0 + 1) (by omega) (by omega) (by omega) hb5 hb6 hb7
            · have hw : js_cw (us.drop i0) = 2 := hw1.2.2.2.2.1.mp (Nat.lt_of_not_le (fun z => c104 (nI_le (b := 65535) z (by decide))))
              have hb5 := htk2
              have hb6 := hw1.2.2.2.1
              have hb7 := hd3
              rw [hw] at hb5 hb6 hb7
              refine jv_iconst (v := 2) C (jd D_Md_order 56 rfl) (by decide) ?_
              refine jv_goto (tgt := 112) C (jd D_Md_order 57 rfl) (by decide) ?_
              refine jv_iadd C (jd D_Md_order 59 rfl) ?_
              refine jv_ati (y := nI (s + (i0 + 2))) (nI_add (s + i0) 2) ?_
              refine jv_istore C [(4, .int (nI (s + (i0 + 2)))), (9, .int (nI (js_cv (us2.drop i0)))), (8, .int (nI (js_cv (us.drop i0)))), (0, .ref T), (1, .int (nI k)), (2, .ref T2), (3, .int (nI k2)), (5, .int (nI (s2 + i0))), (6, .int (nI (s + us.length))), (7, .int (nI (s2 + us2.length)))] (jd D_Md_order 60 rfl) (by decide) rfl ?_
              refine jv_iload C (jd D_Md_order 61 rfl) 7 rfl ?_
              refine jv_iload C (jd D_Md_order 62 rfl) 1 rfl ?_
              refine jv_ldc (v := 65535) C (jm5 (List.mem_of_getElem? (i := 120) rfl)) (jd D_Md_order 63 rfl) ?_
              refine jv_icmp_le (tgt := 128) C (jd D_Md_order 64 rfl) (by decide) (fun c121 => absurd c121 (by rw [← hcv]; exact c104)) (fun c121 => ?_)
              refine jv_iconst (v := 2) C (jd D_Md_order 65 rfl) (by decide) ?_
              refine jv_goto (tgt := 129) C (jd D_Md_order 66 rfl) (by decide) ?_
              refine jv_iadd C (jd D_Md_order 68 rfl) ?_
              refine jv_ati (y := nI (s2 + (i0 + 2))) (nI_add (s2 + i0) 2) ?_
              refine jv_istore C [(5, .int (nI (s2 + (i0 + 2)))), (4, .int (nI (s + (i0 + 2)))), (9, .int (nI (js_cv (us2.drop i0)))), (8, .int (nI (js_cv (us.drop i0)))), (0, .ref T), (1, .int (nI k)), (2, .ref T2), (3, .int (nI k2)), (6, .int (nI (s + us.length))), (7, .int (nI (s2 + us2.length)))] (jd D_Md_order 69 rfl) (by decide) rfl ?_
              refine jv_goto (tgt := 38) C (jd D_Md_order 70 rfl) (by decide) ?_
              refine jv_lvsub [4, 5, 6, 7, 1, 0, 8, 9] rfl ?_
              exact ih (i0 + 2) (by omega) (by omega) (by omega) hb5 hb6 hb7
          · refine jv_iload C (jd D_Md_order 45 rfl) 1 rfl ?_
            refine jv_iload C (jd D_Md_order 46 rfl) 0 rfl ?_
            refine jv_icmp_ge (tgt := 96) C (jd D_Md_order 47 rfl) (by decide) (fun c89 => ?_) (fun c89 => ?_)
            · refine jv_iconst (v := 1) C (jd D_Md_order 50 rfl) (by decide) ?_
              rw [hQ]
              exact jv_iret C hr () (Or.inr ⟨by decide, fun z => c82 (by rw [z])⟩) rfl [0, 1, 2, 3, 4, 5, 6, 7, 8, 9, 10, 11, 12, 13, 14, 15, 16, 17, 18, 19, 20, 21, 22, 23] rfl rfl (Nat.le_of_ble_eq_true rfl) (Nat.le_of_ble_eq_true rfl) (jd D_Md_order 51 rfl)
            · refine jv_iconst (v := -1) C (jd D_Md_order 48 rfl) (by decide) ?_
              refine jv_goto (tgt := 97) C (jd D_Md_order 49 rfl) (by decide) ?_
              rw [hQ]
              exact jv_iret C hr () (Or.inr ⟨by decide, fun z => c82 (by rw [z])⟩) rfl [0, 1, 2, 3, 4, 5, 6, 7, 8, 9, 10, 11, 12, 13, 14, 15, 16, 17, 18, 19, 20, 21, 22, 23] rfl rfl (Nat.le_of_ble_eq_true rfl) (Nat.le_of_ble_eq_true rfl) (jd D_Md_order 51 rfl)
  refine jv_lvsub [4, 5, 6, 7, 3, 2, 1, 0] rfl ?_
  exact hL38 (us.length + 1) 0 (Nat.zero_le _) (Nat.zero_le _) (by omega) rfl hp1 hp2
