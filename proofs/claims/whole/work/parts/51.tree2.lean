set_option maxHeartbeats 4000000 in
set_option maxRecDepth 100000 in
/-- named -/
theorem c_Tr_named_s {l : Launch} {D : va_G} {dA : Nat → ClassId} {zz : (Nat → Nat) × (Nat → Nat)} (T : Nat) (A : Nat → Nat) (M Mu : Nat) (F : Nat → Nat → Int32) (G : Nat → Int64) (c u : Nat) (d s : Nat) (nm us : List Nat) (hM : c ≤ js_cp M) (hU : u ≤ js_cu Mu) (hd : d < c) (hN : js_TN F u d nm) (ht : js_TU F u s us) (hn : js_un nm) (hu : js_un us) : jv_M l D dA zz y_Tr_named b_Tr_named 6 (some (FieldType.boolean)) 1 [.ref T, .int (nI d), .ref T, .int (nI s), .int (nI us.length)] [(T, .inr (6, [.ref (A 0), .ref (A 1), .ref (A 2), .ref (A 3), .ref (A 4), .ref (A 5), .ref (A 6), .ref (A 7), .ref (A 8), .ref (A 9), .int (nI c), .ref (A 10), .int (nI u)])), ((A 0), .inl (dA 1, (js_cp M), .inl (F 0))), ((A 1), .inl (dA 2, (js_cp M), .inr (.inl G))), ((A 2), .inl (dA 1, (js_cp M), .inl (F 2))), ((A 3), .inl (dA 1, (js_cp M), .inl (F 3))), ((A 4), .inl (dA 1, (js_cp M), .inl (F 4))), ((A 5), .inl (dA 1, (js_cp M), .inl (F 5))), ((A 6), .inl (dA 1, (js_cp M), .inl (F 6))), ((A 7), .inl (dA 1, (js_cp M), .inl (F 7))), ((A 8), .inl (dA 1, (js_cp M), .inl (F 8))), ((A 9), .inl (dA 1, (js_cp M), .inl (F 9))), ((A 10), .inl (dA 3, (js_cu Mu), .inl (F 10)))] (jv_pi fun r (_ : Unit) => js_bool (nm = us) r) (fun _ => [(T, .inr (6, [.ref (A 0), .ref (A 1), .ref (A 2), .ref (A 3), .ref (A 4), .ref (A 5), .ref (A 6), .ref (A 7), .ref (A 8), .ref (A 9), .int (nI c), .ref (A 10), .int (nI u)])), ((A 0), .inl (dA 1, (js_cp M), .inl (F 0))), ((A 1), .inl (dA 2, (js_cp M), .inr (.inl G))), ((A 2), .inl (dA 1, (js_cp M), .inl (F 2))), ((A 3), .inl (dA 1, (js_cp M), .inl (F 3))), ((A 4), .inl (dA 1, (js_cp M), .inl (F 4))), ((A 5), .inl (dA 1, (js_cp M), .inl (F 5))), ((A 6), .inl (dA 1, (js_cp M), .inl (F 6))), ((A 7), .inl (dA 1, (js_cp M), .inl (F 7))), ((A 8), .inl (dA 1, (js_cp M), .inl (F 8))), ((A 9), .inl (dA 1, (js_cp M), .inl (F 9))), ((A 10), .inl (dA 3, (js_cu Mu), .inl (F 10)))]) 0 0 := by
  refine jv_M.of [(0, .ref T), (1, .int (nI d)), (2, .ref T), (3, .int (nI s)), (4, .int (nI us.length))] (by decide) (Nat.le_of_ble_eq_true rfl) rfl ?_
  intro pR eR sR mR belowR methR cR AR C hr hin
  obtain ⟨QR, hQ⟩ : ∃ QR, QR = jv_E D (jv_pi fun r (_ : Unit) => js_bool (nm = us) r) (fun _ => [(T, .inr (6, [.ref (A 0), .ref (A 1), .ref (A 2), .ref (A 3), .ref (A 4), .ref (A 5), .ref (A 6), .ref (A 7), .ref (A 8), .ref (A 9), .int (nI c), .ref (A 10), .int (nI u)])), ((A 0), .inl (dA 1, (js_cp M), .inl (F 0))), ((A 1), .inl (dA 2, (js_cp M), .inr (.inl G))), ((A 2), .inl (dA 1, (js_cp M), .inl (F 2))), ((A 3), .inl (dA 1, (js_cp M), .inl (F 3))), ((A 4), .inl (dA 1, (js_cp M), .inl (F 4))), ((A 5), .inl (dA 1, (js_cp M), .inl (F 5))), ((A 6), .inl (dA 1, (js_cp M), .inl (F 6))), ((A 7), .inl (dA 1, (js_cp M), .inl (F 7))), ((A 8), .inl (dA 1, (js_cp M), .inl (F 8))), ((A 9), .inl (dA 1, (js_cp M), .inl (F 9))), ((A 10), .inl (dA 3, (js_cu Mu), .inl (F 10)))]) belowR ([.ref T, .int (nI d), .ref T, .int (nI s), .int (nI us.length)] : List Value).toArray sR AR 0 0 := ⟨_, rfl⟩
  rw [← hQ]
  have hb := js_cp_b M
  have hb2 := js_cu_b Mu
  obtain ⟨s1, n1, n2, n3⟩ := hN
  have n4 := n3.1
  have t4 := ht.1
  refine jv_aload_n C (jd D_Tr_named 0 rfl) rfl 0 rfl ?_
  refine jv_get C fl_Tr_34 0 rfl rfl (jd D_Tr_named 1 rfl) ?_
  refine jv_iload_n C (jd D_Tr_named 2 rfl) rfl 1 rfl ?_
  refine jv_iald C 8 rfl (vp_in_nI (by omega) (by omega)) (jd D_Tr_named 3 rfl) ?_
  refine jv_ati (y := nI nm.length) (by rw [nI_clamp (by omega)]; exact n2) ?_
  refine jv_iload C (jd D_Tr_named 4 rfl) 4 rfl ?_
  refine jv_icmp_eq (tgt := 13) C (jd D_Tr_named 5 rfl) (by decide) (fun c8 => ?_) (fun c8 => ?_)
  · have hle : nm.length = us.length := (nI_eq (by omega) (by omega)).mp c8
    refine jv_iconst (v := 0) C (jd D_Tr_named 8 rfl) (by decide) ?_
    refine jv_istore C [(5, .int 0), (0, .ref T), (1, .int (nI d)), (2, .ref T), (3, .int (nI s)), (4, .int (nI us.length))] (jd D_Tr_named 9 rfl) (by decide) rfl ?_
    have hL16 : ∀ (n : Nat) (i0 : Nat), i0 ≤ us.length → us.length + 1 ≤ i0 + n → (∀ j, j < i0 → nm[j]? = us[j]?) → jv_V pR l eR (jv_rm 1 0 0) sR mR ([.ref T, .int (nI d), .ref T, .int (nI s), .int (nI us.length)] : List Value).toArray belowR methR cR 0 0 QR D AR 6 [(T, .inr (6, [.ref (A 0), .ref (A 1), .ref (A 2), .ref (A 3), .ref (A 4), .ref (A 5), .ref (A 6), .ref (A 7), .ref (A 8), .ref (A 9), .int (nI c), .ref (A 10), .int (nI u)])), ((A 0), .inl (dA 1, (js_cp M), .inl (F 0))), ((A 1), .inl (dA 2, (js_cp M), .inr (.inl G))), ((A 2), .inl (dA 1, (js_cp M), .inl (F 2))), ((A 3), .inl (dA 1, (js_cp M), .inl (F 3))), ((A 4), .inl (dA 1, (js_cp M), .inl (F 4))), ((A 5), .inl (dA 1, (js_cp M), .inl (F 5))), ((A 6), .inl (dA 1, (js_cp M), .inl (F 6))), ((A 7), .inl (dA 1, (js_cp M), .inl (F 7))), ((A 8), .inl (dA 1, (js_cp M), .inl (F 8))), ((A 9), .inl (dA 1, (js_cp M), .inl (F 9))), ((A 10), .inl (dA 3, (js_cu Mu), .inl (F 10)))] [(0, .ref T), (1, .int (nI d)), (2, .ref T), (3, .int (nI s)), (4, .int (nI us.length)), (5, .int (nI i0))] 16 [] := by
      intro n
      induction n with
      | zero =>
        intro i0 h0 h1
        exact absurd h1 (by omega)
      | succ n ih =>
        intro i0 hi0 hm hi
        refine jv_iload C (jd D_Tr_named 10 rfl) 5 rfl ?_
        refine jv_iload C (jd D_Tr_named 11 rfl) 4 rfl ?_
        refine jv_icmp_ge (tgt := 57) C (jd D_Tr_named 12 rfl) (by decide) (fun c20 => ?_) (fun c20 => ?_)
        · refine jv_iconst (v := 1) C (jd D_Tr_named 33 rfl) (by decide) ?_
          rw [hQ]
          exact jv_iret C hr () (Or.inl ⟨rfl, List.ext_getElem? (fun j => by
    rcases Nat.lt_or_ge j us.length with y | y
    · exact hi j (by have := (nI_leI (a := us.length) (b := i0) (by omega) (by omega)).mp c20; omega)
    · rw [List.getElem?_eq_none (by omega), List.getElem?_eq_none y])⟩) rfl [0, 1, 2, 3, 4, 5, 6, 7, 8, 9, 10, 11] rfl rfl (Nat.le_of_ble_eq_true rfl) (Nat.le_of_ble_eq_true rfl) (jd D_Tr_named 34 rfl)
        · have hlt : i0 < us.length := by
            rcases Nat.lt_or_ge i0 us.length with q | q
            · exact q
            · exact absurd (nI_le q (by omega)) c20
          have hnl : i0 < nm.length := by omega
          have hx1 := hn nm[i0] (List.getElem_mem hnl)
          have hx2 := hu us[i0] (List.getElem_mem hlt)
          refine jv_aload_n C (jd D_Tr_named 13 rfl) rfl 0 rfl ?_
          refine jv_get C fl_Tr_43 0 rfl rfl (jd D_Tr_named 14 rfl) ?_
          refine jv_aload_n C (jd D_Tr_named 15 rfl) rfl 0 rfl ?_
          refine jv_get C fl_Tr_31 0 rfl rfl (jd D_Tr_named 16 rfl) ?_
          refine jv_iload_n C (jd D_Tr_named 17 rfl) rfl 1 rfl ?_
          refine jv_iald C 7 rfl (vp_in_nI (by omega) (by omega)) (jd D_Tr_named 18 rfl) ?_
          refine jv_ati (y := nI s1) (by rw [nI_clamp (by omega)]; exact n1) ?_
          refine jv_iload C (jd D_Tr_named 19 rfl) 5 rfl ?_
          refine jv_iadd C (jd D_Tr_named 20 rfl) ?_
          refine jv_ati (y := nI (s1 + i0)) (nI_add s1 i0) ?_
          refine jv_cald C 11 rfl (vp_in_nI (by omega) (by omega)) (jd D_Tr_named 21 rfl) ?_
          refine jv_ati (y := nI nm[i0]) (by rw [nI_clamp (by omega)]; exact js_TU_at n3 hnl) ?_
          refine jv_aload_n C (jd D_Tr_named 22 rfl) rfl 2 rfl ?_
          refine jv_get C fl_Tr_43 0 rfl rfl (jd D_Tr_named 23 rfl) ?_
          refine jv_iload_n C (jd D_Tr_named 24 rfl) rfl 3 rfl ?_
          refine jv_iload C (jd D_Tr_named 25 rfl) 5 rfl ?_
          refine jv_iadd C (jd D_Tr_named 26 rfl) ?_
          refine jv_ati (y := nI (s + i0)) (nI_add s i0) ?_
          refine jv_cald C 11 rfl (vp_in_nI (by omega) (by omega)) (jd D_Tr_named 27 rfl) ?_
          refine jv_ati (y := nI us[i0]) (by rw [nI_clamp (by omega)]; exact js_TU_at ht hlt) ?_
          refine jv_icmp_eq (tgt := 51) C (jd D_Tr_named 28 rfl) (by decide) (fun c46 => ?_) (fun c46 => ?_)
          · have heq : nm[i0] = us[i0] := (nI_eq (by omega) (by omega)).mp c46
            refine jv_iinc (v := nI (i0 + 1)) C [(5, .int (nI (i0 + 1))), (0, .ref T), (1, .int (nI d)), (2, .ref T), (3, .int (nI s)), (4, .int (nI us.length))] (jd D_Tr_named 31 rfl) 5 rfl (nI_1 i0) (by decide) rfl ?_
            refine jv_goto (tgt := 16) C (jd D_Tr_named 32 rfl) (by decide) ?_
            refine jv_lvsub [1, 2, 3, 4, 5, 0] rfl ?_
            exact ih (i0 + 1) (by omega) (by omega) (fun j hj => by
              rcases Nat.lt_or_ge j i0 with y | y
              · exact hi j y
              · have : j = i0 := by omega
                rw [this, List.getElem?_eq_getElem hnl, List.getElem?_eq_getElem hlt, heq])
          · refine jv_iconst (v := 0) C (jd D_Tr_named 29 rfl) (by decide) ?_
            rw [hQ]
            exact jv_iret C hr () (Or.inr ⟨rfl, fun q => c46 (by congr 1; exact List.getElem_of_eq q hnl)⟩) rfl [0, 1, 2, 3, 4, 5, 6, 7, 8, 9, 10, 11] rfl rfl (Nat.le_of_ble_eq_true rfl) (Nat.le_of_ble_eq_true rfl) (jd D_Tr_named 30 rfl)
    refine jv_lvsub [1, 2, 3, 4, 5, 0] rfl ?_
    exact hL16 (us.length + 1) 0 (Nat.zero_le _) (by omega) (fun j hj => absurd hj (Nat.not_lt_zero _))
  · have hne : nm.length ≠ us.length := fun q => c8 (by rw [q])
    refine jv_iconst (v := 0) C (jd D_Tr_named 6 rfl) (by decide) ?_
    rw [hQ]
    exact jv_iret C hr () (Or.inr ⟨rfl, fun q => hne (by rw [q])⟩) rfl [0, 1, 2, 3, 4, 5, 6, 7, 8, 9, 10, 11] rfl rfl (Nat.le_of_ble_eq_true rfl) (Nat.le_of_ble_eq_true rfl) (jd D_Tr_named 7 rfl)

set_option maxHeartbeats 4000000 in
set_option maxRecDepth 100000 in
/-- find -/
theorem c_Tr_find_s {l : Launch} {D : va_G} {dA : Nat → ClassId} {zz : (Nat → Nat) × (Nat → Nat)} (T : Nat) (A : Nat → Nat) (M Mu : Nat) (F : Nat → Nat → Int32) (G : Nat → Int64) (c u : Nat) (m k s : Nat) (l0 : List (List Nat × js_J m)) (us : List Nat) (hM : c ≤ js_cp M) (hU : u ≤ js_cu Mu) (hv : js_TV F G u (m + 1) (Sum.inr (true, l0)) k) (hk : k + js_cnt (m + 1) (Sum.inr (true, l0)) ≤ c) (ht : js_TU F u s us) (hn : ∀ q ∈ l0, js_un q.1) (hu : js_un us) : jv_M l D dA zz y_Tr_find b_Tr_find 6 (some (FieldType.int)) 2 [.ref T, .int (nI k), .ref T, .int (nI s), .int (nI us.length)] [(T, .inr (6, [.ref (A 0), .ref (A 1), .ref (A 2), .ref (A 3), .ref (A 4), .ref (A 5), .ref (A 6), .ref (A 7), .ref (A 8), .ref (A 9), .int (nI c), .ref (A 10), .int (nI u)])), ((A 0), .inl (dA 1, (js_cp M), .inl (F 0))), ((A 1), .inl (dA 2, (js_cp M), .inr (.inl G))), ((A 2), .inl (dA 1, (js_cp M), .inl (F 2))), ((A 3), .inl (dA 1, (js_cp M), .inl (F 3))), ((A 4), .inl (dA 1, (js_cp M), .inl (F 4))), ((A 5), .inl (dA 1, (js_cp M), .inl (F 5))), ((A 6), .inl (dA 1, (js_cp M), .inl (F 6))), ((A 7), .inl (dA 1, (js_cp M), .inl (F 7))), ((A 8), .inl (dA 1, (js_cp M), .inl (F 8))), ((A 9), .inl (dA 1, (js_cp M), .inl (F 9))), ((A 10), .inl (dA 3, (js_cu Mu), .inl (F 10)))] (jv_pi fun r (_ : Unit) => (∃ (i : Nat) (q : List Nat × js_J m), l0[i]? = some q ∧ q.1 = us ∧ r = nI (js_pos l0 (k + 1) i)) ∨ (r = -1 ∧ ∀ q ∈ l0, q.1 ≠ us)) (fun _ => [(T, .inr (6, [.ref (A 0), .ref (A 1), .ref (A 2), .ref (A 3), .ref (A 4), .ref (A 5), .ref (A 6), .ref (A 7), .ref (A 8), .ref (A 9), .int (nI c), .ref (A 10), .int (nI u)])), ((A 0), .inl (dA 1, (js_cp M), .inl (F 0))), ((A 1), .inl (dA 2, (js_cp M), .inr (.inl G))), ((A 2), .inl (dA 1, (js_cp M), .inl (F 2))), ((A 3), .inl (dA 1, (js_cp M), .inl (F 3))), ((A 4), .inl (dA 1, (js_cp M), .inl (F 4))), ((A 5), .inl (dA 1, (js_cp M), .inl (F 5))), ((A 6), .inl (dA 1, (js_cp M), .inl (F 6))), ((A 7), .inl (dA 1, (js_cp M), .inl (F 7))), ((A 8), .inl (dA 1, (js_cp M), .inl (F 8))), ((A 9), .inl (dA 1, (js_cp M), .inl (F 9))), ((A 10), .inl (dA 3, (js_cu Mu), .inl (F 10)))]) 0 0 := by
  refine jv_M.of [(0, .ref T), (1, .int (nI k)), (2, .ref T), (3, .int (nI s)), (4, .int (nI us.length))] (by decide) (Nat.le_of_ble_eq_true rfl) rfl ?_
  intro pR eR sR mR belowR methR cR AR C hr hin
  obtain ⟨QR, hQ⟩ : ∃ QR, QR = jv_E D (jv_pi fun r (_ : Unit) => (∃ (i : Nat) (q : List Nat × js_J m), l0[i]? = some q ∧ q.1 = us ∧ r = nI (js_pos l0 (k + 1) i)) ∨ (r = -1 ∧ ∀ q ∈ l0, q.1 ≠ us)) (fun _ => [(T, .inr (6, [.ref (A 0), .ref (A 1), .ref (A 2), .ref (A 3), .ref (A 4), .ref (A 5), .ref (A 6), .ref (A 7), .ref (A 8), .ref (A 9), .int (nI c), .ref (A 10), .int (nI u)])), ((A 0), .inl (dA 1, (js_cp M), .inl (F 0))), ((A 1), .inl (dA 2, (js_cp M), .inr (.inl G))), ((A 2), .inl (dA 1, (js_cp M), .inl (F 2))), ((A 3), .inl (dA 1, (js_cp M), .inl (F 3))), ((A 4), .inl (dA 1, (js_cp M), .inl (F 4))), ((A 5), .inl (dA 1, (js_cp M), .inl (F 5))), ((A 6), .inl (dA 1, (js_cp M), .inl (F 6))), ((A 7), .inl (dA 1, (js_cp M), .inl (F 7))), ((A 8), .inl (dA 1, (js_cp M), .inl (F 8))), ((A 9), .inl (dA 1, (js_cp M), .inl (F 9))), ((A 10), .inl (dA 3, (js_cu Mu), .inl (F 10)))]) belowR ([.ref T, .int (nI k), .ref T, .int (nI s), .int (nI us.length)] : List Value).toArray sR AR 0 0 := ⟨_, rfl⟩
  rw [← hQ]
  have hb := js_cp_b M
  have hb2 := js_cu_b Mu
  have hc0 := js_cnt_pos (m + 1) (Sum.inr (true, l0))
  refine jv_aload_n C (jd D_Tr_find 0 rfl) rfl 0 rfl ?_
  refine jv_get C fl_Tr_25 0 rfl rfl (jd D_Tr_find 1 rfl) ?_
  refine jv_iload_n C (jd D_Tr_find 2 rfl) rfl 1 rfl ?_
  refine jv_iald C 5 rfl (vp_in_nI (by omega) (by omega)) (jd D_Tr_find 3 rfl) ?_
  refine jv_ati (y := js_kx l0 k 0) (by rw [nI_clamp (by omega)]; exact js_TV_k0 hv) ?_
  refine jv_istore C [(5, .int (js_kx l0 k 0)), (0, .ref T), (1, .int (nI k)), (2, .ref T), (3, .int (nI s)), (4, .int (nI us.length))] (jd D_Tr_find 4 rfl) (by decide) rfl ?_
  have hL8 : ∀ (n : Nat) (i0 : Nat), i0 ≤ l0.length → l0.length + 1 ≤ i0 + n → (∀ (j : Nat) (q : List Nat × js_J m), j < i0 → l0[j]? = some q → q.1 ≠ us) → jv_V pR l eR (jv_rm 2 0 0) sR mR ([.ref T, .int (nI k), .ref T, .int (nI s), .int (nI us.length)] : List Value).toArray belowR methR cR 0 0 QR D AR 6 [(T, .inr (6, [.ref (A 0), .ref (A 1), .ref (A 2), .ref (A 3), .ref (A 4), .ref (A 5), .ref (A 6), .ref (A 7), .ref (A 8), .ref (A 9), .int (nI c), .ref (A 10), .int (nI u)])), ((A 0), .inl (dA 1, (js_cp M), .inl (F 0))), ((A 1), .inl (dA 2, (js_cp M), .inr (.inl G))), ((A 2), .inl (dA 1, (js_cp M), .inl (F 2))), ((A 3), .inl (dA 1, (js_cp M), .inl (F 3))), ((A 4), .inl (dA 1, (js_cp M), .inl (F 4))), ((A 5), .inl (dA 1, (js_cp M), .inl (F 5))), ((A 6), .inl (dA 1, (js_cp M), .inl (F 6))), ((A 7), .inl (dA 1, (js_cp M), .inl (F 7))), ((A 8), .inl (dA 1, (js_cp M), .inl (F 8))), ((A 9), .inl (dA 1, (js_cp M), .inl (F 9))), ((A 10), .inl (dA 3, (js_cu Mu), .inl (F 10)))] [(0, .ref T), (1, .int (nI k)), (2, .ref T), (3, .int (nI s)), (4, .int (nI us.length)), (5, .int (js_kx l0 k i0))] 8 [] := by
    intro n
    induction n with
    | zero =>
      intro i0 h0 h1
      exact absurd h1 (by omega)
    | succ n ih =>
      intro i0 hi0 hm hi
      refine jv_iload C (jd D_Tr_find 5 rfl) 5 rfl ?_
      refine jv_if_lt (tgt := 41) C (jd D_Tr_find 6 rfl) (by decide) (fun c10 => ?_) (fun c10 => ?_)
      · refine jv_iconst (v := -1) C (jd D_Tr_find 22 rfl) (by decide) ?_
        rw [hQ]
        exact jv_iret C hr () (Or.inr ⟨rfl, fun q hq => by
    obtain ⟨j, hj⟩ := List.getElem?_of_mem hq
    have hjl := (List.getElem?_eq_some_iff.mp hj).1
    refine hi j q ?_ hj
    rcases Nat.lt_or_ge i0 l0.length with y | y
    · have hpb := js_pos_b (b := true) (k := k) y
      have hcp := js_cnt_pos m l0[i0].2
      exact absurd (js_kx_neg c10 (by omega)) (by omega)
    · omega⟩) rfl [0, 1, 2, 3, 4, 5, 6, 7, 8, 9, 10, 11] rfl rfl (Nat.le_of_ble_eq_true rfl) (Nat.le_of_ble_eq_true rfl) (jd D_Tr_find 23 rfl)
      · have hlt : i0 < l0.length := js_kx_pos c10
        have hpb := js_pos_b (b := true) (k := k) hlt
        have hcp := js_cnt_pos m l0[i0].2
        have hkid := js_TV_kid hv hlt
        rw [js_kx_in hlt]
        refine jv_aload_n C (jd D_Tr_find 7 rfl) rfl 0 rfl ?_
        refine jv_iload C (jd D_Tr_find 8 rfl) 5 rfl ?_
        refine jv_aload_n C (jd D_Tr_find 9 rfl) rfl 2 rfl ?_
        refine jv_iload_n C (jd D_Tr_find 10 rfl) rfl 3 rfl ?_
        refine jv_iload C (jd D_Tr_find 11 rfl) 4 rfl ?_
        refine jv_callV (wr := []) C cl_Tr_58 (c_Tr_named_s T A M Mu F G c u (js_pos l0 (k + 1) i0) s l0[i0].1 us hM hU (by omega) (hkid.2.2 rfl) ht (hn _ (List.getElem_mem hlt)) hu) [0, 1, 2, 3, 4, 5, 6, 7, 8, 9, 10, 11] [] rfl rfl rfl rfl (by decide) rfl rfl 0 rfl ⟨Nat.le_of_ble_eq_true rfl, Nat.le_of_ble_eq_true rfl⟩ ⟨Nat.le_of_ble_eq_true rfl, Nat.le_of_ble_eq_true rfl⟩ rfl rfl (Nat.le_of_ble_eq_true rfl) (jd D_Tr_find 12 rfl) (fun v1 _ k1 => ?_)
        obtain ⟨r1, rfl, k1⟩ := k1
        refine jv_fix [0, 1, 2, 3, 4, 5, 6, 7, 8, 9, 10, 11] [(T, .inr (6, [.ref (A 0), .ref (A 1), .ref (A 2), .ref (A 3), .ref (A 4), .ref (A 5), .ref (A 6), .ref (A 7), .ref (A 8), .ref (A 9), .int (nI c), .ref (A 10), .int (nI u)])), ((A 0), .inl (dA 1, (js_cp M), .inl (F 0))), ((A 1), .inl (dA 2, (js_cp M), .inr (.inl G))), ((A 2), .inl (dA 1, (js_cp M), .inl (F 2))), ((A 3), .inl (dA 1, (js_cp M), .inl (F 3))), ((A 4), .inl (dA 1, (js_cp M), .inl (F 4))), ((A 5), .inl (dA 1, (js_cp M), .inl (F 5))), ((A 6), .inl (dA 1, (js_cp M), .inl (F 6))), ((A 7), .inl (dA 1, (js_cp M), .inl (F 7))), ((A 8), .inl (dA 1, (js_cp M), .inl (F 8))), ((A 9), .inl (dA 1, (js_cp M), .inl (F 9))), ((A 10), .inl (dA 3, (js_cu Mu), .inl (F 10)))] [.int r1] 0 0 rfl rfl rfl (Nat.le_refl _) (Nat.le_refl _) ?_
        refine jv_if_eq (tgt := 29) C (jd D_Tr_find 13 rfl) (by decide) (fun c23 => ?_) (fun c23 => ?_)
        · have hneg : l0[i0].1 ≠ us := by
            rcases k1 with q | q
            · exact absurd (q.1.symm.trans c23) (by decide)
            · exact q.2
          refine jv_aload_n C (jd D_Tr_find 16 rfl) rfl 0 rfl ?_
          refine jv_get C fl_Tr_28 0 rfl rfl (jd D_Tr_find 17 rfl) ?_
          refine jv_iload C (jd D_Tr_find 18 rfl) 5 rfl ?_
          refine jv_iald C 6 rfl (vp_in_nI (by omega) (by omega)) (jd D_Tr_find 19 rfl) ?_
          refine jv_ati (y := js_kx l0 k (i0 + 1)) (by rw [nI_clamp (by omega)]; exact hkid.2.1) ?_
          refine jv_istore C [(5, .int (js_kx l0 k (i0 + 1))), (0, .ref T), (1, .int (nI k)), (2, .ref T), (3, .int (nI s)), (4, .int (nI us.length))] (jd D_Tr_find 20 rfl) (by decide) rfl ?_
          refine jv_goto (tgt := 8) C (jd D_Tr_find 21 rfl) (by decide) ?_
          refine jv_lvsub [1, 2, 3, 4, 5, 0] rfl ?_
          exact ih (i0 + 1) (by omega) (by omega) (fun j q hj hq => by
            rcases Nat.lt_or_ge j i0 with y | y
            · exact hi j q y hq
            · have : j = i0 := by omega
              rw [this, List.getElem?_eq_getElem hlt] at hq
              cases hq
              exact hneg)
        · have hpos : l0[i0].1 = us := by
            rcases k1 with q | q
            · exact q.2
            · exact absurd q.1 c23
          refine jv_iload C (jd D_Tr_find 14 rfl) 5 rfl ?_
          rw [hQ]
          exact jv_iret C hr () (Or.inl ⟨i0, l0[i0], List.getElem?_eq_getElem hlt, hpos, rfl⟩) rfl [0, 1, 2, 3, 4, 5, 6, 7, 8, 9, 10, 11] rfl rfl (Nat.le_of_ble_eq_true rfl) (Nat.le_of_ble_eq_true rfl) (jd D_Tr_find 15 rfl)
  refine jv_lvsub [1, 2, 3, 4, 5, 0] rfl ?_
  exact hL8 (l0.length + 1) 0 (Nat.zero_le _) (by omega) (fun j q hj => absurd hj (Nat.not_lt_zero _))

set_option maxHeartbeats 4000000 in
set_option maxRecDepth 100000 in
/-- named -/
theorem c_Tr_named_t {l : Launch} {D : va_G} {dA : Nat → ClassId} {zz : (Nat → Nat) × (Nat → Nat)} (T : Nat) (A : Nat → Nat) (M Mu : Nat) (F : Nat → Nat → Int32) (G : Nat → Int64) (c u : Nat) (T2 : Nat) (A2 : Nat → Nat) (M2 Mu2 : Nat) (F2 : Nat → Nat → Int32) (G2 : Nat → Int64) (c2 u2 : Nat) (d s : Nat) (nm us : List Nat) (hM : c ≤ js_cp M) (hU : u ≤ js_cu Mu) (hU2 : u2 ≤ js_cu Mu2) (hd : d < c) (hN : js_TN F u d nm) (ht : js_TU F2 u2 s us) (hn : js_un nm) (hu : js_un us) : jv_M l D dA zz y_Tr_named b_Tr_named 6 (some (FieldType.boolean)) 1 [.ref T, .int (nI d), .ref T2, .int (nI s), .int (nI us.length)] [(T, .inr (6, [.ref (A 0), .ref (A 1), .ref (A 2), .ref (A 3), .ref (A 4), .ref (A 5), .ref (A 6), .ref (A 7), .ref (A 8), .ref (A 9), .int (nI c), .ref (A 10), .int (nI u)])), ((A 0), .inl (dA 1, (js_cp M), .inl (F 0))), ((A 1), .inl (dA 2, (js_cp M), .inr (.inl G))), ((A 2), .inl (dA 1, (js_cp M), .inl (F 2))), ((A 3), .inl (dA 1, (js_cp M), .inl (F 3))), ((A 4), .inl (dA 1, (js_cp M), .inl (F 4))), ((A 5), .inl (dA 1, (js_cp M), .inl (F 5))), ((A 6), .inl (dA 1, (js_cp M), .inl (F 6))), ((A 7), .inl (dA 1, (js_cp M), .inl (F 7))), ((A 8), .inl (dA 1, (js_cp M), .inl (F 8))), ((A 9), .inl (dA 1, (js_cp M), .inl (F 9))), ((A 10), .inl (dA 3, (js_cu Mu), .inl (F 10))), (T2, .inr (6, [.ref (A2 0), .ref (A2 1), .ref (A2 2), .ref (A2 3), .ref (A2 4), .ref (A2 5), .ref (A2 6), .ref (A2 7), .ref (A2 8), .ref (A2 9), .int (nI c2), .ref (A2 10), .int (nI u2)])), ((A2 0), .inl (dA 1, (js_cp M2), .inl (F2 0))), ((A2 1), .inl (dA 2, (js_cp M2), .inr (.inl G2))), ((A2 2), .inl (dA 1, (js_cp M2), .inl (F2 2))), ((A2 3), .inl (dA 1, (js_cp M2), .inl (F2 3))), ((A2 4), .inl (dA 1, (js_cp M2), .inl (F2 4))), ((A2 5), .inl (dA 1, (js_cp M2), .inl (F2 5))), ((A2 6), .inl (dA 1, (js_cp M2), .inl (F2 6))), ((A2 7), .inl (dA 1, (js_cp M2), .inl (F2 7))), ((A2 8), .inl (dA 1, (js_cp M2), .inl (F2 8))), ((A2 9), .inl (dA 1, (js_cp M2), .inl (F2 9))), ((A2 10), .inl (dA 3, (js_cu Mu2), .inl (F2 10)))] (jv_pi fun r (_ : Unit) => js_bool (nm = us) r) (fun _ => [(T, .inr (6, [.ref (A 0), .ref (A 1), .ref (A 2), .ref (A 3), .ref (A 4), .ref (A 5), .ref (A 6), .ref (A 7), .ref (A 8), .ref (A 9), .int (nI c), .ref (A 10), .int (nI u)])), ((A 0), .inl (dA 1, (js_cp M), .inl (F 0))), ((A 1), .inl (dA 2, (js_cp M), .inr (.inl G))), ((A 2), .inl (dA 1, (js_cp M), .inl (F 2))), ((A 3), .inl (dA 1, (js_cp M), .inl (F 3))), ((A 4), .inl (dA 1, (js_cp M), .inl (F 4))), ((A 5), .inl (dA 1, (js_cp M), .inl (F 5))), ((A 6), .inl (dA 1, (js_cp M), .inl (F 6))), ((A 7), .inl (dA 1, (js_cp M), .inl (F 7))), ((A 8), .inl (dA 1, (js_cp M), .inl (F 8))), ((A 9), .inl (dA 1, (js_cp M), .inl (F 9))), ((A 10), .inl (dA 3, (js_cu Mu), .inl (F 10))), (T2, .inr (6, [.ref (A2 0), .ref (A2 1), .ref (A2 2), .ref (A2 3), .ref (A2 4), .ref (A2 5), .ref (A2 6), .ref (A2 7), .ref (A2 8), .ref (A2 9), .int (nI c2), .ref (A2 10), .int (nI u2)])), ((A2 0), .inl (dA 1, (js_cp M2), .inl (F2 0))), ((A2 1), .inl (dA 2, (js_cp M2), .inr (.inl G2))), ((A2 2), .inl (dA 1, (js_cp M2), .inl (F2 2))), ((A2 3), .inl (dA 1, (js_cp M2), .inl (F2 3))), ((A2 4), .inl (dA 1, (js_cp M2), .inl (F2 4))), ((A2 5), .inl (dA 1, (js_cp M2), .inl (F2 5))), ((A2 6), .inl (dA 1, (js_cp M2), .inl (F2 6))), ((A2 7), .inl (dA 1, (js_cp M2), .inl (F2 7))), ((A2 8), .inl (dA 1, (js_cp M2), .inl (F2 8))), ((A2 9), .inl (dA 1, (js_cp M2), .inl (F2 9))), ((A2 10), .inl (dA 3, (js_cu Mu2), .inl (F2 10)))]) 0 0 := by
  refine jv_M.of [(0, .ref T), (1, .int (nI d)), (2, .ref T2), (3, .int (nI s)), (4, .int (nI us.length))] (by decide) (Nat.le_of_ble_eq_true rfl) rfl ?_
  intro pR eR sR mR belowR methR cR AR C hr hin
  obtain ⟨QR, hQ⟩ : ∃ QR, QR = jv_E D (jv_pi fun r (_ : Unit) => js_bool (nm = us) r) (fun _ => [(T, .inr (6, [.ref (A 0), .ref (A 1), .ref (A 2), .ref (A 3), .ref (A 4), .ref (A 5), .ref (A 6), .ref (A 7), .ref (A 8), .ref (A 9), .int (nI c), .ref (A 10), .int (nI u)])), ((A 0), .inl (dA 1, (js_cp M), .inl (F 0))), ((A 1), .inl (dA 2, (js_cp M), .inr (.inl G))), ((A 2), .inl (dA 1, (js_cp M), .inl (F 2))), ((A 3), .inl (dA 1, (js_cp M), .inl (F 3))), ((A 4), .inl (dA 1, (js_cp M), .inl (F 4))), ((A 5), .inl (dA 1, (js_cp M), .inl (F 5))), ((A 6), .inl (dA 1, (js_cp M), .inl (F 6))), ((A 7), .inl (dA 1, (js_cp M), .inl (F 7))), ((A 8), .inl (dA 1, (js_cp M), .inl (F 8))), ((A 9), .inl (dA 1, (js_cp M), .inl (F 9))), ((A 10), .inl (dA 3, (js_cu Mu), .inl (F 10))), (T2, .inr (6, [.ref (A2 0), .ref (A2 1), .ref (A2 2), .ref (A2 3), .ref (A2 4), .ref (A2 5), .ref (A2 6), .ref (A2 7), .ref (A2 8), .ref (A2 9), .int (nI c2), .ref (A2 10), .int (nI u2)])), ((A2 0), .inl (dA 1, (js_cp M2), .inl (F2 0))), ((A2 1), .inl (dA 2, (js_cp M2), .inr (.inl G2))), ((A2 2), .inl (dA 1, (js_cp M2), .inl (F2 2))), ((A2 3), .inl (dA 1, (js_cp M2), .inl (F2 3))), ((A2 4), .inl (dA 1, (js_cp M2), .inl (F2 4))), ((A2 5), .inl (dA 1, (js_cp M2), .inl (F2 5))), ((A2 6), .inl (dA 1, (js_cp M2), .inl (F2 6))), ((A2 7), .inl (dA 1, (js_cp M2), .inl (F2 7))), ((A2 8), .inl (dA 1, (js_cp M2), .inl (F2 8))), ((A2 9), .inl (dA 1, (js_cp M2), .inl (F2 9))), ((A2 10), .inl (dA 3, (js_cu Mu2), .inl (F2 10)))]) belowR ([.ref T, .int (nI d), .ref T2, .int (nI s), .int (nI us.length)] : List Value).toArray sR AR 0 0 := ⟨_, rfl⟩
  rw [← hQ]
  have hb := js_cp_b M
  have hb2 := js_cu_b Mu
  have hb3 := js_cu_b Mu2
  obtain ⟨s1, n1, n2, n3⟩ := hN
  have n4 := n3.1
  have t4 := ht.1
  refine jv_aload_n C (jd D_Tr_named 0 rfl) rfl 0 rfl ?_
  refine jv_get C fl_Tr_34 0 rfl rfl (jd D_Tr_named 1 rfl) ?_
  refine jv_iload_n C (jd D_Tr_named 2 rfl) rfl 1 rfl ?_
  refine jv_iald C 8 rfl (vp_in_nI (by omega) (by omega)) (jd D_Tr_named 3 rfl) ?_
  refine jv_ati (y := nI nm.length) (by rw [nI_clamp (by omega)]; exact n2) ?_
  refine jv_iload C (jd D_Tr_named 4 rfl) 4 rfl ?_
  refine jv_icmp_eq (tgt := 13) C (jd D_Tr_named 5 rfl) (by decide) (fun c8 => ?_) (fun c8 => ?_)
  · have hle : nm.length = us.length := (nI_eq (by omega) (by omega)).mp c8
    refine jv_iconst (v := 0) C (jd D_Tr_named 8 rfl) (by decide) ?_
    refine jv_istore C [(5, .int 0), (0, .ref T), (1, .int (nI d)), (2, .ref T2), (3, .int (nI s)), (4, .int (nI us.length))] (jd D_Tr_named 9 rfl) (by decide) rfl ?_
    have hL16 : ∀ (n : Nat) (i0 : Nat), i0 ≤ us.length → us.length + 1 ≤ i0 + n → (∀ j, j < i0 → nm[j]? = us[j]?) → jv_V pR l eR (jv_rm 1 0 0) sR mR ([.ref T, .int (nI d), .ref T2, .int (nI s), .int (nI us.length)] : List Value).toArray belowR methR cR 0 0 QR D AR 6 [(T, .inr (6, [.ref (A 0), .ref (A 1), .ref (A 2), .ref (A 3), .ref (A 4), .ref (A 5), .ref (A 6), .ref (A 7), .ref (A 8), .ref (A 9), .int (nI c), .ref (A 10), .int (nI u)])), ((A 0), .inl (dA 1, (js_cp M), .inl (F 0))), ((A 1), .inl (dA 2, (js_cp M), .inr (.inl G))), ((A 2), .inl (dA 1, (js_cp M), .inl (F 2))), ((A 3), .inl (dA 1, (js_cp M), .inl (F 3))), ((A 4), .inl (dA 1, (js_cp M), .inl (F 4))), ((A 5), .inl (dA 1, (js_cp M), .inl (F 5))), ((A 6), .inl (dA 1, (js_cp M), .inl (F 6))), ((A 7), .inl (dA 1, (js_cp M), .inl (F 7))), ((A 8), .inl (dA 1, (js_cp M), .inl (F 8))), ((A 9), .inl (dA 1, (js_cp M), .inl (F 9))), ((A 10), .inl (dA 3, (js_cu Mu), .inl (F 10))), (T2, .inr (6, [.ref (A2 0), .ref (A2 1), .ref (A2 2), .ref (A2 3), .ref (A2 4), .ref (A2 5), .ref (A2 6), .ref (A2 7), .ref (A2 8), .ref (A2 9), .int (nI c2), .ref (A2 10), .int (nI u2)])), ((A2 0), .inl (dA 1, (js_cp M2), .inl (F2 0))), ((A2 1), .inl (dA 2, (js_cp M2), .inr (.inl G2))), ((A2 2), .inl (dA 1, (js_cp M2), .inl (F2 2))), ((A2 3), .inl (dA 1, (js_cp M2), .inl (F2 3))), ((A2 4), .inl (dA 1, (js_cp M2), .inl (F2 4))), ((A2 5), .inl (dA 1, (js_cp M2), .inl (F2 5))), ((A2 6), .inl (dA 1, (js_cp M2), .inl (F2 6))), ((A2 7), .inl (dA 1, (js_cp M2), .inl (F2 7))), ((A2 8), .inl (dA 1, (js_cp M2), .inl (F2 8))), ((A2 9), .inl (dA 1, (js_cp M2), .inl (F2 9))), ((A2 10), .inl (dA 3, (js_cu Mu2), .inl (F2 10)))] [(0, .ref T), (1, .int (nI d)), (2, .ref T2), (3, .int (nI s)), (4, .int (nI us.length)), (5, .int (nI i0))] 16 [] := by
      intro n
      induction n with
      | zero =>
        intro i0 h0 h1
        exact absurd h1 (by omega)
      | succ n ih =>
        intro i0 hi0 hm hi
        refine jv_iload C (jd D_Tr_named 10 rfl) 5 rfl ?_
        refine jv_iload C (jd D_Tr_named 11 rfl) 4 rfl ?_
        refine jv_icmp_ge (tgt := 57) C (jd D_Tr_named 12 rfl) (by decide) (fun c20 => ?_) (fun c20 => ?_)
        · refine jv_iconst (v := 1) C (jd D_Tr_named 33 rfl) (by decide) ?_
          rw [hQ]
          exact jv_iret C hr () (Or.inl ⟨rfl, List.ext_getElem? (fun j => by
    rcases Nat.lt_or_ge j us.length with y | y
    · exact hi j (by have := (nI_leI (a := us.length) (b := i0) (by omega) (by omega)).mp c20; omega)
    · rw [List.getElem?_eq_none (by omega), List.getElem?_eq_none y])⟩) rfl [0, 1, 2, 3, 4, 5, 6, 7, 8, 9, 10, 11, 12, 13, 14, 15, 16, 17, 18, 19, 20, 21, 22, 23] rfl rfl (Nat.le_of_ble_eq_true rfl) (Nat.le_of_ble_eq_true rfl) (jd D_Tr_named 34 rfl)
        · have hlt : i0 < us.length := by
            rcases Nat.lt_or_ge i0 us.length with q | q
            · exact q
            · exact absurd (nI_le q (by omega)) c20
          have hnl : i0 < nm.length := by omega
          have hx1 := hn nm[i0] (List.getElem_mem hnl)
          have hx2 := hu us[i0] (List.getElem_mem hlt)
          refine jv_aload_n C (jd D_Tr_named 13 rfl) rfl 0 rfl ?_
          refine jv_get C fl_Tr_43 0 rfl rfl (jd D_Tr_named 14 rfl) ?_
          refine jv_aload_n C (jd D_Tr_named 15 rfl) rfl 0 rfl ?_
          refine jv_get C fl_Tr_31 0 rfl rfl (jd D_Tr_named 16 rfl) ?_
          refine jv_iload_n C (jd D_Tr_named 17 rfl) rfl 1 rfl ?_
          refine jv_iald C 7 rfl (vp_in_nI (by omega) (by omega)) (jd D_Tr_named 18 rfl) ?_
          refine jv_ati (y := nI s1) (by rw [nI_clamp (by omega)]; exact n1) ?_
          refine jv_iload C (jd D_Tr_named 19 rfl) 5 rfl ?_
          refine jv_iadd C (jd D_Tr_named 20 rfl) ?_
          refine jv_ati (y := nI (s1 + i0)) (nI_add s1 i0) ?_
          refine jv_cald C 11 rfl (vp_in_nI (by omega) (by omega)) (jd D_Tr_named 21 rfl) ?_
          refine jv_ati (y := nI nm[i0]) (by rw [nI_clamp (by omega)]; exact js_TU_at n3 hnl) ?_
          refine jv_aload_n C (jd D_Tr_named 22 rfl) rfl 2 rfl ?_
          refine jv_get C fl_Tr_43 12 rfl rfl (jd D_Tr_named 23 rfl) ?_
          refine jv_iload_n C (jd D_Tr_named 24 rfl) rfl 3 rfl ?_
          refine jv_iload C (jd D_Tr_named 25 rfl) 5 rfl ?_
          refine jv_iadd C (jd D_Tr_named 26 rfl) ?_
          refine jv_ati (y := nI (s + i0)) (nI_add s i0) ?_
          refine jv_cald C 23 rfl (vp_in_nI (by omega) (by omega)) (jd D_Tr_named 27 rfl) ?_
          refine jv_ati (y := nI us[i0]) (by rw [nI_clamp (by omega)]; exact js_TU_at ht hlt) ?_
          refine jv_icmp_eq (tgt := 51) C (jd D_Tr_named 28 rfl) (by decide) (fun c46 => ?_) (fun c46 => ?_)
          · have heq : nm[i0] = us[i0] := (nI_eq (by omega) (by omega)).mp c46
            refine jv_iinc (v := nI (i0 + 1)) C [(5, .int (nI (i0 + 1))), (0, .ref T), (1, .int (nI d)), (2, .ref T2), (3, .int (nI s)), (4, .int (nI us.length))] (jd D_Tr_named 31 rfl) 5 rfl (nI_1 i0) (by decide) rfl ?_
            refine jv_goto (tgt := 16) C (jd D_Tr_named 32 rfl) (by decide) ?_
            refine jv_lvsub [1, 2, 3, 4, 5, 0] rfl ?_
            exact ih (i0 + 1) (by omega) (by omega) (fun j hj => by
              rcases Nat.lt_or_ge j i0 with y | y
              · exact hi j y
              · have : j = i0 := by omega
                rw [this, List.getElem?_eq_getElem hnl, List.getElem?_eq_getElem hlt, heq])
          · refine jv_iconst (v := 0) C (jd D_Tr_named 29 rfl) (by decide) ?_
            rw [hQ]
            exact jv_iret C hr () (Or.inr ⟨rfl, fun q => c46 (by congr 1; exact List.getElem_of_eq q hnl)⟩) rfl [0, 1, 2, 3, 4, 5, 6, 7, 8, 9, 10, 11, 12, 13, 14, 15, 16, 17, 18, 19, 20, 21, 22, 23] rfl rfl (Nat.le_of_ble_eq_true rfl) (Nat.le_of_ble_eq_true rfl) (jd D_Tr_named 30 rfl)
    refine jv_lvsub [1, 2, 3, 4, 5, 0] rfl ?_
    exact hL16 (us.length + 1) 0 (Nat.zero_le _) (by omega) (fun j hj => absurd hj (Nat.not_lt_zero _))
  · have hne : nm.length ≠ us.length := fun q => c8 (by rw [q])
    refine jv_iconst (v := 0) C (jd D_Tr_named 6 rfl) (by decide) ?_
    rw [hQ]
    exact jv_iret C hr () (Or.inr ⟨rfl, fun q => hne (by rw [q])⟩) rfl [0, 1, 2, 3, 4, 5, 6, 7, 8, 9, 10, 11, 12, 13, 14, 15, 16, 17, 18, 19, 20, 21, 22, 23] rfl rfl (Nat.le_of_ble_eq_true rfl) (Nat.le_of_ble_eq_true rfl) (jd D_Tr_named 7 rfl)

set_option maxHeartbeats 4000000 in
set_option maxRecDepth 100000 in
/-- find -/
theorem c_Tr_find_t {l : Launch} {D : va_G} {dA : Nat → ClassId} {zz : (Nat → Nat) × (Nat → Nat)} (T : Nat) (A : Nat → Nat) (M Mu : Nat) (F : Nat → Nat → Int32) (G : Nat → Int64) (c u : Nat) (T2 : Nat) (A2 : Nat → Nat) (M2 Mu2 : Nat) (F2 : Nat → Nat → Int32) (G2 : Nat → Int64) (c2 u2 : Nat) (m k s : Nat) (l0 : List (List Nat × js_J m)) (us : List Nat) (hM : c ≤ js_cp M) (hU : u ≤ js_cu Mu) (hU2 : u2 ≤ js_cu Mu2) (hv : js_TV F G u (m + 1) (Sum.inr (true, l0)) k) (hk : k + js_cnt (m + 1) (Sum.inr (true, l0)) ≤ c) (ht : js_TU F2 u2 s us) (hn : ∀ q ∈ l0, js_un q.1) (hu : js_un us) : jv_M l D dA zz y_Tr_find b_Tr_find 6 (some (FieldType.int)) 2 [.ref T, .int (nI k), .ref T2, .int (nI s), .int (nI us.length)] [(T, .inr (6, [.ref (A 0), .ref (A 1), .ref (A 2), .ref (A 3), .ref (A 4), .ref (A 5), .ref (A 6), .ref (A 7), .ref (A 8), .ref (A 9), .int (nI c), .ref (A 10), .int (nI u)])), ((A 0), .inl (dA 1, (js_cp M), .inl (F 0))), ((A 1), .inl (dA 2, (js_cp M), .inr (.inl G))), ((A 2), .inl (dA 1, (js_cp M), .inl (F 2))), ((A 3), .inl (dA 1, (js_cp M), .inl (F 3))), ((A 4), .inl (dA 1, (js_cp M), .inl (F 4))), ((A 5), .inl (dA 1, (js_cp M), .inl (F 5))), ((A 6), .inl (dA 1, (js_cp M), .inl (F 6))), ((A 7), .inl (dA 1, (js_cp M), .inl (F 7))), ((A 8), .inl (dA 1, (js_cp M), .inl (F 8))), ((A 9), .inl (dA 1, (js_cp M), .inl (F 9))), ((A 10), .inl (dA 3, (js_cu Mu), .inl (F 10))), (T2, .inr (6, [.ref (A2 0), .ref (A2 1), .ref (A2 2), .ref (A2 3), .ref (A2 4), .ref (A2 5), .ref (A2 6), .ref (A2 7), .ref (A2 8), .ref (A2 9), .int (nI c2), .ref (A2 10), .int (nI u2)])), ((A2 0), .inl (dA 1, (js_cp M2), .inl (F2 0))), ((A2 1), .inl (dA 2, (js_cp M2), .inr (.inl G2))), ((A2 2), .inl (dA 1, (js_cp M2), .inl (F2 2))), ((A2 3), .inl (dA 1, (js_cp M2), .inl (F2 3))), ((A2 4), .inl (dA 1, (js_cp M2), .inl (F2 4))), ((A2 5), .inl (dA 1, (js_cp M2), .inl (F2 5))), ((A2 6), .inl (dA 1, (js_cp M2), .inl (F2 6))), ((A2 7), .inl (dA 1, (js_cp M2), .inl (F2 7))), ((A2 8), .inl (dA 1, (js_cp M2), .inl (F2 8))), ((A2 9), .inl (dA 1, (js_cp M2), .inl (F2 9))), ((A2 10), .inl (dA 3, (js_cu Mu2), .inl (F2 10)))] (jv_pi fun r (_ : Unit) => (∃ (i : Nat) (q : List Nat × js_J m), l0[i]? = some q ∧ q.1 = us ∧ r = nI (js_pos l0 (k + 1) i)) ∨ (r = -1 ∧ ∀ q ∈ l0, q.1 ≠ us)) (fun _ => [(T, .inr (6, [.ref (A 0), .ref (A 1), .ref (A 2), .ref (A 3), .ref (A 4), .ref (A 5), .ref (A 6), .ref (A 7), .ref (A 8), .ref (A 9), .int (nI c), .ref (A 10), .int (nI u)])), ((A 0), .inl (dA 1, (js_cp M), .inl (F 0))), ((A 1), .inl (dA 2, (js_cp M), .inr (.inl G))), ((A 2), .inl (dA 1, (js_cp M), .inl (F 2))), ((A 3), .inl (dA 1, (js_cp M), .inl (F 3))), ((A 4), .inl (dA 1, (js_cp M), .inl (F 4))), ((A 5), .inl (dA 1, (js_cp M), .inl (F 5))), ((A 6), .inl (dA 1, (js_cp M), .inl (F 6))), ((A 7), .inl (dA 1, (js_cp M), .inl (F 7))), ((A 8), .inl (dA 1, (js_cp M), .inl (F 8))), ((A 9), .inl (dA 1, (js_cp M), .inl (F 9))), ((A 10), .inl (dA 3, (js_cu Mu), .inl (F 10))), (T2, .inr (6, [.ref (A2 0), .ref (A2 1), .ref (A2 2), .ref (A2 3), .ref (A2 4), .ref (A2 5), .ref (A2 6), .ref (A2 7), .ref (A2 8), .ref (A2 9), .int (nI c2), .ref (A2 10), .int (nI u2)])), ((A2 0), .inl (dA 1, (js_cp M2), .inl (F2 0))), ((A2 1), .inl (dA 2, (js_cp M2), .inr (.inl G2))), ((A2 2), .inl (dA 1, (js_cp M2), .inl (F2 2))), ((A2 3), .inl (dA 1, (js_cp M2), .inl (F2 3))), ((A2 4), .inl (dA 1, (js_cp M2), .inl (F2 4))), ((A2 5), .inl (dA 1, (js_cp M2), .inl (F2 5))), ((A2 6), .inl (dA 1, (js_cp M2), .inl (F2 6))), ((A2 7), .inl (dA 1, (js_cp M2), .inl (F2 7))), ((A2 8), .inl (dA 1, (js_cp M2), .inl (F2 8))), ((A2 9), .inl (dA 1, (js_cp M2), .inl (F2 9))), ((A2 10), .inl (dA 3, (js_cu Mu2), .inl (F2 10)))]) 0 0 := by
  refine jv_M.of [(0, .ref T), (1, .int (nI k)), (2, .ref T2), (3, .int (nI s)), (4, .int (nI us.length))] (by decide) (Nat.le_of_ble_eq_true rfl) rfl ?_
  intro pR eR sR mR belowR methR cR AR C hr hin
  obtain ⟨QR, hQ⟩ : ∃ QR, QR = jv_E D (jv_pi fun r (_ : Unit) => (∃ (i : Nat) (q : List Nat × js_J m), l0[i]? = some q ∧ q.1 = us ∧ r = nI (js_pos l0 (k + 1) i)) ∨ (r = -1 ∧ ∀ q ∈ l0, q.1 ≠ us)) (fun _ => [(T, .inr (6, [.ref (A 0), .ref (A 1), .ref (A 2), .ref (A 3), .ref (A 4), .ref (A 5), .ref (A 6), .ref (A 7), .ref (A 8), .ref (A 9), .int (nI c), .ref (A 10), .int (nI u)])), ((A 0), .inl (dA 1, (js_cp M), .inl (F 0))), ((A 1), .inl (dA 2, (js_cp M), .inr (.inl G))), ((A 2), .inl (dA 1, (js_cp M), .inl (F 2))), ((A 3), .inl (dA 1, (js_cp M), .inl (F 3))), ((A 4), .inl (dA 1, (js_cp M), .inl (F 4))), ((A 5), .inl (dA 1, (js_cp M), .inl (F 5))), ((A 6), .inl (dA 1, (js_cp M), .inl (F 6))), ((A 7), .inl (dA 1, (js_cp M), .inl (F 7))), ((A 8), .inl (dA 1, (js_cp M), .inl (F 8))), ((A 9), .inl (dA 1, (js_cp M), .inl (F 9))), ((A 10), .inl (dA 3, (js_cu Mu), .inl (F 10))), (T2, .inr (6, [.ref (A2 0), .ref (A2 1), .ref (A2 2), .ref (A2 3), .ref (A2 4), .ref (A2 5), .ref (A2 6), .ref (A2 7), .ref (A2 8), .ref (A2 9), .int (nI c2), .ref (A2 10), .int (nI u2)])), ((A2 0), .inl (dA 1, (js_cp M2), .inl (F2 0))), ((A2 1), .inl (dA 2, (js_cp M2), .inr (.inl G2))), ((A2 2), .inl (dA 1, (js_cp M2), .inl (F2 2))), ((A2 3), .inl (dA 1, (js_cp M2), .inl (F2 3))), ((A2 4), .inl (dA 1, (js_cp M2), .inl (F2 4))), ((A2 5), .inl (dA 1, (js_cp M2), .inl (F2 5))), ((A2 6), .inl (dA 1, (js_cp M2), .inl (F2 6))), ((A2 7), .inl (dA 1, (js_cp M2), .inl (F2 7))), ((A2 8), .inl (dA 1, (js_cp M2), .inl (F2 8))), ((A2 9), .inl (dA 1, (js_cp M2), .inl (F2 9))), ((A2 10), .inl (dA 3, (js_cu Mu2), .inl (F2 10)))]) belowR ([.ref T, .int (nI k), .ref T2, .int (nI s), .int (nI us.length)] : List Value).toArray sR AR 0 0 := ⟨_, rfl⟩
  rw [← hQ]
  have hb := js_cp_b M
  have hb2 := js_cu_b Mu
  have hb3 := js_cu_b Mu2
  have hc0 := js_cnt_pos (m + 1) (Sum.inr (true, l0))
  refine jv_aload_n C (jd D_Tr_find 0 rfl) rfl 0 rfl ?_
  refine jv_get C fl_Tr_25 0 rfl rfl (jd D_Tr_find 1 rfl) ?_
  refine jv_iload_n C (jd D_Tr_find 2 rfl) rfl 1 rfl ?_
  refine jv_iald C 5 rfl (vp_in_nI (by omega) (by omega)) (jd D_Tr_find 3 rfl) ?_
  refine jv_ati (y := js_kx l0 k 0) (by rw [nI_clamp (by omega)]; exact js_TV_k0 hv) ?_
  refine jv_istore C [(5, .int (js_kx l0 k 0)), (0, .ref T), (1, .int (nI k)), (2, .ref T2), (3, .int (nI s)), (4, .int (nI us.length))] (jd D_Tr_find 4 rfl) (by decide) rfl ?_
  have hL8 : ∀ (n : Nat) (i0 : Nat), i0 ≤ l0.length → l0.length + 1 ≤ i0 + n → (∀ (j : Nat) (q : List Nat × js_J m), j < i0 → l0[j]? = some q → q.1 ≠ us) → jv_V pR l eR (jv_rm 2 0 0) sR mR ([.ref T, .int (nI k), .ref T2, .int (nI s), .int (nI us.length)] : List Value).toArray belowR methR cR 0 0 QR D AR 6 [(T, .inr (6, [.ref (A 0), .ref (A 1), .ref (A 2), .ref (A 3), .ref (A 4), .ref (A 5), .ref (A 6), .ref (A 7), .ref (A 8), .ref (A 9), .int (nI c), .ref (A 10), .int (nI u)])), ((A 0), .inl (dA 1, (js_cp M), .inl (F 0))), ((A 1), .inl (dA 2, (js_cp M), .inr (.inl G))), ((A 2), .inl (dA 1, (js_cp M), .inl (F 2))), ((A 3), .inl (dA 1, (js_cp M), .inl (F 3))), ((A 4), .inl (dA 1, (js_cp M), .inl (F 4))), ((A 5), .inl (dA 1, (js_cp M), .inl (F 5))), ((A 6), .inl (dA 1, (js_cp M), .inl (F 6))), ((A 7), .inl (dA 1, (js_cp M), .inl (F 7))), ((A 8), .inl (dA 1, (js_cp M), .inl (F 8))), ((A 9), .inl (dA 1, (js_cp M), .inl (F 9))), ((A 10), .inl (dA 3, (js_cu Mu), .inl (F 10))), (T2, .inr (6, [.ref (A2 0), .ref (A2 1), .ref (A2 2), .ref (A2 3), .ref (A2 4), .ref (A2 5), .ref (A2 6), .ref (A2 7), .ref (A2 8), .ref (A2 9), .int (nI c2), .ref (A2 10), .int (nI u2)])), ((A2 0), .inl (dA 1, (js_cp M2), .inl (F2 0))), ((A2 1), .inl (dA 2, (js_cp M2), .inr (.inl G2))), ((A2 2), .inl (dA 1, (js_cp M2), .inl (F2 2))), ((A2 3), .inl (dA 1, (js_cp M2), .inl (F2 3))), ((A2 4), .inl (dA 1, (js_cp M2), .inl (F2 4))), ((A2 5), .inl (dA 1, (js_cp M2), .inl (F2 5))), ((A2 6), .inl (dA 1, (js_cp M2), .inl (F2 6))), ((A2 7), .inl (dA 1, (js_cp M2), .inl (F2 7))), ((A2 8), .inl (dA 1, (js_cp M2), .inl (F2 8))), ((A2 9), .inl (dA 1, (js_cp M2), .inl (F2 9))), ((A2 10), .inl (dA 3, (js_cu Mu2), .inl (F2 10)))] [(0, .ref T), (1, .int (nI k)), (2, .ref T2), (3, .int (nI s)), (4, .int (nI us.length)), (5, .int (js_kx l0 k i0))] 8 [] := by
    intro n
    induction n with
    | zero =>
      intro i0 h0 h1
      exact absurd h1 (by omega)
    | succ n ih =>
      intro i0 hi0 hm hi
      refine jv_iload C (jd D_Tr_find 5 rfl) 5 rfl ?_
      refine jv_if_lt (tgt := 41) C (jd D_Tr_find 6 rfl) (by decide) (fun c10 => ?_) (fun c10 => ?_)
      · refine jv_iconst (v := -1) C (jd D_Tr_find 22 rfl) (by decide) ?_
        rw [hQ]
        exact jv_iret C hr () (Or.inr ⟨rfl, fun q hq => by
    obtain ⟨j, hj⟩ := List.getElem?_of_mem hq
    have hjl := (List.getElem?_eq_some_iff.mp hj).1
    refine hi j q ?_ hj
    rcases Nat.lt_or_ge i0 l0.length with y | y
    · have hpb := js_pos_b (b := true) (k := k) y
      have hcp := js_cnt_pos m l0[i0].2
      exact absurd (js_kx_neg c10 (by omega)) (by omega)
    · omega⟩) rfl [0, 1, 2, 3, 4, 5, 6, 7, 8, 9, 10, 11, 12, 13, 14, 15, 16, 17, 18, 19, 20, 21, 22, 23] rfl rfl (Nat.le_of_ble_eq_true rfl) (Nat.le_of_ble_eq_true rfl) (jd D_Tr_find 23 rfl)
      · have hlt : i0 < l0.length := js_kx_pos c10
        have hpb := js_pos_b (b := true) (k := k) hlt
        have hcp := js_cnt_pos m l0[i0].2
        have hkid := js_TV_kid hv hlt
        rw [js_kx_in hlt]
        refine jv_aload_n C (jd D_Tr_find 7 rfl) rfl 0 rfl ?_
        refine jv_iload C (jd D_Tr_find 8 rfl) 5 rfl ?_
        refine jv_aload_n C (jd D_Tr_find 9 rfl) rfl 2 rfl ?_
        refine jv_iload_n C (jd D_Tr_find 10 rfl) rfl 3 rfl ?_
        refine jv_iload C (jd D_Tr_find 11 rfl) 4 rfl ?_
        refine jv_callV (wr := []) C cl_Tr_58 (c_Tr_named_t T A M Mu F G c u T2 A2 M2 Mu2 F2 G2 c2 u2 (js_pos l0 (k + 1) i0) s l0[i0].1 us hM hU hU2 (by omega) (hkid.2.2 rfl) ht (hn _ (List.getElem_mem hlt)) hu) [0, 1, 2, 3, 4, 5, 6, 7, 8, 9, 10, 11, 12, 13, 14, 15, 16, 17, 18, 19, 20, 21, 22, 23] [] rfl rfl rfl rfl (by decide) rfl rfl 0 rfl ⟨Nat.le_of_ble_eq_true rfl, Nat.le_of_ble_eq_true rfl⟩ ⟨Nat.le_of_ble_eq_true rfl, Nat.le_of_ble_eq_true rfl⟩ rfl rfl (Nat.le_of_ble_eq_true rfl) (jd D_Tr_find 12 rfl) (fun v1 _ k1 => ?_)
        obtain ⟨r1, rfl, k1⟩ := k1
        refine jv_fix [0, 1, 2, 3, 4, 5, 6, 7, 8, 9, 10, 11, 12, 13, 14, 15, 16, 17, 18, 19, 20, 21, 22, 23] [(T, .inr (6, [.ref (A 0), .ref (A 1), .ref (A 2), .ref (A 3), .ref (A 4), .ref (A 5), .ref (A 6), .ref (A 7), .ref (A 8), .ref (A 9), .int (nI c), .ref (A 10), .int (nI u)])), ((A 0), .inl (dA 1, (js_cp M), .inl (F 0))), ((A 1), .inl (dA 2, (js_cp M), .inr (.inl G))), ((A 2), .inl (dA 1, (js_cp M), .inl (F 2))), ((A 3), .inl (dA 1, (js_cp M), .inl (F 3))), ((A 4), .inl (dA 1, (js_cp M), .inl (F 4))), ((A 5), .inl (dA 1, (js_cp M), .inl (F 5))), ((A 6), .inl (dA 1, (js_cp M), .inl (F 6))), ((A 7), .inl (dA 1, (js_cp M), .inl (F 7))), ((A 8), .inl (dA 1, (js_cp M), .inl (F 8))), ((A 9), .inl (dA 1, (js_cp M), .inl (F 9))), ((A 10), .inl (dA 3, (js_cu Mu), .inl (F 10))), (T2, .inr (6, [.ref (A2 0), .ref (A2 1), .ref (A2 2), .ref (A2 3), .ref (A2 4), .ref (A2 5), .ref (A2 6), .ref (A2 7), .ref (A2 8), .ref (A2 9), .int (nI c2), .ref (A2 10), .int (nI u2)])), ((A2 0), .inl (dA 1, (js_cp M2), .inl (F2 0))), ((A2 1), .inl (dA 2, (js_cp M2), .inr (.inl G2))), ((A2 2), .inl (dA 1, (js_cp M2), .inl (F2 2))), ((A2 3), .inl (dA 1, (js_cp M2), .inl (F2 3))), ((A2 4), .inl (dA 1, (js_cp M2), .inl (F2 4))), ((A2 5), .inl (dA 1, (js_cp M2), .inl (F2 5))), ((A2 6), .inl (dA 1, (js_cp M2), .inl (F2 6))), ((A2 7), .inl (dA 1, (js_cp M2), .inl (F2 7))), ((A2 8), .inl (dA 1, (js_cp M2), .inl (F2 8))), ((A2 9), .inl (dA 1, (js_cp M2), .inl (F2 9))), ((A2 10), .inl (dA 3, (js_cu Mu2), .inl (F2 10)))] [.int r1] 0 0 rfl rfl rfl (Nat.le_refl _) (Nat.le_refl _) ?_
        refine jv_if_eq (tgt := 29) C (jd D_Tr_find 13 rfl) (by decide) (fun c23 => ?_) (fun c23 => ?_)
        · have hneg : l0[i0].1 ≠ us := by
            rcases k1 with q | q
            · exact absurd (q.1.symm.trans c23) (by decide)
            · exact q.2
          refine jv_aload_n C (jd D_Tr_find 16 rfl) rfl 0 rfl ?_
          refine jv_get C fl_Tr_28 0 rfl rfl (jd D_Tr_find 17 rfl) ?_
          refine jv_iload C (jd D_Tr_find 18 rfl) 5 rfl ?_
          refine jv_iald C 6 rfl (vp_in_nI (by omega) (by omega)) (jd D_Tr_find 19 rfl) ?_
          refine jv_ati (y := js_kx l0 k (i0 + 1)) (by rw [nI_clamp (by omega)]; exact hkid.2.1) ?_
          refine jv_istore C [(5, .int (js_kx l0 k (i0 + 1))), (0, .ref T), (1, .int (nI k)), (2, .ref T2), (3, .int (nI s)), (4, .int (nI us.length))] (jd D_Tr_find 20 rfl) (by decide) rfl ?_
          refine jv_goto (tgt := 8) C (jd D_Tr_find 21 rfl) (by decide) ?_
          refine jv_lvsub [1, 2, 3, 4, 5, 0] rfl ?_
          exact ih (i0 + 1) (by omega) (by omega) (fun j q hj hq => by
            rcases Nat.lt_or_ge j i0 with y | y
            · exact hi j q y hq
            · have : j = i0 := by omega
              rw [this, List.getElem?_eq_getElem hlt] at hq
              cases hq
              exact hneg)
        · have hpos : l0[i0].1 = us := by
            rcases k1 with q | q
            · exact q.2
            · exact absurd q.1 c23
          refine jv_iload C (jd D_Tr_find 14 rfl) 5 rfl ?_
          rw [hQ]
          exact jv_iret C hr () (Or.inl ⟨i0, l0[i0], List.getElem?_eq_getElem hlt, hpos, rfl⟩) rfl [0, 1, 2, 3, 4, 5, 6, 7, 8, 9, 10, 11, 12, 13, 14, 15, 16, 17, 18, 19, 20, 21, 22, 23] rfl rfl (Nat.le_of_ble_eq_true rfl) (Nat.le_of_ble_eq_true rfl) (jd D_Tr_find 15 rfl)
  refine jv_lvsub [1, 2, 3, 4, 5, 0] rfl ?_
  exact hL8 (l0.length + 1) 0 (Nat.zero_le _) (by omega) (fun j q hj => absurd hj (Nat.not_lt_zero _))

set_option maxHeartbeats 4000000 in
set_option maxRecDepth 100000 in
/-- size -/
theorem c_Tr_size {l : Launch} {D : va_G} {dA : Nat → ClassId} {zz : (Nat → Nat) × (Nat → Nat)} (T : Nat) (A : Nat → Nat) (M Mu : Nat) (F : Nat → Nat → Int32) (G : Nat → Int64) (c u : Nat) (m k : Nat) (b : Bool) (l0 : List (List Nat × js_J m)) (hM : c ≤ js_cp M) (hv : js_TV F G u (m + 1) (Sum.inr (b, l0)) k) (hk : k + js_cnt (m + 1) (Sum.inr (b, l0)) ≤ c) : jv_M l D dA zz y_Tr_size b_Tr_size 4 (some (FieldType.int)) 1 [.ref T, .int (nI k)] [(T, .inr (6, [.ref (A 0), .ref (A 1), .ref (A 2), .ref (A 3), .ref (A 4), .ref (A 5), .ref (A 6), .ref (A 7), .ref (A 8), .ref (A 9), .int (nI c), .ref (A 10), .int (nI u)])), ((A 0), .inl (dA 1, (js_cp M), .inl (F 0))), ((A 1), .inl (dA 2, (js_cp M), .inr (.inl G))), ((A 2), .inl (dA 1, (js_cp M), .inl (F 2))), ((A 3), .inl (dA 1, (js_cp M), .inl (F 3))), ((A 4), .inl (dA 1, (js_cp M), .inl (F 4))), ((A 5), .inl (dA 1, (js_cp M), .inl (F 5))), ((A 6), .inl (dA 1, (js_cp M), .inl (F 6))), ((A 7), .inl (dA 1, (js_cp M), .inl (F 7))), ((A 8), .inl (dA 1, (js_cp M), .inl (F 8))), ((A 9), .inl (dA 1, (js_cp M), .inl (F 9))), ((A 10), .inl (dA 3, (js_cu Mu), .inl (F 10)))] (jv_pi fun r (_ : Unit) => r = nI l0.length) (fun _ => [(T, .inr (6, [.ref (A 0), .ref (A 1), .ref (A 2), .ref (A 3), .ref (A 4), .ref (A 5), .ref (A 6), .ref (A 7), .ref (A 8), .ref (A 9), .int (nI c), .ref (A 10), .int (nI u)])), ((A 0), .inl (dA 1, (js_cp M), .inl (F 0))), ((A 1), .inl (dA 2, (js_cp M), .inr (.inl G))), ((A 2), .inl (dA 1, (js_cp M), .inl (F 2))), ((A 3), .inl (dA 1, (js_cp M), .inl (F 3))), ((A 4), .inl (dA 1, (js_cp M), .inl (F 4))), ((A 5), .inl (dA 1, (js_cp M), .inl (F 5))), ((A 6), .inl (dA 1, (js_cp M), .inl (F 6))), ((A 7), .inl (dA 1, (js_cp M), .inl (F 7))), ((A 8), .inl (dA 1, (js_cp M), .inl (F 8))), ((A 9), .inl (dA 1, (js_cp M), .inl (F 9))), ((A 10), .inl (dA 3, (js_cu Mu), .inl (F 10)))]) 0 0 := by
  refine jv_M.of [(0, .ref T), (1, .int (nI k))] (by decide) (Nat.le_of_ble_eq_true rfl) rfl ?_
  intro pR eR sR mR belowR methR cR AR C hr hin
  obtain ⟨QR, hQ⟩ : ∃ QR, QR = jv_E D (jv_pi fun r (_ : Unit) => r = nI l0.length) (fun _ => [(T, .inr (6, [.ref (A 0), .ref (A 1), .ref (A 2), .ref (A 3), .ref (A 4), .ref (A 5), .ref (A 6), .ref (A 7), .ref (A 8), .ref (A 9), .int (nI c), .ref (A 10), .int (nI u)])), ((A 0), .inl (dA 1, (js_cp M), .inl (F 0))), ((A 1), .inl (dA 2, (js_cp M), .inr (.inl G))), ((A 2), .inl (dA 1, (js_cp M), .inl (F 2))), ((A 3), .inl (dA 1, (js_cp M), .inl (F 3))), ((A 4), .inl (dA 1, (js_cp M), .inl (F 4))), ((A 5), .inl (dA 1, (js_cp M), .inl (F 5))), ((A 6), .inl (dA 1, (js_cp M), .inl (F 6))), ((A 7), .inl (dA 1, (js_cp M), .inl (F 7))), ((A 8), .inl (dA 1, (js_cp M), .inl (F 8))), ((A 9), .inl (dA 1, (js_cp M), .inl (F 9))), ((A 10), .inl (dA 3, (js_cu Mu), .inl (F 10)))]) belowR ([.ref T, .int (nI k)] : List Value).toArray sR AR 0 0 := ⟨_, rfl⟩
  rw [← hQ]
  have hb := js_cp_b M
  have hc0 := js_cnt_pos (m + 1) (Sum.inr (b, l0))
  have hll := js_cnt_l l0
  have hcn := js_cnt_inr b l0
  refine jv_iconst (v := 0) C (jd D_Tr_size 0 rfl) (by decide) ?_
  refine jv_istore_n C [(2, .int 0), (0, .ref T), (1, .int (nI k))] (jd D_Tr_size 1 rfl) rfl (by decide) rfl ?_
  refine jv_aload_n C (jd D_Tr_size 2 rfl) rfl 1 rfl ?_
  refine jv_get C fl_Tr_25 0 rfl rfl (jd D_Tr_size 3 rfl) ?_
  refine jv_iload_n C (jd D_Tr_size 4 rfl) rfl 2 rfl ?_
  refine jv_iald C 5 rfl (vp_in_nI (by omega) (by omega)) (jd D_Tr_size 5 rfl) ?_
  refine jv_ati (y := js_kx l0 k 0) (by rw [nI_clamp (by omega)]; exact js_TV_k0 hv) ?_
  refine jv_istore_n C [(3, .int (js_kx l0 k 0)), (2, .int 0), (0, .ref T), (1, .int (nI k))] (jd D_Tr_size 6 rfl) rfl (by decide) rfl ?_
  have hL9 : ∀ (n : Nat) (i0 : Nat), i0 ≤ l0.length → l0.length + 1 ≤ i0 + n → jv_V pR l eR (jv_rm 1 0 0) sR mR ([.ref T, .int (nI k)] : List Value).toArray belowR methR cR 0 0 QR D AR 4 [(T, .inr (6, [.ref (A 0), .ref (A 1), .ref (A 2), .ref (A 3), .ref (A 4), .ref (A 5), .ref (A 6), .ref (A 7), .ref (A 8), .ref (A 9), .int (nI c), .ref (A 10), .int (nI u)])), ((A 0), .inl (dA 1, (js_cp M), .inl (F 0))), ((A 1), .inl (dA 2, (js_cp M), .inr (.inl G))), ((A 2), .inl (dA 1, (js_cp M), .inl (F 2))), ((A 3), .inl (dA 1, (js_cp M), .inl (F 3))), ((A 4), .inl (dA 1, (js_cp M), .inl (F 4))), ((A 5), .inl (dA 1, (js_cp M), .inl (F 5))), ((A 6), .inl (dA 1, (js_cp M), .inl (F 6))), ((A 7), .inl (dA 1, (js_cp M), .inl (F 7))), ((A 8), .inl (dA 1, (js_cp M), .inl (F 8))), ((A 9), .inl (dA 1, (js_cp M), .inl (F 9))), ((A 10), .inl (dA 3, (js_cu Mu), .inl (F 10)))] [(0, .ref T), (1, .int (nI k)), (2, .int (nI i0)), (3, .int (js_kx l0 k i0))] 9 [] := by
    intro n
    induction n with
    | zero =>
      intro i0 h0 h1
      exact absurd h1 (by omega)
    | succ n ih =>
      intro i0 hi0 hm
      refine jv_iload_n C (jd D_Tr_size 7 rfl) rfl 3 rfl ?_
      refine jv_if_lt (tgt := 26) C (jd D_Tr_size 8 rfl) (by decide) (fun c10 => ?_) (fun c10 => ?_)
      · refine jv_iload_n C (jd D_Tr_size 16 rfl) rfl 2 rfl ?_
        rw [hQ]
        exact jv_iret C hr () (by
    rcases Nat.lt_or_ge i0 l0.length with y | y
    · have hpb := js_pos_b (b := b) (k := k) y
      have hcp := js_cnt_pos m l0[i0].2
      exact absurd (js_kx_neg c10 (by omega)) (by omega)
    · rw [show i0 = l0.length by omega]) rfl [0, 1, 2, 3, 4, 5, 6, 7, 8, 9, 10, 11] rfl rfl (Nat.le_of_ble_eq_true rfl) (Nat.le_of_ble_eq_true rfl) (jd D_Tr_size 17 rfl)
      · have hlt : i0 < l0.length := js_kx_pos c10
        have hpb := js_pos_b (b := b) (k := k) hlt
        have hcp := js_cnt_pos m l0[i0].2
        have hkid := js_TV_kid hv hlt
        rw [js_kx_in hlt]
        refine jv_iinc (v := nI (i0 + 1)) C [(2, .int (nI (i0 + 1))), (0, .ref T), (1, .int (nI k)), (3, .int (nI (js_pos l0 (k + 1) i0)))] (jd D_Tr_size 9 rfl) 2 rfl (nI_1 i0) (by decide) rfl ?_
        refine jv_aload_n C (jd D_Tr_size 10 rfl) rfl 1 rfl ?_
        refine jv_get C fl_Tr_28 0 rfl rfl (jd D_Tr_size 11 rfl) ?_
        refine jv_iload_n C (jd D_Tr_size 12 rfl) rfl 3 rfl ?_
        refine jv_iald C 6 rfl (vp_in_nI (by omega) (by omega)) (jd D_Tr_size 13 rfl) ?_
        refine jv_ati (y := js_kx l0 k (i0 + 1)) (by rw [nI_clamp (by omega)]; exact hkid.2.1) ?_
        refine jv_istore_n C [(3, .int (js_kx l0 k (i0 + 1))), (2, .int (nI (i0 + 1))), (0, .ref T), (1, .int (nI k))] (jd D_Tr_size 14 rfl) rfl (by decide) rfl ?_
        refine jv_goto (tgt := 9) C (jd D_Tr_size 15 rfl) (by decide) ?_
        refine jv_lvsub [2, 3, 1, 0] rfl ?_
        exact ih (i0 + 1) (by omega) (by omega)
  refine jv_lvsub [2, 3, 1, 0] rfl ?_
  exact hL9 (l0.length + 1) 0 (Nat.zero_le _) (by omega)

set_option maxHeartbeats 4000000 in
set_option maxRecDepth 100000 in
/-- depth of a leaf -/
theorem c_Tr_depth_leaf {l : Launch} {D : va_G} {dA : Nat → ClassId} {zz : (Nat → Nat) × (Nat → Nat)} (T : Nat) (A : Nat → Nat) (M Mu : Nat) (F : Nat → Nat → Int32) (G : Nat → Int64) (c u : Nat) (m k kk : Nat) (hM : c ≤ js_cp M) (hk : k < c) (h4 : F 4 k = -1) (h0 : F 0 k = nI kk) (hkk : kk < 5) : jv_M l D dA zz y_Tr_depth b_Tr_depth 5 (some (FieldType.int)) (m + 1) [.ref T, .int (nI k)] [(T, .inr (6, [.ref (A 0), .ref (A 1), .ref (A 2), .ref (A 3), .ref (A 4), .ref (A 5), .ref (A 6), .ref (A 7), .ref (A 8), .ref (A 9), .int (nI c), .ref (A 10), .int (nI u)])), ((A 0), .inl (dA 1, (js_cp M), .inl (F 0))), ((A 1), .inl (dA 2, (js_cp M), .inr (.inl G))), ((A 2), .inl (dA 1, (js_cp M), .inl (F 2))), ((A 3), .inl (dA 1, (js_cp M), .inl (F 3))), ((A 4), .inl (dA 1, (js_cp M), .inl (F 4))), ((A 5), .inl (dA 1, (js_cp M), .inl (F 5))), ((A 6), .inl (dA 1, (js_cp M), .inl (F 6))), ((A 7), .inl (dA 1, (js_cp M), .inl (F 7))), ((A 8), .inl (dA 1, (js_cp M), .inl (F 8))), ((A 9), .inl (dA 1, (js_cp M), .inl (F 9))), ((A 10), .inl (dA 3, (js_cu Mu), .inl (F 10)))] (jv_pi fun r (_ : Unit) => r = 0) (fun _ => [(T, .inr (6, [.ref (A 0), .ref (A 1), .ref (A 2), .ref (A 3), .ref (A 4), .ref (A 5), .ref (A 6), .ref (A 7), .ref (A 8), .ref (A 9), .int (nI c), .ref (A 10), .int (nI u)])), ((A 0), .inl (dA 1, (js_cp M), .inl (F 0))), ((A 1), .inl (dA 2, (js_cp M), .inr (.inl G))), ((A 2), .inl (dA 1, (js_cp M), .inl (F 2))), ((A 3), .inl (dA 1, (js_cp M), .inl (F 3))), ((A 4), .inl (dA 1, (js_cp M), .inl (F 4))), ((A 5), .inl (dA 1, (js_cp M), .inl (F 5))), ((A 6), .inl (dA 1, (js_cp M), .inl (F 6))), ((A 7), .inl (dA 1, (js_cp M), .inl (F 7))), ((A 8), .inl (dA 1, (js_cp M), .inl (F 8))), ((A 9), .inl (dA 1, (js_cp M), .inl (F 9))), ((A 10), .inl (dA 3, (js_cu Mu), .inl (F 10)))]) 0 0 := by
  refine jv_M.of [(0, .ref T), (1, .int (nI k))] (by decide) (Nat.le_of_ble_eq_true rfl) rfl ?_
  intro pR eR sR mR belowR methR cR AR C hr hin
  have hb := js_cp_b M
  refine jv_iconst (v := 0) C (jd D_Tr_depth 0 rfl) (by decide) ?_
  refine jv_istore_n C [(2, .int 0), (0, .ref T), (1, .int (nI k))] (jd D_Tr_depth 1 rfl) rfl (by decide) rfl ?_
  refine jv_aload_n C (jd D_Tr_depth 2 rfl) rfl 1 rfl ?_
  refine jv_get C fl_Tr_25 0 rfl rfl (jd D_Tr_depth 3 rfl) ?_
  refine jv_iload_n C (jd D_Tr_depth 4 rfl) rfl 2 rfl ?_
  refine jv_iald C 5 rfl (vp_in_nI (by omega) (by omega)) (jd D_Tr_depth 5 rfl) ?_
  refine jv_ati (y := (-1)) (by rw [nI_clamp (by omega)]; exact h4) ?_
  refine jv_istore_n C [(3, .int (-1)), (2, .int 0), (0, .ref T), (1, .int (nI k))] (jd D_Tr_depth 6 rfl) rfl (by decide) rfl ?_
  refine jv_iload_n C (jd D_Tr_depth 7 rfl) rfl 0 rfl ?_
  refine jv_if_lt (tgt := 39) C (jd D_Tr_depth 8 rfl) (by decide) (fun c10 => ?_) (fun c10 => absurd (by decide) c10)
  refine jv_aload_n C (jd D_Tr_depth 24 rfl) rfl 2 rfl ?_
  refine jv_get C fl_Tr_9 0 rfl rfl (jd D_Tr_depth 25 rfl) ?_
  refine jv_iload_n C (jd D_Tr_depth 26 rfl) rfl 3 rfl ?_
  refine jv_iald C 1 rfl (vp_in_nI (by omega) (by omega)) (jd D_Tr_depth 27 rfl) ?_
  refine jv_ati (y := nI kk) (by rw [nI_clamp (by omega)]; exact h0) ?_
  refine jv_iconst (v := 5) C (jd D_Tr_depth 28 rfl) (by decide) ?_
  refine jv_icmp_lt (tgt := 55) C (jd D_Tr_depth 29 rfl) (by decide) (fun c46 => ?_) (fun c46 => absurd (nI_lt (b := 5) hkk (by decide)) c46)
  refine jv_iload_n C (jd D_Tr_depth 34 rfl) rfl 1 rfl ?_
  exact jv_iret C hr () (rfl) rfl [0, 1, 2, 3, 4, 5, 6, 7, 8, 9, 10, 11] rfl rfl (Nat.le_of_ble_eq_true rfl) (Nat.le_of_ble_eq_true rfl) (jd D_Tr_depth 35 rfl)

set_option maxHeartbeats 4000000 in
set_option maxRecDepth 100000 in
/-- depth of members -/
theorem c_Tr_depth_comp {l : Launch} {D : va_G} {dA : Nat → ClassId} {zz : (Nat → Nat) × (Nat → Nat)} (T : Nat) (A : Nat → Nat) (M Mu : Nat) (F : Nat → Nat → Int32) (G : Nat → Int64) (c u : Nat) (m k : Nat) (b : Bool) (l0 : List (List Nat × js_J m)) (hM : c ≤ js_cp M) (hv : js_TV F G u (m + 1) (Sum.inr (b, l0)) k) (hk : k + js_cnt (m + 1) (Sum.inr (b, l0)) ≤ c) (hm2 : m ≤ 64) (hok : ∀ q ∈ l0, js_ok m q.2) (IH : ∀ (v : js_J m) (k : Nat), js_ok m v → js_TV F G u m v k → k + js_cnt m v ≤ c → jv_M l D dA zz y_Tr_depth b_Tr_depth 5 (some (FieldType.int)) (m + 1) [.ref T, .int (nI k)] [(T, .inr (6, [.ref (A 0), .ref (A 1), .ref (A 2), .ref (A 3), .ref (A 4), .ref (A 5), .ref (A 6), .ref (A 7), .ref (A 8), .ref (A 9), .int (nI c), .ref (A 10), .int (nI u)])), ((A 0), .inl (dA 1, (js_cp M), .inl (F 0))), ((A 1), .inl (dA 2, (js_cp M), .inr (.inl G))), ((A 2), .inl (dA 1, (js_cp M), .inl (F 2))), ((A 3), .inl (dA 1, (js_cp M), .inl (F 3))), ((A 4), .inl (dA 1, (js_cp M), .inl (F 4))), ((A 5), .inl (dA 1, (js_cp M), .inl (F 5))), ((A 6), .inl (dA 1, (js_cp M), .inl (F 6))), ((A 7), .inl (dA 1, (js_cp M), .inl (F 7))), ((A 8), .inl (dA 1, (js_cp M), .inl (F 8))), ((A 9), .inl (dA 1, (js_cp M), .inl (F 9))), ((A 10), .inl (dA 3, (js_cu Mu), .inl (F 10)))] (jv_pi fun r (_ : Unit) => r = nI (js_dep m v)) (fun _ => [(T, .inr (6, [.ref (A 0), .ref (A 1), .ref (A 2), .ref (A 3), .ref (A 4), .ref (A 5), .ref (A 6), .ref (A 7), .ref (A 8), .ref (A 9), .int (nI c), .ref (A 10), .int (nI u)])), ((A 0), .inl (dA 1, (js_cp M), .inl (F 0))), ((A 1), .inl (dA 2, (js_cp M), .inr (.inl G))), ((A 2), .inl (dA 1, (js_cp M), .inl (F 2))), ((A 3), .inl (dA 1, (js_cp M), .inl (F 3))), ((A 4), .inl (dA 1, (js_cp M), .inl (F 4))), ((A 5), .inl (dA 1, (js_cp M), .inl (F 5))), ((A 6), .inl (dA 1, (js_cp M), .inl (F 6))), ((A 7), .inl (dA 1, (js_cp M), .inl (F 7))), ((A 8), .inl (dA 1, (js_cp M), .inl (F 8))), ((A 9), .inl (dA 1, (js_cp M), .inl (F 9))), ((A 10), .inl (dA 3, (js_cu Mu), .inl (F 10)))]) 0 0) : jv_M l D dA zz y_Tr_depth b_Tr_depth 5 (some (FieldType.int)) (m + 2) [.ref T, .int (nI k)] [(T, .inr (6, [.ref (A 0), .ref (A 1), .ref (A 2), .ref (A 3), .ref (A 4), .ref (A 5), .ref (A 6), .ref (A 7), .ref (A 8), .ref (A 9), .int (nI c), .ref (A 10), .int (nI u)])), ((A 0), .inl (dA 1, (js_cp M), .inl (F 0))), ((A 1), .inl (dA 2, (js_cp M), .inr (.inl G))), ((A 2), .inl (dA 1, (js_cp M), .inl (F 2))), ((A 3), .inl (dA 1, (js_cp M), .inl (F 3))), ((A 4), .inl (dA 1, (js_cp M), .inl (F 4))), ((A 5), .inl (dA 1, (js_cp M), .inl (F 5))), ((A 6), .inl (dA 1, (js_cp M), .inl (F 6))), ((A 7), .inl (dA 1, (js_cp M), .inl (F 7))), ((A 8), .inl (dA 1, (js_cp M), .inl (F 8))), ((A 9), .inl (dA 1, (js_cp M), .inl (F 9))), ((A 10), .inl (dA 3, (js_cu Mu), .inl (F 10)))] (jv_pi fun r (_ : Unit) => r = nI (js_dep (m + 1) (Sum.inr (b, l0)))) (fun _ => [(T, .inr (6, [.ref (A 0), .ref (A 1), .ref (A 2), .ref (A 3), .ref (A 4), .ref (A 5), .ref (A 6), .ref (A 7), .ref (A 8), .ref (A 9), .int (nI c), .ref (A 10), .int (nI u)])), ((A 0), .inl (dA 1, (js_cp M), .inl (F 0))), ((A 1), .inl (dA 2, (js_cp M), .inr (.inl G))), ((A 2), .inl (dA 1, (js_cp M), .inl (F 2))), ((A 3), .inl (dA 1, (js_cp M), .inl (F 3))), ((A 4), .inl (dA 1, (js_cp M), .inl (F 4))), ((A 5), .inl (dA 1, (js_cp M), .inl (F 5))), ((A 6), .inl (dA 1, (js_cp M), .inl (F 6))), ((A 7), .inl (dA 1, (js_cp M), .inl (F 7))), ((A 8), .inl (dA 1, (js_cp M), .inl (F 8))), ((A 9), .inl (dA 1, (js_cp M), .inl (F 9))), ((A 10), .inl (dA 3, (js_cu Mu), .inl (F 10)))]) 0 0 := by
  refine jv_M.of [(0, .ref T), (1, .int (nI k))] (by decide) (Nat.le_of_ble_eq_true rfl) rfl ?_
  intro pR eR sR mR belowR methR cR AR C hr hin
  obtain ⟨QR, hQ⟩ : ∃ QR, QR = jv_E D (jv_pi fun r (_ : Unit) => r = nI (js_dep (m + 1) (Sum.inr (b, l0)))) (fun _ => [(T, .inr (6, [.ref (A 0), .ref (A 1), .ref (A 2), .ref (A 3), .ref (A 4), .ref (A 5), .ref (A 6), .ref (A 7), .ref (A 8), .ref (A 9), .int (nI c), .ref (A 10), .int (nI u)])), ((A 0), .inl (dA 1, (js_cp M), .inl (F 0))), ((A 1), .inl (dA 2, (js_cp M), .inr (.inl G))), ((A 2), .inl (dA 1, (js_cp M), .inl (F 2))), ((A 3), .inl (dA 1, (js_cp M), .inl (F 3))), ((A 4), .inl (dA 1, (js_cp M), .inl (F 4))), ((A 5), .inl (dA 1, (js_cp M), .inl (F 5))), ((A 6), .inl (dA 1, (js_cp M), .inl (F 6))), ((A 7), .inl (dA 1, (js_cp M), .inl (F 7))), ((A 8), .inl (dA 1, (js_cp M), .inl (F 8))), ((A 9), .inl (dA 1, (js_cp M), .inl (F 9))), ((A 10), .inl (dA 3, (js_cu Mu), .inl (F 10)))]) belowR ([.ref T, .int (nI k)] : List Value).toArray sR AR 0 0 := ⟨_, rfl⟩
  rw [← hQ]
  have hb := js_cp_b M
  have hc0 := js_cnt_pos (m + 1) (Sum.inr (b, l0))
  have hcn := js_cnt_inr b l0
  refine jv_iconst (v := 0) C (jd D_Tr_depth 0 rfl) (by decide) ?_
  refine jv_istore_n C [(2, .int 0), (0, .ref T), (1, .int (nI k))] (jd D_Tr_depth 1 rfl) rfl (by decide) rfl ?_
  refine jv_aload_n C (jd D_Tr_depth 2 rfl) rfl 1 rfl ?_
  refine jv_get C fl_Tr_25 0 rfl rfl (jd D_Tr_depth 3 rfl) ?_
  refine jv_iload_n C (jd D_Tr_depth 4 rfl) rfl 2 rfl ?_
  refine jv_iald C 5 rfl (vp_in_nI (by omega) (by omega)) (jd D_Tr_depth 5 rfl) ?_
  refine jv_ati (y := js_kx l0 k 0) (by rw [nI_clamp (by omega)]; exact js_TV_k0 hv) ?_
  refine jv_istore_n C [(3, .int (js_kx l0 k 0)), (2, .int 0), (0, .ref T), (1, .int (nI k))] (jd D_Tr_depth 6 rfl) rfl (by decide) rfl ?_
  have hL9 : ∀ (n : Nat) (i0 : Nat), i0 ≤ l0.length → l0.length + 1 ≤ i0 + n → jv_V pR l eR (jv_rm (m + 2) 0 0) sR mR ([.ref T, .int (nI k)] : List Value).toArray belowR methR cR 0 0 QR D AR 5 [(T, .inr (6, [.ref (A 0), .ref (A 1), .ref (A 2), .ref (A 3), .ref (A 4), .ref (A 5), .ref (A 6), .ref (A 7), .ref (A 8), .ref (A 9), .int (nI c), .ref (A 10), .int (nI u)])), ((A 0), .inl (dA 1, (js_cp M), .inl (F 0))), ((A 1), .inl (dA 2, (js_cp M), .inr (.inl G))), ((A 2), .inl (dA 1, (js_cp M), .inl (F 2))), ((A 3), .inl (dA 1, (js_cp M), .inl (F 3))), ((A 4), .inl (dA 1, (js_cp M), .inl (F 4))), ((A 5), .inl (dA 1, (js_cp M), .inl (F 5))), ((A 6), .inl (dA 1, (js_cp M), .inl (F 6))), ((A 7), .inl (dA 1, (js_cp M), .inl (F 7))), ((A 8), .inl (dA 1, (js_cp M), .inl (F 8))), ((A 9), .inl (dA 1, (js_cp M), .inl (F 9))), ((A 10), .inl (dA 3, (js_cu Mu), .inl (F 10)))] [(0, .ref T), (1, .int (nI k)), (2, .int (nI (js_mt l0 i0))), (3, .int (js_kx l0 k i0))] 9 [] := by
    intro n
    induction n with
    | zero =>
      intro i0 h0 h1
      exact absurd h1 (by omega)
    | succ n ih =>
      intro i0 hi0 hm
      refine jv_iload_n C (jd D_Tr_depth 7 rfl) rfl 3 rfl ?_
      refine jv_if_lt (tgt := 39) C (jd D_Tr_depth 8 rfl) (by decide) (fun c10 => ?_) (fun c10 => ?_)
      · refine jv_aload_n C (jd D_Tr_depth 24 rfl) rfl 0 rfl ?_
        refine jv_get C fl_Tr_9 0 rfl rfl (jd D_Tr_depth 25 rfl) ?_
        refine jv_iload_n C (jd D_Tr_depth 26 rfl) rfl 1 rfl ?_
        refine jv_iald C 1 rfl (vp_in_nI (by omega) (by omega)) (jd D_Tr_depth 27 rfl) ?_
        refine jv_ati (y := (if b = true then 6 else 5)) (by rw [nI_clamp (by omega)]; exact hv.1) ?_
        refine jv_iconst (v := 5) C (jd D_Tr_depth 28 rfl) (by decide) ?_
        refine jv_icmp_lt (tgt := 55) C (jd D_Tr_depth 29 rfl) (by decide) (fun c46 => absurd c46 (by cases b <;> decide)) (fun c46 => ?_)
        refine jv_iload_n C (jd D_Tr_depth 30 rfl) rfl 2 rfl ?_
        refine jv_iconst (v := 1) C (jd D_Tr_depth 31 rfl) (by decide) ?_
        refine jv_iadd C (jd D_Tr_depth 32 rfl) ?_
        refine jv_ati (y := nI (js_mt l0 i0 + 1)) (nI_1 _) ?_
        refine jv_goto (tgt := 56) C (jd D_Tr_depth 33 rfl) (by decide) ?_
        rw [hQ]
        exact jv_iret C hr () (by
    rcases Nat.lt_or_ge i0 l0.length with y | y
    · have hpb := js_pos_b (b := b) (k := k) y
      have hcp := js_cnt_pos m l0[i0].2
      exact absurd (js_kx_neg c10 (by omega)) (by omega)
    · rw [js_mt_all (b := b) y]) rfl [0, 1, 2, 3, 4, 5, 6, 7, 8, 9, 10, 11] rfl rfl (Nat.le_of_ble_eq_true rfl) (Nat.le_of_ble_eq_true rfl) (jd D_Tr_depth 35 rfl)
      · have hlt : i0 < l0.length := js_kx_pos c10
        have hpb := js_pos_b (b := b) (k := k) hlt
        have hcp := js_cnt_pos m l0[i0].2
        have hkid := js_TV_kid hv hlt
        have hd1 := js_dep_le m l0[i0].2
        have hd2 := js_mt_le l0 i0
        have hd3 := js_mt_s hlt
        rw [js_kx_in hlt]
        refine jv_aload_n C (jd D_Tr_depth 9 rfl) rfl 0 rfl ?_
        refine jv_iload_n C (jd D_Tr_depth 10 rfl) rfl 3 rfl ?_
        refine jv_callV (wr := []) C cl_Tr_62 (IH l0[i0].2 (js_pos l0 (k + 1) i0) (hok _ (List.getElem_mem hlt)) hkid.1 (by omega)) [0, 1, 2, 3, 4, 5, 6, 7, 8, 9, 10, 11] [] rfl rfl rfl rfl (by decide) rfl rfl 0 rfl ⟨by simp only [jv_rm]; omega, by simp only [jv_rm]; omega⟩ ⟨Nat.le_of_ble_eq_true rfl, Nat.le_of_ble_eq_true rfl⟩ rfl rfl (Nat.le_of_ble_eq_true rfl) (jd D_Tr_depth 11 rfl) (fun v1 _ k1 => ?_)
        obtain ⟨r1, rfl, k1⟩ := k1
        refine jv_fix [0, 1, 2, 3, 4, 5, 6, 7, 8, 9, 10, 11] [(T, .inr (6, [.ref (A 0), .ref (A 1), .ref (A 2), .ref (A 3), .ref (A 4), .ref (A 5), .ref (A 6), .ref (A 7), .ref (A 8), .ref (A 9), .int (nI c), .ref (A 10), .int (nI u)])), ((A 0), .inl (dA 1, (js_cp M), .inl (F 0))), ((A 1), .inl (dA 2, (js_cp M), .inr (.inl G))), ((A 2), .inl (dA 1, (js_cp M), .inl (F 2))), ((A 3), .inl (dA 1, (js_cp M), .inl (F 3))), ((A 4), .inl (dA 1, (js_cp M), .inl (F 4))), ((A 5), .inl (dA 1, (js_cp M), .inl (F 5))), ((A 6), .inl (dA 1, (js_cp M), .inl (F 6))), ((A 7), .inl (dA 1, (js_cp M), .inl (F 7))), ((A 8), .inl (dA 1, (js_cp M), .inl (F 8))), ((A 9), .inl (dA 1, (js_cp M), .inl (F 9))), ((A 10), .inl (dA 3, (js_cu Mu), .inl (F 10)))] [.int r1] 0 0 rfl rfl rfl (Nat.le_refl _) (Nat.le_refl _) ?_
        subst k1
        refine jv_istore C [(4, .int (nI (js_dep m l0[i0].2))), (0, .ref T), (1, .int (nI k)), (2, .int (nI (js_mt l0 i0))), (3, .int (nI (js_pos l0 (k + 1) i0)))] (jd D_Tr_depth 12 rfl) (by decide) rfl ?_
        refine jv_iload C (jd D_Tr_depth 13 rfl) 0 rfl ?_
        refine jv_iload_n C (jd D_Tr_depth 14 rfl) rfl 3 rfl ?_
        refine jv_icmp_le (tgt := 29) C (jd D_Tr_depth 15 rfl) (by decide) (fun c23 => ?_) (fun c23 => ?_)
        · refine jv_lvsub [1, 2, 3, 4] rfl ?_
          have e29 : nI (js_mt l0 i0) = nI (js_mt l0 (i0 + 1)) := by
            rw [hd3]
            congr 1
            have := (nI_leI (by omega) (by omega)).mp c23
            omega
          rw [e29]
          refine jv_aload_n C (jd D_Tr_depth 18 rfl) rfl 0 rfl ?_
          refine jv_get C fl_Tr_28 0 rfl rfl (jd D_Tr_depth 19 rfl) ?_
          refine jv_iload_n C (jd D_Tr_depth 20 rfl) rfl 3 rfl ?_
          refine jv_iald C 6 rfl (vp_in_nI (by omega) (by omega)) (jd D_Tr_depth 21 rfl) ?_
          refine jv_ati (y := js_kx l0 k (i0 + 1)) (by rw [nI_clamp (by omega)]; exact hkid.2.1) ?_
          refine jv_istore_n C [(3, .int (js_kx l0 k (i0 + 1))), (0, .ref T), (1, .int (nI k)), (2, .int (nI (js_mt l0 (i0 + 1))))] (jd D_Tr_depth 22 rfl) rfl (by decide) rfl ?_
          refine jv_goto (tgt := 9) C (jd D_Tr_depth 23 rfl) (by decide) ?_
          refine jv_lvsub [1, 2, 3, 0] rfl ?_
          exact ih (i0 + 1) (by omega) (by omega)
        · refine jv_iload C (jd D_Tr_depth 16 rfl) 0 rfl ?_
          refine jv_istore_n C [(2, .int (nI (js_dep m l0[i0].2))), (4, .int (nI (js_dep m l0[i0].2))), (0, .ref T), (1, .int (nI k)), (3, .int (nI (js_pos l0 (k + 1) i0)))] (jd D_Tr_depth 17 rfl) rfl (by decide) rfl ?_
          refine jv_lvsub [0, 2, 3, 4] rfl ?_
          have e29 : nI (js_dep m l0[i0].2) = nI (js_mt l0 (i0 + 1)) := by
            rw [hd3]
            congr 1
            have h9 : ¬ js_dep m l0[i0].2 ≤ js_mt l0 i0 := fun z => c23 (nI_le z (by omega))
            omega
          rw [e29]
          refine jv_aload_n C (jd D_Tr_depth 18 rfl) rfl 1 rfl ?_
          refine jv_get C fl_Tr_28 0 rfl rfl (jd D_Tr_depth 19 rfl) ?_
          refine jv_iload_n C (jd D_Tr_depth 20 rfl) rfl 3 rfl ?_
          refine jv_iald C 6 rfl (vp_in_nI (by omega) (by omega)) (jd D_Tr_depth 21 rfl) ?_
          refine jv_ati (y := js_kx l0 k (i0 + 1)) (by rw [nI_clamp (by omega)]; exact hkid.2.1) ?_
          refine jv_istore_n C [(3, .int (js_kx l0 k (i0 + 1))), (2, .int (nI (js_mt l0 (i0 + 1)))), (0, .ref T), (1, .int (nI k))] (jd D_Tr_depth 22 rfl) rfl (by decide) rfl ?_
          refine jv_goto (tgt := 9) C (jd D_Tr_depth 23 rfl) (by decide) ?_
          refine jv_lvsub [2, 3, 1, 0] rfl ?_
          exact ih (i0 + 1) (by omega) (by omega)
  refine jv_lvsub [2, 3, 1, 0] rfl ?_
  exact hL9 (l0.length + 1) 0 (Nat.zero_le _) (by omega)

theorem c_Tr_depth {l : Launch} {D : va_G} {dA : Nat → ClassId} {zz : (Nat → Nat) × (Nat → Nat)} (T : Nat) (A : Nat → Nat) (M Mu : Nat) (F : Nat → Nat → Int32) (G : Nat → Int64) (c u : Nat) (hM : c ≤ js_cp M) : ∀ (m : Nat), m ≤ 64 → ∀ (v : js_J m) (k : Nat), js_ok m v → js_TV F G u m v k → k + js_cnt m v ≤ c → jv_M l D dA zz y_Tr_depth b_Tr_depth 5 (some (FieldType.int)) (m + 1) [.ref T, .int (nI k)] [(T, .inr (6, [.ref (A 0), .ref (A 1), .ref (A 2), .ref (A 3), .ref (A 4), .ref (A 5), .ref (A 6), .ref (A 7), .ref (A 8), .ref (A 9), .int (nI c), .ref (A 10), .int (nI u)])), ((A 0), .inl (dA 1, (js_cp M), .inl (F 0))), ((A 1), .inl (dA 2, (js_cp M), .inr (.inl G))), ((A 2), .inl (dA 1, (js_cp M), .inl (F 2))), ((A 3), .inl (dA 1, (js_cp M), .inl (F 3))), ((A 4), .inl (dA 1, (js_cp M), .inl (F 4))), ((A 5), .inl (dA 1, (js_cp M), .inl (F 5))), ((A 6), .inl (dA 1, (js_cp M), .inl (F 6))), ((A 7), .inl (dA 1, (js_cp M), .inl (F 7))), ((A 8), .inl (dA 1, (js_cp M), .inl (F 8))), ((A 9), .inl (dA 1, (js_cp M), .inl (F 9))), ((A 10), .inl (dA 3, (js_cu Mu), .inl (F 10)))] (jv_pi fun r (_ : Unit) => r = nI (js_dep m v)) (fun _ => [(T, .inr (6, [.ref (A 0), .ref (A 1), .ref (A 2), .ref (A 3), .ref (A 4), .ref (A 5), .ref (A 6), .ref (A 7), .ref (A 8), .ref (A 9), .int (nI c), .ref (A 10), .int (nI u)])), ((A 0), .inl (dA 1, (js_cp M), .inl (F 0))), ((A 1), .inl (dA 2, (js_cp M), .inr (.inl G))), ((A 2), .inl (dA 1, (js_cp M), .inl (F 2))), ((A 3), .inl (dA 1, (js_cp M), .inl (F 3))), ((A 4), .inl (dA 1, (js_cp M), .inl (F 4))), ((A 5), .inl (dA 1, (js_cp M), .inl (F 5))), ((A 6), .inl (dA 1, (js_cp M), .inl (F 6))), ((A 7), .inl (dA 1, (js_cp M), .inl (F 7))), ((A 8), .inl (dA 1, (js_cp M), .inl (F 8))), ((A 9), .inl (dA 1, (js_cp M), .inl (F 9))), ((A 10), .inl (dA 3, (js_cu Mu), .inl (F 10)))]) 0 0 := by
  intro m
  induction m with
  | zero =>
    intro _ v k hok hv hk
    obtain ⟨h4, kk, hkk, h0⟩ := js_TL_lf (x := v) hok hv
    exact c_Tr_depth_leaf T A M Mu F G c u 0 k kk hM (by have := js_cnt_pos 0 v; omega) h4 h0 hkk
  | succ m ih =>
    intro hm v k hok hv hk
    match v, hok, hv, hk with
    | Sum.inl x, hok, hv, hk =>
      obtain ⟨h4, kk, hkk, h0⟩ := js_TL_lf (x := x) hok hv
      exact c_Tr_depth_leaf T A M Mu F G c u (m + 1) k kk hM (by have := js_cnt_pos (m + 1) (Sum.inl x); omega) h4 h0 hkk
    | Sum.inr (b, l0), hok, hv, hk => exact c_Tr_depth_comp T A M Mu F G c u m k b l0 hM hv hk (by omega) hok.1 (ih (by omega))
