set_option maxHeartbeats 4000000 in
set_option maxRecDepth 100000 in
/-- Reader.string(next), where it is one -/
theorem c_Rd_string_ok {l : Launch} {D : va_G} {dA : Nat → ClassId} {zz : (Nat → Nat) × (Nat → Nat)} (o tp pp nn ob nb : Nat) (dp ub pl : Int32) (i : Nat) (tb N : Nat) (f : Nat → Int32) (t : List Nat) (pb M : Nat) (g : Nat → Int32) (pr : List Nat) (nx : Int32) (us : List Nat) (z : Nat) (hl : t.length ≤ N) (hN : N < 2 ^ 30) (ht : js_tx f t) (hM : M < 2 ^ 30) (htp : js_tx g pr) (hi : i < t.length) (hpi : pr.length ≤ i) (hNM : N ≤ M) (hN4 : N < 2 ^ 29) (hst : js_st t 4096 (i + 1) [] = .inr (us, z)) : jv_M l D dA zz y_Rd_string b_Rd_string 3 (some (FieldType.int)) 5 [.ref o, .int nx] [(o, .inr (2, [.ref tp, .ref pp, .ref nn, .ref ob, .ref nb, .int dp, .int (nI i), .int ub, .int pl])), (tp, .inr (0, [.ref tb, .int (nI t.length)])), (tb, .inl (dA 0, N, .inl f)), (pp, .inr (0, [.ref pb, .int (nI pr.length)])), (pb, .inl (dA 0, M, .inl g))] (jv_pi fun r (u : Int32 × (Nat → Int32)) => r = nx ∧ js_tx u.2 (pr ++ [34] ++ us.flatMap js_pu ++ [34])) (fun u => [(o, .inr (2, [.ref tp, .ref pp, .ref nn, .ref ob, .ref nb, .int dp, .int (nI z), .int u.1, .int pl])), (tp, .inr (0, [.ref tb, .int (nI t.length)])), (tb, .inl (dA 0, N, .inl f)), (pp, .inr (0, [.ref pb, .int (nI (pr ++ [34] ++ us.flatMap js_pu ++ [34]).length)])), (pb, .inl (dA 0, M, .inl u.2))]) 0 0 := by
  refine jv_M.of [(0, .ref o), (1, .int nx)] (by decide) (Nat.le_of_ble_eq_true rfl) rfl ?_
  intro pR eR sR mR belowR methR cR AR C hr hin
  obtain ⟨QR, hQ⟩ : ∃ QR, QR = jv_E D (jv_pi fun r (u : Int32 × (Nat → Int32)) => r = nx ∧ js_tx u.2 (pr ++ [34] ++ us.flatMap js_pu ++ [34])) (fun u => [(o, .inr (2, [.ref tp, .ref pp, .ref nn, .ref ob, .ref nb, .int dp, .int (nI z), .int u.1, .int pl])), (tp, .inr (0, [.ref tb, .int (nI t.length)])), (tb, .inl (dA 0, N, .inl f)), (pp, .inr (0, [.ref pb, .int (nI (pr ++ [34] ++ us.flatMap js_pu ++ [34]).length)])), (pb, .inl (dA 0, M, .inl u.2))]) belowR ([.ref o, .int nx] : List Value).toArray sR AR 0 0 := ⟨_, rfl⟩
  rw [← hQ]
  refine jv_aload_n C (jd D_Rd_string 0 rfl) rfl 0 rfl ?_
  refine jv_bipush (v := 34) C (jd D_Rd_string 1 rfl) (by decide) ?_
  refine jv_callV (wr := [(tp, .inr (0, [.ref tb, .int (nI t.length)])), (tb, .inl (dA 0, N, .inl f))]) C cl_Rd_112 (c_Rd_pass o tp pp nn ob nb dp ub pl i pb M g pr 34 (by omega) hM htp) [0, 3, 4] [1, 2] rfl rfl rfl rfl (by decide) rfl rfl 0 rfl ⟨Nat.le_of_ble_eq_true rfl, Nat.le_of_ble_eq_true rfl⟩ ⟨Nat.le_of_ble_eq_true rfl, Nat.le_of_ble_eq_true rfl⟩ rfl rfl (Nat.le_of_ble_eq_true rfl) (jd D_Rd_string 2 rfl) (fun v1 g1 k1 => ?_)
  obtain ⟨rfl, k1⟩ := k1
  refine jv_fix [2, 0, 1, 3, 4] [(o, .inr (2, [.ref tp, .ref pp, .ref nn, .ref ob, .ref nb, .int dp, .int (nI (i + 1)), .int ub, .int pl])), (tp, .inr (0, [.ref tb, .int (nI t.length)])), (tb, .inl (dA 0, N, .inl f)), (pp, .inr (0, [.ref pb, .int (nI (pr ++ [(34 : Int32).toBitVec.toNat % 256]).length)])), (pb, .inl (dA 0, M, .inl g1))] [] 0 0 rfl rfl rfl (Nat.le_refl _) (Nat.le_refl _) ?_
  have e34 : pr ++ [(34 : Int32).toBitVec.toNat % 256] = pr ++ [34] ++ ([] : List Nat).flatMap js_pu := by simp [show (34 : Int32).toBitVec.toNat % 256 = 34 from rfl]
  rw [e34] at k1
  refine jv_weq (ws' := [(o, .inr (2, [.ref tp, .ref pp, .ref nn, .ref ob, .ref nb, .int dp, .int (nI (i + 1)), .int ub, .int pl])), (tp, .inr (0, [.ref tb, .int (nI t.length)])), (tb, .inl (dA 0, N, .inl f)), (pp, .inr (0, [.ref pb, .int (nI (pr ++ [34] ++ ([] : List Nat).flatMap js_pu).length)])), (pb, .inl (dA 0, M, .inl g1))]) (by rw [e34]) ?_
  refine jv_iconst (v := 0) C (jd D_Rd_string 3 rfl) (by decide) ?_
  refine jv_istore_n C [(2, .int 0), (0, .ref o), (1, .int nx)] (jd D_Rd_string 4 rfl) rfl (by decide) rfl ?_
  have hL8 : ∀ (n : Nat) (k p : Nat) (us : List Nat) (ub2 : Int32) (g2 : Nat → Int32), k ≤ 4096 → 4097 ≤ k + n → i + 1 ≤ p → p ≤ t.length → (pr ++ [34] ++ us.flatMap js_pu).length ≤ p → js_tx g2 (pr ++ [34] ++ us.flatMap js_pu) → js_st t (4096 - k) p us = js_st t 4096 (i + 1) [] → jv_V pR l eR (jv_rm 5 0 0) sR mR ([.ref o, .int nx] : List Value).toArray belowR methR cR 0 0 QR D AR 3 [(o, .inr (2, [.ref tp, .ref pp, .ref nn, .ref ob, .ref nb, .int dp, .int (nI p), .int ub2, .int pl])), (tp, .inr (0, [.ref tb, .int (nI t.length)])), (tb, .inl (dA 0, N, .inl f)), (pp, .inr (0, [.ref pb, .int (nI (pr ++ [34] ++ us.flatMap js_pu).length)])), (pb, .inl (dA 0, M, .inl g2))] [(0, .ref o), (1, .int nx), (2, .int (nI k))] 8 [] := by
    intro n
    induction n with
    | zero =>
      intro k p us ub2 g2 h1 h2
      exact absurd h2 (by omega)
    | succ n ih =>
      intro k p us ub2 g2 hk hm hip hp hle htx hst2
      refine jv_iload_n C (jd D_Rd_string 5 rfl) rfl 2 rfl ?_
      refine jv_sipush (v := 4096) C (jd D_Rd_string 6 rfl) (by decide) ?_
      refine jv_icmp_ge (tgt := 69) C (jd D_Rd_string 7 rfl) (by decide) (fun c12 => ?_) (fun c12 => ?_)
      · have hk4 : 4096 - k = 0 := by have := (nI_leI (a := 4096) (b := k) (by omega) (by omega)).mp c12; omega
        rw [hk4, hst] at hst2
        cases hst2
      · have hk4 : k < 4096 := by
          rcases Nat.lt_or_ge k 4096 with y | y
          · exact y
          · exact absurd (nI_le (a := 4096) (b := k) y (by omega)) c12
        refine jv_aload_n C (jd D_Rd_string 8 rfl) rfl 0 rfl ?_
        refine jv_get C fl_Rd_46 0 rfl rfl (jd D_Rd_string 9 rfl) ?_
        refine jv_aload_n C (jd D_Rd_string 10 rfl) rfl 0 rfl ?_
        refine jv_get C fl_Rd_9 0 rfl rfl (jd D_Rd_string 11 rfl) ?_
        refine jv_callV (wr := [(o, .inr (2, [.ref tp, .ref pp, .ref nn, .ref ob, .ref nb, .int dp, .int (nI p), .int ub2, .int pl])), (pp, .inr (0, [.ref pb, .int (nI (pr ++ [34] ++ us.flatMap js_pu).length)])), (pb, .inl (dA 0, M, .inl g2))]) C cl_Rd_78 (c_Tx_length tp tb N f t) [1, 2] [0, 3, 4] rfl rfl rfl rfl (by decide) rfl rfl 0 rfl ⟨Nat.le_of_ble_eq_true rfl, Nat.le_of_ble_eq_true rfl⟩ ⟨Nat.le_of_ble_eq_true rfl, Nat.le_of_ble_eq_true rfl⟩ rfl rfl (Nat.le_of_ble_eq_true rfl) (jd D_Rd_string 12 rfl) (fun v2 _ k2 => ?_)
        obtain ⟨r2, rfl, k2⟩ := k2
        refine jv_fix [0, 3, 4, 1, 2] [(o, .inr (2, [.ref tp, .ref pp, .ref nn, .ref ob, .ref nb, .int dp, .int (nI p), .int ub2, .int pl])), (tp, .inr (0, [.ref tb, .int (nI t.length)])), (tb, .inl (dA 0, N, .inl f)), (pp, .inr (0, [.ref pb, .int (nI (pr ++ [34] ++ us.flatMap js_pu).length)])), (pb, .inl (dA 0, M, .inl g2))] [.int r2, .int (nI p)] 0 0 rfl rfl rfl (Nat.le_refl _) (Nat.le_refl _) ?_
        subst k2
        refine jv_icmp_ge (tgt := 69) C (jd D_Rd_string 13 rfl) (by decide) (fun c26 => ?_) (fun c26 => ?_)
        · rw [js_st_end ((nI_leI (by omega) (by omega)).mp c26), hst] at hst2
          cases hst2
        · have hnp : ¬ t.length ≤ p := fun y => c26 (nI_le y (by omega))
          refine jv_aload_n C (jd D_Rd_string 14 rfl) rfl 0 rfl ?_
          refine jv_get C fl_Rd_9 0 rfl rfl (jd D_Rd_string 15 rfl) ?_
          refine jv_aload_n C (jd D_Rd_string 16 rfl) rfl 0 rfl ?_
          refine jv_get C fl_Rd_46 0 rfl rfl (jd D_Rd_string 17 rfl) ?_
          refine jv_callV (wr := [(o, .inr (2, [.ref tp, .ref pp, .ref nn, .ref ob, .ref nb, .int dp, .int (nI p), .int ub2, .int pl])), (pp, .inr (0, [.ref pb, .int (nI (pr ++ [34] ++ us.flatMap js_pu).length)])), (pb, .inl (dA 0, M, .inl g2))]) C cl_Rd_50 (c_Tx_at tp tb N f t (nI p) hl (by omega) ht) [1, 2] [0, 3, 4] rfl rfl rfl rfl (by decide) rfl rfl 0 rfl ⟨Nat.le_of_ble_eq_true rfl, Nat.le_of_ble_eq_true rfl⟩ ⟨Nat.le_of_ble_eq_true rfl, Nat.le_of_ble_eq_true rfl⟩ rfl rfl (Nat.le_of_ble_eq_true rfl) (jd D_Rd_string 18 rfl) (fun v3 _ k3 => ?_)
          obtain ⟨r3, rfl, k3⟩ := k3
          refine jv_fix [0, 3, 4, 1, 2] [(o, .inr (2, [.ref tp, .ref pp, .ref nn, .ref ob, .ref nb, .int dp, .int (nI p), .int ub2, .int pl])), (tp, .inr (0, [.ref tb, .int (nI t.length)])), (tb, .inl (dA 0, N, .inl f)), (pp, .inr (0, [.ref pb, .int (nI (pr ++ [34] ++ us.flatMap js_pu).length)])), (pb, .inl (dA 0, M, .inl g2))] [.int r3] 0 0 rfl rfl rfl (Nat.le_refl _) (Nat.le_refl _) ?_
          rw [js_at_nat (by omega) (by omega)] at k3
          subst k3
          refine jv_bipush (v := 34) C (jd D_Rd_string 19 rfl) (by decide) ?_
          refine jv_icmp_ne (tgt := 53) C (jd D_Rd_string 20 rfl) (by decide) (fun c42 => ?_) (fun c42 => ?_)
          · rcases hcc : js_ch t p with q1 | ⟨u1, m1⟩
            · refine jv_aload_n C (jd D_Rd_string 26 rfl) rfl 0 rfl ?_
              refine jv_callV (wr := []) C cl_Rd_149 (c_Rd_character_no o tp pp nn ob nb dp ub2 pl p tb N f t pb M g2 (pr ++ [34] ++ us.flatMap js_pu) q1 hl hN ht (by omega) hcc) [0, 1, 2, 3, 4] [] rfl rfl rfl rfl (by decide) rfl rfl 0 rfl ⟨Nat.le_of_ble_eq_true rfl, Nat.le_of_ble_eq_true rfl⟩ ⟨Nat.le_of_ble_eq_true rfl, Nat.le_of_ble_eq_true rfl⟩ rfl rfl (Nat.le_of_ble_eq_true rfl) (jd D_Rd_string 27 rfl) (fun v4 ub3 k9 => ?_)
              obtain ⟨r9, rfl, k9⟩ := k9
              refine jv_fix [0, 1, 2, 3, 4] [(o, .inr (2, [.ref tp, .ref pp, .ref nn, .ref ob, .ref nb, .int dp, .int (nI p), .int ub3, .int (nI q1)])), (tp, .inr (0, [.ref tb, .int (nI t.length)])), (tb, .inl (dA 0, N, .inl f)), (pp, .inr (0, [.ref pb, .int (nI (pr ++ [34] ++ us.flatMap js_pu).length)])), (pb, .inl (dA 0, M, .inl g2))] [.int r9] 0 0 rfl rfl rfl (Nat.le_refl _) (Nat.le_refl _) ?_
              subst k9
              refine jv_if_ne (tgt := 63) C (jd D_Rd_string 28 rfl) (by decide) (fun c57 => absurd c57 (by decide)) (fun c57 => ?_)
              rw [show 4096 - k = (4096 - (k + 1)) + 1 by omega, js_st_no hnp c42 hcc, hst] at hst2
              cases hst2
            · refine jv_aload_n C (jd D_Rd_string 26 rfl) rfl 0 rfl ?_
              refine jv_callV (wr := []) C cl_Rd_149 (c_Rd_character_ok o tp pp nn ob nb dp ub2 pl p tb N f t pb M g2 (pr ++ [34] ++ us.flatMap js_pu) u1 m1 hl hN ht hM htx (by omega) hcc (by have := js_ch_len ht.by hcc; omega)) [0, 1, 2, 3, 4] [] rfl rfl rfl rfl (by decide) rfl rfl 0 rfl ⟨Nat.le_of_ble_eq_true rfl, Nat.le_of_ble_eq_true rfl⟩ ⟨Nat.le_of_ble_eq_true rfl, Nat.le_of_ble_eq_true rfl⟩ rfl rfl (Nat.le_of_ble_eq_true rfl) (jd D_Rd_string 27 rfl) (fun v5 u9 k9 => ?_)
              obtain ⟨r9, rfl, k9⟩ := k9
              refine jv_fix [0, 1, 2, 3, 4] [(o, .inr (2, [.ref tp, .ref pp, .ref nn, .ref ob, .ref nb, .int dp, .int (nI (p + m1)), .int u9.1, .int pl])), (tp, .inr (0, [.ref tb, .int (nI t.length)])), (tb, .inl (dA 0, N, .inl f)), (pp, .inr (0, [.ref pb, .int (nI ((pr ++ [34] ++ us.flatMap js_pu) ++ u1.flatMap js_pu).length)])), (pb, .inl (dA 0, M, .inl u9.2))] [.int r9] 0 0 rfl rfl rfl (Nat.le_refl _) (Nat.le_refl _) ?_
              obtain ⟨e9, k9b⟩ := k9
              subst e9
              have k9 : True ∧ js_tx u9.2 ((pr ++ [34] ++ us.flatMap js_pu) ++ u1.flatMap js_pu) := ⟨trivial, k9b⟩
              have hcl := js_ch_len ht.by hcc
              have ht9 : pr ++ [34] ++ (us ++ u1).flatMap js_pu = (pr ++ [34] ++ us.flatMap js_pu) ++ u1.flatMap js_pu := by rw [List.flatMap_append]; simp
              refine jv_weq (ws' := [(o, .inr (2, [.ref tp, .ref pp, .ref nn, .ref ob, .ref nb, .int dp, .int (nI (p + m1)), .int u9.1, .int pl])), (tp, .inr (0, [.ref tb, .int (nI t.length)])), (tb, .inl (dA 0, N, .inl f)), (pp, .inr (0, [.ref pb, .int (nI (pr ++ [34] ++ (us ++ u1).flatMap js_pu).length)])), (pb, .inl (dA 0, M, .inl u9.2))]) (by rw [ht9]) ?_
              refine jv_if_ne (tgt := 63) C (jd D_Rd_string 28 rfl) (by decide) (fun c57 => ?_) (fun c57 => absurd c57 (by decide))
              refine jv_iinc (v := nI (k + 1)) C [(2, .int (nI (k + 1))), (0, .ref o), (1, .int nx)] (jd D_Rd_string 31 rfl) 2 rfl (nI_1 k) (by decide) rfl ?_
              refine jv_goto (tgt := 8) C (jd D_Rd_string 32 rfl) (by decide) ?_
              refine jv_lvsub [1, 2, 0] rfl ?_
              exact ih (k + 1) (p + m1) (us ++ u1) u9.1 u9.2 (by omega) (by omega) (by omega) (by omega) (by have := hcl.2.2; rw [ht9, List.length_append]; omega) (by rw [ht9]; exact k9.2) (by rw [← hst2, show 4096 - k = (4096 - (k + 1)) + 1 by omega, js_st_ok hnp c42 hcc])
          · rw [show 4096 - k = (4096 - (k + 1)) + 1 by omega, js_st_quote hnp c42, hst] at hst2
            cases hst2
            refine jv_aload_n C (jd D_Rd_string 21 rfl) rfl 0 rfl ?_
            refine jv_bipush (v := 34) C (jd D_Rd_string 22 rfl) (by decide) ?_
            refine jv_callV (wr := [(tp, .inr (0, [.ref tb, .int (nI t.length)])), (tb, .inl (dA 0, N, .inl f))]) C cl_Rd_112 (c_Rd_pass o tp pp nn ob nb dp ub2 pl p pb M g2 (pr ++ [34] ++ us.flatMap js_pu) 34 (by omega) hM htx) [0, 3, 4] [1, 2] rfl rfl rfl rfl (by decide) rfl rfl 0 rfl ⟨Nat.le_of_ble_eq_true rfl, Nat.le_of_ble_eq_true rfl⟩ ⟨Nat.le_of_ble_eq_true rfl, Nat.le_of_ble_eq_true rfl⟩ rfl rfl (Nat.le_of_ble_eq_true rfl) (jd D_Rd_string 23 rfl) (fun v6 g5 k5 => ?_)
            obtain ⟨rfl, k5⟩ := k5
            refine jv_fix [2, 0, 1, 3, 4] [(o, .inr (2, [.ref tp, .ref pp, .ref nn, .ref ob, .ref nb, .int dp, .int (nI (p + 1)), .int ub2, .int pl])), (tp, .inr (0, [.ref tb, .int (nI t.length)])), (tb, .inl (dA 0, N, .inl f)), (pp, .inr (0, [.ref pb, .int (nI (pr ++ [34] ++ us.flatMap js_pu ++ [(34 : Int32).toBitVec.toNat % 256]).length)])), (pb, .inl (dA 0, M, .inl g5))] [] 0 0 rfl rfl rfl (Nat.le_refl _) (Nat.le_refl _) ?_
            refine jv_iload_n C (jd D_Rd_string 24 rfl) rfl 1 rfl ?_
            refine jv_weq (ws' := [(o, .inr (2, [.ref tp, .ref pp, .ref nn, .ref ob, .ref nb, .int dp, .int (nI (p + 1)), .int ub2, .int pl])), (tp, .inr (0, [.ref tb, .int (nI t.length)])), (tb, .inl (dA 0, N, .inl f)), (pp, .inr (0, [.ref pb, .int (nI (pr ++ [34] ++ us.flatMap js_pu ++ [34]).length)])), (pb, .inl (dA 0, M, .inl g5))]) rfl ?_
            rw [hQ]
            exact jv_iret C hr (ub2, g5) (⟨rfl, k5⟩) rfl [0, 1, 2, 3, 4] rfl rfl (Nat.le_of_ble_eq_true rfl) (Nat.le_of_ble_eq_true rfl) (jd D_Rd_string 25 rfl)
  refine jv_lvsub [1, 2, 0] rfl ?_
  exact hL8 4097 0 (i + 1) [] ub g1 (by omega) (by omega) (by omega) (by omega) (by simp; omega) k1 rfl

set_option maxHeartbeats 4000000 in
set_option maxRecDepth 100000 in
/-- Reader.string(next), where it is none -/
theorem c_Rd_string_no {l : Launch} {D : va_G} {dA : Nat → ClassId} {zz : (Nat → Nat) × (Nat → Nat)} (o tp pp nn ob nb : Nat) (dp ub pl : Int32) (i : Nat) (tb N : Nat) (f : Nat → Int32) (t : List Nat) (pb M : Nat) (g : Nat → Int32) (pr : List Nat) (nx : Int32) (q : Nat) (hl : t.length ≤ N) (hN : N < 2 ^ 30) (ht : js_tx f t) (hM : M < 2 ^ 30) (htp : js_tx g pr) (hi : i < t.length) (hpi : pr.length ≤ i) (hNM : N ≤ M) (hN4 : N < 2 ^ 29) (hst : js_st t 4096 (i + 1) [] = .inl q) : jv_M l D dA zz y_Rd_string b_Rd_string 3 (some (FieldType.int)) 5 [.ref o, .int nx] [(o, .inr (2, [.ref tp, .ref pp, .ref nn, .ref ob, .ref nb, .int dp, .int (nI i), .int ub, .int pl])), (tp, .inr (0, [.ref tb, .int (nI t.length)])), (tb, .inl (dA 0, N, .inl f)), (pp, .inr (0, [.ref pb, .int (nI pr.length)])), (pb, .inl (dA 0, M, .inl g))] (jv_pi fun r (u : Nat × Int32 × (Nat → Int32) × List Nat) => r = 6 ∧ js_tx u.2.2.1 u.2.2.2 ∧ u.2.2.2.length ≤ M ∧ u.1 ≤ t.length) (fun u => [(o, .inr (2, [.ref tp, .ref pp, .ref nn, .ref ob, .ref nb, .int dp, .int (nI u.1), .int u.2.1, .int (nI q)])), (tp, .inr (0, [.ref tb, .int (nI t.length)])), (tb, .inl (dA 0, N, .inl f)), (pp, .inr (0, [.ref pb, .int (nI u.2.2.2.length)])), (pb, .inl (dA 0, M, .inl u.2.2.1))]) 0 0 := by
  refine jv_M.of [(0, .ref o), (1, .int nx)] (by decide) (Nat.le_of_ble_eq_true rfl) rfl ?_
  intro pR eR sR mR belowR methR cR AR C hr hin
  obtain ⟨QR, hQ⟩ : ∃ QR, QR = jv_E D (jv_pi fun r (u : Nat × Int32 × (Nat → Int32) × List Nat) => r = 6 ∧ js_tx u.2.2.1 u.2.2.2 ∧ u.2.2.2.length ≤ M ∧ u.1 ≤ t.length) (fun u => [(o, .inr (2, [.ref tp, .ref pp, .ref nn, .ref ob, .ref nb, .int dp, .int (nI u.1), .int u.2.1, .int (nI q)])), (tp, .inr (0, [.ref tb, .int (nI t.length)])), (tb, .inl (dA 0, N, .inl f)), (pp, .inr (0, [.ref pb, .int (nI u.2.2.2.length)])), (pb, .inl (dA 0, M, .inl u.2.2.1))]) belowR ([.ref o, .int nx] : List Value).toArray sR AR 0 0 := ⟨_, rfl⟩
  rw [← hQ]
  refine jv_aload_n C (jd D_Rd_string 0 rfl) rfl 0 rfl ?_
  refine jv_bipush (v := 34) C (jd D_Rd_string 1 rfl) (by decide) ?_
  refine jv_callV (wr := [(tp, .inr (0, [.ref tb, .int (nI t.length)])), (tb, .inl (dA 0, N, .inl f))]) C cl_Rd_112 (c_Rd_pass o tp pp nn ob nb dp ub pl i pb M g pr 34 (by omega) hM htp) [0, 3, 4] [1, 2] rfl rfl rfl rfl (by decide) rfl rfl 0 rfl ⟨Nat.le_of_ble_eq_true rfl, Nat.le_of_ble_eq_true rfl⟩ ⟨Nat.le_of_ble_eq_true rfl, Nat.le_of_ble_eq_true rfl⟩ rfl rfl (Nat.le_of_ble_eq_true rfl) (jd D_Rd_string 2 rfl) (fun v1 g1 k1 => ?_)
  obtain ⟨rfl, k1⟩ := k1
  refine jv_fix [2, 0, 1, 3, 4] [(o, .inr (2, [.ref tp, .ref pp, .ref nn, .ref ob, .ref nb, .int dp, .int (nI (i + 1)), .int ub, .int pl])), (tp, .inr (0, [.ref tb, .int (nI t.length)])), (tb, .inl (dA 0, N, .inl f)), (pp, .inr (0, [.ref pb, .int (nI (pr ++ [(34 : Int32).toBitVec.toNat % 256]).length)])), (pb, .inl (dA 0, M, .inl g1))] [] 0 0 rfl rfl rfl (Nat.le_refl _) (Nat.le_refl _) ?_
  have e34 : pr ++ [(34 : Int32).toBitVec.toNat % 256] = pr ++ [34] ++ ([] : List Nat).flatMap js_pu := by simp [show (34 : Int32).toBitVec.toNat % 256 = 34 from rfl]
  rw [e34] at k1
  refine jv_weq (ws' := [(o, .inr (2, [.ref tp, .ref pp, .ref nn, .ref ob, .ref nb, .int dp, .int (nI (i + 1)), .int ub, .int pl])), (tp, .inr (0, [.ref tb, .int (nI t.length)])), (tb, .inl (dA 0, N, .inl f)), (pp, .inr (0, [.ref pb, .int (nI (pr ++ [34] ++ ([] : List Nat).flatMap js_pu).length)])), (pb, .inl (dA 0, M, .inl g1))]) (by rw [e34]) ?_
  refine jv_iconst (v := 0) C (jd D_Rd_string 3 rfl) (by decide) ?_
  refine jv_istore_n C [(2, .int 0), (0, .ref o), (1, .int nx)] (jd D_Rd_string 4 rfl) rfl (by decide) rfl ?_
  have hL8 : ∀ (n : Nat) (k p : Nat) (us : List Nat) (ub2 : Int32) (g2 : Nat → Int32), k ≤ 4096 → 4097 ≤ k + n → i + 1 ≤ p → p ≤ t.length → (pr ++ [34] ++ us.flatMap js_pu).length ≤ p → js_tx g2 (pr ++ [34] ++ us.flatMap js_pu) → js_st t (4096 - k) p us = js_st t 4096 (i + 1) [] → jv_V pR l eR (jv_rm 5 0 0) sR mR ([.ref o, .int nx] : List Value).toArray belowR methR cR 0 0 QR D AR 3 [(o, .inr (2, [.ref tp, .ref pp, .ref nn, .ref ob, .ref nb, .int dp, .int (nI p), .int ub2, .int pl])), (tp, .inr (0, [.ref tb, .int (nI t.length)])), (tb, .inl (dA 0, N, .inl f)), (pp, .inr (0, [.ref pb, .int (nI (pr ++ [34] ++ us.flatMap js_pu).length)])), (pb, .inl (dA 0, M, .inl g2))] [(0, .ref o), (1, .int nx), (2, .int (nI k))] 8 [] := by
    intro n
    induction n with
    | zero =>
      intro k p us ub2 g2 h1 h2
      exact absurd h2 (by omega)
    | succ n ih =>
      intro k p us ub2 g2 hk hm hip hp hle htx hst2
      refine jv_iload_n C (jd D_Rd_string 5 rfl) rfl 2 rfl ?_
      refine jv_sipush (v := 4096) C (jd D_Rd_string 6 rfl) (by decide) ?_
      refine jv_icmp_ge (tgt := 69) C (jd D_Rd_string 7 rfl) (by decide) (fun c12 => ?_) (fun c12 => ?_)
      · have hk4 : 4096 - k = 0 := by have := (nI_leI (a := 4096) (b := k) (by omega) (by omega)).mp c12; omega
        rw [hk4, hst] at hst2
        have hqq : q = t.length := (Sum.inl.inj hst2).symm
        refine jv_aload_n C (jd D_Rd_string 33 rfl) rfl 0 rfl ?_
        refine jv_aload_n C (jd D_Rd_string 34 rfl) rfl 0 rfl ?_
        refine jv_get C fl_Rd_9 0 rfl rfl (jd D_Rd_string 35 rfl) ?_
        refine jv_callV (wr := [(o, .inr (2, [.ref tp, .ref pp, .ref nn, .ref ob, .ref nb, .int dp, .int (nI p), .int ub2, .int pl])), (pp, .inr (0, [.ref pb, .int (nI (pr ++ [34] ++ us.flatMap js_pu).length)])), (pb, .inl (dA 0, M, .inl g2))]) C cl_Rd_78 (c_Tx_length tp tb N f t) [1, 2] [0, 3, 4] rfl rfl rfl rfl (by decide) rfl rfl 0 rfl ⟨Nat.le_of_ble_eq_true rfl, Nat.le_of_ble_eq_true rfl⟩ ⟨Nat.le_of_ble_eq_true rfl, Nat.le_of_ble_eq_true rfl⟩ rfl rfl (Nat.le_of_ble_eq_true rfl) (jd D_Rd_string 36 rfl) (fun v2 _ k4 => ?_)
        obtain ⟨r4, rfl, k4⟩ := k4
        refine jv_fix [0, 3, 4, 1, 2] [(o, .inr (2, [.ref tp, .ref pp, .ref nn, .ref ob, .ref nb, .int dp, .int (nI p), .int ub2, .int pl])), (tp, .inr (0, [.ref tb, .int (nI t.length)])), (tb, .inl (dA 0, N, .inl f)), (pp, .inr (0, [.ref pb, .int (nI (pr ++ [34] ++ us.flatMap js_pu).length)])), (pb, .inl (dA 0, M, .inl g2))] [.int r4, .ref o] 0 0 rfl rfl rfl (Nat.le_refl _) (Nat.le_refl _) ?_
        subst k4
        refine jv_callV (wr := [(tp, .inr (0, [.ref tb, .int (nI t.length)])), (tb, .inl (dA 0, N, .inl f)), (pp, .inr (0, [.ref pb, .int (nI (pr ++ [34] ++ us.flatMap js_pu).length)])), (pb, .inl (dA 0, M, .inl g2))]) C cl_Rd_109 (c_Rd_breakAt o tp pp nn ob nb dp ub2 pl p (nI t.length)) [0] [1, 2, 3, 4] rfl rfl rfl rfl (by decide) rfl rfl 0 rfl ⟨Nat.le_of_ble_eq_true rfl, Nat.le_of_ble_eq_true rfl⟩ ⟨Nat.le_of_ble_eq_true rfl, Nat.le_of_ble_eq_true rfl⟩ rfl rfl (Nat.le_of_ble_eq_true rfl) (jd D_Rd_string 37 rfl) (fun v3 _ k7 => ?_)
        obtain ⟨r7, rfl, k7⟩ := k7
        refine jv_fix [4, 0, 1, 2, 3] [(o, .inr (2, [.ref tp, .ref pp, .ref nn, .ref ob, .ref nb, .int dp, .int (nI p), .int ub2, .int (nI t.length)])), (tp, .inr (0, [.ref tb, .int (nI t.length)])), (tb, .inl (dA 0, N, .inl f)), (pp, .inr (0, [.ref pb, .int (nI (pr ++ [34] ++ us.flatMap js_pu).length)])), (pb, .inl (dA 0, M, .inl g2))] [.int r7] 0 0 rfl rfl rfl (Nat.le_refl _) (Nat.le_refl _) ?_
        subst k7
        refine jv_weq (ws' := [(o, .inr (2, [.ref tp, .ref pp, .ref nn, .ref ob, .ref nb, .int dp, .int (nI p), .int ub2, .int (nI q)])), (tp, .inr (0, [.ref tb, .int (nI t.length)])), (tb, .inl (dA 0, N, .inl f)), (pp, .inr (0, [.ref pb, .int (nI (pr ++ [34] ++ us.flatMap js_pu).length)])), (pb, .inl (dA 0, M, .inl g2))]) (by rw [hqq]) ?_
        rw [hQ]
        exact jv_iret C hr (p, ub2, g2, pr ++ [34] ++ us.flatMap js_pu) (⟨rfl, htx, Nat.le_trans hle (by omega), hp⟩) rfl [0, 1, 2, 3, 4] rfl rfl (Nat.le_of_ble_eq_true rfl) (Nat.le_of_ble_eq_true rfl) (jd D_Rd_string 38 rfl)
      · have hk4 : k < 4096 := by
          rcases Nat.lt_or_ge k 4096 with y | y
          · exact y
          · exact absurd (nI_le (a := 4096) (b := k) y (by omega)) c12
        refine jv_aload_n C (jd D_Rd_string 8 rfl) rfl 0 rfl ?_
        refine jv_get C fl_Rd_46 0 rfl rfl (jd D_Rd_string 9 rfl) ?_
        refine jv_aload_n C (jd D_Rd_string 10 rfl) rfl 0 rfl ?_
        refine jv_get C fl_Rd_9 0 rfl rfl (jd D_Rd_string 11 rfl) ?_
        refine jv_callV (wr := [(o, .inr (2, [.ref tp, .ref pp, .ref nn, .ref ob, .ref nb, .int dp, .int (nI p), .int ub2, .int pl])), (pp, .inr (0, [.ref pb, .int (nI (pr ++ [34] ++ us.flatMap js_pu).length)])), (pb, .inl (dA 0, M, .inl g2))]) C cl_Rd_78 (c_Tx_length tp tb N f t) [1, 2] [0, 3, 4] rfl rfl rfl rfl (by decide) rfl rfl 0 rfl ⟨Nat.le_of_ble_eq_true rfl, Nat.le_of_ble_eq_true rfl⟩ ⟨Nat.le_of_ble_eq_true rfl, Nat.le_of_ble_eq_true rfl⟩ rfl rfl (Nat.le_of_ble_eq_true rfl) (jd D_Rd_string 12 rfl) (fun v4 _ k2 => ?_)
        obtain ⟨r2, rfl, k2⟩ := k2
        refine jv_fix [0, 3, 4, 1, 2] [(o, .inr (2, [.ref tp, .ref pp, .ref nn, .ref ob, .ref nb, .int dp, .int (nI p), .int ub2, .int pl])), (tp, .inr (0, [.ref tb, .int (nI t.length)])), (tb, .inl (dA 0, N, .inl f)), (pp, .inr (0, [.ref pb, .int (nI (pr ++ [34] ++ us.flatMap js_pu).length)])), (pb, .inl (dA 0, M, .inl g2))] [.int r2, .int (nI p)] 0 0 rfl rfl rfl (Nat.le_refl _) (Nat.le_refl _) ?_
        subst k2
        refine jv_icmp_ge (tgt := 69) C (jd D_Rd_string 13 rfl) (by decide) (fun c26 => ?_) (fun c26 => ?_)
        · rw [js_st_end ((nI_leI (by omega) (by omega)).mp c26), hst] at hst2
          have hqq : q = t.length := (Sum.inl.inj hst2).symm
          refine jv_aload_n C (jd D_Rd_string 33 rfl) rfl 0 rfl ?_
          refine jv_aload_n C (jd D_Rd_string 34 rfl) rfl 0 rfl ?_
          refine jv_get C fl_Rd_9 0 rfl rfl (jd D_Rd_string 35 rfl) ?_
          refine jv_callV (wr := [(o, .inr (2, [.ref tp, .ref pp, .ref nn, .ref ob, .ref nb, .int dp, .int (nI p), .int ub2, .int pl])), (pp, .inr (0, [.ref pb, .int (nI (pr ++ [34] ++ us.flatMap js_pu).length)])), (pb, .inl (dA 0, M, .inl g2))]) C cl_Rd_78 (c_Tx_length tp tb N f t) [1, 2] [0, 3, 4] rfl rfl rfl rfl (by decide) rfl rfl 0 rfl ⟨Nat.le_of_ble_eq_true rfl, Nat.le_of_ble_eq_true rfl⟩ ⟨Nat.le_of_ble_eq_true rfl, Nat.le_of_ble_eq_true rfl⟩ rfl rfl (Nat.le_of_ble_eq_true rfl) (jd D_Rd_string 36 rfl) (fun v5 _ k4 => ?_)
          obtain ⟨r4, rfl, k4⟩ := k4
          refine jv_fix [0, 3, 4, 1, 2] [(o, .inr (2, [.ref tp, .ref pp, .ref nn, .ref ob, .ref nb, .int dp, .int (nI p), .int ub2, .int pl])), (tp, .inr (0, [.ref tb, .int (nI t.length)])), (tb, .inl (dA 0, N, .inl f)), (pp, .inr (0, [.ref pb, .int (nI (pr ++ [34] ++ us.flatMap js_pu).length)])), (pb, .inl (dA 0, M, .inl g2))] [.int r4, .ref o] 0 0 rfl rfl rfl (Nat.le_refl _) (Nat.le_refl _) ?_
          subst k4
          refine jv_callV (wr := [(tp, .inr (0, [.ref tb, .int (nI t.length)])), (tb, .inl (dA 0, N, .inl f)), (pp, .inr (0, [.ref pb, .int (nI (pr ++ [34] ++ us.flatMap js_pu).length)])), (pb, .inl (dA 0, M, .inl g2))]) C cl_Rd_109 (c_Rd_breakAt o tp pp nn ob nb dp ub2 pl p (nI t.length)) [0] [1, 2, 3, 4] rfl rfl rfl rfl (by decide) rfl rfl 0 rfl ⟨Nat.le_of_ble_eq_true rfl, Nat.le_of_ble_eq_true rfl⟩ ⟨Nat.le_of_ble_eq_true rfl, Nat.le_of_ble_eq_true rfl⟩ rfl rfl (Nat.le_of_ble_eq_true rfl) (jd D_Rd_string 37 rfl) (fun v6 _ k7 => ?_)
          obtain ⟨r7, rfl, k7⟩ := k7
          refine jv_fix [4, 0, 1, 2, 3] [(o, .inr (2, [.ref tp, .ref pp, .ref nn, .ref ob, .ref nb, .int dp, .int (nI p), .int ub2, .int (nI t.length)])), (tp, .inr (0, [.ref tb, .int (nI t.length)])), (tb, .inl (dA 0, N, .inl f)), (pp, .inr (0, [.ref pb, .int (nI (pr ++ [34] ++ us.flatMap js_pu).length)])), (pb, .inl (dA 0, M, .inl g2))] [.int r7] 0 0 rfl rfl rfl (Nat.le_refl _) (Nat.le_refl _) ?_
          subst k7
          refine jv_weq (ws' := [(o, .inr (2, [.ref tp, .ref pp, .ref nn, .ref ob, .ref nb, .int dp, .int (nI p), .int ub2, .int (nI q)])), (tp, .inr (0, [.ref tb, .int (nI t.length)])), (tb, .inl (dA 0, N, .inl f)), (pp, .inr (0, [.ref pb, .int (nI (pr ++ [34] ++ us.flatMap js_pu).length)])), (pb, .inl (dA 0, M, .inl g2))]) (by rw [hqq]) ?_
          rw [hQ]
          exact jv_iret C hr (p, ub2, g2, pr ++ [34] ++ us.flatMap js_pu) (⟨rfl, htx, Nat.le_trans hle (by omega), hp⟩) rfl [0, 1, 2, 3, 4] rfl rfl (Nat.le_of_ble_eq_true rfl) (Nat.le_of_ble_eq_true rfl) (jd D_Rd_string 38 rfl)
        · have hnp : ¬ t.length ≤ p := fun y => c26 (nI_le y (by omega))
          refine jv_aload_n C (jd D_Rd_string 14 rfl) rfl 0 rfl ?_
          refine jv_get C fl_Rd_9 0 rfl rfl (jd D_Rd_string 15 rfl) ?_
          refine jv_aload_n C (jd D_Rd_string 16 rfl) rfl 0 rfl ?_
          refine jv_get C fl_Rd_46 0 rfl rfl (jd D_Rd_string 17 rfl) ?_
          refine jv_callV (wr := [(o, .inr (2, [.ref tp, .ref pp, .ref nn, .ref ob, .ref nb, .int dp, .int (nI p), .int ub2, .int pl])), (pp, .inr (0, [.ref pb, .int (nI (pr ++ [34] ++ us.flatMap js_pu).length)])), (pb, .inl (dA 0, M, .inl g2))]) C cl_Rd_50 (c_Tx_at tp tb N f t (nI p) hl (by omega) ht) [1, 2] [0, 3, 4] rfl rfl rfl rfl (by decide) rfl rfl 0 rfl ⟨Nat.le_of_ble_eq_true rfl, Nat.le_of_ble_eq_true rfl⟩ ⟨Nat.le_of_ble_eq_true rfl, Nat.le_of_ble_eq_true rfl⟩ rfl rfl (Nat.le_of_ble_eq_true rfl) (jd D_Rd_string 18 rfl) (fun v7 _ k3 => ?_)
          obtain ⟨r3, rfl, k3⟩ := k3
          refine jv_fix [0, 3, 4, 1, 2] [(o, .inr (2, [.ref tp, .ref pp, .ref nn, .ref ob, .ref nb, .int dp, .int (nI p), .int ub2, .int pl])), (tp, .inr (0, [.ref tb, .int (nI t.length)])), (tb, .inl (dA 0, N, .inl f)), (pp, .inr (0, [.ref pb, .int (nI (pr ++ [34] ++ us.flatMap js_pu).length)])), (pb, .inl (dA 0, M, .inl g2))] [.int r3] 0 0 rfl rfl rfl (Nat.le_refl _) (Nat.le_refl _) ?_
          rw [js_at_nat (by omega) (by omega)] at k3
          subst k3
          refine jv_bipush (v := 34) C (jd D_Rd_string 19 rfl) (by decide) ?_
          refine jv_icmp_ne (tgt := 53) C (jd D_Rd_string 20 rfl) (by decide) (fun c42 => ?_) (fun c42 => ?_)
          · rcases hcc : js_ch t p with q1 | ⟨u1, m1⟩
            · refine jv_aload_n C (jd D_Rd_string 26 rfl) rfl 0 rfl ?_
              refine jv_callV (wr := []) C cl_Rd_149 (c_Rd_character_no o tp pp nn ob nb dp ub2 pl p tb N f t pb M g2 (pr ++ [34] ++ us.flatMap js_pu) q1 hl hN ht (by omega) hcc) [0, 1, 2, 3, 4] [] rfl rfl rfl rfl (by decide) rfl rfl 0 rfl ⟨Nat.le_of_ble_eq_true rfl, Nat.le_of_ble_eq_true rfl⟩ ⟨Nat.le_of_ble_eq_true rfl, Nat.le_of_ble_eq_true rfl⟩ rfl rfl (Nat.le_of_ble_eq_true rfl) (jd D_Rd_string 27 rfl) (fun v8 ub3 k9 => ?_)
              obtain ⟨r9, rfl, k9⟩ := k9
              refine jv_fix [0, 1, 2, 3, 4] [(o, .inr (2, [.ref tp, .ref pp, .ref nn, .ref ob, .ref nb, .int dp, .int (nI p), .int ub3, .int (nI q1)])), (tp, .inr (0, [.ref tb, .int (nI t.length)])), (tb, .inl (dA 0, N, .inl f)), (pp, .inr (0, [.ref pb, .int (nI (pr ++ [34] ++ us.flatMap js_pu).length)])), (pb, .inl (dA 0, M, .inl g2))] [.int r9] 0 0 rfl rfl rfl (Nat.le_refl _) (Nat.le_refl _) ?_
              subst k9
              refine jv_if_ne (tgt := 63) C (jd D_Rd_string 28 rfl) (by decide) (fun c57 => absurd c57 (by decide)) (fun c57 => ?_)
              rw [show 4096 - k = (4096 - (k + 1)) + 1 by omega, js_st_no hnp c42 hcc, hst] at hst2
              cases hst2
              refine jv_bipush (v := 6) C (jd D_Rd_string 29 rfl) (by decide) ?_
              refine jv_weq (ws' := [(o, .inr (2, [.ref tp, .ref pp, .ref nn, .ref ob, .ref nb, .int dp, .int (nI p), .int ub3, .int (nI q)])), (tp, .inr (0, [.ref tb, .int (nI t.length)])), (tb, .inl (dA 0, N, .inl f)), (pp, .inr (0, [.ref pb, .int (nI (pr ++ [34] ++ us.flatMap js_pu).length)])), (pb, .inl (dA 0, M, .inl g2))]) rfl ?_
              rw [hQ]
              exact jv_iret C hr (p, ub3, g2, pr ++ [34] ++ us.flatMap js_pu) (⟨rfl, htx, Nat.le_trans hle (by omega), hp⟩) rfl [0, 1, 2, 3, 4] rfl rfl (Nat.le_of_ble_eq_true rfl) (Nat.le_of_ble_eq_true rfl) (jd D_Rd_string 30 rfl)
            · refine jv_aload_n C (jd D_Rd_string 26 rfl) rfl 0 rfl ?_
              refine jv_callV (wr := []) C cl_Rd_149 (c_Rd_character_ok o tp pp nn ob nb dp ub2 pl p tb N f t pb M g2 (pr ++ [34] ++ us.flatMap js_pu) u1 m1 hl hN ht hM htx (by omega) hcc (by have := js_ch_len ht.by hcc; omega)) [0, 1, 2, 3, 4] [] rfl rfl rfl rfl (by decide) rfl rfl 0 rfl ⟨Nat.le_of_ble_eq_true rfl, Nat.le_of_ble_eq_true rfl⟩ ⟨Nat.le_of_ble_eq_true rfl, Nat.le_of_ble_eq_true rfl⟩ rfl rfl (Nat.le_of_ble_eq_true rfl) (jd D_Rd_string 27 rfl) (fun v9 u9 k9 => ?_)
              obtain ⟨r9, rfl, k9⟩ := k9
              refine jv_fix [0, 1, 2, 3, 4] [(o, .inr (2, [.ref tp, .ref pp, .ref nn, .ref ob, .ref nb, .int dp, .int (nI (p + m1)), .int u9.1, .int pl])), (tp, .inr (0, [.ref tb, .int (nI t.length)])), (tb, .inl (dA 0, N, .inl f)), (pp, .inr (0, [.ref pb, .int (nI ((pr ++ [34] ++ us.flatMap js_pu) ++ u1.flatMap js_pu).length)])), (pb, .inl (dA 0, M, .inl u9.2))] [.int r9] 0 0 rfl rfl rfl (Nat.le_refl _) (Nat.le_refl _) ?_
              obtain ⟨e9, k9b⟩ := k9
              subst e9
              have k9 : True ∧ js_tx u9.2 ((pr ++ [34] ++ us.flatMap js_pu) ++ u1.flatMap js_pu) := ⟨trivial, k9b⟩
              have hcl := js_ch_len ht.by hcc
              have ht9 : pr ++ [34] ++ (us ++ u1).flatMap js_pu = (pr ++ [34] ++ us.flatMap js_pu) ++ u1.flatMap js_pu := by rw [List.flatMap_append]; simp
              refine jv_weq (ws' := [(o, .inr (2, [.ref tp, .ref pp, .ref nn, .ref ob, .ref nb, .int dp, .int (nI (p + m1)), .int u9.1, .int pl])), (tp, .inr (0, [.ref tb, .int (nI t.length)])), (tb, .inl (dA 0, N, .inl f)), (pp, .inr (0, [.ref pb, .int (nI (pr ++ [34] ++ (us ++ u1).flatMap js_pu).length)])), (pb, .inl (dA 0, M, .inl u9.2))]) (by rw [ht9]) ?_
              refine jv_if_ne (tgt := 63) C (jd D_Rd_string 28 rfl) (by decide) (fun c57 => ?_) (fun c57 => absurd c57 (by decide))
              refine jv_iinc (v := nI (k + 1)) C [(2, .int (nI (k + 1))), (0, .ref o), (1, .int nx)] (jd D_Rd_string 31 rfl) 2 rfl (nI_1 k) (by decide) rfl ?_
              refine jv_goto (tgt := 8) C (jd D_Rd_string 32 rfl) (by decide) ?_
              refine jv_lvsub [1, 2, 0] rfl ?_
              exact ih (k + 1) (p + m1) (us ++ u1) u9.1 u9.2 (by omega) (by omega) (by omega) (by omega) (by have := hcl.2.2; rw [ht9, List.length_append]; omega) (by rw [ht9]; exact k9.2) (by rw [← hst2, show 4096 - k = (4096 - (k + 1)) + 1 by omega, js_st_ok hnp c42 hcc])
          · rw [show 4096 - k = (4096 - (k + 1)) + 1 by omega, js_st_quote hnp c42, hst] at hst2
            cases hst2
  refine jv_lvsub [1, 2, 0] rfl ?_
  exact hL8 4097 0 (i + 1) [] ub g1 (by omega) (by omega) (by omega) (by omega) (by simp; omega) k1 rfl
