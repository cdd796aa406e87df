set_option maxHeartbeats 4000000 in
set_option maxRecDepth 100000 in
/-- Reader.readTape(), a VALUE -/
theorem c_Rd_readTape_ok {l : Launch} {D : va_G} {dA : Nat → ClassId} {zz : (Nat → Nat) × (Nat → Nat)} (o tp pp nn ob nb tb pb s1 s2 s3 : Nat) (f g fS fE fH fO fB : Nat → Int32) (t pr0 : List Nat) (c0 : Nat) (dp at0 ub pl : Int32) (prF : List Nat) (ht : js_tx f t) (h4 : t.length ≤ 4096) (hpr0 : pr0.length ≤ 4096) (hc0 : c0 ≤ 1024) (hfin : js_run t 4097 0 0 [] [] [] = .inr prF) : jv_M l D dA zz y_Rd_readTape b_Rd_readTape 4 (some (FieldType.int)) 7 [.ref o] [(o, .inr (2, [.ref tp, .ref pp, .ref nn, .ref ob, .ref nb, .int dp, .int at0, .int ub, .int pl])), (tp, .inr (0, [.ref tb, .int (nI t.length)])), (tb, .inl (dA 0, 4096, .inl f)), (pp, .inr (0, [.ref pb, .int (nI pr0.length)])), (pb, .inl (dA 0, 4096, .inl g)), (nn, .inr (1, [.ref pp, .ref s1, .ref s2, .ref s3, .int (nI c0)])), (s1, .inl (dA 1, 1024, .inl fS)), (s2, .inl (dA 1, 1024, .inl fE)), (s3, .inl (dA 1, 1024, .inl fH)), (ob, .inl (dA 0, 32, .inl fO)), (nb, .inl (dA 1, 32, .inl fB))] (jv_pi fun r (u : Int32 × Int32 × Int32 × Nat × (Nat → Int32) × (Nat → Int32) × (Nat → Int32) × (Nat → Int32) × (Nat → Int32) × (Nat → Int32)) => r = -1 ∧ js_tx u.2.2.2.2.1 prF ∧ prF.length ≤ 4096 ∧ u.2.2.2.1 ≤ 1024) (fun u => [(o, .inr (2, [.ref tp, .ref pp, .ref nn, .ref ob, .ref nb, .int u.1, .int u.2.1, .int u.2.2.1, .int (-1)])), (tp, .inr (0, [.ref tb, .int (nI t.length)])), (tb, .inl (dA 0, 4096, .inl f)), (pp, .inr (0, [.ref pb, .int (nI prF.length)])), (pb, .inl (dA 0, 4096, .inl u.2.2.2.2.1)), (nn, .inr (1, [.ref pp, .ref s1, .ref s2, .ref s3, .int (nI u.2.2.2.1)])), (s1, .inl (dA 1, 1024, .inl u.2.2.2.2.2.1)), (s2, .inl (dA 1, 1024, .inl u.2.2.2.2.2.2.1)), (s3, .inl (dA 1, 1024, .inl u.2.2.2.2.2.2.2.1)), (ob, .inl (dA 0, 32, .inl u.2.2.2.2.2.2.2.2.1)), (nb, .inl (dA 1, 32, .inl u.2.2.2.2.2.2.2.2.2))]) 0 0 := by
  refine jv_M.of [(0, .ref o)] (by decide) (Nat.le_of_ble_eq_true rfl) rfl ?_
  intro pR eR sR mR belowR methR cR AR C hr hin
  obtain ⟨QR, hQ⟩ : ∃ QR, QR = jv_E D (jv_pi fun r (u : Int32 × Int32 × Int32 × Nat × (Nat → Int32) × (Nat → Int32) × (Nat → Int32) × (Nat → Int32) × (Nat → Int32) × (Nat → Int32)) => r = -1 ∧ js_tx u.2.2.2.2.1 prF ∧ prF.length ≤ 4096 ∧ u.2.2.2.1 ≤ 1024) (fun u => [(o, .inr (2, [.ref tp, .ref pp, .ref nn, .ref ob, .ref nb, .int u.1, .int u.2.1, .int u.2.2.1, .int (-1)])), (tp, .inr (0, [.ref tb, .int (nI t.length)])), (tb, .inl (dA 0, 4096, .inl f)), (pp, .inr (0, [.ref pb, .int (nI prF.length)])), (pb, .inl (dA 0, 4096, .inl u.2.2.2.2.1)), (nn, .inr (1, [.ref pp, .ref s1, .ref s2, .ref s3, .int (nI u.2.2.2.1)])), (s1, .inl (dA 1, 1024, .inl u.2.2.2.2.2.1)), (s2, .inl (dA 1, 1024, .inl u.2.2.2.2.2.2.1)), (s3, .inl (dA 1, 1024, .inl u.2.2.2.2.2.2.2.1)), (ob, .inl (dA 0, 32, .inl u.2.2.2.2.2.2.2.2.1)), (nb, .inl (dA 1, 32, .inl u.2.2.2.2.2.2.2.2.2))]) belowR ([.ref o] : List Value).toArray sR AR 0 0 := ⟨_, rfl⟩
  rw [← hQ]
  refine jv_aload_n C (jd D_Rd_readTape 0 rfl) rfl 0 rfl ?_
  refine jv_callV (wr := [(tp, .inr (0, [.ref tb, .int (nI t.length)])), (tb, .inl (dA 0, 4096, .inl f)), (ob, .inl (dA 0, 32, .inl fO)), (nb, .inl (dA 1, 32, .inl fB))]) C cl_Rd_40 (c_Rd_restart o tp pp nn ob nb pb s1 s2 s3 g fS fE fH pr0 c0 dp at0 ub pl hpr0 hc0) [0, 3, 4, 5, 6, 7, 8] [1, 2, 9, 10] rfl rfl rfl rfl (by decide) rfl rfl 0 rfl ⟨Nat.le_of_ble_eq_true rfl, Nat.le_of_ble_eq_true rfl⟩ ⟨Nat.le_of_ble_eq_true rfl, Nat.le_of_ble_eq_true rfl⟩ rfl rfl (Nat.le_of_ble_eq_true rfl) (jd D_Rd_readTape 1 rfl) (fun v1 _ k0 => ?_)
  obtain ⟨rfl, k0⟩ := k0
  refine jv_fix [4, 0, 1, 5, 6, 7, 8, 9, 10, 2, 3] [(o, .inr (2, [.ref tp, .ref pp, .ref nn, .ref ob, .ref nb, .int (nI 0), .int (nI 0), .int ub, .int (-1)])), (tp, .inr (0, [.ref tb, .int (nI t.length)])), (tb, .inl (dA 0, 4096, .inl f)), (pp, .inr (0, [.ref pb, .int (nI ([] : List Nat).length)])), (pb, .inl (dA 0, 4096, .inl g)), (nn, .inr (1, [.ref pp, .ref s1, .ref s2, .ref s3, .int (nI 0)])), (s1, .inl (dA 1, 1024, .inl fS)), (s2, .inl (dA 1, 1024, .inl fE)), (s3, .inl (dA 1, 1024, .inl fH)), (ob, .inl (dA 0, 32, .inl fO)), (nb, .inl (dA 1, 32, .inl fB))] [] 0 0 rfl rfl rfl (Nat.le_refl _) (Nat.le_refl _) ?_
  refine jv_iconst (v := 0) C (jd D_Rd_readTape 2 rfl) (by decide) ?_
  refine jv_istore_n C [(1, .int 0), (0, .ref o)] (jd D_Rd_readTape 3 rfl) rfl (by decide) rfl ?_
  refine jv_iconst (v := 0) C (jd D_Rd_readTape 4 rfl) (by decide) ?_
  refine jv_istore_n C [(2, .int 0), (1, .int 0), (0, .ref o)] (jd D_Rd_readTape 5 rfl) rfl (by decide) rfl ?_
  have hL8 : ∀ (n : Nat) (k nx i : Nat) (pr : List Nat) (sk ns : List (Nat × Nat)) (ub2 : Int32) (g2 fS2 fE2 fH2 fO2 fB2 : Nat → Int32), k ≤ 4097 → 4098 ≤ k + n → js_R t i pr sk ns g2 fS2 fE2 fH2 fO2 fB2 → js_wf nx pr sk ns → js_run t (4097 - k) nx i pr sk ns = js_run t 4097 0 0 [] [] [] → jv_V pR l eR (jv_rm 7 0 0) sR mR ([.ref o] : List Value).toArray belowR methR cR 0 0 QR D AR 4 [(o, .inr (2, [.ref tp, .ref pp, .ref nn, .ref ob, .ref nb, .int (nI sk.length), .int (nI i), .int ub2, .int (-1)])), (tp, .inr (0, [.ref tb, .int (nI t.length)])), (tb, .inl (dA 0, 4096, .inl f)), (pp, .inr (0, [.ref pb, .int (nI pr.length)])), (pb, .inl (dA 0, 4096, .inl g2)), (nn, .inr (1, [.ref pp, .ref s1, .ref s2, .ref s3, .int (nI ns.length)])), (s1, .inl (dA 1, 1024, .inl fS2)), (s2, .inl (dA 1, 1024, .inl fE2)), (s3, .inl (dA 1, 1024, .inl fH2)), (ob, .inl (dA 0, 32, .inl fO2)), (nb, .inl (dA 1, 32, .inl fB2))] [(0, .ref o), (1, .int (nI nx)), (2, .int (nI k))] 8 [] := by
    intro n
    induction n with
    | zero =>
      intro k nx i pr sk ns ub2 g2 fS2 fE2 fH2 fO2 fB2 h1 h2
      exact absurd h2 (by omega)
    | succ n ih =>
      intro k nx i pr sk ns ub2 g2 fS2 fE2 fH2 fO2 fB2 hk hm hR hw hrun
      refine jv_iload_n C (jd D_Rd_readTape 6 rfl) rfl 2 rfl ?_
      refine jv_sipush (v := 4096) C (jd D_Rd_readTape 7 rfl) (by decide) ?_
      refine jv_icmp_gt (tgt := 157) C (jd D_Rd_readTape 8 rfl) (by decide) (fun c12 => ?_) (fun c12 => ?_)
      · have hk0 : 4097 - k = 0 := by have := (nI_ltI (a := 4096) (b := k) (by omega) (by omega)).mp c12; omega
        rw [hk0, js_run, hfin] at hrun
        cases hrun
        refine jv_aload_n C (jd D_Rd_readTape 67 rfl) rfl 0 rfl ?_
        refine jv_get C fl_Rd_68 0 rfl rfl (jd D_Rd_readTape 68 rfl) ?_
        rw [hQ]
        exact jv_iret C hr ((nI sk.length), (nI i), ub2, ns.length, g2, fS2, fE2, fH2, fO2, fB2) (⟨rfl, hR.2.2.2.2.1, Nat.le_trans hR.2.1 (Nat.le_trans hR.1 h4), hR.2.2.2.1⟩) rfl [0, 1, 2, 3, 4, 5, 6, 7, 8, 9, 10] rfl rfl (Nat.le_of_ble_eq_true rfl) (Nat.le_of_ble_eq_true rfl) (jd D_Rd_readTape 69 rfl)
      · refine jv_iload_n C (jd D_Rd_readTape 9 rfl) rfl 1 rfl ?_
        refine jv_bipush (v := 6) C (jd D_Rd_readTape 10 rfl) (by decide) ?_
        refine jv_icmp_eq (tgt := 157) C (jd D_Rd_readTape 11 rfl) (by decide) (fun c18 => ?_) (fun c18 => ?_)
        · have hn6 : nx = 6 := by have := hw.1; exact (nI_eq (a := nx) (b := 6) (by omega) (by decide)).mp c18
          rw [hn6, js_run_6, hfin] at hrun
          cases hrun
          refine jv_aload_n C (jd D_Rd_readTape 67 rfl) rfl 0 rfl ?_
          refine jv_get C fl_Rd_68 0 rfl rfl (jd D_Rd_readTape 68 rfl) ?_
          rw [hQ]
          exact jv_iret C hr ((nI sk.length), (nI i), ub2, ns.length, g2, fS2, fE2, fH2, fO2, fB2) (⟨rfl, hR.2.2.2.2.1, Nat.le_trans hR.2.1 (Nat.le_trans hR.1 h4), hR.2.2.2.1⟩) rfl [0, 1, 2, 3, 4, 5, 6, 7, 8, 9, 10] rfl rfl (Nat.le_of_ble_eq_true rfl) (Nat.le_of_ble_eq_true rfl) (jd D_Rd_readTape 69 rfl)
        · have hk4 : k ≤ 4096 := by
            rcases Nat.lt_or_ge 4096 k with y | y
            · exact absurd (nI_lt (a := 4096) (b := k) y (by omega)) c12
            · exact y
          have h6 : nx ≠ 6 := fun y => c18 (by rw [y]; rfl)
          have hn6 := hw.1
          refine jv_aload_n C (jd D_Rd_readTape 12 rfl) rfl 0 rfl ?_
          refine jv_callV (wr := [(pp, .inr (0, [.ref pb, .int (nI pr.length)])), (pb, .inl (dA 0, 4096, .inl g2)), (nn, .inr (1, [.ref pp, .ref s1, .ref s2, .ref s3, .int (nI ns.length)])), (s1, .inl (dA 1, 1024, .inl fS2)), (s2, .inl (dA 1, 1024, .inl fE2)), (s3, .inl (dA 1, 1024, .inl fH2)), (ob, .inl (dA 0, 32, .inl fO2)), (nb, .inl (dA 1, 32, .inl fB2))]) C cl_Rd_43 (c_Rd_skipBlanks o tp pp nn ob nb (nI sk.length) ub2 (-1) i tb 4096 f t h4 (by decide) ht hR.1) [0, 1, 2] [3, 4, 5, 6, 7, 8, 9, 10] rfl rfl rfl rfl (by decide) rfl rfl 0 rfl ⟨Nat.le_of_ble_eq_true rfl, Nat.le_of_ble_eq_true rfl⟩ ⟨Nat.le_of_ble_eq_true rfl, Nat.le_of_ble_eq_true rfl⟩ rfl rfl (Nat.le_of_ble_eq_true rfl) (jd D_Rd_readTape 13 rfl) (fun v2 _ k0 => ?_)
          obtain ⟨rfl, k0⟩ := k0
          refine jv_fix [8, 9, 10, 0, 1, 2, 3, 4, 5, 6, 7] [(o, .inr (2, [.ref tp, .ref pp, .ref nn, .ref ob, .ref nb, .int (nI sk.length), .int (nI (js_skip t (t.length - i) i)), .int ub2, .int (-1)])), (tp, .inr (0, [.ref tb, .int (nI t.length)])), (tb, .inl (dA 0, 4096, .inl f)), (pp, .inr (0, [.ref pb, .int (nI pr.length)])), (pb, .inl (dA 0, 4096, .inl g2)), (nn, .inr (1, [.ref pp, .ref s1, .ref s2, .ref s3, .int (nI ns.length)])), (s1, .inl (dA 1, 1024, .inl fS2)), (s2, .inl (dA 1, 1024, .inl fE2)), (s3, .inl (dA 1, 1024, .inl fH2)), (ob, .inl (dA 0, 32, .inl fO2)), (nb, .inl (dA 1, 32, .inl fB2))] [] 0 0 rfl rfl rfl (Nat.le_refl _) (Nat.le_refl _) ?_
          generalize hi2 : js_skip t (t.length - i) i = i2
          have hsg := js_skip_ge (t := t) (t.length - i) i
          rw [hi2] at hsg
          have hR2 := hR.skip (i2 := i2) (by have := hR.1; omega) hsg.1
          have hi24 : i2 ≤ 4096 := Nat.le_trans hR2.1 h4
          refine jv_aload_n C (jd D_Rd_readTape 14 rfl) rfl 0 rfl ?_
          refine jv_get C fl_Rd_9 0 rfl rfl (jd D_Rd_readTape 15 rfl) ?_
          refine jv_aload_n C (jd D_Rd_readTape 16 rfl) rfl 0 rfl ?_
          refine jv_get C fl_Rd_46 0 rfl rfl (jd D_Rd_readTape 17 rfl) ?_
          refine jv_callV (wr := [(o, .inr (2, [.ref tp, .ref pp, .ref nn, .ref ob, .ref nb, .int (nI sk.length), .int (nI i2), .int ub2, .int (-1)])), (pp, .inr (0, [.ref pb, .int (nI pr.length)])), (pb, .inl (dA 0, 4096, .inl g2)), (nn, .inr (1, [.ref pp, .ref s1, .ref s2, .ref s3, .int (nI ns.length)])), (s1, .inl (dA 1, 1024, .inl fS2)), (s2, .inl (dA 1, 1024, .inl fE2)), (s3, .inl (dA 1, 1024, .inl fH2)), (ob, .inl (dA 0, 32, .inl fO2)), (nb, .inl (dA 1, 32, .inl fB2))]) C cl_Rd_50 (c_Tx_at tp tb 4096 f t (nI i2) h4 (by decide) ht) [1, 2] [0, 3, 4, 5, 6, 7, 8, 9, 10] rfl rfl rfl rfl (by decide) rfl rfl 0 rfl ⟨Nat.le_of_ble_eq_true rfl, Nat.le_of_ble_eq_true rfl⟩ ⟨Nat.le_of_ble_eq_true rfl, Nat.le_of_ble_eq_true rfl⟩ rfl rfl (Nat.le_of_ble_eq_true rfl) (jd D_Rd_readTape 18 rfl) (fun v3 _ k1 => ?_)
          obtain ⟨r1, rfl, k1⟩ := k1
          refine jv_fix [0, 9, 10, 1, 2, 3, 4, 5, 6, 7, 8] [(o, .inr (2, [.ref tp, .ref pp, .ref nn, .ref ob, .ref nb, .int (nI sk.length), .int (nI i2), .int ub2, .int (-1)])), (tp, .inr (0, [.ref tb, .int (nI t.length)])), (tb, .inl (dA 0, 4096, .inl f)), (pp, .inr (0, [.ref pb, .int (nI pr.length)])), (pb, .inl (dA 0, 4096, .inl g2)), (nn, .inr (1, [.ref pp, .ref s1, .ref s2, .ref s3, .int (nI ns.length)])), (s1, .inl (dA 1, 1024, .inl fS2)), (s2, .inl (dA 1, 1024, .inl fE2)), (s3, .inl (dA 1, 1024, .inl fH2)), (ob, .inl (dA 0, 32, .inl fO2)), (nb, .inl (dA 1, 32, .inl fB2))] [.int r1] 0 0 rfl rfl rfl (Nat.le_refl _) (Nat.le_refl _) ?_
          rw [js_at_nat (by omega) (by omega)] at k1
          subst k1
          refine jv_istore_n C [(3, .int (js_b t i2)), (0, .ref o), (1, .int (nI nx)), (2, .int (nI k))] (jd D_Rd_readTape 19 rfl) rfl (by decide) rfl ?_
          refine jv_iload_n C (jd D_Rd_readTape 20 rfl) rfl 2 rfl ?_
          by_cases s38_0 : (nI nx) = 0
          · refine jv_tableIn (tgt := 72) (off := 34) C (jd D_Rd_readTape 21 rfl) (by rw [s38_0]; decide) (by rw [s38_0]; decide) (by rw [s38_0] <;> rfl) (by decide) ?_
            have hnx : nx = 0 := (nI_eq (a := nx) (b := 0) (by omega) (by decide)).mp s38_0
            rcases hE : js_val t i2 pr sk ns with qq | ⟨nx3, i3, pr3, sk3, ns3⟩
            · rw [show 4097 - k = (4097 - (k + 1)) + 1 by omega, js_run_no h6 hi2 (by rw [js_step, if_pos hnx, hE]), hfin] at hrun
              cases hrun
            · refine jv_aload_n C (jd D_Rd_readTape 22 rfl) rfl 1 rfl ?_
              refine jv_iload_n C (jd D_Rd_readTape 23 rfl) rfl 0 rfl ?_
              refine jv_callV (wr := []) C cl_Rd_53 (c_Rd_value_ok o tp pp nn ob nb tb pb s1 s2 s3 f g2 fS2 fE2 fH2 fO2 fB2 t pr sk ns i2 ub2 (-1) nx3 i3 pr3 sk3 ns3 ht h4 hR2 hE) [0, 1, 2, 3, 4, 5, 6, 7, 8, 9, 10] [] rfl rfl rfl rfl (by decide) rfl rfl 0 rfl ⟨Nat.le_of_ble_eq_true rfl, Nat.le_of_ble_eq_true rfl⟩ ⟨Nat.le_of_ble_eq_true rfl, Nat.le_of_ble_eq_true rfl⟩ rfl rfl (Nat.le_of_ble_eq_true rfl) (jd D_Rd_readTape 24 rfl) (fun v4 v k2 => ?_)
              obtain ⟨r2, rfl, k2⟩ := k2
              refine jv_fix [0, 1, 2, 3, 4, 5, 6, 7, 8, 9, 10] [(o, .inr (2, [.ref tp, .ref pp, .ref nn, .ref ob, .ref nb, .int (nI sk3.length), .int (nI i3), .int v.1, .int (-1)])), (tp, .inr (0, [.ref tb, .int (nI t.length)])), (tb, .inl (dA 0, 4096, .inl f)), (pp, .inr (0, [.ref pb, .int (nI pr3.length)])), (pb, .inl (dA 0, 4096, .inl v.2.1)), (nn, .inr (1, [.ref pp, .ref s1, .ref s2, .ref s3, .int (nI ns3.length)])), (s1, .inl (dA 1, 1024, .inl fS2)), (s2, .inl (dA 1, 1024, .inl fE2)), (s3, .inl (dA 1, 1024, .inl fH2)), (ob, .inl (dA 0, 32, .inl v.2.2.1)), (nb, .inl (dA 1, 32, .inl v.2.2.2))] [.int r2] 0 0 rfl rfl rfl (Nat.le_refl _) (Nat.le_refl _) ?_
              obtain ⟨k2a, k2⟩ := k2
              subst k2a
              refine jv_istore_n C [(1, .int (nI nx3)), (3, .int (js_b t i2)), (0, .ref o), (2, .int (nI k))] (jd D_Rd_readTape 25 rfl) rfl (by decide) rfl ?_
              refine jv_goto (tgt := 151) C (jd D_Rd_readTape 26 rfl) (by decide) ?_
              refine jv_iinc (v := nI (k + 1)) C [(2, .int (nI (k + 1))), (1, .int (nI nx3)), (3, .int (js_b t i2)), (0, .ref o)] (jd D_Rd_readTape 65 rfl) 3 rfl (nI_1 k) (by decide) rfl ?_
              refine jv_goto (tgt := 8) C (jd D_Rd_readTape 66 rfl) (by decide) ?_
              refine jv_lvsub [3, 1, 0] rfl ?_
              exact ih (k + 1) nx3 i3 pr3 sk3 ns3 v.1 v.2.1 fS2 fE2 fH2 v.2.2.1 v.2.2.2 (by omega) (by omega) (k2) (js_val_wf (by omega) hw hE) (by rw [← hrun, show 4097 - k = (4097 - (k + 1)) + 1 by omega, js_run_ok (nx3 := nx3) (i3 := i3) (pr3 := pr3) (sk3 := sk3) (ns3 := ns3) h6 hi2 (by rw [js_step, if_pos hnx, hE])])
          by_cases s38_1 : (nI nx) = 1
          · refine jv_tableIn (tgt := 81) (off := 43) C (jd D_Rd_readTape 21 rfl) (by rw [s38_1]; decide) (by rw [s38_1]; decide) (by rw [s38_1] <;> rfl) (by decide) ?_
            have hnx : nx = 1 := (nI_eq (a := nx) (b := 1) (by omega) (by decide)).mp s38_1
            refine jv_iload_n C (jd D_Rd_readTape 27 rfl) rfl 0 rfl ?_
            refine jv_bipush (v := 93) C (jd D_Rd_readTape 28 rfl) (by decide) ?_
            refine jv_icmp_ne (tgt := 95) C (jd D_Rd_readTape 29 rfl) (by decide) (fun c84 => ?_) (fun c84 => ?_)
            · rcases hE : js_val t i2 pr sk ns with qq | ⟨nx3, i3, pr3, sk3, ns3⟩
              · rw [show 4097 - k = (4097 - (k + 1)) + 1 by omega, js_run_no h6 hi2 (by rw [js_step, if_neg (by omega), if_pos hnx, if_neg c84, hE]), hfin] at hrun
                cases hrun
              · refine jv_aload_n C (jd D_Rd_readTape 34 rfl) rfl 1 rfl ?_
                refine jv_iload_n C (jd D_Rd_readTape 35 rfl) rfl 0 rfl ?_
                refine jv_callV (wr := []) C cl_Rd_53 (c_Rd_value_ok o tp pp nn ob nb tb pb s1 s2 s3 f g2 fS2 fE2 fH2 fO2 fB2 t pr sk ns i2 ub2 (-1) nx3 i3 pr3 sk3 ns3 ht h4 hR2 hE) [0, 1, 2, 3, 4, 5, 6, 7, 8, 9, 10] [] rfl rfl rfl rfl (by decide) rfl rfl 0 rfl ⟨Nat.le_of_ble_eq_true rfl, Nat.le_of_ble_eq_true rfl⟩ ⟨Nat.le_of_ble_eq_true rfl, Nat.le_of_ble_eq_true rfl⟩ rfl rfl (Nat.le_of_ble_eq_true rfl) (jd D_Rd_readTape 36 rfl) (fun v5 v k2 => ?_)
                obtain ⟨r2, rfl, k2⟩ := k2
                refine jv_fix [0, 1, 2, 3, 4, 5, 6, 7, 8, 9, 10] [(o, .inr (2, [.ref tp, .ref pp, .ref nn, .ref ob, .ref nb, .int (nI sk3.length), .int (nI i3), .int v.1, .int (-1)])), (tp, .inr (0, [.ref tb, .int (nI t.length)])), (tb, .inl (dA 0, 4096, .inl f)), (pp, .inr (0, [.ref pb, .int (nI pr3.length)])), (pb, .inl (dA 0, 4096, .inl v.2.1)), (nn, .inr (1, [.ref pp, .ref s1, .ref s2, .ref s3, .int (nI ns3.length)])), (s1, .inl (dA 1, 1024, .inl fS2)), (s2, .inl (dA 1, 1024, .inl fE2)), (s3, .inl (dA 1, 1024, .inl fH2)), (ob, .inl (dA 0, 32, .inl v.2.2.1)), (nb, .inl (dA 1, 32, .inl v.2.2.2))] [.int r2] 0 0 rfl rfl rfl (Nat.le_refl _) (Nat.le_refl _) ?_
                obtain ⟨k2a, k2⟩ := k2
                subst k2a
                refine jv_istore_n C [(1, .int (nI nx3)), (3, .int (js_b t i2)), (0, .ref o), (2, .int (nI k))] (jd D_Rd_readTape 37 rfl) rfl (by decide) rfl ?_
                refine jv_goto (tgt := 151) C (jd D_Rd_readTape 38 rfl) (by decide) ?_
                refine jv_iinc (v := nI (k + 1)) C [(2, .int (nI (k + 1))), (1, .int (nI nx3)), (3, .int (js_b t i2)), (0, .ref o)] (jd D_Rd_readTape 65 rfl) 3 rfl (nI_1 k) (by decide) rfl ?_
                refine jv_goto (tgt := 8) C (jd D_Rd_readTape 66 rfl) (by decide) ?_
                refine jv_lvsub [3, 1, 0] rfl ?_
                exact ih (k + 1) nx3 i3 pr3 sk3 ns3 v.1 v.2.1 fS2 fE2 fH2 v.2.2.1 v.2.2.2 (by omega) (by omega) (k2) (js_val_wf (by omega) hw hE) (by rw [← hrun, show 4097 - k = (4097 - (k + 1)) + 1 by omega, js_run_ok (nx3 := nx3) (i3 := i3) (pr3 := pr3) (sk3 := sk3) (ns3 := ns3) h6 hi2 (by rw [js_step, if_neg (by omega), if_pos hnx, if_neg c84, hE])])
            · obtain ⟨s0, n0, hsk⟩ := hw.2.2.2.2.2.1 hnx
              have hit : i2 < t.length := js_b_lt (by rw [c84]; decide)
              have hR3 := hR2
              rw [hsk] at hR3
              have hw3 := hw
              rw [hsk] at hw3
              have hm3 := js_pw_last hw3.2.2.2.1
              refine jv_weq (ws' := [(o, .inr (2, [.ref tp, .ref pp, .ref nn, .ref ob, .ref nb, .int (nI ((s0 ++ [(91, n0)]).length)), .int (nI i2), .int ub2, .int (-1)])), (tp, .inr (0, [.ref tb, .int (nI t.length)])), (tb, .inl (dA 0, 4096, .inl f)), (pp, .inr (0, [.ref pb, .int (nI pr.length)])), (pb, .inl (dA 0, 4096, .inl g2)), (nn, .inr (1, [.ref pp, .ref s1, .ref s2, .ref s3, .int (nI ns.length)])), (s1, .inl (dA 1, 1024, .inl fS2)), (s2, .inl (dA 1, 1024, .inl fE2)), (s3, .inl (dA 1, 1024, .inl fH2)), (ob, .inl (dA 0, 32, .inl fO2)), (nb, .inl (dA 1, 32, .inl fB2))]) (by rw [hsk]) ?_
              refine jv_lveq (lv' := [(3, .int (nI 93)), (0, .ref o), (1, .int (nI nx)), (2, .int (nI k))]) (by rw [c84]; rfl) ?_
              refine jv_aload_n C (jd D_Rd_readTape 30 rfl) rfl 1 rfl ?_
              refine jv_iload_n C (jd D_Rd_readTape 31 rfl) rfl 0 rfl ?_
              refine jv_callV (wr := []) C cl_Rd_56 (c_Rd_close o tp pp nn ob nb tb pb s1 s2 s3 f g2 fS2 fE2 fH2 fO2 fB2 t pr s0 ns i2 ub2 (-1) 91 n0 93 ht h4 hR3 hit (by decide) hm3) [0, 1, 2, 3, 4, 5, 6, 7, 8, 9, 10] [] rfl rfl rfl rfl (by decide) rfl rfl 0 rfl ⟨Nat.le_of_ble_eq_true rfl, Nat.le_of_ble_eq_true rfl⟩ ⟨Nat.le_of_ble_eq_true rfl, Nat.le_of_ble_eq_true rfl⟩ rfl rfl (Nat.le_of_ble_eq_true rfl) (jd D_Rd_readTape 32 rfl) (fun v6 g9 k2 => ?_)
              obtain ⟨r2, rfl, k2⟩ := k2
              refine jv_fix [0, 1, 2, 3, 4, 5, 6, 7, 8, 9, 10] [(o, .inr (2, [.ref tp, .ref pp, .ref nn, .ref ob, .ref nb, .int (nI s0.length), .int (nI (i2 + 1)), .int ub2, .int (-1)])), (tp, .inr (0, [.ref tb, .int (nI t.length)])), (tb, .inl (dA 0, 4096, .inl f)), (pp, .inr (0, [.ref pb, .int (nI (pr ++ [93]).length)])), (pb, .inl (dA 0, 4096, .inl g9)), (nn, .inr (1, [.ref pp, .ref s1, .ref s2, .ref s3, .int (nI ((ns.take n0).length))])), (s1, .inl (dA 1, 1024, .inl fS2)), (s2, .inl (dA 1, 1024, .inl fE2)), (s3, .inl (dA 1, 1024, .inl fH2)), (ob, .inl (dA 0, 32, .inl fO2)), (nb, .inl (dA 1, 32, .inl fB2))] [.int r2] 0 0 rfl rfl rfl (Nat.le_refl _) (Nat.le_refl _) ?_
              obtain ⟨k2a, k2⟩ := k2
              subst k2a
              refine jv_goto (tgt := 100) C (jd D_Rd_readTape 33 rfl) (by decide) ?_
              refine jv_istore_n C [(1, .int 5), (3, .int (nI 93)), (0, .ref o), (2, .int (nI k))] (jd D_Rd_readTape 37 rfl) rfl (by decide) rfl ?_
              refine jv_goto (tgt := 151) C (jd D_Rd_readTape 38 rfl) (by decide) ?_
              refine jv_iinc (v := nI (k + 1)) C [(2, .int (nI (k + 1))), (1, .int 5), (3, .int (nI 93)), (0, .ref o)] (jd D_Rd_readTape 65 rfl) 3 rfl (nI_1 k) (by decide) rfl ?_
              refine jv_goto (tgt := 8) C (jd D_Rd_readTape 66 rfl) (by decide) ?_
              refine jv_lvsub [3, 1, 0] rfl ?_
              exact ih (k + 1) 5 (i2 + 1) (pr ++ [93]) s0 (ns.take n0) ub2 g9 fS2 fE2 fH2 fO2 fB2 (by omega) (by omega) (k2) (js_clo_wf (i := i2) (by omega) (by omega) hw3) (by rw [← hrun, show 4097 - k = (4097 - (k + 1)) + 1 by omega, js_run_ok (nx3 := 5) (i3 := (i2 + 1)) (pr3 := (pr ++ [93])) (sk3 := s0) (ns3 := (ns.take n0)) h6 hi2 (by rw [js_step, if_neg (by omega), if_pos hnx, if_pos c84, hsk, js_clo_app])])
          by_cases s38_2 : (nI nx) = 2
          · refine jv_tableIn (tgt := 104) (off := 66) C (jd D_Rd_readTape 21 rfl) (by rw [s38_2]; decide) (by rw [s38_2]; decide) (by rw [s38_2] <;> rfl) (by decide) ?_
            have hnx : nx = 2 := (nI_eq (a := nx) (b := 2) (by omega) (by decide)).mp s38_2
            obtain ⟨s0, n0, hsk⟩ := hw.2.2.2.2.2.2 (by omega)
            have hR3 := hR2
            rw [hsk] at hR3
            have hw3 := hw
            rw [hsk] at hw3
            have hm3 := js_pw_last hw3.2.2.2.1
            have hjl : js_last sk = n0 := by rw [hsk]; exact js_last_app _ _
            by_cases hq : js_b t i2 = 34
            · have hit : i2 < t.length := js_b_lt (by rw [hq]; decide)
              rcases hE : js_st t 4096 (i2 + 1) [] with qq | ⟨us, z⟩
              · rw [show 4097 - k = (4097 - (k + 1)) + 1 by omega, js_run_no h6 hi2 (by rw [js_step, if_neg (by omega), if_neg (by omega), if_pos hnx, js_nm, if_pos hq, hE]), hfin] at hrun
                cases hrun
              · by_cases hd : js_dup (pr ++ [34] ++ us.flatMap js_pu ++ [34]) ns n0 pr.length
                · rw [show 4097 - k = (4097 - (k + 1)) + 1 by omega, js_run_no h6 hi2 (by rw [js_step, if_neg (by omega), if_neg (by omega), if_pos hnx, js_nm_dup hq hE hjl hd]), hfin] at hrun
                  cases hrun
                · have hc9 : ns.length < 1024 := by
                    have hx1 := js_st_len ht.by hE
                    have hx2 := hw.2.1
                    have hx3 : js_slk nx = 0 := by unfold js_slk; rw [if_neg (by omega), if_neg (by omega)]
                    have hx4 := hR2.2.1
                    have hx5 := hR2.1
                    omega
                  refine jv_aload_n C (jd D_Rd_readTape 39 rfl) rfl 1 rfl ?_
                  refine jv_weq (ws' := [(o, .inr (2, [.ref tp, .ref pp, .ref nn, .ref ob, .ref nb, .int (nI ((s0 ++ [(123, n0)]).length)), .int (nI i2), .int ub2, .int (-1)])), (tp, .inr (0, [.ref tb, .int (nI t.length)])), (tb, .inl (dA 0, 4096, .inl f)), (pp, .inr (0, [.ref pb, .int (nI pr.length)])), (pb, .inl (dA 0, 4096, .inl g2)), (nn, .inr (1, [.ref pp, .ref s1, .ref s2, .ref s3, .int (nI ns.length)])), (s1, .inl (dA 1, 1024, .inl fS2)), (s2, .inl (dA 1, 1024, .inl fE2)), (s3, .inl (dA 1, 1024, .inl fH2)), (ob, .inl (dA 0, 32, .inl fO2)), (nb, .inl (dA 1, 32, .inl fB2))]) (by rw [hsk]) ?_
                  refine jv_lveq (lv' := [(3, .int 34), (0, .ref o), (1, .int (nI nx)), (2, .int (nI k))]) (by rw [hq]) ?_
                  refine jv_iload_n C (jd D_Rd_readTape 40 rfl) rfl 0 rfl ?_
                  refine jv_callV (wr := []) C cl_Rd_59 (c_Rd_name_ok o tp pp nn ob nb tb pb s1 s2 s3 f g2 fS2 fE2 fH2 fO2 fB2 t pr s0 ns i2 ub2 (-1) 123 n0 z us ht h4 hR3 hm3 hit hc9 hE hd) [0, 1, 2, 3, 4, 5, 6, 7, 8, 9, 10] [] rfl rfl rfl rfl (by decide) rfl rfl 0 rfl ⟨Nat.le_of_ble_eq_true rfl, Nat.le_of_ble_eq_true rfl⟩ ⟨Nat.le_of_ble_eq_true rfl, Nat.le_of_ble_eq_true rfl⟩ rfl rfl (Nat.le_of_ble_eq_true rfl) (jd D_Rd_readTape 41 rfl) (fun v7 v k2 => ?_)
                  obtain ⟨r2, rfl, k2⟩ := k2
                  refine jv_fix [0, 1, 2, 3, 4, 5, 6, 7, 8, 9, 10] [(o, .inr (2, [.ref tp, .ref pp, .ref nn, .ref ob, .ref nb, .int (nI ((s0 ++ [(123, n0)]).length)), .int (nI z), .int v.1, .int (-1)])), (tp, .inr (0, [.ref tb, .int (nI t.length)])), (tb, .inl (dA 0, 4096, .inl f)), (pp, .inr (0, [.ref pb, .int (nI (pr ++ [34] ++ us.flatMap js_pu ++ [34]).length)])), (pb, .inl (dA 0, 4096, .inl v.2)), (nn, .inr (1, [.ref pp, .ref s1, .ref s2, .ref s3, .int (nI ((ns ++ [(pr.length, (pr ++ [34] ++ us.flatMap js_pu ++ [34]).length)]).length))])), (s1, .inl (dA 1, 1024, .inl (upd fS2 ns.length (nI pr.length)))), (s2, .inl (dA 1, 1024, .inl (upd fE2 ns.length (nI (pr ++ [34] ++ us.flatMap js_pu ++ [34]).length)))), (s3, .inl (dA 1, 1024, .inl (upd fH2 ns.length (js_hash (pr ++ [34] ++ us.flatMap js_pu ++ [34]) pr.length ((pr ++ [34] ++ us.flatMap js_pu ++ [34]).length - pr.length))))), (ob, .inl (dA 0, 32, .inl fO2)), (nb, .inl (dA 1, 32, .inl fB2))] [.int r2] 0 0 rfl rfl rfl (Nat.le_refl _) (Nat.le_refl _) ?_
                  obtain ⟨k2a, k2⟩ := k2
                  subst k2a
                  refine jv_istore_n C [(1, .int 4), (3, .int 34), (0, .ref o), (2, .int (nI k))] (jd D_Rd_readTape 42 rfl) rfl (by decide) rfl ?_
                  refine jv_goto (tgt := 151) C (jd D_Rd_readTape 43 rfl) (by decide) ?_
                  refine jv_iinc (v := nI (k + 1)) C [(2, .int (nI (k + 1))), (1, .int 4), (3, .int 34), (0, .ref o)] (jd D_Rd_readTape 65 rfl) 3 rfl (nI_1 k) (by decide) rfl ?_
                  refine jv_goto (tgt := 8) C (jd D_Rd_readTape 66 rfl) (by decide) ?_
                  refine jv_lvsub [3, 1, 0] rfl ?_
                  exact ih (k + 1) 4 z (pr ++ [34] ++ us.flatMap js_pu ++ [34]) (s0 ++ [(123, n0)]) (ns ++ [(pr.length, (pr ++ [34] ++ us.flatMap js_pu ++ [34]).length)]) v.1 v.2 (upd fS2 ns.length (nI pr.length)) (upd fE2 ns.length (nI (pr ++ [34] ++ us.flatMap js_pu ++ [34]).length)) (upd fH2 ns.length (js_hash (pr ++ [34] ++ us.flatMap js_pu ++ [34]) pr.length ((pr ++ [34] ++ us.flatMap js_pu ++ [34]).length - pr.length))) fO2 fB2 (by omega) (by omega) (k2) (js_nm_wf (t := t) (i := i2) (nx := nx) (by omega) hw (by rw [js_nm_new hq hE hjl hd, hsk])) (by rw [← hrun, show 4097 - k = (4097 - (k + 1)) + 1 by omega, js_run_ok (nx3 := 4) (i3 := z) (pr3 := (pr ++ [34] ++ us.flatMap js_pu ++ [34])) (sk3 := (s0 ++ [(123, n0)])) (ns3 := (ns ++ [(pr.length, (pr ++ [34] ++ us.flatMap js_pu ++ [34]).length)])) h6 hi2 (by rw [js_step, if_neg (by omega), if_neg (by omega), if_pos hnx, js_nm_new hq hE hjl hd, hsk])])
            · rw [show 4097 - k = (4097 - (k + 1)) + 1 by omega, js_run_no h6 hi2 (by rw [js_step, if_neg (by omega), if_neg (by omega), if_pos hnx, js_nm, if_neg hq]), hfin] at hrun
              cases hrun
          by_cases s38_3 : (nI nx) = 3
          · refine jv_tableIn (tgt := 113) (off := 75) C (jd D_Rd_readTape 21 rfl) (by rw [s38_3]; decide) (by rw [s38_3]; decide) (by rw [s38_3] <;> rfl) (by decide) ?_
            have hnx : nx = 3 := (nI_eq (a := nx) (b := 3) (by omega) (by decide)).mp s38_3
            refine jv_iload_n C (jd D_Rd_readTape 44 rfl) rfl 0 rfl ?_
            refine jv_bipush (v := 125) C (jd D_Rd_readTape 45 rfl) (by decide) ?_
            refine jv_icmp_ne (tgt := 127) C (jd D_Rd_readTape 46 rfl) (by decide) (fun c116 => ?_) (fun c116 => ?_)
            · obtain ⟨s0, n0, hsk⟩ := hw.2.2.2.2.2.2 (by omega)
              have hR3 := hR2
              rw [hsk] at hR3
              have hw3 := hw
              rw [hsk] at hw3
              have hm3 := js_pw_last hw3.2.2.2.1
              have hjl : js_last sk = n0 := by rw [hsk]; exact js_last_app _ _
              by_cases hq : js_b t i2 = 34
              · have hit : i2 < t.length := js_b_lt (by rw [hq]; decide)
                rcases hE : js_st t 4096 (i2 + 1) [] with qq | ⟨us, z⟩
                · rw [show 4097 - k = (4097 - (k + 1)) + 1 by omega, js_run_no h6 hi2 (by rw [js_step, if_neg (by omega), if_neg (by omega), if_neg (by omega), if_pos hnx, if_neg c116, js_nm, if_pos hq, hE]), hfin] at hrun
                  cases hrun
                · by_cases hd : js_dup (pr ++ [34] ++ us.flatMap js_pu ++ [34]) ns n0 pr.length
                  · rw [show 4097 - k = (4097 - (k + 1)) + 1 by omega, js_run_no h6 hi2 (by rw [js_step, if_neg (by omega), if_neg (by omega), if_neg (by omega), if_pos hnx, if_neg c116, js_nm_dup hq hE hjl hd]), hfin] at hrun
                    cases hrun
                  · have hc9 : ns.length < 1024 := by
                      have hx1 := js_st_len ht.by hE
                      have hx2 := hw.2.1
                      have hx3 : js_slk nx = 0 := by unfold js_slk; rw [if_neg (by omega), if_neg (by omega)]
                      have hx4 := hR2.2.1
                      have hx5 := hR2.1
                      omega
                    refine jv_aload_n C (jd D_Rd_readTape 51 rfl) rfl 1 rfl ?_
                    refine jv_weq (ws' := [(o, .inr (2, [.ref tp, .ref pp, .ref nn, .ref ob, .ref nb, .int (nI ((s0 ++ [(123, n0)]).length)), .int (nI i2), .int ub2, .int (-1)])), (tp, .inr (0, [.ref tb, .int (nI t.length)])), (tb, .inl (dA 0, 4096, .inl f)), (pp, .inr (0, [.ref pb, .int (nI pr.length)])), (pb, .inl (dA 0, 4096, .inl g2)), (nn, .inr (1, [.ref pp, .ref s1, .ref s2, .ref s3, .int (nI ns.length)])), (s1, .inl (dA 1, 1024, .inl fS2)), (s2, .inl (dA 1, 1024, .inl fE2)), (s3, .inl (dA 1, 1024, .inl fH2)), (ob, .inl (dA 0, 32, .inl fO2)), (nb, .inl (dA 1, 32, .inl fB2))]) (by rw [hsk]) ?_
                    refine jv_lveq (lv' := [(3, .int 34), (0, .ref o), (1, .int (nI nx)), (2, .int (nI k))]) (by rw [hq]) ?_
                    refine jv_iload_n C (jd D_Rd_readTape 52 rfl) rfl 0 rfl ?_
                    refine jv_callV (wr := []) C cl_Rd_59 (c_Rd_name_ok o tp pp nn ob nb tb pb s1 s2 s3 f g2 fS2 fE2 fH2 fO2 fB2 t pr s0 ns i2 ub2 (-1) 123 n0 z us ht h4 hR3 hm3 hit hc9 hE hd) [0, 1, 2, 3, 4, 5, 6, 7, 8, 9, 10] [] rfl rfl rfl rfl (by decide) rfl rfl 0 rfl ⟨Nat.le_of_ble_eq_true rfl, Nat.le_of_ble_eq_true rfl⟩ ⟨Nat.le_of_ble_eq_true rfl, Nat.le_of_ble_eq_true rfl⟩ rfl rfl (Nat.le_of_ble_eq_true rfl) (jd D_Rd_readTape 53 rfl) (fun v8 v k2 => ?_)
                    obtain ⟨r2, rfl, k2⟩ := k2
                    refine jv_fix [0, 1, 2, 3, 4, 5, 6, 7, 8, 9, 10] [(o, .inr (2, [.ref tp, .ref pp, .ref nn, .ref ob, .ref nb, .int (nI ((s0 ++ [(123, n0)]).length)), .int (nI z), .int v.1, .int (-1)])), (tp, .inr (0, [.ref tb, .int (nI t.length)])), (tb, .inl (dA 0, 4096, .inl f)), (pp, .inr (0, [.ref pb, .int (nI (pr ++ [34] ++ us.flatMap js_pu ++ [34]).length)])), (pb, .inl (dA 0, 4096, .inl v.2)), (nn, .inr (1, [.ref pp, .ref s1, .ref s2, .ref s3, .int (nI ((ns ++ [(pr.length, (pr ++ [34] ++ us.flatMap js_pu ++ [34]).length)]).length))])), (s1, .inl (dA 1, 1024, .inl (upd fS2 ns.length (nI pr.length)))), (s2, .inl (dA 1, 1024, .inl (upd fE2 ns.length (nI (pr ++ [34] ++ us.flatMap js_pu ++ [34]).length)))), (s3, .inl (dA 1, 1024, .inl (upd fH2 ns.length (js_hash (pr ++ [34] ++ us.flatMap js_pu ++ [34]) pr.length ((pr ++ [34] ++ us.flatMap js_pu ++ [34]).length - pr.length))))), (ob, .inl (dA 0, 32, .inl fO2)), (nb, .inl (dA 1, 32, .inl fB2))] [.int r2] 0 0 rfl rfl rfl (Nat.le_refl _) (Nat.le_refl _) ?_
                    obtain ⟨k2a, k2⟩ := k2
                    subst k2a
                    refine jv_istore_n C [(1, .int 4), (3, .int 34), (0, .ref o), (2, .int (nI k))] (jd D_Rd_readTape 54 rfl) rfl (by decide) rfl ?_
                    refine jv_goto (tgt := 151) C (jd D_Rd_readTape 55 rfl) (by decide) ?_
                    refine jv_iinc (v := nI (k + 1)) C [(2, .int (nI (k + 1))), (1, .int 4), (3, .int 34), (0, .ref o)] (jd D_Rd_readTape 65 rfl) 3 rfl (nI_1 k) (by decide) rfl ?_
                    refine jv_goto (tgt := 8) C (jd D_Rd_readTape 66 rfl) (by decide) ?_
                    refine jv_lvsub [3, 1, 0] rfl ?_
                    exact ih (k + 1) 4 z (pr ++ [34] ++ us.flatMap js_pu ++ [34]) (s0 ++ [(123, n0)]) (ns ++ [(pr.length, (pr ++ [34] ++ us.flatMap js_pu ++ [34]).length)]) v.1 v.2 (upd fS2 ns.length (nI pr.length)) (upd fE2 ns.length (nI (pr ++ [34] ++ us.flatMap js_pu ++ [34]).length)) (upd fH2 ns.length (js_hash (pr ++ [34] ++ us.flatMap js_pu ++ [34]) pr.length ((pr ++ [34] ++ us.flatMap js_pu ++ [34]).length - pr.length))) fO2 fB2 (by omega) (by omega) (k2) (js_nm_wf (t := t) (i := i2) (nx := nx) (by omega) hw (by rw [js_nm_new hq hE hjl hd, hsk])) (by rw [← hrun, show 4097 - k = (4097 - (k + 1)) + 1 by omega, js_run_ok (nx3 := 4) (i3 := z) (pr3 := (pr ++ [34] ++ us.flatMap js_pu ++ [34])) (sk3 := (s0 ++ [(123, n0)])) (ns3 := (ns ++ [(pr.length, (pr ++ [34] ++ us.flatMap js_pu ++ [34]).length)])) h6 hi2 (by rw [js_step, if_neg (by omega), if_neg (by omega), if_neg (by omega), if_pos hnx, if_neg c116, js_nm_new hq hE hjl hd, hsk])])
              · rw [show 4097 - k = (4097 - (k + 1)) + 1 by omega, js_run_no h6 hi2 (by rw [js_step, if_neg (by omega), if_neg (by omega), if_neg (by omega), if_pos hnx, if_neg c116, js_nm, if_neg hq]), hfin] at hrun
                cases hrun
            · obtain ⟨s0, n0, hsk⟩ := hw.2.2.2.2.2.2 (by omega)
              have hit : i2 < t.length := js_b_lt (by rw [c116]; decide)
              have hR3 := hR2
              rw [hsk] at hR3
              have hw3 := hw
              rw [hsk] at hw3
              have hm3 := js_pw_last hw3.2.2.2.1
              refine jv_weq (ws' := [(o, .inr (2, [.ref tp, .ref pp, .ref nn, .ref ob, .ref nb, .int (nI ((s0 ++ [(123, n0)]).length)), .int (nI i2), .int ub2, .int (-1)])), (tp, .inr (0, [.ref tb, .int (nI t.length)])), (tb, .inl (dA 0, 4096, .inl f)), (pp, .inr (0, [.ref pb, .int (nI pr.length)])), (pb, .inl (dA 0, 4096, .inl g2)), (nn, .inr (1, [.ref pp, .ref s1, .ref s2, .ref s3, .int (nI ns.length)])), (s1, .inl (dA 1, 1024, .inl fS2)), (s2, .inl (dA 1, 1024, .inl fE2)), (s3, .inl (dA 1, 1024, .inl fH2)), (ob, .inl (dA 0, 32, .inl fO2)), (nb, .inl (dA 1, 32, .inl fB2))]) (by rw [hsk]) ?_
              refine jv_lveq (lv' := [(3, .int (nI 125)), (0, .ref o), (1, .int (nI nx)), (2, .int (nI k))]) (by rw [c116]; rfl) ?_
              refine jv_aload_n C (jd D_Rd_readTape 47 rfl) rfl 1 rfl ?_
              refine jv_iload_n C (jd D_Rd_readTape 48 rfl) rfl 0 rfl ?_
              refine jv_callV (wr := []) C cl_Rd_56 (c_Rd_close o tp pp nn ob nb tb pb s1 s2 s3 f g2 fS2 fE2 fH2 fO2 fB2 t pr s0 ns i2 ub2 (-1) 123 n0 125 ht h4 hR3 hit (by decide) hm3) [0, 1, 2, 3, 4, 5, 6, 7, 8, 9, 10] [] rfl rfl rfl rfl (by decide) rfl rfl 0 rfl ⟨Nat.le_of_ble_eq_true rfl, Nat.le_of_ble_eq_true rfl⟩ ⟨Nat.le_of_ble_eq_true rfl, Nat.le_of_ble_eq_true rfl⟩ rfl rfl (Nat.le_of_ble_eq_true rfl) (jd D_Rd_readTape 49 rfl) (fun v9 g9 k2 => ?_)
              obtain ⟨r2, rfl, k2⟩ := k2
              refine jv_fix [0, 1, 2, 3, 4, 5, 6, 7, 8, 9, 10] [(o, .inr (2, [.ref tp, .ref pp, .ref nn, .ref ob, .ref nb, .int (nI s0.length), .int (nI (i2 + 1)), .int ub2, .int (-1)])), (tp, .inr (0, [.ref tb, .int (nI t.length)])), (tb, .inl (dA 0, 4096, .inl f)), (pp, .inr (0, [.ref pb, .int (nI (pr ++ [125]).length)])), (pb, .inl (dA 0, 4096, .inl g9)), (nn, .inr (1, [.ref pp, .ref s1, .ref s2, .ref s3, .int (nI ((ns.take n0).length))])), (s1, .inl (dA 1, 1024, .inl fS2)), (s2, .inl (dA 1, 1024, .inl fE2)), (s3, .inl (dA 1, 1024, .inl fH2)), (ob, .inl (dA 0, 32, .inl fO2)), (nb, .inl (dA 1, 32, .inl fB2))] [.int r2] 0 0 rfl rfl rfl (Nat.le_refl _) (Nat.le_refl _) ?_
              obtain ⟨k2a, k2⟩ := k2
              subst k2a
              refine jv_goto (tgt := 132) C (jd D_Rd_readTape 50 rfl) (by decide) ?_
              refine jv_istore_n C [(1, .int 5), (3, .int (nI 125)), (0, .ref o), (2, .int (nI k))] (jd D_Rd_readTape 54 rfl) rfl (by decide) rfl ?_
              refine jv_goto (tgt := 151) C (jd D_Rd_readTape 55 rfl) (by decide) ?_
              refine jv_iinc (v := nI (k + 1)) C [(2, .int (nI (k + 1))), (1, .int 5), (3, .int (nI 125)), (0, .ref o)] (jd D_Rd_readTape 65 rfl) 3 rfl (nI_1 k) (by decide) rfl ?_
              refine jv_goto (tgt := 8) C (jd D_Rd_readTape 66 rfl) (by decide) ?_
              refine jv_lvsub [3, 1, 0] rfl ?_
              exact ih (k + 1) 5 (i2 + 1) (pr ++ [125]) s0 (ns.take n0) ub2 g9 fS2 fE2 fH2 fO2 fB2 (by omega) (by omega) (k2) (js_clo_wf (i := i2) (by omega) (by omega) hw3) (by rw [← hrun, show 4097 - k = (4097 - (k + 1)) + 1 by omega, js_run_ok (nx3 := 5) (i3 := (i2 + 1)) (pr3 := (pr ++ [125])) (sk3 := s0) (ns3 := (ns.take n0)) h6 hi2 (by rw [js_step, if_neg (by omega), if_neg (by omega), if_neg (by omega), if_pos hnx, if_pos c116, hsk, js_clo_app])])
          by_cases s38_4 : (nI nx) = 4
          · refine jv_tableIn (tgt := 136) (off := 98) C (jd D_Rd_readTape 21 rfl) (by rw [s38_4]; decide) (by rw [s38_4]; decide) (by rw [s38_4] <;> rfl) (by decide) ?_
            have hnx : nx = 4 := (nI_eq (a := nx) (b := 4) (by omega) (by decide)).mp s38_4
            by_cases hq : js_b t i2 = 58
            · refine jv_aload_n C (jd D_Rd_readTape 56 rfl) rfl 1 rfl ?_
              have hit : i2 < t.length := js_b_lt (by rw [hq]; decide)
              refine jv_lveq (lv' := [(3, .int 58), (0, .ref o), (1, .int (nI nx)), (2, .int (nI k))]) (by rw [hq]) ?_
              refine jv_iload_n C (jd D_Rd_readTape 57 rfl) rfl 0 rfl ?_
              refine jv_callV (wr := []) C cl_Rd_62 (c_Rd_colon_ok o tp pp nn ob nb tb pb s1 s2 s3 f g2 fS2 fE2 fH2 fO2 fB2 t pr sk ns i2 ub2 (-1) ht h4 hR2 hit) [0, 1, 2, 3, 4, 5, 6, 7, 8, 9, 10] [] rfl rfl rfl rfl (by decide) rfl rfl 0 rfl ⟨Nat.le_of_ble_eq_true rfl, Nat.le_of_ble_eq_true rfl⟩ ⟨Nat.le_of_ble_eq_true rfl, Nat.le_of_ble_eq_true rfl⟩ rfl rfl (Nat.le_of_ble_eq_true rfl) (jd D_Rd_readTape 58 rfl) (fun v10 g9 k2 => ?_)
              obtain ⟨r2, rfl, k2⟩ := k2
              refine jv_fix [0, 1, 2, 3, 4, 5, 6, 7, 8, 9, 10] [(o, .inr (2, [.ref tp, .ref pp, .ref nn, .ref ob, .ref nb, .int (nI sk.length), .int (nI (i2 + 1)), .int ub2, .int (-1)])), (tp, .inr (0, [.ref tb, .int (nI t.length)])), (tb, .inl (dA 0, 4096, .inl f)), (pp, .inr (0, [.ref pb, .int (nI (pr ++ [58]).length)])), (pb, .inl (dA 0, 4096, .inl g9)), (nn, .inr (1, [.ref pp, .ref s1, .ref s2, .ref s3, .int (nI ns.length)])), (s1, .inl (dA 1, 1024, .inl fS2)), (s2, .inl (dA 1, 1024, .inl fE2)), (s3, .inl (dA 1, 1024, .inl fH2)), (ob, .inl (dA 0, 32, .inl fO2)), (nb, .inl (dA 1, 32, .inl fB2))] [.int r2] 0 0 rfl rfl rfl (Nat.le_refl _) (Nat.le_refl _) ?_
              obtain ⟨k2a, k2⟩ := k2
              subst k2a
              refine jv_istore_n C [(1, .int 0), (3, .int 58), (0, .ref o), (2, .int (nI k))] (jd D_Rd_readTape 59 rfl) rfl (by decide) rfl ?_
              refine jv_goto (tgt := 151) C (jd D_Rd_readTape 60 rfl) (by decide) ?_
              refine jv_iinc (v := nI (k + 1)) C [(2, .int (nI (k + 1))), (1, .int 0), (3, .int 58), (0, .ref o)] (jd D_Rd_readTape 65 rfl) 3 rfl (nI_1 k) (by decide) rfl ?_
              refine jv_goto (tgt := 8) C (jd D_Rd_readTape 66 rfl) (by decide) ?_
              refine jv_lvsub [3, 1, 0] rfl ?_
              exact ih (k + 1) 0 (i2 + 1) (pr ++ [58]) sk ns ub2 g9 fS2 fE2 fH2 fO2 fB2 (by omega) (by omega) (k2) (js_col_wf (t := t) (i := i2) (hnx ▸ hw) (by rw [js_col, if_pos hq])) (by rw [← hrun, show 4097 - k = (4097 - (k + 1)) + 1 by omega, js_run_ok (nx3 := 0) (i3 := (i2 + 1)) (pr3 := (pr ++ [58])) (sk3 := sk) (ns3 := ns) h6 hi2 (by rw [js_step, if_neg (by omega), if_neg (by omega), if_neg (by omega), if_neg (by omega), if_pos hnx, js_col, if_pos hq])])
            · rw [show 4097 - k = (4097 - (k + 1)) + 1 by omega, js_run_no h6 hi2 (by rw [js_step, if_neg (by omega), if_neg (by omega), if_neg (by omega), if_neg (by omega), if_pos hnx, js_col, if_neg hq]), hfin] at hrun
              cases hrun
          have q38 : (nI nx).toInt < 0 ∨ 4 < (nI nx).toInt := by
            have z0 : ¬ (nI nx).toInt = 0 := lv_neT s38_0 (by decide)
            have z1 : ¬ (nI nx).toInt = 1 := lv_neT s38_1 (by decide)
            have z2 : ¬ (nI nx).toInt = 2 := lv_neT s38_2 (by decide)
            have z3 : ¬ (nI nx).toInt = 3 := lv_neT s38_3 (by decide)
            have z4 : ¬ (nI nx).toInt = 4 := lv_neT s38_4 (by decide)
            omega
          refine jv_tableOut (tgt := 145) C (jd D_Rd_readTape 21 rfl) q38 (by decide) ?_
          have hnx : nx = 5 := by
            have z0 : ¬ nx = 0 := fun y => s38_0 (by rw [y]; rfl)
            have z1 : ¬ nx = 1 := fun y => s38_1 (by rw [y]; rfl)
            have z2 : ¬ nx = 2 := fun y => s38_2 (by rw [y]; rfl)
            have z3 : ¬ nx = 3 := fun y => s38_3 (by rw [y]; rfl)
            have z4 : ¬ nx = 4 := fun y => s38_4 (by rw [y]; rfl)
            omega
          rcases List.eq_nil_or_concat sk with hsk | ⟨s0, ⟨y0, n0⟩, hsk⟩
          · by_cases hq : js_b t i2 = -1
            · refine jv_aload_n C (jd D_Rd_readTape 61 rfl) rfl 1 rfl ?_
              refine jv_weq (ws' := [(o, .inr (2, [.ref tp, .ref pp, .ref nn, .ref ob, .ref nb, .int (nI 0), .int (nI i2), .int ub2, .int (-1)])), (tp, .inr (0, [.ref tb, .int (nI t.length)])), (tb, .inl (dA 0, 4096, .inl f)), (pp, .inr (0, [.ref pb, .int (nI pr.length)])), (pb, .inl (dA 0, 4096, .inl g2)), (nn, .inr (1, [.ref pp, .ref s1, .ref s2, .ref s3, .int (nI ns.length)])), (s1, .inl (dA 1, 1024, .inl fS2)), (s2, .inl (dA 1, 1024, .inl fE2)), (s3, .inl (dA 1, 1024, .inl fH2)), (ob, .inl (dA 0, 32, .inl fO2)), (nb, .inl (dA 1, 32, .inl fB2))]) (by rw [hsk]; rfl) ?_
              refine jv_lveq (lv' := [(3, .int (-1)), (0, .ref o), (1, .int (nI nx)), (2, .int (nI k))]) (by rw [hq]) ?_
              refine jv_iload_n C (jd D_Rd_readTape 62 rfl) rfl 0 rfl ?_
              refine jv_callV (wr := []) C cl_Rd_65 (c_Rd_behindValue_end o tp pp nn ob nb tb pb s1 s2 s3 f g2 fS2 fE2 fH2 fO2 fB2 t pr sk ns i2 ub2 (-1)) [0, 1, 2, 3, 4, 5, 6, 7, 8, 9, 10] [] rfl rfl rfl rfl (by decide) rfl rfl 0 rfl ⟨Nat.le_of_ble_eq_true rfl, Nat.le_of_ble_eq_true rfl⟩ ⟨Nat.le_of_ble_eq_true rfl, Nat.le_of_ble_eq_true rfl⟩ rfl rfl (Nat.le_of_ble_eq_true rfl) (jd D_Rd_readTape 63 rfl) (fun v11 _ k2 => ?_)
              obtain ⟨r2, rfl, k2⟩ := k2
              refine jv_fix [0, 1, 2, 3, 4, 5, 6, 7, 8, 9, 10] [(o, .inr (2, [.ref tp, .ref pp, .ref nn, .ref ob, .ref nb, .int (nI 0), .int (nI i2), .int ub2, .int (-1)])), (tp, .inr (0, [.ref tb, .int (nI t.length)])), (tb, .inl (dA 0, 4096, .inl f)), (pp, .inr (0, [.ref pb, .int (nI pr.length)])), (pb, .inl (dA 0, 4096, .inl g2)), (nn, .inr (1, [.ref pp, .ref s1, .ref s2, .ref s3, .int (nI ns.length)])), (s1, .inl (dA 1, 1024, .inl fS2)), (s2, .inl (dA 1, 1024, .inl fE2)), (s3, .inl (dA 1, 1024, .inl fH2)), (ob, .inl (dA 0, 32, .inl fO2)), (nb, .inl (dA 1, 32, .inl fB2))] [.int r2] 0 0 rfl rfl rfl (Nat.le_refl _) (Nat.le_refl _) ?_
              subst k2
              refine jv_istore_n C [(1, .int 6), (3, .int (-1)), (0, .ref o), (2, .int (nI k))] (jd D_Rd_readTape 64 rfl) rfl (by decide) rfl ?_
              refine jv_iinc (v := nI (k + 1)) C [(2, .int (nI (k + 1))), (1, .int 6), (3, .int (-1)), (0, .ref o)] (jd D_Rd_readTape 65 rfl) 3 rfl (nI_1 k) (by decide) rfl ?_
              refine jv_goto (tgt := 8) C (jd D_Rd_readTape 66 rfl) (by decide) ?_
              refine jv_lvsub [3, 1, 0] rfl ?_
              exact ih (k + 1) 6 i2 pr [] ns ub2 g2 fS2 fE2 fH2 fO2 fB2 (by omega) (by omega) (hsk ▸ hR2) (⟨Nat.le_refl _, by have := hw.2.1; rw [hnx] at this; exact this, fun q h => absurd h List.not_mem_nil, List.Pairwise.nil, fun q h => absurd h List.not_mem_nil, fun e => absurd e (by decide), fun e => absurd e (by decide)⟩) (by rw [← hrun, show 4097 - k = (4097 - (k + 1)) + 1 by omega, js_run_ok (nx3 := 6) (i3 := i2) (pr3 := pr) (sk3 := []) (ns3 := ns) h6 hi2 (by rw [js_step, if_neg (by omega), if_neg (by omega), if_neg (by omega), if_neg (by omega), if_neg (by omega), hsk, js_bv_nil, if_pos hq])])
            · rw [show 4097 - k = (4097 - (k + 1)) + 1 by omega, js_run_no h6 hi2 (by rw [js_step, if_neg (by omega), if_neg (by omega), if_neg (by omega), if_neg (by omega), if_neg (by omega), hsk, js_bv_nil, if_neg hq]), hfin] at hrun
              cases hrun
          · rw [List.concat_eq_append] at hsk
            have hR3 := hR2
            rw [hsk] at hR3
            have hw3 := hw
            rw [hsk, hnx] at hw3
            have hm3 := js_pw_last hw3.2.2.2.1
            rcases hw3.2.2.1 (y0, n0) (List.mem_append_right _ (List.mem_singleton.mpr rfl)) with hy | hy
            all_goals (have hy : y0 = _ := hy; subst hy)
            · by_cases hq : js_b t i2 = 44
              · refine jv_aload_n C (jd D_Rd_readTape 61 rfl) rfl 1 rfl ?_
                refine jv_weq (ws' := [(o, .inr (2, [.ref tp, .ref pp, .ref nn, .ref ob, .ref nb, .int (nI ((s0 ++ [(91, n0)]).length)), .int (nI i2), .int ub2, .int (-1)])), (tp, .inr (0, [.ref tb, .int (nI t.length)])), (tb, .inl (dA 0, 4096, .inl f)), (pp, .inr (0, [.ref pb, .int (nI pr.length)])), (pb, .inl (dA 0, 4096, .inl g2)), (nn, .inr (1, [.ref pp, .ref s1, .ref s2, .ref s3, .int (nI ns.length)])), (s1, .inl (dA 1, 1024, .inl fS2)), (s2, .inl (dA 1, 1024, .inl fE2)), (s3, .inl (dA 1, 1024, .inl fH2)), (ob, .inl (dA 0, 32, .inl fO2)), (nb, .inl (dA 1, 32, .inl fB2))]) (by rw [hsk]) ?_
                have hit : i2 < t.length := js_b_lt (by rw [hq]; decide)
                refine jv_lveq (lv' := [(3, .int 44), (0, .ref o), (1, .int (nI nx)), (2, .int (nI k))]) (by rw [hq]) ?_
                refine jv_iload_n C (jd D_Rd_readTape 62 rfl) rfl 0 rfl ?_
                refine jv_callV (wr := []) C cl_Rd_65 (c_Rd_behindValue_comma91 o tp pp nn ob nb tb pb s1 s2 s3 f g2 fS2 fE2 fH2 fO2 fB2 t pr s0 ns i2 ub2 (-1) n0 ht h4 hR3 hm3 hit) [0, 1, 2, 3, 4, 5, 6, 7, 8, 9, 10] [] rfl rfl rfl rfl (by decide) rfl rfl 0 rfl ⟨Nat.le_of_ble_eq_true rfl, Nat.le_of_ble_eq_true rfl⟩ ⟨Nat.le_of_ble_eq_true rfl, Nat.le_of_ble_eq_true rfl⟩ rfl rfl (Nat.le_of_ble_eq_true rfl) (jd D_Rd_readTape 63 rfl) (fun v12 g9 k2 => ?_)
                obtain ⟨r2, rfl, k2⟩ := k2
                refine jv_fix [0, 1, 2, 3, 4, 5, 6, 7, 8, 9, 10] [(o, .inr (2, [.ref tp, .ref pp, .ref nn, .ref ob, .ref nb, .int (nI ((s0 ++ [(91, n0)]).length)), .int (nI (i2 + 1)), .int ub2, .int (-1)])), (tp, .inr (0, [.ref tb, .int (nI t.length)])), (tb, .inl (dA 0, 4096, .inl f)), (pp, .inr (0, [.ref pb, .int (nI (pr ++ [44]).length)])), (pb, .inl (dA 0, 4096, .inl g9)), (nn, .inr (1, [.ref pp, .ref s1, .ref s2, .ref s3, .int (nI ns.length)])), (s1, .inl (dA 1, 1024, .inl fS2)), (s2, .inl (dA 1, 1024, .inl fE2)), (s3, .inl (dA 1, 1024, .inl fH2)), (ob, .inl (dA 0, 32, .inl fO2)), (nb, .inl (dA 1, 32, .inl fB2))] [.int r2] 0 0 rfl rfl rfl (Nat.le_refl _) (Nat.le_refl _) ?_
                obtain ⟨k2a, k2⟩ := k2
                subst k2a
                refine jv_istore_n C [(1, .int 0), (3, .int 44), (0, .ref o), (2, .int (nI k))] (jd D_Rd_readTape 64 rfl) rfl (by decide) rfl ?_
                refine jv_iinc (v := nI (k + 1)) C [(2, .int (nI (k + 1))), (1, .int 0), (3, .int 44), (0, .ref o)] (jd D_Rd_readTape 65 rfl) 3 rfl (nI_1 k) (by decide) rfl ?_
                refine jv_goto (tgt := 8) C (jd D_Rd_readTape 66 rfl) (by decide) ?_
                refine jv_lvsub [3, 1, 0] rfl ?_
                exact ih (k + 1) 0 (i2 + 1) (pr ++ [44]) (s0 ++ [(91, n0)]) ns ub2 g9 fS2 fE2 fH2 fO2 fB2 (by omega) (by omega) (k2) (js_comma_wf (y := 91) (by decide) hw3) (by rw [← hrun, show 4097 - k = (4097 - (k + 1)) + 1 by omega, js_run_ok (nx3 := 0) (i3 := (i2 + 1)) (pr3 := (pr ++ [44])) (sk3 := (s0 ++ [(91, n0)])) (ns3 := ns) h6 hi2 (by rw [js_step, if_neg (by omega), if_neg (by omega), if_neg (by omega), if_neg (by omega), if_neg (by omega), hsk, js_bv_app, if_pos hq]; rfl)])
              · by_cases hq2 : js_b t i2 = 93
                · refine jv_aload_n C (jd D_Rd_readTape 61 rfl) rfl 1 rfl ?_
                  refine jv_weq (ws' := [(o, .inr (2, [.ref tp, .ref pp, .ref nn, .ref ob, .ref nb, .int (nI ((s0 ++ [(91, n0)]).length)), .int (nI i2), .int ub2, .int (-1)])), (tp, .inr (0, [.ref tb, .int (nI t.length)])), (tb, .inl (dA 0, 4096, .inl f)), (pp, .inr (0, [.ref pb, .int (nI pr.length)])), (pb, .inl (dA 0, 4096, .inl g2)), (nn, .inr (1, [.ref pp, .ref s1, .ref s2, .ref s3, .int (nI ns.length)])), (s1, .inl (dA 1, 1024, .inl fS2)), (s2, .inl (dA 1, 1024, .inl fE2)), (s3, .inl (dA 1, 1024, .inl fH2)), (ob, .inl (dA 0, 32, .inl fO2)), (nb, .inl (dA 1, 32, .inl fB2))]) (by rw [hsk]) ?_
                  have hit : i2 < t.length := js_b_lt (by rw [hq2]; decide)
                  refine jv_lveq (lv' := [(3, .int 93), (0, .ref o), (1, .int (nI nx)), (2, .int (nI k))]) (by rw [hq2]) ?_
                  refine jv_iload_n C (jd D_Rd_readTape 62 rfl) rfl 0 rfl ?_
                  refine jv_callV (wr := []) C cl_Rd_65 (c_Rd_behindValue_close91 o tp pp nn ob nb tb pb s1 s2 s3 f g2 fS2 fE2 fH2 fO2 fB2 t pr s0 ns i2 ub2 (-1) n0 ht h4 hR3 hm3 hit) [0, 1, 2, 3, 4, 5, 6, 7, 8, 9, 10] [] rfl rfl rfl rfl (by decide) rfl rfl 0 rfl ⟨Nat.le_of_ble_eq_true rfl, Nat.le_of_ble_eq_true rfl⟩ ⟨Nat.le_of_ble_eq_true rfl, Nat.le_of_ble_eq_true rfl⟩ rfl rfl (Nat.le_of_ble_eq_true rfl) (jd D_Rd_readTape 63 rfl) (fun v13 g9 k2 => ?_)
                  obtain ⟨r2, rfl, k2⟩ := k2
                  refine jv_fix [0, 1, 2, 3, 4, 5, 6, 7, 8, 9, 10] [(o, .inr (2, [.ref tp, .ref pp, .ref nn, .ref ob, .ref nb, .int (nI s0.length), .int (nI (i2 + 1)), .int ub2, .int (-1)])), (tp, .inr (0, [.ref tb, .int (nI t.length)])), (tb, .inl (dA 0, 4096, .inl f)), (pp, .inr (0, [.ref pb, .int (nI (pr ++ [93]).length)])), (pb, .inl (dA 0, 4096, .inl g9)), (nn, .inr (1, [.ref pp, .ref s1, .ref s2, .ref s3, .int (nI ((ns.take n0).length))])), (s1, .inl (dA 1, 1024, .inl fS2)), (s2, .inl (dA 1, 1024, .inl fE2)), (s3, .inl (dA 1, 1024, .inl fH2)), (ob, .inl (dA 0, 32, .inl fO2)), (nb, .inl (dA 1, 32, .inl fB2))] [.int r2] 0 0 rfl rfl rfl (Nat.le_refl _) (Nat.le_refl _) ?_
                  obtain ⟨k2a, k2⟩ := k2
                  subst k2a
                  refine jv_istore_n C [(1, .int 5), (3, .int 93), (0, .ref o), (2, .int (nI k))] (jd D_Rd_readTape 64 rfl) rfl (by decide) rfl ?_
                  refine jv_iinc (v := nI (k + 1)) C [(2, .int (nI (k + 1))), (1, .int 5), (3, .int 93), (0, .ref o)] (jd D_Rd_readTape 65 rfl) 3 rfl (nI_1 k) (by decide) rfl ?_
                  refine jv_goto (tgt := 8) C (jd D_Rd_readTape 66 rfl) (by decide) ?_
                  refine jv_lvsub [3, 1, 0] rfl ?_
                  exact ih (k + 1) 5 (i2 + 1) (pr ++ [93]) s0 (ns.take n0) ub2 g9 fS2 fE2 fH2 fO2 fB2 (by omega) (by omega) (k2) (js_clo_wf (nx := 5) (i := i2) (by decide) (by decide) hw3) (by rw [← hrun, show 4097 - k = (4097 - (k + 1)) + 1 by omega, js_run_ok (nx3 := 5) (i3 := (i2 + 1)) (pr3 := (pr ++ [93])) (sk3 := s0) (ns3 := (ns.take n0)) h6 hi2 (by rw [js_step, if_neg (by omega), if_neg (by omega), if_neg (by omega), if_neg (by omega), if_neg (by omega), hsk, js_bv_app, if_neg hq, if_pos (by rw [hq2]; rfl)]; exact js_clo_app)])
                · rw [show 4097 - k = (4097 - (k + 1)) + 1 by omega, js_run_no h6 hi2 (by rw [js_step, if_neg (by omega), if_neg (by omega), if_neg (by omega), if_neg (by omega), if_neg (by omega), hsk, js_bv_app, if_neg hq, if_neg (fun y => hq2 (by rw [y]; rfl))]), hfin] at hrun
                  cases hrun
            · by_cases hq : js_b t i2 = 44
              · refine jv_aload_n C (jd D_Rd_readTape 61 rfl) rfl 1 rfl ?_
                refine jv_weq (ws' := [(o, .inr (2, [.ref tp, .ref pp, .ref nn, .ref ob, .ref nb, .int (nI ((s0 ++ [(123, n0)]).length)), .int (nI i2), .int ub2, .int (-1)])), (tp, .inr (0, [.ref tb, .int (nI t.length)])), (tb, .inl (dA 0, 4096, .inl f)), (pp, .inr (0, [.ref pb, .int (nI pr.length)])), (pb, .inl (dA 0, 4096, .inl g2)), (nn, .inr (1, [.ref pp, .ref s1, .ref s2, .ref s3, .int (nI ns.length)])), (s1, .inl (dA 1, 1024, .inl fS2)), (s2, .inl (dA 1, 1024, .inl fE2)), (s3, .inl (dA 1, 1024, .inl fH2)), (ob, .inl (dA 0, 32, .inl fO2)), (nb, .inl (dA 1, 32, .inl fB2))]) (by rw [hsk]) ?_
                have hit : i2 < t.length := js_b_lt (by rw [hq]; decide)
                refine jv_lveq (lv' := [(3, .int 44), (0, .ref o), (1, .int (nI nx)), (2, .int (nI k))]) (by rw [hq]) ?_
                refine jv_iload_n C (jd D_Rd_readTape 62 rfl) rfl 0 rfl ?_
                refine jv_callV (wr := []) C cl_Rd_65 (c_Rd_behindValue_comma123 o tp pp nn ob nb tb pb s1 s2 s3 f g2 fS2 fE2 fH2 fO2 fB2 t pr s0 ns i2 ub2 (-1) n0 ht h4 hR3 hm3 hit) [0, 1, 2, 3, 4, 5, 6, 7, 8, 9, 10] [] rfl rfl rfl rfl (by decide) rfl rfl 0 rfl ⟨Nat.le_of_ble_eq_true rfl, Nat.le_of_ble_eq_true rfl⟩ ⟨Nat.le_of_ble_eq_true rfl, Nat.le_of_ble_eq_true rfl⟩ rfl rfl (Nat.le_of_ble_eq_true rfl) (jd D_Rd_readTape 63 rfl) (fun v14 g9 k2 => ?_)
                obtain ⟨r2, rfl, k2⟩ := k2
                refine jv_fix [0, 1, 2, 3, 4, 5, 6, 7, 8, 9, 10] [(o, .inr (2, [.ref tp, .ref pp, .ref nn, .ref ob, .ref nb, .int (nI ((s0 ++ [(123, n0)]).length)), .int (nI (i2 + 1)), .int ub2, .int (-1)])), (tp, .inr (0, [.ref tb, .int (nI t.length)])), (tb, .inl (dA 0, 4096, .inl f)), (pp, .inr (0, [.ref pb, .int (nI (pr ++ [44]).length)])), (pb, .inl (dA 0, 4096, .inl g9)), (nn, .inr (1, [.ref pp, .ref s1, .ref s2, .ref s3, .int (nI ns.length)])), (s1, .inl (dA 1, 1024, .inl fS2)), (s2, .inl (dA 1, 1024, .inl fE2)), (s3, .inl (dA 1, 1024, .inl fH2)), (ob, .inl (dA 0, 32, .inl fO2)), (nb, .inl (dA 1, 32, .inl fB2))] [.int r2] 0 0 rfl rfl rfl (Nat.le_refl _) (Nat.le_refl _) ?_
                obtain ⟨k2a, k2⟩ := k2
                subst k2a
                refine jv_istore_n C [(1, .int 2), (3, .int 44), (0, .ref o), (2, .int (nI k))] (jd D_Rd_readTape 64 rfl) rfl (by decide) rfl ?_
                refine jv_iinc (v := nI (k + 1)) C [(2, .int (nI (k + 1))), (1, .int 2), (3, .int 44), (0, .ref o)] (jd D_Rd_readTape 65 rfl) 3 rfl (nI_1 k) (by decide) rfl ?_
                refine jv_goto (tgt := 8) C (jd D_Rd_readTape 66 rfl) (by decide) ?_
                refine jv_lvsub [3, 1, 0] rfl ?_
                exact ih (k + 1) 2 (i2 + 1) (pr ++ [44]) (s0 ++ [(123, n0)]) ns ub2 g9 fS2 fE2 fH2 fO2 fB2 (by omega) (by omega) (k2) (js_comma_wf (y := 123) (by decide) hw3) (by rw [← hrun, show 4097 - k = (4097 - (k + 1)) + 1 by omega, js_run_ok (nx3 := 2) (i3 := (i2 + 1)) (pr3 := (pr ++ [44])) (sk3 := (s0 ++ [(123, n0)])) (ns3 := ns) h6 hi2 (by rw [js_step, if_neg (by omega), if_neg (by omega), if_neg (by omega), if_neg (by omega), if_neg (by omega), hsk, js_bv_app, if_pos hq]; rfl)])
              · by_cases hq2 : js_b t i2 = 125
                · refine jv_aload_n C (jd D_Rd_readTape 61 rfl) rfl 1 rfl ?_
                  refine jv_weq (ws' := [(o, .inr (2, [.ref tp, .ref pp, .ref nn, .ref ob, .ref nb, .int (nI ((s0 ++ [(123, n0)]).length)), .int (nI i2), .int ub2, .int (-1)])), (tp, .inr (0, [.ref tb, .int (nI t.length)])), (tb, .inl (dA 0, 4096, .inl f)), (pp, .inr (0, [.ref pb, .int (nI pr.length)])), (pb, .inl (dA 0, 4096, .inl g2)), (nn, .inr (1, [.ref pp, .ref s1, .ref s2, .ref s3, .int (nI ns.length)])), (s1, .inl (dA 1, 1024, .inl fS2)), (s2, .inl (dA 1, 1024, .inl fE2)), (s3, .inl (dA 1, 1024, .inl fH2)), (ob, .inl (dA 0, 32, .inl fO2)), (nb, .inl (dA 1, 32, .inl fB2))]) (by rw [hsk]) ?_
                  have hit : i2 < t.length := js_b_lt (by rw [hq2]; decide)
                  refine jv_lveq (lv' := [(3, .int 125), (0, .ref o), (1, .int (nI nx)), (2, .int (nI k))]) (by rw [hq2]) ?_
                  refine jv_iload_n C (jd D_Rd_readTape 62 rfl) rfl 0 rfl ?_
                  refine jv_callV (wr := []) C cl_Rd_65 (c_Rd_behindValue_close123 o tp pp nn ob nb tb pb s1 s2 s3 f g2 fS2 fE2 fH2 fO2 fB2 t pr s0 ns i2 ub2 (-1) n0 ht h4 hR3 hm3 hit) [0, 1, 2, 3, 4, 5, 6, 7, 8, 9, 10] [] rfl rfl rfl rfl (by decide) rfl rfl 0 rfl ⟨Nat.le_of_ble_eq_true rfl, Nat.le_of_ble_eq_true rfl⟩ ⟨Nat.le_of_ble_eq_true rfl, Nat.le_of_ble_eq_true rfl⟩ rfl rfl (Nat.le_of_ble_eq_true rfl) (jd D_Rd_readTape 63 rfl) (fun v15 g9 k2 => ?_)
                  obtain ⟨r2, rfl, k2⟩ := k2
                  refine jv_fix [0, 1, 2, 3, 4, 5, 6, 7, 8, 9, 10] [(o, .inr (2, [.ref tp, .ref pp, .ref nn, .ref ob, .ref nb, .int (nI s0.length), .int (nI (i2 + 1)), .int ub2, .int (-1)])), (tp, .inr (0, [.ref tb, .int (nI t.length)])), (tb, .inl (dA 0, 4096, .inl f)), (pp, .inr (0, [.ref pb, .int (nI (pr ++ [125]).length)])), (pb, .inl (dA 0, 4096, .inl g9)), (nn, .inr (1, [.ref pp, .ref s1, .ref s2, .ref s3, .int (nI ((ns.take n0).length))])), (s1, .inl (dA 1, 1024, .inl fS2)), (s2, .inl (dA 1, 1024, .inl fE2)), (s3, .inl (dA 1, 1024, .inl fH2)), (ob, .inl (dA 0, 32, .inl fO2)), (nb, .inl (dA 1, 32, .inl fB2))] [.int r2] 0 0 rfl rfl rfl (Nat.le_refl _) (Nat.le_refl _) ?_
                  obtain ⟨k2a, k2⟩ := k2
                  subst k2a
                  refine jv_istore_n C [(1, .int 5), (3, .int 125), (0, .ref o), (2, .int (nI k))] (jd D_Rd_readTape 64 rfl) rfl (by decide) rfl ?_
                  refine jv_iinc (v := nI (k + 1)) C [(2, .int (nI (k + 1))), (1, .int 5), (3, .int 125), (0, .ref o)] (jd D_Rd_readTape 65 rfl) 3 rfl (nI_1 k) (by decide) rfl ?_
                  refine jv_goto (tgt := 8) C (jd D_Rd_readTape 66 rfl) (by decide) ?_
                  refine jv_lvsub [3, 1, 0] rfl ?_
                  exact ih (k + 1) 5 (i2 + 1) (pr ++ [125]) s0 (ns.take n0) ub2 g9 fS2 fE2 fH2 fO2 fB2 (by omega) (by omega) (k2) (js_clo_wf (nx := 5) (i := i2) (by decide) (by decide) hw3) (by rw [← hrun, show 4097 - k = (4097 - (k + 1)) + 1 by omega, js_run_ok (nx3 := 5) (i3 := (i2 + 1)) (pr3 := (pr ++ [125])) (sk3 := s0) (ns3 := (ns.take n0)) h6 hi2 (by rw [js_step, if_neg (by omega), if_neg (by omega), if_neg (by omega), if_neg (by omega), if_neg (by omega), hsk, js_bv_app, if_neg hq, if_pos (by rw [hq2]; rfl)]; exact js_clo_app)])
                · rw [show 4097 - k = (4097 - (k + 1)) + 1 by omega, js_run_no h6 hi2 (by rw [js_step, if_neg (by omega), if_neg (by omega), if_neg (by omega), if_neg (by omega), if_neg (by omega), hsk, js_bv_app, if_neg hq, if_neg (fun y => hq2 (by rw [y]; rfl))]), hfin] at hrun
                  cases hrun
  refine jv_lvsub [2, 1, 0] rfl ?_
  exact hL8 4098 0 0 0 [] [] [] ub g fS fE fH fO fB (by omega) (by omega) ⟨Nat.zero_le _, Nat.le_refl _, Nat.zero_le _, Nat.zero_le _, fun j h => absurd h (Nat.not_lt_zero j), fun j h => absurd h (Nat.not_lt_zero j), fun j h => absurd h (Nat.not_lt_zero j)⟩ js_wf0 rfl

set_option maxHeartbeats 4000000 in
set_option maxRecDepth 100000 in
/-- Reader.readTape(), SYNTAX is broken -/
theorem c_Rd_readTape_no {l : Launch} {D : va_G} {dA : Nat → ClassId} {zz : (Nat → Nat) × (Nat → Nat)} (o tp pp nn ob nb tb pb s1 s2 s3 : Nat) (f g fS fE fH fO fB : Nat → Int32) (t pr0 : List Nat) (c0 : Nat) (dp at0 ub pl : Int32) (q : Nat) (ht : js_tx f t) (h4 : t.length ≤ 4096) (hpr0 : pr0.length ≤ 4096) (hc0 : c0 ≤ 1024) (hfin : js_run t 4097 0 0 [] [] [] = .inl q) : jv_M l D dA zz y_Rd_readTape b_Rd_readTape 4 (some (FieldType.int)) 7 [.ref o] [(o, .inr (2, [.ref tp, .ref pp, .ref nn, .ref ob, .ref nb, .int dp, .int at0, .int ub, .int pl])), (tp, .inr (0, [.ref tb, .int (nI t.length)])), (tb, .inl (dA 0, 4096, .inl f)), (pp, .inr (0, [.ref pb, .int (nI pr0.length)])), (pb, .inl (dA 0, 4096, .inl g)), (nn, .inr (1, [.ref pp, .ref s1, .ref s2, .ref s3, .int (nI c0)])), (s1, .inl (dA 1, 1024, .inl fS)), (s2, .inl (dA 1, 1024, .inl fE)), (s3, .inl (dA 1, 1024, .inl fH)), (ob, .inl (dA 0, 32, .inl fO)), (nb, .inl (dA 1, 32, .inl fB))] (jv_pi fun r (u : Int32 × Int32 × Int32 × List Nat × Nat × (Nat → Int32) × (Nat → Int32) × (Nat → Int32) × (Nat → Int32) × (Nat → Int32) × (Nat → Int32)) => r = nI q ∧ js_tx u.2.2.2.2.2.1 u.2.2.2.1 ∧ (u.2.2.2.1).length ≤ 4096 ∧ u.2.2.2.2.1 ≤ 1024) (fun u => [(o, .inr (2, [.ref tp, .ref pp, .ref nn, .ref ob, .ref nb, .int u.1, .int u.2.1, .int u.2.2.1, .int (nI q)])), (tp, .inr (0, [.ref tb, .int (nI t.length)])), (tb, .inl (dA 0, 4096, .inl f)), (pp, .inr (0, [.ref pb, .int (nI u.2.2.2.1.length)])), (pb, .inl (dA 0, 4096, .inl u.2.2.2.2.2.1)), (nn, .inr (1, [.ref pp, .ref s1, .ref s2, .ref s3, .int (nI u.2.2.2.2.1)])), (s1, .inl (dA 1, 1024, .inl u.2.2.2.2.2.2.1)), (s2, .inl (dA 1, 1024, .inl u.2.2.2.2.2.2.2.1)), (s3, .inl (dA 1, 1024, .inl u.2.2.2.2.2.2.2.2.1)), (ob, .inl (dA 0, 32, .inl u.2.2.2.2.2.2.2.2.2.1)), (nb, .inl (dA 1, 32, .inl u.2.2.2.2.2.2.2.2.2.2))]) 0 0 := by
  refine jv_M.of [(0, .ref o)] (by decide) (Nat.le_of_ble_eq_true rfl) rfl ?_
  intro pR eR sR mR belowR methR cR AR C hr hin
  obtain ⟨QR, hQ⟩ : ∃ QR, QR = jv_E D (jv_pi fun r (u : Int32 × Int32 × Int32 × List Nat × Nat × (Nat → Int32) × (Nat → Int32) × (Nat → Int32) × (Nat → Int32) × (Nat → Int32) × (Nat → Int32)) => r = nI q ∧ js_tx u.2.2.2.2.2.1 u.2.2.2.1 ∧ (u.2.2.2.1).length ≤ 4096 ∧ u.2.2.2.2.1 ≤ 1024) (fun u => [(o, .inr (2, [.ref tp, .ref pp, .ref nn, .ref ob, .ref nb, .int u.1, .int u.2.1, .int u.2.2.1, .int (nI q)])), (tp, .inr (0, [.ref tb, .int (nI t.length)])), (tb, .inl (dA 0, 4096, .inl f)), (pp, .inr (0, [.ref pb, .int (nI u.2.2.2.1.length)])), (pb, .inl (dA 0, 4096, .inl u.2.2.2.2.2.1)), (nn, .inr (1, [.ref pp, .ref s1, .ref s2, .ref s3, .int (nI u.2.2.2.2.1)])), (s1, .inl (dA 1, 1024, .inl u.2.2.2.2.2.2.1)), (s2, .inl (dA 1, 1024, .inl u.2.2.2.2.2.2.2.1)), (s3, .inl (dA 1, 1024, .inl u.2.2.2.2.2.2.2.2.1)), (ob, .inl (dA 0, 32, .inl u.2.2.2.2.2.2.2.2.2.1)), (nb, .inl (dA 1, 32, .inl u.2.2.2.2.2.2.2.2.2.2))]) belowR ([.ref o] : List Value).toArray sR AR 0 0 := ⟨_, rfl⟩
  rw [← hQ]
  refine jv_aload_n C (jd D_Rd_readTape 0 rfl) rfl 0 rfl ?_
  refine jv_callV (wr := [(tp, .inr (0, [.ref tb, .int (nI t.length)])), (tb, .inl (dA 0, 4096, .inl f)), (ob, .inl (dA 0, 32, .inl fO)), (nb, .inl (dA 1, 32, .inl fB))]) C cl_Rd_40 (c_Rd_restart o tp pp nn ob nb pb s1 s2 s3 g fS fE fH pr0 c0 dp at0 ub pl hpr0 hc0) [0, 3, 4, 5, 6, 7, 8] [1, 2, 9, 10] rfl rfl rfl rfl (by decide) rfl rfl 0 rfl ⟨Nat.le_of_ble_eq_true rfl, Nat.le_of_ble_eq_true rfl⟩ ⟨Nat.le_of_ble_eq_true rfl, Nat.le_of_ble_eq_true rfl⟩ rfl rfl (Nat.le_of_ble_eq_true rfl) (jd D_Rd_readTape 1 rfl) (fun v1 _ k0 => ?_)
  obtain ⟨rfl, k0⟩ := k0
  refine jv_fix [4, 0, 1, 5, 6, 7, 8, 9, 10, 2, 3] [(o, .inr (2, [.ref tp, .ref pp, .ref nn, .ref ob, .ref nb, .int (nI 0), .int (nI 0), .int ub, .int (-1)])), (tp, .inr (0, [.ref tb, .int (nI t.length)])), (tb, .inl (dA 0, 4096, .inl f)), (pp, .inr (0, [.ref pb, .int (nI ([] : List Nat).length)])), (pb, .inl (dA 0, 4096, .inl g)), (nn, .inr (1, [.ref pp, .ref s1, .ref s2, .ref s3, .int (nI 0)])), (s1, .inl (dA 1, 1024, .inl fS)), (s2, .inl (dA 1, 1024, .inl fE)), (s3, .inl (dA 1, 1024, .inl fH)), (ob, .inl (dA 0, 32, .inl fO)), (nb, .inl (dA 1, 32, .inl fB))] [] 0 0 rfl rfl rfl (Nat.le_refl _) (Nat.le_refl _) ?_
  refine jv_iconst (v := 0) C (jd D_Rd_readTape 2 rfl) (by decide) ?_
  refine jv_istore_n C [(1, .int 0), (0, .ref o)] (jd D_Rd_readTape 3 rfl) rfl (by decide) rfl ?_
  refine jv_iconst (v := 0) C (jd D_Rd_readTape 4 rfl) (by decide) ?_
  refine jv_istore_n C [(2, .int 0), (1, .int 0), (0, .ref o)] (jd D_Rd_readTape 5 rfl) rfl (by decide) rfl ?_
  have hL8 : ∀ (n : Nat) (k nx i : Nat) (pr : List Nat) (sk ns : List (Nat × Nat)) (ub2 : Int32) (g2 fS2 fE2 fH2 fO2 fB2 : Nat → Int32), k ≤ 4097 → 4098 ≤ k + n → js_R t i pr sk ns g2 fS2 fE2 fH2 fO2 fB2 → js_wf nx pr sk ns → js_run t (4097 - k) nx i pr sk ns = js_run t 4097 0 0 [] [] [] → jv_V pR l eR (jv_rm 7 0 0) sR mR ([.ref o] : List Value).toArray belowR methR cR 0 0 QR D AR 4 [(o, .inr (2, [.ref tp, .ref pp, .ref nn, .ref ob, .ref nb, .int (nI sk.length), .int (nI i), .int ub2, .int (-1)])), (tp, .inr (0, [.ref tb, .int (nI t.length)])), (tb, .inl (dA 0, 4096, .inl f)), (pp, .inr (0, [.ref pb, .int (nI pr.length)])), (pb, .inl (dA 0, 4096, .inl g2)), (nn, .inr (1, [.ref pp, .ref s1, .ref s2, .ref s3, .int (nI ns.length)])), (s1, .inl (dA 1, 1024, .inl fS2)), (s2, .inl (dA 1, 1024, .inl fE2)), (s3, .inl (dA 1, 1024, .inl fH2)), (ob, .inl (dA 0, 32, .inl fO2)), (nb, .inl (dA 1, 32, .inl fB2))] [(0, .ref o), (1, .int (nI nx)), (2, .int (nI k))] 8 [] := by
    intro n
    induction n with
    | zero =>
      intro k nx i pr sk ns ub2 g2 fS2 fE2 fH2 fO2 fB2 h1 h2
      exact absurd h2 (by omega)
    | succ n ih =>
      intro k nx i pr sk ns ub2 g2 fS2 fE2 fH2 fO2 fB2 hk hm hR hw hrun
      refine jv_iload_n C (jd D_Rd_readTape 6 rfl) rfl 2 rfl ?_
      refine jv_sipush (v := 4096) C (jd D_Rd_readTape 7 rfl) (by decide) ?_
      refine jv_icmp_gt (tgt := 157) C (jd D_Rd_readTape 8 rfl) (by decide) (fun c12 => ?_) (fun c12 => ?_)
      · have hk0 : 4097 - k = 0 := by have := (nI_ltI (a := 4096) (b := k) (by omega) (by omega)).mp c12; omega
        rw [hk0, js_run, hfin] at hrun
        cases hrun
      · refine jv_iload_n C (jd D_Rd_readTape 9 rfl) rfl 1 rfl ?_
        refine jv_bipush (v := 6) C (jd D_Rd_readTape 10 rfl) (by decide) ?_
        refine jv_icmp_eq (tgt := 157) C (jd D_Rd_readTape 11 rfl) (by decide) (fun c18 => ?_) (fun c18 => ?_)
        · have hn6 : nx = 6 := by have := hw.1; exact (nI_eq (a := nx) (b := 6) (by omega) (by decide)).mp c18
          rw [hn6, js_run_6, hfin] at hrun
          cases hrun
        · have hk4 : k ≤ 4096 := by
            rcases Nat.lt_or_ge 4096 k with y | y
            · exact absurd (nI_lt (a := 4096) (b := k) y (by omega)) c12
            · exact y
          have h6 : nx ≠ 6 := fun y => c18 (by rw [y]; rfl)
          have hn6 := hw.1
          refine jv_aload_n C (jd D_Rd_readTape 12 rfl) rfl 0 rfl ?_
          refine jv_callV (wr := [(pp, .inr (0, [.ref pb, .int (nI pr.length)])), (pb, .inl (dA 0, 4096, .inl g2)), (nn, .inr (1, [.ref pp, .ref s1, .ref s2, .ref s3, .int (nI ns.length)])), (s1, .inl (dA 1, 1024, .inl fS2)), (s2, .inl (dA 1, 1024, .inl fE2)), (s3, .inl (dA 1, 1024, .inl fH2)), (ob, .inl (dA 0, 32, .inl fO2)), (nb, .inl (dA 1, 32, .inl fB2))]) C cl_Rd_43 (c_Rd_skipBlanks o tp pp nn ob nb (nI sk.length) ub2 (-1) i tb 4096 f t h4 (by decide) ht hR.1) [0, 1, 2] [3, 4, 5, 6, 7, 8, 9, 10] rfl rfl rfl rfl (by decide) rfl rfl 0 rfl ⟨Nat.le_of_ble_eq_true rfl, Nat.le_of_ble_eq_true rfl⟩ ⟨Nat.le_of_ble_eq_true rfl, Nat.le_of_ble_eq_true rfl⟩ rfl rfl (Nat.le_of_ble_eq_true rfl) (jd D_Rd_readTape 13 rfl) (fun v2 _ k0 => ?_)
          obtain ⟨rfl, k0⟩ := k0
          refine jv_fix [8, 9, 10, 0, 1, 2, 3, 4, 5, 6, 7] [(o, .inr (2, [.ref tp, .ref pp, .ref nn, .ref ob, .ref nb, .int (nI sk.length), .int (nI (js_skip t (t.length - i) i)), .int ub2, .int (-1)])), (tp, .inr (0, [.ref tb, .int (nI t.length)])), (tb, .inl (dA 0, 4096, .inl f)), (pp, .inr (0, [.ref pb, .int (nI pr.length)])), (pb, .inl (dA 0, 4096, .inl g2)), (nn, .inr (1, [.ref pp, .ref s1, .ref s2, .ref s3, .int (nI ns.length)])), (s1, .inl (dA 1, 1024, .inl fS2)), (s2, .inl (dA 1, 1024, .inl fE2)), (s3, .inl (dA 1, 1024, .inl fH2)), (ob, .inl (dA 0, 32, .inl fO2)), (nb, .inl (dA 1, 32, .inl fB2))] [] 0 0 rfl rfl rfl (Nat.le_refl _) (Nat.le_refl _) ?_
          generalize hi2 : js_skip t (t.length - i) i = i2
          have hsg := js_skip_ge (t := t) (t.length - i) i
          rw [hi2] at hsg
          have hR2 := hR.skip (i2 := i2) (by have := hR.1; omega) hsg.1
          have hi24 : i2 ≤ 4096 := Nat.le_trans hR2.1 h4
          refine jv_aload_n C (jd D_Rd_readTape 14 rfl) rfl 0 rfl ?_
          refine jv_get C fl_Rd_9 0 rfl rfl (jd D_Rd_readTape 15 rfl) ?_
          refine jv_aload_n C (jd D_Rd_readTape 16 rfl) rfl 0 rfl ?_
          refine jv_get C fl_Rd_46 0 rfl rfl (jd D_Rd_readTape 17 rfl) ?_
          refine jv_callV (wr := [(o, .inr (2, [.ref tp, .ref pp, .ref nn, .ref ob, .ref nb, .int (nI sk.length), .int (nI i2), .int ub2, .int (-1)])), (pp, .inr (0, [.ref pb, .int (nI pr.length)])), (pb, .inl (dA 0, 4096, .inl g2)), (nn, .inr (1, [.ref pp, .ref s1, .ref s2, .ref s3, .int (nI ns.length)])), (s1, .inl (dA 1, 1024, .inl fS2)), (s2, .inl (dA 1, 1024, .inl fE2)), (s3, .inl (dA 1, 1024, .inl fH2)), (ob, .inl (dA 0, 32, .inl fO2)), (nb, .inl (dA 1, 32, .inl fB2))]) C cl_Rd_50 (c_Tx_at tp tb 4096 f t (nI i2) h4 (by decide) ht) [1, 2] [0, 3, 4, 5, 6, 7, 8, 9, 10] rfl rfl rfl rfl (by decide) rfl rfl 0 rfl ⟨Nat.le_of_ble_eq_true rfl, Nat.le_of_ble_eq_true rfl⟩ ⟨Nat.le_of_ble_eq_true rfl, Nat.le_of_ble_eq_true rfl⟩ rfl rfl (Nat.le_of_ble_eq_true rfl) (jd D_Rd_readTape 18 rfl) (fun v3 _ k1 => ?_)
          obtain ⟨r1, rfl, k1⟩ := k1
          refine jv_fix [0, 9, 10, 1, 2, 3, 4, 5, 6, 7, 8] [(o, .inr (2, [.ref tp, .ref pp, .ref nn, .ref ob, .ref nb, .int (nI sk.length), .int (nI i2), .int ub2, .int (-1)])), (tp, .inr (0, [.ref tb, .int (nI t.length)])), (tb, .inl (dA 0, 4096, .inl f)), (pp, .inr (0, [.ref pb, .int (nI pr.length)])), (pb, .inl (dA 0, 4096, .inl g2)), (nn, .inr (1, [.ref pp, .ref s1, .ref s2, .ref s3, .int (nI ns.length)])), (s1, .inl (dA 1, 1024, .inl fS2)), (s2, .inl (dA 1, 1024, .inl fE2)), (s3, .inl (dA 1, 1024, .inl fH2)), (ob, .inl (dA 0, 32, .inl fO2)), (nb, .inl (dA 1, 32, .inl fB2))] [.int r1] 0 0 rfl rfl rfl (Nat.le_refl _) (Nat.le_refl _) ?_
          rw [js_at_nat (by omega) (by omega)] at k1
          subst k1
          refine jv_istore_n C [(3, .int (js_b t i2)), (0, .ref o), (1, .int (nI nx)), (2, .int (nI k))] (jd D_Rd_readTape 19 rfl) rfl (by decide) rfl ?_
          refine jv_iload_n C (jd D_Rd_readTape 20 rfl) rfl 2 rfl ?_
          by_cases s38_0 : (nI nx) = 0
          · refine jv_tableIn (tgt := 72) (off := 34) C (jd D_Rd_readTape 21 rfl) (by rw [s38_0]; decide) (by rw [s38_0]; decide) (by rw [s38_0] <;> rfl) (by decide) ?_
            have hnx : nx = 0 := (nI_eq (a := nx) (b := 0) (by omega) (by decide)).mp s38_0
            rcases hE : js_val t i2 pr sk ns with qq | ⟨nx3, i3, pr3, sk3, ns3⟩
            · rw [show 4097 - k = (4097 - (k + 1)) + 1 by omega, js_run_no h6 hi2 (by rw [js_step, if_pos hnx, hE]), hfin] at hrun
              cases hrun
              refine jv_aload_n C (jd D_Rd_readTape 22 rfl) rfl 1 rfl ?_
              refine jv_iload_n C (jd D_Rd_readTape 23 rfl) rfl 0 rfl ?_
              refine jv_callV (wr := []) C cl_Rd_53 (c_Rd_value_no o tp pp nn ob nb tb pb s1 s2 s3 f g2 fS2 fE2 fH2 fO2 fB2 t pr sk ns i2 ub2 (-1) q ht h4 hR2 hE) [0, 1, 2, 3, 4, 5, 6, 7, 8, 9, 10] [] rfl rfl rfl rfl (by decide) rfl rfl 0 rfl ⟨Nat.le_of_ble_eq_true rfl, Nat.le_of_ble_eq_true rfl⟩ ⟨Nat.le_of_ble_eq_true rfl, Nat.le_of_ble_eq_true rfl⟩ rfl rfl (Nat.le_of_ble_eq_true rfl) (jd D_Rd_readTape 24 rfl) (fun v4 v k2 => ?_)
              obtain ⟨r2, rfl, k2⟩ := k2
              refine jv_fix [0, 1, 2, 3, 4, 5, 6, 7, 8, 9, 10] [(o, .inr (2, [.ref tp, .ref pp, .ref nn, .ref ob, .ref nb, .int (nI sk.length), .int (nI v.1), .int v.2.1, .int (nI q)])), (tp, .inr (0, [.ref tb, .int (nI t.length)])), (tb, .inl (dA 0, 4096, .inl f)), (pp, .inr (0, [.ref pb, .int (nI v.2.2.2.length)])), (pb, .inl (dA 0, 4096, .inl v.2.2.1)), (nn, .inr (1, [.ref pp, .ref s1, .ref s2, .ref s3, .int (nI ns.length)])), (s1, .inl (dA 1, 1024, .inl fS2)), (s2, .inl (dA 1, 1024, .inl fE2)), (s3, .inl (dA 1, 1024, .inl fH2)), (ob, .inl (dA 0, 32, .inl fO2)), (nb, .inl (dA 1, 32, .inl fB2))] [.int r2] 0 0 rfl rfl rfl (Nat.le_refl _) (Nat.le_refl _) ?_
              obtain ⟨k2a, k2⟩ := k2
              subst k2a
              refine jv_istore_n C [(1, .int 6), (3, .int (js_b t i2)), (0, .ref o), (2, .int (nI k))] (jd D_Rd_readTape 25 rfl) rfl (by decide) rfl ?_
              refine jv_goto (tgt := 151) C (jd D_Rd_readTape 26 rfl) (by decide) ?_
              refine jv_iinc (v := nI (k + 1)) C [(2, .int (nI (k + 1))), (1, .int 6), (3, .int (js_b t i2)), (0, .ref o)] (jd D_Rd_readTape 65 rfl) 3 rfl (nI_1 k) (by decide) rfl ?_
              refine jv_goto (tgt := 8) C (jd D_Rd_readTape 66 rfl) (by decide) ?_
              refine jv_iload_n C (jd D_Rd_readTape 6 rfl) rfl 0 rfl ?_
              refine jv_sipush (v := 4096) C (jd D_Rd_readTape 7 rfl) (by decide) ?_
              refine jv_icmp_gt (tgt := 157) C (jd D_Rd_readTape 8 rfl) (by decide) (fun c12 => ?_) (fun c12 => ?_)
              · refine jv_aload_n C (jd D_Rd_readTape 67 rfl) rfl 3 rfl ?_
                refine jv_get C fl_Rd_68 0 rfl rfl (jd D_Rd_readTape 68 rfl) ?_
                rw [hQ]
                exact jv_iret C hr ((nI sk.length), (nI v.1), v.2.1, v.2.2.2, ns.length, v.2.2.1, fS2, fE2, fH2, fO2, fB2) (⟨rfl, k2.1, k2.2.1, hR.2.2.2.1⟩) rfl [0, 1, 2, 3, 4, 5, 6, 7, 8, 9, 10] rfl rfl (Nat.le_of_ble_eq_true rfl) (Nat.le_of_ble_eq_true rfl) (jd D_Rd_readTape 69 rfl)
              · refine jv_iload_n C (jd D_Rd_readTape 9 rfl) rfl 1 rfl ?_
                refine jv_bipush (v := 6) C (jd D_Rd_readTape 10 rfl) (by decide) ?_
                refine jv_icmp_eq (tgt := 157) C (jd D_Rd_readTape 11 rfl) (by decide) (fun c18 => ?_) (fun c18 => absurd (rfl) c18)
                refine jv_aload_n C (jd D_Rd_readTape 67 rfl) rfl 3 rfl ?_
                refine jv_get C fl_Rd_68 0 rfl rfl (jd D_Rd_readTape 68 rfl) ?_
                rw [hQ]
                exact jv_iret C hr ((nI sk.length), (nI v.1), v.2.1, v.2.2.2, ns.length, v.2.2.1, fS2, fE2, fH2, fO2, fB2) (⟨rfl, k2.1, k2.2.1, hR.2.2.2.1⟩) rfl [0, 1, 2, 3, 4, 5, 6, 7, 8, 9, 10] rfl rfl (Nat.le_of_ble_eq_true rfl) (Nat.le_of_ble_eq_true rfl) (jd D_Rd_readTape 69 rfl)
            · refine jv_aload_n C (jd D_Rd_readTape 22 rfl) rfl 1 rfl ?_
              refine jv_iload_n C (jd D_Rd_readTape 23 rfl) rfl 0 rfl ?_
              refine jv_callV (wr := []) C cl_Rd_53 (c_Rd_value_ok o tp pp nn ob nb tb pb s1 s2 s3 f g2 fS2 fE2 fH2 fO2 fB2 t pr sk ns i2 ub2 (-1) nx3 i3 pr3 sk3 ns3 ht h4 hR2 hE) [0, 1, 2, 3, 4, 5, 6, 7, 8, 9, 10] [] rfl rfl rfl rfl (by decide) rfl rfl 0 rfl ⟨Nat.le_of_ble_eq_true rfl, Nat.le_of_ble_eq_true rfl⟩ ⟨Nat.le_of_ble_eq_true rfl, Nat.le_of_ble_eq_true rfl⟩ rfl rfl (Nat.le_of_ble_eq_true rfl) (jd D_Rd_readTape 24 rfl) (fun v5 v k2 => ?_)
              obtain ⟨r2, rfl, k2⟩ := k2
              refine jv_fix [0, 1, 2, 3, 4, 5, 6, 7, 8, 9, 10] [(o, .inr (2, [.ref tp, .ref pp, .ref nn, .ref ob, .ref nb, .int (nI sk3.length), .int (nI i3), .int v.1, .int (-1)])), (tp, .inr (0, [.ref tb, .int (nI t.length)])), (tb, .inl (dA 0, 4096, .inl f)), (pp, .inr (0, [.ref pb, .int (nI pr3.length)])), (pb, .inl (dA 0, 4096, .inl v.2.1)), (nn, .inr (1, [.ref pp, .ref s1, .ref s2, .ref s3, .int (nI ns3.length)])), (s1, .inl (dA 1, 1024, .inl fS2)), (s2, .inl (dA 1, 1024, .inl fE2)), (s3, .inl (dA 1, 1024, .inl fH2)), (ob, .inl (dA 0, 32, .inl v.2.2.1)), (nb, .inl (dA 1, 32, .inl v.2.2.2))] [.int r2] 0 0 rfl rfl rfl (Nat.le_refl _) (Nat.le_refl _) ?_
              obtain ⟨k2a, k2⟩ := k2
              subst k2a
              refine jv_istore_n C [(1, .int (nI nx3)), (3, .int (js_b t i2)), (0, .ref o), (2, .int (nI k))] (jd D_Rd_readTape 25 rfl) rfl (by decide) rfl ?_
              refine jv_goto (tgt := 151) C (jd D_Rd_readTape 26 rfl) (by decide) ?_
              refine jv_iinc (v := nI (k + 1)) C [(2, .int (nI (k + 1))), (1, .int (nI nx3)), (3, .int (js_b t i2)), (0, .ref o)] (jd D_Rd_readTape 65 rfl) 3 rfl (nI_1 k) (by decide) rfl ?_
              refine jv_goto (tgt := 8) C (jd D_Rd_readTape 66 rfl) (by decide) ?_
              refine jv_lvsub [3, 1, 0] rfl ?_
              exact ih (k + 1) nx3 i3 pr3 sk3 ns3 v.1 v.2.1 fS2 fE2 fH2 v.2.2.1 v.2.2.2 (by omega) (by omega) (k2) (js_val_wf (by omega) hw hE) (by rw [← hrun, show 4097 - k = (4097 - (k + 1)) + 1 by omega, js_run_ok (nx3 := nx3) (i3 := i3) (pr3 := pr3) (sk3 := sk3) (ns3 := ns3) h6 hi2 (by rw [js_step, if_pos hnx, hE])])
          by_cases s38_1 : (nI nx) = 1
          · refine jv_tableIn (tgt := 81) (off := 43) C (jd D_Rd_readTape 21 rfl) (by rw [s38_1]; decide) (by rw [s38_1]; decide) (by rw [s38_1] <;> rfl) (by decide) ?_
            have hnx : nx = 1 := (nI_eq (a := nx) (b := 1) (by omega) (by decide)).mp s38_1
            refine jv_iload_n C (jd D_Rd_readTape 27 rfl) rfl 0 rfl ?_
            refine jv_bipush (v := 93) C (jd D_Rd_readTape 28 rfl) (by decide) ?_
            refine jv_icmp_ne (tgt := 95) C (jd D_Rd_readTape 29 rfl) (by decide) (fun c84 => ?_) (fun c84 => ?_)
            · rcases hE : js_val t i2 pr sk ns with qq | ⟨nx3, i3, pr3, sk3, ns3⟩
              · rw [show 4097 - k = (4097 - (k + 1)) + 1 by omega, js_run_no h6 hi2 (by rw [js_step, if_neg (by omega), if_pos hnx, if_neg c84, hE]), hfin] at hrun
                cases hrun
                refine jv_aload_n C (jd D_Rd_readTape 34 rfl) rfl 1 rfl ?_
                refine jv_iload_n C (jd D_Rd_readTape 35 rfl) rfl 0 rfl ?_
                refine jv_callV (wr := []) C cl_Rd_53 (c_Rd_value_no o tp pp nn ob nb tb pb s1 s2 s3 f g2 fS2 fE2 fH2 fO2 fB2 t pr sk ns i2 ub2 (-1) q ht h4 hR2 hE) [0, 1, 2, 3, 4, 5, 6, 7, 8, 9, 10] [] rfl rfl rfl rfl (by decide) rfl rfl 0 rfl ⟨Nat.le_of_ble_eq_true rfl, Nat.le_of_ble_eq_true rfl⟩ ⟨Nat.le_of_ble_eq_true rfl, Nat.le_of_ble_eq_true rfl⟩ rfl rfl (Nat.le_of_ble_eq_true rfl) (jd D_Rd_readTape 36 rfl) (fun v6 v k2 => ?_)
                obtain ⟨r2, rfl, k2⟩ := k2
                refine jv_fix [0, 1, 2, 3, 4, 5, 6, 7, 8, 9, 10] [(o, .inr (2, [.ref tp, .ref pp, .ref nn, .ref ob, .ref nb, .int (nI sk.length), .int (nI v.1), .int v.2.1, .int (nI q)])), (tp, .inr (0, [.ref tb, .int (nI t.length)])), (tb, .inl (dA 0, 4096, .inl f)), (pp, .inr (0, [.ref pb, .int (nI v.2.2.2.length)])), (pb, .inl (dA 0, 4096, .inl v.2.2.1)), (nn, .inr (1, [.ref pp, .ref s1, .ref s2, .ref s3, .int (nI ns.length)])), (s1, .inl (dA 1, 1024, .inl fS2)), (s2, .inl (dA 1, 1024, .inl fE2)), (s3, .inl (dA 1, 1024, .inl fH2)), (ob, .inl (dA 0, 32, .inl fO2)), (nb, .inl (dA 1, 32, .inl fB2))] [.int r2] 0 0 rfl rfl rfl (Nat.le_refl _) (Nat.le_refl _) ?_
                obtain ⟨k2a, k2⟩ := k2
                subst k2a
                refine jv_istore_n C [(1, .int 6), (3, .int (js_b t i2)), (0, .ref o), (2, .int (nI k))] (jd D_Rd_readTape 37 rfl) rfl (by decide) rfl ?_
                refine jv_goto (tgt := 151) C (jd D_Rd_readTape 38 rfl) (by decide) ?_
                refine jv_iinc (v := nI (k + 1)) C [(2, .int (nI (k + 1))), (1, .int 6), (3, .int (js_b t i2)), (0, .ref o)] (jd D_Rd_readTape 65 rfl) 3 rfl (nI_1 k) (by decide) rfl ?_
                refine jv_goto (tgt := 8) C (jd D_Rd_readTape 66 rfl) (by decide) ?_
                refine jv_iload_n C (jd D_Rd_readTape 6 rfl) rfl 0 rfl ?_
                refine jv_sipush (v := 4096) C (jd D_Rd_readTape 7 rfl) (by decide) ?_
                refine jv_icmp_gt (tgt := 157) C (jd D_Rd_readTape 8 rfl) (by decide) (fun c12 => ?_) (fun c12 => ?_)
                · refine jv_aload_n C (jd D_Rd_readTape 67 rfl) rfl 3 rfl ?_
                  refine jv_get C fl_Rd_68 0 rfl rfl (jd D_Rd_readTape 68 rfl) ?_
                  rw [hQ]
                  exact jv_iret C hr ((nI sk.length), (nI v.1), v.2.1, v.2.2.2, ns.length, v.2.2.1, fS2, fE2, fH2, fO2, fB2) (⟨rfl, k2.1, k2.2.1, hR.2.2.2.1⟩) rfl [0, 1, 2, 3, 4, 5, 6, 7, 8, 9, 10] rfl rfl (Nat.le_of_ble_eq_true rfl) (Nat.le_of_ble_eq_true rfl) (jd D_Rd_readTape 69 rfl)
                · refine jv_iload_n C (jd D_Rd_readTape 9 rfl) rfl 1 rfl ?_
                  refine jv_bipush (v := 6) C (jd D_Rd_readTape 10 rfl) (by decide) ?_
                  refine jv_icmp_eq (tgt := 157) C (jd D_Rd_readTape 11 rfl) (by decide) (fun c18 => ?_) (fun c18 => absurd (rfl) c18)
                  refine jv_aload_n C (jd D_Rd_readTape 67 rfl) rfl 3 rfl ?_
                  refine jv_get C fl_Rd_68 0 rfl rfl (jd D_Rd_readTape 68 rfl) ?_
                  rw [hQ]
                  exact jv_iret C hr ((nI sk.length), (nI v.1), v.2.1, v.2.2.2, ns.length, v.2.2.1, fS2, fE2, fH2, fO2, fB2) (⟨rfl, k2.1, k2.2.1, hR.2.2.2.1⟩) rfl [0, 1, 2, 3, 4, 5, 6, 7, 8, 9, 10] rfl rfl (Nat.le_of_ble_eq_true rfl) (Nat.le_of_ble_eq_true rfl) (jd D_Rd_readTape 69 rfl)
              · refine jv_aload_n C (jd D_Rd_readTape 34 rfl) rfl 1 rfl ?_
                refine jv_iload_n C (jd D_Rd_readTape 35 rfl) rfl 0 rfl ?_
                refine jv_callV (wr := []) C cl_Rd_53 (c_Rd_value_ok o tp pp nn ob nb tb pb s1 s2 s3 f g2 fS2 fE2 fH2 fO2 fB2 t pr sk ns i2 ub2 (-1) nx3 i3 pr3 sk3 ns3 ht h4 hR2 hE) [0, 1, 2, 3, 4, 5, 6, 7, 8, 9, 10] [] rfl rfl rfl rfl (by decide) rfl rfl 0 rfl ⟨Nat.le_of_ble_eq_true rfl, Nat.le_of_ble_eq_true rfl⟩ ⟨Nat.le_of_ble_eq_true rfl, Nat.le_of_ble_eq_true rfl⟩ rfl rfl (Nat.le_of_ble_eq_true rfl) (jd D_Rd_readTape 36 rfl) (fun v7 v k2 => ?_)
                obtain ⟨r2, rfl, k2⟩ := k2
                refine jv_fix [0, 1, 2, 3, 4, 5, 6, 7, 8, 9, 10] [(o, .inr (2, [.ref tp, .ref pp, .ref nn, .ref ob, .ref nb, .int (nI sk3.length), .int (nI i3), .int v.1, .int (-1)])), (tp, .inr (0, [.ref tb, .int (nI t.length)])), (tb, .inl (dA 0, 4096, .inl f)), (pp, .inr (0, [.ref pb, .int (nI pr3.length)])), (pb, .inl (dA 0, 4096, .inl v.2.1)), (nn, .inr (1, [.ref pp, .ref s1, .ref s2, .ref s3, .int (nI ns3.length)])), (s1, .inl (dA 1, 1024, .inl fS2)), (s2, .inl (dA 1, 1024, .inl fE2)), (s3, .inl (dA 1, 1024, .inl fH2)), (ob, .inl (dA 0, 32, .inl v.2.2.1)), (nb, .inl (dA 1, 32, .inl v.2.2.2))] [.int r2] 0 0 rfl rfl rfl (Nat.le_refl _) (Nat.le_refl _) ?_
                obtain ⟨k2a, k2⟩ := k2
                subst k2a
                refine jv_istore_n C [(1, .int (nI nx3)), (3, .int (js_b t i2)), (0, .ref o), (2, .int (nI k))] (jd D_Rd_readTape 37 rfl) rfl (by decide) rfl ?_
                refine jv_goto (tgt := 151) C (jd D_Rd_readTape 38 rfl) (by decide) ?_
                refine jv_iinc (v := nI (k + 1)) C [(2, .int (nI (k + 1))), (1, .int (nI nx3)), (3, .int (js_b t i2)), (0, .ref o)] (jd D_Rd_readTape 65 rfl) 3 rfl (nI_1 k) (by decide) rfl ?_
                refine jv_goto (tgt := 8) C (jd D_Rd_readTape 66 rfl) (by decide) ?_
                refine jv_lvsub [3, 1, 0] rfl ?_
                exact ih (k + 1) nx3 i3 pr3 sk3 ns3 v.1 v.2.1 fS2 fE2 fH2 v.2.2.1 v.2.2.2 (by omega) (by omega) (k2) (js_val_wf (by omega) hw hE) (by rw [← hrun, show 4097 - k = (4097 - (k + 1)) + 1 by omega, js_run_ok (nx3 := nx3) (i3 := i3) (pr3 := pr3) (sk3 := sk3) (ns3 := ns3) h6 hi2 (by rw [js_step, if_neg (by omega), if_pos hnx, if_neg c84, hE])])
            · obtain ⟨s0, n0, hsk⟩ := hw.2.2.2.2.2.1 hnx
              have hit : i2 < t.length := js_b_lt (by rw [c84]; decide)
              have hR3 := hR2
              rw [hsk] at hR3
              have hw3 := hw
              rw [hsk] at hw3
              have hm3 := js_pw_last hw3.2.2.2.1
              refine jv_weq (ws' := [(o, .inr (2, [.ref tp, .ref pp, .ref nn, .ref ob, .ref nb, .int (nI ((s0 ++ [(91, n0)]).length)), .int (nI i2), .int ub2, .int (-1)])), (tp, .inr (0, [.ref tb, .int (nI t.length)])), (tb, .inl (dA 0, 4096, .inl f)), (pp, .inr (0, [.ref pb, .int (nI pr.length)])), (pb, .inl (dA 0, 4096, .inl g2)), (nn, .inr (1, [.ref pp, .ref s1, .ref s2, .ref s3, .int (nI ns.length)])), (s1, .inl (dA 1, 1024, .inl fS2)), (s2, .inl (dA 1, 1024, .inl fE2)), (s3, .inl (dA 1, 1024, .inl fH2)), (ob, .inl (dA 0, 32, .inl fO2)), (nb, .inl (dA 1, 32, .inl fB2))]) (by rw [hsk]) ?_
              refine jv_lveq (lv' := [(3, .int (nI 93)), (0, .ref o), (1, .int (nI nx)), (2, .int (nI k))]) (by rw [c84]; rfl) ?_
              refine jv_aload_n C (jd D_Rd_readTape 30 rfl) rfl 1 rfl ?_
              refine jv_iload_n C (jd D_Rd_readTape 31 rfl) rfl 0 rfl ?_
              refine jv_callV (wr := []) C cl_Rd_56 (c_Rd_close o tp pp nn ob nb tb pb s1 s2 s3 f g2 fS2 fE2 fH2 fO2 fB2 t pr s0 ns i2 ub2 (-1) 91 n0 93 ht h4 hR3 hit (by decide) hm3) [0, 1, 2, 3, 4, 5, 6, 7, 8, 9, 10] [] rfl rfl rfl rfl (by decide) rfl rfl 0 rfl ⟨Nat.le_of_ble_eq_true rfl, Nat.le_of_ble_eq_true rfl⟩ ⟨Nat.le_of_ble_eq_true rfl, Nat.le_of_ble_eq_true rfl⟩ rfl rfl (Nat.le_of_ble_eq_true rfl) (jd D_Rd_readTape 32 rfl) (fun v8 g9 k2 => ?_)
              obtain ⟨r2, rfl, k2⟩ := k2
              refine jv_fix [0, 1, 2, 3, 4, 5, 6, 7, 8, 9, 10] [(o, .inr (2, [.ref tp, .ref pp, .ref nn, .ref ob, .ref nb, .int (nI s0.length), .int (nI (i2 + 1)), .int ub2, .int (-1)])), (tp, .inr (0, [.ref tb, .int (nI t.length)])), (tb, .inl (dA 0, 4096, .inl f)), (pp, .inr (0, [.ref pb, .int (nI (pr ++ [93]).length)])), (pb, .inl (dA 0, 4096, .inl g9)), (nn, .inr (1, [.ref pp, .ref s1, .ref s2, .ref s3, .int (nI ((ns.take n0).length))])), (s1, .inl (dA 1, 1024, .inl fS2)), (s2, .inl (dA 1, 1024, .inl fE2)), (s3, .inl (dA 1, 1024, .inl fH2)), (ob, .inl (dA 0, 32, .inl fO2)), (nb, .inl (dA 1, 32, .inl fB2))] [.int r2] 0 0 rfl rfl rfl (Nat.le_refl _) (Nat.le_refl _) ?_
              obtain ⟨k2a, k2⟩ := k2
              subst k2a
              refine jv_goto (tgt := 100) C (jd D_Rd_readTape 33 rfl) (by decide) ?_
              refine jv_istore_n C [(1, .int 5), (3, .int (nI 93)), (0, .ref o), (2, .int (nI k))] (jd D_Rd_readTape 37 rfl) rfl (by decide) rfl ?_
              refine jv_goto (tgt := 151) C (jd D_Rd_readTape 38 rfl) (by decide) ?_
              refine jv_iinc (v := nI (k + 1)) C [(2, .int (nI (k + 1))), (1, .int 5), (3, .int (nI 93)), (0, .ref o)] (jd D_Rd_readTape 65 rfl) 3 rfl (nI_1 k) (by decide) rfl ?_
              refine jv_goto (tgt := 8) C (jd D_Rd_readTape 66 rfl) (by decide) ?_
              refine jv_lvsub [3, 1, 0] rfl ?_
              exact ih (k + 1) 5 (i2 + 1) (pr ++ [93]) s0 (ns.take n0) ub2 g9 fS2 fE2 fH2 fO2 fB2 (by omega) (by omega) (k2) (js_clo_wf (i := i2) (by omega) (by omega) hw3) (by rw [← hrun, show 4097 - k = (4097 - (k + 1)) + 1 by omega, js_run_ok (nx3 := 5) (i3 := (i2 + 1)) (pr3 := (pr ++ [93])) (sk3 := s0) (ns3 := (ns.take n0)) h6 hi2 (by rw [js_step, if_neg (by omega), if_pos hnx, if_pos c84, hsk, js_clo_app])])
          by_cases s38_2 : (nI nx) = 2
          · refine jv_tableIn (tgt := 104) (off := 66) C (jd D_Rd_readTape 21 rfl) (by rw [s38_2]; decide) (by rw [s38_2]; decide) (by rw [s38_2] <;> rfl) (by decide) ?_
            have hnx : nx = 2 := (nI_eq (a := nx) (b := 2) (by omega) (by decide)).mp s38_2
            obtain ⟨s0, n0, hsk⟩ := hw.2.2.2.2.2.2 (by omega)
            have hR3 := hR2
            rw [hsk] at hR3
            have hw3 := hw
            rw [hsk] at hw3
            have hm3 := js_pw_last hw3.2.2.2.1
            have hjl : js_last sk = n0 := by rw [hsk]; exact js_last_app _ _
            by_cases hq : js_b t i2 = 34
            · have hit : i2 < t.length := js_b_lt (by rw [hq]; decide)
              rcases hE : js_st t 4096 (i2 + 1) [] with qq | ⟨us, z⟩
              · rw [show 4097 - k = (4097 - (k + 1)) + 1 by omega, js_run_no h6 hi2 (by rw [js_step, if_neg (by omega), if_neg (by omega), if_pos hnx, js_nm, if_pos hq, hE]), hfin] at hrun
                cases hrun
                refine jv_aload_n C (jd D_Rd_readTape 39 rfl) rfl 1 rfl ?_
                refine jv_weq (ws' := [(o, .inr (2, [.ref tp, .ref pp, .ref nn, .ref ob, .ref nb, .int (nI ((s0 ++ [(123, n0)]).length)), .int (nI i2), .int ub2, .int (-1)])), (tp, .inr (0, [.ref tb, .int (nI t.length)])), (tb, .inl (dA 0, 4096, .inl f)), (pp, .inr (0, [.ref pb, .int (nI pr.length)])), (pb, .inl (dA 0, 4096, .inl g2)), (nn, .inr (1, [.ref pp, .ref s1, .ref s2, .ref s3, .int (nI ns.length)])), (s1, .inl (dA 1, 1024, .inl fS2)), (s2, .inl (dA 1, 1024, .inl fE2)), (s3, .inl (dA 1, 1024, .inl fH2)), (ob, .inl (dA 0, 32, .inl fO2)), (nb, .inl (dA 1, 32, .inl fB2))]) (by rw [hsk]) ?_
                refine jv_lveq (lv' := [(3, .int 34), (0, .ref o), (1, .int (nI nx)), (2, .int (nI k))]) (by rw [hq]) ?_
                refine jv_iload_n C (jd D_Rd_readTape 40 rfl) rfl 0 rfl ?_
                refine jv_callV (wr := []) C cl_Rd_59 (c_Rd_name_no o tp pp nn ob nb tb pb s1 s2 s3 f g2 fS2 fE2 fH2 fO2 fB2 t pr s0 ns i2 ub2 (-1) 123 n0 q ht h4 hR3 hit hE) [0, 1, 2, 3, 4, 5, 6, 7, 8, 9, 10] [] rfl rfl rfl rfl (by decide) rfl rfl 0 rfl ⟨Nat.le_of_ble_eq_true rfl, Nat.le_of_ble_eq_true rfl⟩ ⟨Nat.le_of_ble_eq_true rfl, Nat.le_of_ble_eq_true rfl⟩ rfl rfl (Nat.le_of_ble_eq_true rfl) (jd D_Rd_readTape 41 rfl) (fun v9 v k2 => ?_)
                obtain ⟨r2, rfl, k2⟩ := k2
                refine jv_fix [0, 1, 2, 3, 4, 5, 6, 7, 8, 9, 10] [(o, .inr (2, [.ref tp, .ref pp, .ref nn, .ref ob, .ref nb, .int (nI ((s0 ++ [(123, n0)]).length)), .int (nI v.1), .int v.2.1, .int (nI q)])), (tp, .inr (0, [.ref tb, .int (nI t.length)])), (tb, .inl (dA 0, 4096, .inl f)), (pp, .inr (0, [.ref pb, .int (nI v.2.2.2.length)])), (pb, .inl (dA 0, 4096, .inl v.2.2.1)), (nn, .inr (1, [.ref pp, .ref s1, .ref s2, .ref s3, .int (nI ns.length)])), (s1, .inl (dA 1, 1024, .inl fS2)), (s2, .inl (dA 1, 1024, .inl fE2)), (s3, .inl (dA 1, 1024, .inl fH2)), (ob, .inl (dA 0, 32, .inl fO2)), (nb, .inl (dA 1, 32, .inl fB2))] [.int r2] 0 0 rfl rfl rfl (Nat.le_refl _) (Nat.le_refl _) ?_
                obtain ⟨k2a, k2⟩ := k2
                subst k2a
                refine jv_istore_n C [(1, .int 6), (3, .int 34), (0, .ref o), (2, .int (nI k))] (jd D_Rd_readTape 42 rfl) rfl (by decide) rfl ?_
                refine jv_goto (tgt := 151) C (jd D_Rd_readTape 43 rfl) (by decide) ?_
                refine jv_iinc (v := nI (k + 1)) C [(2, .int (nI (k + 1))), (1, .int 6), (3, .int 34), (0, .ref o)] (jd D_Rd_readTape 65 rfl) 3 rfl (nI_1 k) (by decide) rfl ?_
                refine jv_goto (tgt := 8) C (jd D_Rd_readTape 66 rfl) (by decide) ?_
                refine jv_iload_n C (jd D_Rd_readTape 6 rfl) rfl 0 rfl ?_
                refine jv_sipush (v := 4096) C (jd D_Rd_readTape 7 rfl) (by decide) ?_
                refine jv_icmp_gt (tgt := 157) C (jd D_Rd_readTape 8 rfl) (by decide) (fun c12 => ?_) (fun c12 => ?_)
                · refine jv_aload_n C (jd D_Rd_readTape 67 rfl) rfl 3 rfl ?_
                  refine jv_get C fl_Rd_68 0 rfl rfl (jd D_Rd_readTape 68 rfl) ?_
                  rw [hQ]
                  exact jv_iret C hr ((nI ((s0 ++ [(123, n0)]).length)), (nI v.1), v.2.1, v.2.2.2, ns.length, v.2.2.1, fS2, fE2, fH2, fO2, fB2) (⟨rfl, k2.1, k2.2.1, hR.2.2.2.1⟩) rfl [0, 1, 2, 3, 4, 5, 6, 7, 8, 9, 10] rfl rfl (Nat.le_of_ble_eq_true rfl) (Nat.le_of_ble_eq_true rfl) (jd D_Rd_readTape 69 rfl)
                · refine jv_iload_n C (jd D_Rd_readTape 9 rfl) rfl 1 rfl ?_
                  refine jv_bipush (v := 6) C (jd D_Rd_readTape 10 rfl) (by decide) ?_
                  refine jv_icmp_eq (tgt := 157) C (jd D_Rd_readTape 11 rfl) (by decide) (fun c18 => ?_) (fun c18 => absurd (rfl) c18)
                  refine jv_aload_n C (jd D_Rd_readTape 67 rfl) rfl 3 rfl ?_
                  refine jv_get C fl_Rd_68 0 rfl rfl (jd D_Rd_readTape 68 rfl) ?_
                  rw [hQ]
                  exact jv_iret C hr ((nI ((s0 ++ [(123, n0)]).length)), (nI v.1), v.2.1, v.2.2.2, ns.length, v.2.2.1, fS2, fE2, fH2, fO2, fB2) (⟨rfl, k2.1, k2.2.1, hR.2.2.2.1⟩) rfl [0, 1, 2, 3, 4, 5, 6, 7, 8, 9, 10] rfl rfl (Nat.le_of_ble_eq_true rfl) (Nat.le_of_ble_eq_true rfl) (jd D_Rd_readTape 69 rfl)
              · by_cases hd : js_dup (pr ++ [34] ++ us.flatMap js_pu ++ [34]) ns n0 pr.length
                · rw [show 4097 - k = (4097 - (k + 1)) + 1 by omega, js_run_no h6 hi2 (by rw [js_step, if_neg (by omega), if_neg (by omega), if_pos hnx, js_nm_dup hq hE hjl hd]), hfin] at hrun
                  have hqq : i2 = q := Sum.inl.inj hrun
                  refine jv_aload_n C (jd D_Rd_readTape 39 rfl) rfl 1 rfl ?_
                  refine jv_weq (ws' := [(o, .inr (2, [.ref tp, .ref pp, .ref nn, .ref ob, .ref nb, .int (nI ((s0 ++ [(123, n0)]).length)), .int (nI i2), .int ub2, .int (-1)])), (tp, .inr (0, [.ref tb, .int (nI t.length)])), (tb, .inl (dA 0, 4096, .inl f)), (pp, .inr (0, [.ref pb, .int (nI pr.length)])), (pb, .inl (dA 0, 4096, .inl g2)), (nn, .inr (1, [.ref pp, .ref s1, .ref s2, .ref s3, .int (nI ns.length)])), (s1, .inl (dA 1, 1024, .inl fS2)), (s2, .inl (dA 1, 1024, .inl fE2)), (s3, .inl (dA 1, 1024, .inl fH2)), (ob, .inl (dA 0, 32, .inl fO2)), (nb, .inl (dA 1, 32, .inl fB2))]) (by rw [hsk]) ?_
                  refine jv_lveq (lv' := [(3, .int 34), (0, .ref o), (1, .int (nI nx)), (2, .int (nI k))]) (by rw [hq]) ?_
                  refine jv_iload_n C (jd D_Rd_readTape 40 rfl) rfl 0 rfl ?_
                  refine jv_callV (wr := []) C cl_Rd_59 (c_Rd_name_dup o tp pp nn ob nb tb pb s1 s2 s3 f g2 fS2 fE2 fH2 fO2 fB2 t pr s0 ns i2 ub2 (-1) 123 n0 z us ht h4 hR3 hm3 hit hE hd) [0, 1, 2, 3, 4, 5, 6, 7, 8, 9, 10] [] rfl rfl rfl rfl (by decide) rfl rfl 0 rfl ⟨Nat.le_of_ble_eq_true rfl, Nat.le_of_ble_eq_true rfl⟩ ⟨Nat.le_of_ble_eq_true rfl, Nat.le_of_ble_eq_true rfl⟩ rfl rfl (Nat.le_of_ble_eq_true rfl) (jd D_Rd_readTape 41 rfl) (fun v10 v k2 => ?_)
                  obtain ⟨r2, rfl, k2⟩ := k2
                  refine jv_fix [0, 1, 2, 3, 4, 5, 6, 7, 8, 9, 10] [(o, .inr (2, [.ref tp, .ref pp, .ref nn, .ref ob, .ref nb, .int (nI ((s0 ++ [(123, n0)]).length)), .int (nI z), .int v.1, .int (nI i2)])), (tp, .inr (0, [.ref tb, .int (nI t.length)])), (tb, .inl (dA 0, 4096, .inl f)), (pp, .inr (0, [.ref pb, .int (nI (pr ++ [34] ++ us.flatMap js_pu ++ [34]).length)])), (pb, .inl (dA 0, 4096, .inl v.2)), (nn, .inr (1, [.ref pp, .ref s1, .ref s2, .ref s3, .int (nI ns.length)])), (s1, .inl (dA 1, 1024, .inl fS2)), (s2, .inl (dA 1, 1024, .inl fE2)), (s3, .inl (dA 1, 1024, .inl fH2)), (ob, .inl (dA 0, 32, .inl fO2)), (nb, .inl (dA 1, 32, .inl fB2))] [.int r2] 0 0 rfl rfl rfl (Nat.le_refl _) (Nat.le_refl _) ?_
                  obtain ⟨k2a, k2⟩ := k2
                  subst k2a
                  refine jv_istore_n C [(1, .int 6), (3, .int 34), (0, .ref o), (2, .int (nI k))] (jd D_Rd_readTape 42 rfl) rfl (by decide) rfl ?_
                  refine jv_goto (tgt := 151) C (jd D_Rd_readTape 43 rfl) (by decide) ?_
                  refine jv_iinc (v := nI (k + 1)) C [(2, .int (nI (k + 1))), (1, .int 6), (3, .int 34), (0, .ref o)] (jd D_Rd_readTape 65 rfl) 3 rfl (nI_1 k) (by decide) rfl ?_
                  refine jv_goto (tgt := 8) C (jd D_Rd_readTape 66 rfl) (by decide) ?_
                  refine jv_iload_n C (jd D_Rd_readTape 6 rfl) rfl 0 rfl ?_
                  refine jv_sipush (v := 4096) C (jd D_Rd_readTape 7 rfl) (by decide) ?_
                  refine jv_icmp_gt (tgt := 157) C (jd D_Rd_readTape 8 rfl) (by decide) (fun c12 => ?_) (fun c12 => ?_)
                  · refine jv_weq (ws' := [(o, .inr (2, [.ref tp, .ref pp, .ref nn, .ref ob, .ref nb, .int (nI ((s0 ++ [(123, n0)]).length)), .int (nI z), .int v.1, .int (nI q)])), (tp, .inr (0, [.ref tb, .int (nI t.length)])), (tb, .inl (dA 0, 4096, .inl f)), (pp, .inr (0, [.ref pb, .int (nI (pr ++ [34] ++ us.flatMap js_pu ++ [34]).length)])), (pb, .inl (dA 0, 4096, .inl v.2)), (nn, .inr (1, [.ref pp, .ref s1, .ref s2, .ref s3, .int (nI ns.length)])), (s1, .inl (dA 1, 1024, .inl fS2)), (s2, .inl (dA 1, 1024, .inl fE2)), (s3, .inl (dA 1, 1024, .inl fH2)), (ob, .inl (dA 0, 32, .inl fO2)), (nb, .inl (dA 1, 32, .inl fB2))]) (by rw [hqq]) ?_
                    refine jv_aload_n C (jd D_Rd_readTape 67 rfl) rfl 3 rfl ?_
                    refine jv_get C fl_Rd_68 0 rfl rfl (jd D_Rd_readTape 68 rfl) ?_
                    rw [hQ]
                    exact jv_iret C hr ((nI ((s0 ++ [(123, n0)]).length)), (nI z), v.1, (pr ++ [34] ++ us.flatMap js_pu ++ [34]), ns.length, v.2, fS2, fE2, fH2, fO2, fB2) (⟨rfl, k2.2.2.2.2.1, Nat.le_trans k2.2.1 (Nat.le_trans k2.1 h4), hR.2.2.2.1⟩) rfl [0, 1, 2, 3, 4, 5, 6, 7, 8, 9, 10] rfl rfl (Nat.le_of_ble_eq_true rfl) (Nat.le_of_ble_eq_true rfl) (jd D_Rd_readTape 69 rfl)
                  · refine jv_iload_n C (jd D_Rd_readTape 9 rfl) rfl 1 rfl ?_
                    refine jv_bipush (v := 6) C (jd D_Rd_readTape 10 rfl) (by decide) ?_
                    refine jv_icmp_eq (tgt := 157) C (jd D_Rd_readTape 11 rfl) (by decide) (fun c18 => ?_) (fun c18 => absurd (rfl) c18)
                    refine jv_weq (ws' := [(o, .inr (2, [.ref tp, .ref pp, .ref nn, .ref ob, .ref nb, .int (nI ((s0 ++ [(123, n0)]).length)), .int (nI z), .int v.1, .int (nI q)])), (tp, .inr (0, [.ref tb, .int (nI t.length)])), (tb, .inl (dA 0, 4096, .inl f)), (pp, .inr (0, [.ref pb, .int (nI (pr ++ [34] ++ us.flatMap js_pu ++ [34]).length)])), (pb, .inl (dA 0, 4096, .inl v.2)), (nn, .inr (1, [.ref pp, .ref s1, .ref s2, .ref s3, .int (nI ns.length)])), (s1, .inl (dA 1, 1024, .inl fS2)), (s2, .inl (dA 1, 1024, .inl fE2)), (s3, .inl (dA 1, 1024, .inl fH2)), (ob, .inl (dA 0, 32, .inl fO2)), (nb, .inl (dA 1, 32, .inl fB2))]) (by rw [hqq]) ?_
                    refine jv_aload_n C (jd D_Rd_readTape 67 rfl) rfl 3 rfl ?_
                    refine jv_get C fl_Rd_68 0 rfl rfl (jd D_Rd_readTape 68 rfl) ?_
                    rw [hQ]
                    exact jv_iret C hr ((nI ((s0 ++ [(123, n0)]).length)), (nI z), v.1, (pr ++ [34] ++ us.flatMap js_pu ++ [34]), ns.length, v.2, fS2, fE2, fH2, fO2, fB2) (⟨rfl, k2.2.2.2.2.1, Nat.le_trans k2.2.1 (Nat.le_trans k2.1 h4), hR.2.2.2.1⟩) rfl [0, 1, 2, 3, 4, 5, 6, 7, 8, 9, 10] rfl rfl (Nat.le_of_ble_eq_true rfl) (Nat.le_of_ble_eq_true rfl) (jd D_Rd_readTape 69 rfl)
                · have hc9 : ns.length < 1024 := by
                    have hx1 := js_st_len ht.by hE
                    have hx2 := hw.2.1
                    have hx3 : js_slk nx = 0 := by unfold js_slk; rw [if_neg (by omega), if_neg (by omega)]
                    have hx4 := hR2.2.1
                    have hx5 := hR2.1
                    omega
                  refine jv_aload_n C (jd D_Rd_readTape 39 rfl) rfl 1 rfl ?_
                  refine jv_weq (ws' := [(o, .inr (2, [.ref tp, .ref pp, .ref nn, .ref ob, .ref nb, .int (nI ((s0 ++ [(123, n0)]).length)), .int (nI i2), .int ub2, .int (-1)])), (tp, .inr (0, [.ref tb, .int (nI t.length)])), (tb, .inl (dA 0, 4096, .inl f)), (pp, .inr (0, [.ref pb, .int (nI pr.length)])), (pb, .inl (dA 0, 4096, .inl g2)), (nn, .inr (1, [.ref pp, .ref s1, .ref s2, .ref s3, .int (nI ns.length)])), (s1, .inl (dA 1, 1024, .inl fS2)), (s2, .inl (dA 1, 1024, .inl fE2)), (s3, .inl (dA 1, 1024, .inl fH2)), (ob, .inl (dA 0, 32, .inl fO2)), (nb, .inl (dA 1, 32, .inl fB2))]) (by rw [hsk]) ?_
                  refine jv_lveq (lv' := [(3, .int 34), (0, .ref o), (1, .int (nI nx)), (2, .int (nI k))]) (by rw [hq]) ?_
                  refine jv_iload_n C (jd D_Rd_readTape 40 rfl) rfl 0 rfl ?_
                  refine jv_callV (wr := []) C cl_Rd_59 (c_Rd_name_ok o tp pp nn ob nb tb pb s1 s2 s3 f g2 fS2 fE2 fH2 fO2 fB2 t pr s0 ns i2 ub2 (-1) 123 n0 z us ht h4 hR3 hm3 hit hc9 hE hd) [0, 1, 2, 3, 4, 5, 6, 7, 8, 9, 10] [] rfl rfl rfl rfl (by decide) rfl rfl 0 rfl ⟨Nat.le_of_ble_eq_true rfl, Nat.le_of_ble_eq_true rfl⟩ ⟨Nat.le_of_ble_eq_true rfl, Nat.le_of_ble_eq_true rfl⟩ rfl rfl (Nat.le_of_ble_eq_true rfl) (jd D_Rd_readTape 41 rfl) (fun v11 v k2 => ?_)
                  obtain ⟨r2, rfl, k2⟩ := k2
                  refine jv_fix [0, 1, 2, 3, 4, 5, 6, 7, 8, 9, 10] [(o, .inr (2, [.ref tp, .ref pp, .ref nn, .ref ob, .ref nb, .int (nI ((s0 ++ [(123, n0)]).length)), .int (nI z), .int v.1, .int (-1)])), (tp, .inr (0, [.ref tb, .int (nI t.length)])), (tb, .inl (dA 0, 4096, .inl f)), (pp, .inr (0, [.ref pb, .int (nI (pr ++ [34] ++ us.flatMap js_pu ++ [34]).length)])), (pb, .inl (dA 0, 4096, .inl v.2)), (nn, .inr (1, [.ref pp, .ref s1, .ref s2, .ref s3, .int (nI ((ns ++ [(pr.length, (pr ++ [34] ++ us.flatMap js_pu ++ [34]).length)]).length))])), (s1, .inl (dA 1, 1024, .inl (upd fS2 ns.length (nI pr.length)))), (s2, .inl (dA 1, 1024, .inl (upd fE2 ns.length (nI (pr ++ [34] ++ us.flatMap js_pu ++ [34]).length)))), (s3, .inl (dA 1, 1024, .inl (upd fH2 ns.length (js_hash (pr ++ [34] ++ us.flatMap js_pu ++ [34]) pr.length ((pr ++ [34] ++ us.flatMap js_pu ++ [34]).length - pr.length))))), (ob, .inl (dA 0, 32, .inl fO2)), (nb, .inl (dA 1, 32, .inl fB2))] [.int r2] 0 0 rfl rfl rfl (Nat.le_refl _) (Nat.le_refl _) ?_
                  obtain ⟨k2a, k2⟩ := k2
                  subst k2a
                  refine jv_istore_n C [(1, .int 4), (3, .int 34), (0, .ref o), (2, .int (nI k))] (jd D_Rd_readTape 42 rfl) rfl (by decide) rfl ?_
                  refine jv_goto (tgt := 151) C (jd D_Rd_readTape 43 rfl) (by decide) ?_
                  refine jv_iinc (v := nI (k + 1)) C [(2, .int (nI (k + 1))), (1, .int 4), (3, .int 34), (0, .ref o)] (jd D_Rd_readTape 65 rfl) 3 rfl (nI_1 k) (by decide) rfl ?_
                  refine jv_goto (tgt := 8) C (jd D_Rd_readTape 66 rfl) (by decide) ?_
                  refine jv_lvsub [3, 1, 0] rfl ?_
                  exact ih (k + 1) 4 z (pr ++ [34] ++ us.flatMap js_pu ++ [34]) (s0 ++ [(123, n0)]) (ns ++ [(pr.length, (pr ++ [34] ++ us.flatMap js_pu ++ [34]).length)]) v.1 v.2 (upd fS2 ns.length (nI pr.length)) (upd fE2 ns.length (nI (pr ++ [34] ++ us.flatMap js_pu ++ [34]).length)) (upd fH2 ns.length (js_hash (pr ++ [34] ++ us.flatMap js_pu ++ [34]) pr.length ((pr ++ [34] ++ us.flatMap js_pu ++ [34]).length - pr.length))) fO2 fB2 (by omega) (by omega) (k2) (js_nm_wf (t := t) (i := i2) (nx := nx) (by omega) hw (by rw [js_nm_new hq hE hjl hd, hsk])) (by rw [← hrun, show 4097 - k = (4097 - (k + 1)) + 1 by omega, js_run_ok (nx3 := 4) (i3 := z) (pr3 := (pr ++ [34] ++ us.flatMap js_pu ++ [34])) (sk3 := (s0 ++ [(123, n0)])) (ns3 := (ns ++ [(pr.length, (pr ++ [34] ++ us.flatMap js_pu ++ [34]).length)])) h6 hi2 (by rw [js_step, if_neg (by omega), if_neg (by omega), if_pos hnx, js_nm_new hq hE hjl hd, hsk])])
            · rw [show 4097 - k = (4097 - (k + 1)) + 1 by omega, js_run_no h6 hi2 (by rw [js_step, if_neg (by omega), if_neg (by omega), if_pos hnx, js_nm, if_neg hq]), hfin] at hrun
              have hqq : i2 = q := Sum.inl.inj hrun
              refine jv_aload_n C (jd D_Rd_readTape 39 rfl) rfl 1 rfl ?_
              refine jv_weq (ws' := [(o, .inr (2, [.ref tp, .ref pp, .ref nn, .ref ob, .ref nb, .int (nI ((s0 ++ [(123, n0)]).length)), .int (nI i2), .int ub2, .int (-1)])), (tp, .inr (0, [.ref tb, .int (nI t.length)])), (tb, .inl (dA 0, 4096, .inl f)), (pp, .inr (0, [.ref pb, .int (nI pr.length)])), (pb, .inl (dA 0, 4096, .inl g2)), (nn, .inr (1, [.ref pp, .ref s1, .ref s2, .ref s3, .int (nI ns.length)])), (s1, .inl (dA 1, 1024, .inl fS2)), (s2, .inl (dA 1, 1024, .inl fE2)), (s3, .inl (dA 1, 1024, .inl fH2)), (ob, .inl (dA 0, 32, .inl fO2)), (nb, .inl (dA 1, 32, .inl fB2))]) (by rw [hsk]) ?_
              refine jv_iload_n C (jd D_Rd_readTape 40 rfl) rfl 0 rfl ?_
              refine jv_callV (wr := []) C cl_Rd_59 (c_Rd_name_q o tp pp nn ob nb tb pb s1 s2 s3 f g2 fS2 fE2 fH2 fO2 fB2 t pr s0 ns i2 ub2 (-1) 123 n0 (js_b t i2) hq) [0, 1, 2, 3, 4, 5, 6, 7, 8, 9, 10] [] rfl rfl rfl rfl (by decide) rfl rfl 0 rfl ⟨Nat.le_of_ble_eq_true rfl, Nat.le_of_ble_eq_true rfl⟩ ⟨Nat.le_of_ble_eq_true rfl, Nat.le_of_ble_eq_true rfl⟩ rfl rfl (Nat.le_of_ble_eq_true rfl) (jd D_Rd_readTape 41 rfl) (fun v12 _ k2 => ?_)
              obtain ⟨r2, rfl, k2⟩ := k2
              refine jv_fix [0, 1, 2, 3, 4, 5, 6, 7, 8, 9, 10] [(o, .inr (2, [.ref tp, .ref pp, .ref nn, .ref ob, .ref nb, .int (nI ((s0 ++ [(123, n0)]).length)), .int (nI i2), .int ub2, .int (nI i2)])), (tp, .inr (0, [.ref tb, .int (nI t.length)])), (tb, .inl (dA 0, 4096, .inl f)), (pp, .inr (0, [.ref pb, .int (nI pr.length)])), (pb, .inl (dA 0, 4096, .inl g2)), (nn, .inr (1, [.ref pp, .ref s1, .ref s2, .ref s3, .int (nI ns.length)])), (s1, .inl (dA 1, 1024, .inl fS2)), (s2, .inl (dA 1, 1024, .inl fE2)), (s3, .inl (dA 1, 1024, .inl fH2)), (ob, .inl (dA 0, 32, .inl fO2)), (nb, .inl (dA 1, 32, .inl fB2))] [.int r2] 0 0 rfl rfl rfl (Nat.le_refl _) (Nat.le_refl _) ?_
              subst k2
              refine jv_istore_n C [(1, .int 6), (3, .int (js_b t i2)), (0, .ref o), (2, .int (nI k))] (jd D_Rd_readTape 42 rfl) rfl (by decide) rfl ?_
              refine jv_goto (tgt := 151) C (jd D_Rd_readTape 43 rfl) (by decide) ?_
              refine jv_iinc (v := nI (k + 1)) C [(2, .int (nI (k + 1))), (1, .int 6), (3, .int (js_b t i2)), (0, .ref o)] (jd D_Rd_readTape 65 rfl) 3 rfl (nI_1 k) (by decide) rfl ?_
              refine jv_goto (tgt := 8) C (jd D_Rd_readTape 66 rfl) (by decide) ?_
              refine jv_iload_n C (jd D_Rd_readTape 6 rfl) rfl 0 rfl ?_
              refine jv_sipush (v := 4096) C (jd D_Rd_readTape 7 rfl) (by decide) ?_
              refine jv_icmp_gt (tgt := 157) C (jd D_Rd_readTape 8 rfl) (by decide) (fun c12 => ?_) (fun c12 => ?_)
              · refine jv_weq (ws' := [(o, .inr (2, [.ref tp, .ref pp, .ref nn, .ref ob, .ref nb, .int (nI ((s0 ++ [(123, n0)]).length)), .int (nI i2), .int ub2, .int (nI q)])), (tp, .inr (0, [.ref tb, .int (nI t.length)])), (tb, .inl (dA 0, 4096, .inl f)), (pp, .inr (0, [.ref pb, .int (nI pr.length)])), (pb, .inl (dA 0, 4096, .inl g2)), (nn, .inr (1, [.ref pp, .ref s1, .ref s2, .ref s3, .int (nI ns.length)])), (s1, .inl (dA 1, 1024, .inl fS2)), (s2, .inl (dA 1, 1024, .inl fE2)), (s3, .inl (dA 1, 1024, .inl fH2)), (ob, .inl (dA 0, 32, .inl fO2)), (nb, .inl (dA 1, 32, .inl fB2))]) (by rw [hqq]) ?_
                refine jv_aload_n C (jd D_Rd_readTape 67 rfl) rfl 3 rfl ?_
                refine jv_get C fl_Rd_68 0 rfl rfl (jd D_Rd_readTape 68 rfl) ?_
                rw [hQ]
                exact jv_iret C hr ((nI ((s0 ++ [(123, n0)]).length)), (nI i2), ub2, pr, ns.length, g2, fS2, fE2, fH2, fO2, fB2) (⟨rfl, hR2.2.2.2.2.1, Nat.le_trans hR2.2.1 hi24, hR.2.2.2.1⟩) rfl [0, 1, 2, 3, 4, 5, 6, 7, 8, 9, 10] rfl rfl (Nat.le_of_ble_eq_true rfl) (Nat.le_of_ble_eq_true rfl) (jd D_Rd_readTape 69 rfl)
              · refine jv_iload_n C (jd D_Rd_readTape 9 rfl) rfl 1 rfl ?_
                refine jv_bipush (v := 6) C (jd D_Rd_readTape 10 rfl) (by decide) ?_
                refine jv_icmp_eq (tgt := 157) C (jd D_Rd_readTape 11 rfl) (by decide) (fun c18 => ?_) (fun c18 => absurd (rfl) c18)
                refine jv_weq (ws' := [(o, .inr (2, [.ref tp, .ref pp, .ref nn, .ref ob, .ref nb, .int (nI ((s0 ++ [(123, n0)]).length)), .int (nI i2), .int ub2, .int (nI q)])), (tp, .inr (0, [.ref tb, .int (nI t.length)])), (tb, .inl (dA 0, 4096, .inl f)), (pp, .inr (0, [.ref pb, .int (nI pr.length)])), (pb, .inl (dA 0, 4096, .inl g2)), (nn, .inr (1, [.ref pp, .ref s1, .ref s2, .ref s3, .int (nI ns.length)])), (s1, .inl (dA 1, 1024, .inl fS2)), (s2, .inl (dA 1, 1024, .inl fE2)), (s3, .inl (dA 1, 1024, .inl fH2)), (ob, .inl (dA 0, 32, .inl fO2)), (nb, .inl (dA 1, 32, .inl fB2))]) (by rw [hqq]) ?_
                refine jv_aload_n C (jd D_Rd_readTape 67 rfl) rfl 3 rfl ?_
                refine jv_get C fl_Rd_68 0 rfl rfl (jd D_Rd_readTape 68 rfl) ?_
                rw [hQ]
                exact jv_iret C hr ((nI ((s0 ++ [(123, n0)]).length)), (nI i2), ub2, pr, ns.length, g2, fS2, fE2, fH2, fO2, fB2) (⟨rfl, hR2.2.2.2.2.1, Nat.le_trans hR2.2.1 hi24, hR.2.2.2.1⟩) rfl [0, 1, 2, 3, 4, 5, 6, 7, 8, 9, 10] rfl rfl (Nat.le_of_ble_eq_true rfl) (Nat.le_of_ble_eq_true rfl) (jd D_Rd_readTape 69 rfl)
          by_cases s38_3 : (nI nx) = 3
          · refine jv_tableIn (tgt := 113) (off := 75) C (jd D_Rd_readTape 21 rfl) (by rw [s38_3]; decide) (by rw [s38_3]; decide) (by rw [s38_3] <;> rfl) (by decide) ?_
            have hnx : nx = 3 := (nI_eq (a := nx) (b := 3) (by omega) (by decide)).mp s38_3
            refine jv_iload_n C (jd D_Rd_readTape 44 rfl) rfl 0 rfl ?_
            refine jv_bipush (v := 125) C (jd D_Rd_readTape 45 rfl) (by decide) ?_
            refine jv_icmp_ne (tgt := 127) C (jd D_Rd_readTape 46 rfl) (by decide) (fun c116 => ?_) (fun c116 => ?_)
            · obtain ⟨s0, n0, hsk⟩ := hw.2.2.2.2.2.2 (by omega)
              have hR3 := hR2
              rw [hsk] at hR3
              have hw3 := hw
              rw [hsk] at hw3
              have hm3 := js_pw_last hw3.2.2.2.1
              have hjl : js_last sk = n0 := by rw [hsk]; exact js_last_app _ _
              by_cases hq : js_b t i2 = 34
              · have hit : i2 < t.length := js_b_lt (by rw [hq]; decide)
                rcases hE : js_st t 4096 (i2 + 1) [] with qq | ⟨us, z⟩
                · rw [show 4097 - k = (4097 - (k + 1)) + 1 by omega, js_run_no h6 hi2 (by rw [js_step, if_neg (by omega), if_neg (by omega), if_neg (by omega), if_pos hnx, if_neg c116, js_nm, if_pos hq, hE]), hfin] at hrun
                  cases hrun
                  refine jv_aload_n C (jd D_Rd_readTape 51 rfl) rfl 1 rfl ?_
                  refine jv_weq (ws' := [(o, .inr (2, [.ref tp, .ref pp, .ref nn, .ref ob, .ref nb, .int (nI ((s0 ++ [(123, n0)]).length)), .int (nI i2), .int ub2, .int (-1)])), (tp, .inr (0, [.ref tb, .int (nI t.length)])), (tb, .inl (dA 0, 4096, .inl f)), (pp, .inr (0, [.ref pb, .int (nI pr.length)])), (pb, .inl (dA 0, 4096, .inl g2)), (nn, .inr (1, [.ref pp, .ref s1, .ref s2, .ref s3, .int (nI ns.length)])), (s1, .inl (dA 1, 1024, .inl fS2)), (s2, .inl (dA 1, 1024, .inl fE2)), (s3, .inl (dA 1, 1024, .inl fH2)), (ob, .inl (dA 0, 32, .inl fO2)), (nb, .inl (dA 1, 32, .inl fB2))]) (by rw [hsk]) ?_
                  refine jv_lveq (lv' := [(3, .int 34), (0, .ref o), (1, .int (nI nx)), (2, .int (nI k))]) (by rw [hq]) ?_
                  refine jv_iload_n C (jd D_Rd_readTape 52 rfl) rfl 0 rfl ?_
                  refine jv_callV (wr := []) C cl_Rd_59 (c_Rd_name_no o tp pp nn ob nb tb pb s1 s2 s3 f g2 fS2 fE2 fH2 fO2 fB2 t pr s0 ns i2 ub2 (-1) 123 n0 q ht h4 hR3 hit hE) [0, 1, 2, 3, 4, 5, 6, 7, 8, 9, 10] [] rfl rfl rfl rfl (by decide) rfl rfl 0 rfl ⟨Nat.le_of_ble_eq_true rfl, Nat.le_of_ble_eq_true rfl⟩ ⟨Nat.le_of_ble_eq_true rfl, Nat.le_of_ble_eq_true rfl⟩ rfl rfl (Nat.le_of_ble_eq_true rfl) (jd D_Rd_readTape 53 rfl) (fun v13 v k2 => ?_)
                  obtain ⟨r2, rfl, k2⟩ := k2
                  refine jv_fix [0, 1, 2, 3, 4, 5, 6, 7, 8, 9, 10] [(o, .inr (2, [.ref tp, .ref pp, .ref nn, .ref ob, .ref nb, .int (nI ((s0 ++ [(123, n0)]).length)), .int (nI v.1), .int v.2.1, .int (nI q)])), (tp, .inr (0, [.ref tb, .int (nI t.length)])), (tb, .inl (dA 0, 4096, .inl f)), (pp, .inr (0, [.ref pb, .int (nI v.2.2.2.length)])), (pb, .inl (dA 0, 4096, .inl v.2.2.1)), (nn, .inr (1, [.ref pp, .ref s1, .ref s2, .ref s3, .int (nI ns.length)])), (s1, .inl (dA 1, 1024, .inl fS2)), (s2, .inl (dA 1, 1024, .inl fE2)), (s3, .inl (dA 1, 1024, .inl fH2)), (ob, .inl (dA 0, 32, .inl fO2)), (nb, .inl (dA 1, 32, .inl fB2))] [.int r2] 0 0 rfl rfl rfl (Nat.le_refl _) (Nat.le_refl _) ?_
                  obtain ⟨k2a, k2⟩ := k2
                  subst k2a
                  refine jv_istore_n C [(1, .int 6), (3, .int 34), (0, .ref o), (2, .int (nI k))] (jd D_Rd_readTape 54 rfl) rfl (by decide) rfl ?_
                  refine jv_goto (tgt := 151) C (jd D_Rd_readTape 55 rfl) (by decide) ?_
                  refine jv_iinc (v := nI (k + 1)) C [(2, .int (nI (k + 1))), (1, .int 6), (3, .int 34), (0, .ref o)] (jd D_Rd_readTape 65 rfl) 3 rfl (nI_1 k) (by decide) rfl ?_
                  refine jv_goto (tgt := 8) C (jd D_Rd_readTape 66 rfl) (by decide) ?_
                  refine jv_iload_n C (jd D_Rd_readTape 6 rfl) rfl 0 rfl ?_
                  refine jv_sipush (v := 4096) C (jd D_Rd_readTape 7 rfl) (by decide) ?_
                  refine jv_icmp_gt (tgt := 157) C (jd D_Rd_readTape 8 rfl) (by decide) (fun c12 => ?_) (fun c12 => ?_)
                  · refine jv_aload_n C (jd D_Rd_readTape 67 rfl) rfl 3 rfl ?_
                    refine jv_get C fl_Rd_68 0 rfl rfl (jd D_Rd_readTape 68 rfl) ?_
                    rw [hQ]
                    exact jv_iret C hr ((nI ((s0 ++ [(123, n0)]).length)), (nI v.1), v.2.1, v.2.2.2, ns.length, v.2.2.1, fS2, fE2, fH2, fO2, fB2) (⟨rfl, k2.1, k2.2.1, hR.2.2.2.1⟩) rfl [0, 1, 2, 3, 4, 5, 6, 7, 8, 9, 10] rfl rfl (Nat.le_of_ble_eq_true rfl) (Nat.le_of_ble_eq_true rfl) (jd D_Rd_readTape 69 rfl)
                  · refine jv_iload_n C (jd D_Rd_readTape 9 rfl) rfl 1 rfl ?_
                    refine jv_bipush (v := 6) C (jd D_Rd_readTape 10 rfl) (by decide) ?_
                    refine jv_icmp_eq (tgt := 157) C (jd D_Rd_readTape 11 rfl) (by decide) (fun c18 => ?_) (fun c18 => absurd (rfl) c18)
                    refine jv_aload_n C (jd D_Rd_readTape 67 rfl) rfl 3 rfl ?_
                    refine jv_get C fl_Rd_68 0 rfl rfl (jd D_Rd_readTape 68 rfl) ?_
                    rw [hQ]
                    exact jv_iret C hr ((nI ((s0 ++ [(123, n0)]).length)), (nI v.1), v.2.1, v.2.2.2, ns.length, v.2.2.1, fS2, fE2, fH2, fO2, fB2) (⟨rfl, k2.1, k2.2.1, hR.2.2.2.1⟩) rfl [0, 1, 2, 3, 4, 5, 6, 7, 8, 9, 10] rfl rfl (Nat.le_of_ble_eq_true rfl) (Nat.le_of_ble_eq_true rfl) (jd D_Rd_readTape 69 rfl)
                · by_cases hd : js_dup (pr ++ [34] ++ us.flatMap js_pu ++ [34]) ns n0 pr.length
                  · rw [show 4097 - k = (4097 - (k + 1)) + 1 by omega, js_run_no h6 hi2 (by rw [js_step, if_neg (by omega), if_neg (by omega), if_neg (by omega), if_pos hnx, if_neg c116, js_nm_dup hq hE hjl hd]), hfin] at hrun
                    have hqq : i2 = q := Sum.inl.inj hrun
                    refine jv_aload_n C (jd D_Rd_readTape 51 rfl) rfl 1 rfl ?_
                    refine jv_weq (ws' := [(o, .inr (2, [.ref tp, .ref pp, .ref nn, .ref ob, .ref nb, .int (nI ((s0 ++ [(123, n0)]).length)), .int (nI i2), .int ub2, .int (-1)])), (tp, .inr (0, [.ref tb, .int (nI t.length)])), (tb, .inl (dA 0, 4096, .inl f)), (pp, .inr (0, [.ref pb, .int (nI pr.length)])), (pb, .inl (dA 0, 4096, .inl g2)), (nn, .inr (1, [.ref pp, .ref s1, .ref s2, .ref s3, .int (nI ns.length)])), (s1, .inl (dA 1, 1024, .inl fS2)), (s2, .inl (dA 1, 1024, .inl fE2)), (s3, .inl (dA 1, 1024, .inl fH2)), (ob, .inl (dA 0, 32, .inl fO2)), (nb, .inl (dA 1, 32, .inl fB2))]) (by rw [hsk]) ?_
                    refine jv_lveq (lv' := [(3, .int 34), (0, .ref o), (1, .int (nI nx)), (2, .int (nI k))]) (by rw [hq]) ?_
                    refine jv_iload_n C (jd D_Rd_readTape 52 rfl) rfl 0 rfl ?_
                    refine jv_callV (wr := []) C cl_Rd_59 (c_Rd_name_dup o tp pp nn ob nb tb pb s1 s2 s3 f g2 fS2 fE2 fH2 fO2 fB2 t pr s0 ns i2 ub2 (-1) 123 n0 z us ht h4 hR3 hm3 hit hE hd) [0, 1, 2, 3, 4, 5, 6, 7, 8, 9, 10] [] rfl rfl rfl rfl (by decide) rfl rfl 0 rfl ⟨Nat.le_of_ble_eq_true rfl, Nat.le_of_ble_eq_true rfl⟩ ⟨Nat.le_of_ble_eq_true rfl, Nat.le_of_ble_eq_true rfl⟩ rfl rfl (Nat.le_of_ble_eq_true rfl) (jd D_Rd_readTape 53 rfl) (fun v14 v k2 => ?_)
                    obtain ⟨r2, rfl, k2⟩ := k2
                    refine jv_fix [0, 1, 2, 3, 4, 5, 6, 7, 8, 9, 10] [(o, .inr (2, [.ref tp, .ref pp, .ref nn, .ref ob, .ref nb, .int (nI ((s0 ++ [(123, n0)]).length)), .int (nI z), .int v.1, .int (nI i2)])), (tp, .inr (0, [.ref tb, .int (nI t.length)])), (tb, .inl (dA 0, 4096, .inl f)), (pp, .inr (0, [.ref pb, .int (nI (pr ++ [34] ++ us.flatMap js_pu ++ [34]).length)])), (pb, .inl (dA 0, 4096, .inl v.2)), (nn, .inr (1, [.ref pp, .ref s1, .ref s2, .ref s3, .int (nI ns.length)])), (s1, .inl (dA 1, 1024, .inl fS2)), (s2, .inl (dA 1, 1024, .inl fE2)), (s3, .inl (dA 1, 1024, .inl fH2)), (ob, .inl (dA 0, 32, .inl fO2)), (nb, .inl (dA 1, 32, .inl fB2))] [.int r2] 0 0 rfl rfl rfl (Nat.le_refl _) (Nat.le_refl _) ?_
                    obtain ⟨k2a, k2⟩ := k2
                    subst k2a
                    refine jv_istore_n C [(1, .int 6), (3, .int 34), (0, .ref o), (2, .int (nI k))] (jd D_Rd_readTape 54 rfl) rfl (by decide) rfl ?_
                    refine jv_goto (tgt := 151) C (jd D_Rd_readTape 55 rfl) (by decide) ?_
                    refine jv_iinc (v := nI (k + 1)) C [(2, .int (nI (k + 1))), (1, .int 6), (3, .int 34), (0, .ref o)] (jd D_Rd_readTape 65 rfl) 3 rfl (nI_1 k) (by decide) rfl ?_
                    refine jv_goto (tgt := 8) C (jd D_Rd_readTape 66 rfl) (by decide) ?_
                    refine jv_iload_n C (jd D_Rd_readTape 6 rfl) rfl 0 rfl ?_
                    refine jv_sipush (v := 4096) C (jd D_Rd_readTape 7 rfl) (by decide) ?_
                    refine jv_icmp_gt (tgt := 157) C (jd D_Rd_readTape 8 rfl) (by decide) (fun c12 => ?_) (fun c12 => ?_)
                    · refine jv_weq (ws' := [(o, .inr (2, [.ref tp, .ref pp, .ref nn, .ref ob, .ref nb, .int (nI ((s0 ++ [(123, n0)]).length)), .int (nI z), .int v.1, .int (nI q)])), (tp, .inr (0, [.ref tb, .int (nI t.length)])), (tb, .inl (dA 0, 4096, .inl f)), (pp, .inr (0, [.ref pb, .int (nI (pr ++ [34] ++ us.flatMap js_pu ++ [34]).length)])), (pb, .inl (dA 0, 4096, .inl v.2)), (nn, .inr (1, [.ref pp, .ref s1, .ref s2, .ref s3, .int (nI ns.length)])), (s1, .inl (dA 1, 1024, .inl fS2)), (s2, .inl (dA 1, 1024, .inl fE2)), (s3, .inl (dA 1, 1024, .inl fH2)), (ob, .inl (dA 0, 32, .inl fO2)), (nb, .inl (dA 1, 32, .inl fB2))]) (by rw [hqq]) ?_
                      refine jv_aload_n C (jd D_Rd_readTape 67 rfl) rfl 3 rfl ?_
                      refine jv_get C fl_Rd_68 0 rfl rfl (jd D_Rd_readTape 68 rfl) ?_
                      rw [hQ]
                      exact jv_iret C hr ((nI ((s0 ++ [(123, n0)]).length)), (nI z), v.1, (pr ++ [34] ++ us.flatMap js_pu ++ [34]), ns.length, v.2, fS2, fE2, fH2, fO2, fB2) (⟨rfl, k2.2.2.2.2.1, Nat.le_trans k2.2.1 (Nat.le_trans k2.1 h4), hR.2.2.2.1⟩) rfl [0, 1, 2, 3, 4, 5, 6, 7, 8, 9, 10] rfl rfl (Nat.le_of_ble_eq_true rfl) (Nat.le_of_ble_eq_true rfl) (jd D_Rd_readTape 69 rfl)
                    · refine jv_iload_n C (jd D_Rd_readTape 9 rfl) rfl 1 rfl ?_
                      refine jv_bipush (v := 6) C (jd D_Rd_readTape 10 rfl) (by decide) ?_
                      refine jv_icmp_eq (tgt := 157) C (jd D_Rd_readTape 11 rfl) (by decide) (fun c18 => ?_) (fun c18 => absurd (rfl) c18)
                      refine jv_weq (ws' := [(o, .inr (2, [.ref tp, .ref pp, .ref nn, .ref ob, .ref nb, .int (nI ((s0 ++ [(123, n0)]).length)), .int (nI z), .int v.1, .int (nI q)])), (tp, .inr (0, [.ref tb, .int (nI t.length)])), (tb, .inl (dA 0, 4096, .inl f)), (pp, .inr (0, [.ref pb, .int (nI (pr ++ [34] ++ us.flatMap js_pu ++ [34]).length)])), (pb, .inl (dA 0, 4096, .inl v.2)), (nn, .inr (1, [.ref pp, .ref s1, .ref s2, .ref s3, .int (nI ns.length)])), (s1, .inl (dA 1, 1024, .inl fS2)), (s2, .inl (dA 1, 1024, .inl fE2)), (s3, .inl (dA 1, 1024, .inl fH2)), (ob, .inl (dA 0, 32, .inl fO2)), (nb, .inl (dA 1, 32, .inl fB2))]) (by rw [hqq]) ?_
                      refine jv_aload_n C (jd D_Rd_readTape 67 rfl) rfl 3 rfl ?_
                      refine jv_get C fl_Rd_68 0 rfl rfl (jd D_Rd_readTape 68 rfl) ?_
                      rw [hQ]
                      exact jv_iret C hr ((nI ((s0 ++ [(123, n0)]).length)), (nI z), v.1, (pr ++ [34] ++ us.flatMap js_pu ++ [34]), ns.length, v.2, fS2, fE2, fH2, fO2, fB2) (⟨rfl, k2.2.2.2.2.1, Nat.le_trans k2.2.1 (Nat.le_trans k2.1 h4), hR.2.2.2.1⟩) rfl [0, 1, 2, 3, 4, 5, 6, 7, 8, 9, 10] rfl rfl (Nat.le_of_ble_eq_true rfl) (Nat.le_of_ble_eq_true rfl) (jd D_Rd_readTape 69 rfl)
                  · have hc9 : ns.length < 1024 := by
                      have hx1 := js_st_len ht.by hE
                      have hx2 := hw.2.1
                      have hx3 : js_slk nx = 0 := by unfold js_slk; rw [if_neg (by omega), if_neg (by omega)]
                      have hx4 := hR2.2.1
                      have hx5 := hR2.1
                      omega
                    refine jv_aload_n C (jd D_Rd_readTape 51 rfl) rfl 1 rfl ?_
                    refine jv_weq (ws' := [(o, .inr (2, [.ref tp, .ref pp, .ref nn, .ref ob, .ref nb, .int (nI ((s0 ++ [(123, n0)]).length)), .int (nI i2), .int ub2, .int (-1)])), (tp, .inr (0, [.ref tb, .int (nI t.length)])), (tb, .inl (dA 0, 4096, .inl f)), (pp, .inr (0, [.ref pb, .int (nI pr.length)])), (pb, .inl (dA 0, 4096, .inl g2)), (nn, .inr (1, [.ref pp, .ref s1, .ref s2, .ref s3, .int (nI ns.length)])), (s1, .inl (dA 1, 1024, .inl fS2)), (s2, .inl (dA 1, 1024, .inl fE2)), (s3, .inl (dA 1, 1024, .inl fH2)), (ob, .inl (dA 0, 32, .inl fO2)), (nb, .inl (dA 1, 32, .inl fB2))]) (by rw [hsk]) ?_
                    refine jv_lveq (lv' := [(3, .int 34), (0, .ref o), (1, .int (nI nx)), (2, .int (nI k))]) (by rw [hq]) ?_
                    refine jv_iload_n C (jd D_Rd_readTape 52 rfl) rfl 0 rfl ?_
                    refine jv_callV (wr := []) C cl_Rd_59 (c_Rd_name_ok o tp pp nn ob nb tb pb s1 s2 s3 f g2 fS2 fE2 fH2 fO2 fB2 t pr s0 ns i2 ub2 (-1) 123 n0 z us ht h4 hR3 hm3 hit hc9 hE hd) [0, 1, 2, 3, 4, 5, 6, 7, 8, 9, 10] [] rfl rfl rfl rfl (by decide) rfl rfl 0 rfl ⟨Nat.le_of_ble_eq_true rfl, Nat.le_of_ble_eq_true rfl⟩ ⟨Nat.le_of_ble_eq_true rfl, Nat.le_of_ble_eq_true rfl⟩ rfl rfl (Nat.le_of_ble_eq_true rfl) (jd D_Rd_readTape 53 rfl) (fun v15 v k2 => ?_)
                    obtain ⟨r2, rfl, k2⟩ := k2
                    refine jv_fix [0, 1, 2, 3, 4, 5, 6, 7, 8, 9, 10] [(o, .inr (2, [.ref tp, .ref pp, .ref nn, .ref ob, .ref nb, .int (nI ((s0 ++ [(123, n0)]).length)), .int (nI z), .int v.1, .int (-1)])), (tp, .inr (0, [.ref tb, .int (nI t.length)])), (tb, .inl (dA 0, 4096, .inl f)), (pp, .inr (0, [.ref pb, .int (nI (pr ++ [34] ++ us.flatMap js_pu ++ [34]).length)])), (pb, .inl (dA 0, 4096, .inl v.2)), (nn, .inr (1, [.ref pp, .ref s1, .ref s2, .ref s3, .int (nI ((ns ++ [(pr.length, (pr ++ [34] ++ us.flatMap js_pu ++ [34]).length)]).length))])), (s1, .inl (dA 1, 1024, .inl (upd fS2 ns.length (nI pr.length)))), (s2, .inl (dA 1, 1024, .inl (upd fE2 ns.length (nI (pr ++ [34] ++ us.flatMap js_pu ++ [34]).length)))), (s3, .inl (dA 1, 1024, .inl (upd fH2 ns.length (js_hash (pr ++ [34] ++ us.flatMap js_pu ++ [34]) pr.length ((pr ++ [34] ++ us.flatMap js_pu ++ [34]).length - pr.length))))), (ob, .inl (dA 0, 32, .inl fO2)), (nb, .inl (dA 1, 32, .inl fB2))] [.int r2] 0 0 rfl rfl rfl (Nat.le_refl _) (Nat.le_refl _) ?_
                    obtain ⟨k2a, k2⟩ := k2
                    subst k2a
                    refine jv_istore_n C [(1, .int 4), (3, .int 34), (0, .ref o), (2, .int (nI k))] (jd D_Rd_readTape 54 rfl) rfl (by decide) rfl ?_
                    refine jv_goto (tgt := 151) C (jd D_Rd_readTape 55 rfl) (by decide) ?_
                    refine jv_iinc (v := nI (k + 1)) C [(2, .int (nI (k + 1))), (1, .int 4), (3, .int 34), (0, .ref o)] (jd D_Rd_readTape 65 rfl) 3 rfl (nI_1 k) (by decide) rfl ?_
                    refine jv_goto (tgt := 8) C (jd D_Rd_readTape 66 rfl) (by decide) ?_
                    refine jv_lvsub [3, 1, 0] rfl ?_
                    exact ih (k + 1) 4 z (pr ++ [34] ++ us.flatMap js_pu ++ [34]) (s0 ++ [(123, n0)]) (ns ++ [(pr.length, (pr ++ [34] ++ us.flatMap js_pu ++ [34]).length)]) v.1 v.2 (upd fS2 ns.length (nI pr.length)) (upd fE2 ns.length (nI (pr ++ [34] ++ us.flatMap js_pu ++ [34]).length)) (upd fH2 ns.length (js_hash (pr ++ [34] ++ us.flatMap js_pu ++ [34]) pr.length ((pr ++ [34] ++ us.flatMap js_pu ++ [34]).length - pr.length))) fO2 fB2 (by omega) (by omega) (k2) (js_nm_wf (t := t) (i := i2) (nx := nx) (by omega) hw (by rw [js_nm_new hq hE hjl hd, hsk])) (by rw [← hrun, show 4097 - k = (4097 - (k + 1)) + 1 by omega, js_run_ok (nx3 := 4) (i3 := z) (pr3 := (pr ++ [34] ++ us.flatMap js_pu ++ [34])) (sk3 := (s0 ++ [(123, n0)])) (ns3 := (ns ++ [(pr.length, (pr ++ [34] ++ us.flatMap js_pu ++ [34]).length)])) h6 hi2 (by rw [js_step, if_neg (by omega), if_neg (by omega), if_neg (by omega), if_pos hnx, if_neg c116, js_nm_new hq hE hjl hd, hsk])])
              · rw [show 4097 - k = (4097 - (k + 1)) + 1 by omega, js_run_no h6 hi2 (by rw [js_step, if_neg (by omega), if_neg (by omega), if_neg (by omega), if_pos hnx, if_neg c116, js_nm, if_neg hq]), hfin] at hrun
                have hqq : i2 = q := Sum.inl.inj hrun
                refine jv_aload_n C (jd D_Rd_readTape 51 rfl) rfl 1 rfl ?_
                refine jv_weq (ws' := [(o, .inr (2, [.ref tp, .ref pp, .ref nn, .ref ob, .ref nb, .int (nI ((s0 ++ [(123, n0)]).length)), .int (nI i2), .int ub2, .int (-1)])), (tp, .inr (0, [.ref tb, .int (nI t.length)])), (tb, .inl (dA 0, 4096, .inl f)), (pp, .inr (0, [.ref pb, .int (nI pr.length)])), (pb, .inl (dA 0, 4096, .inl g2)), (nn, .inr (1, [.ref pp, .ref s1, .ref s2, .ref s3, .int (nI ns.length)])), (s1, .inl (dA 1, 1024, .inl fS2)), (s2, .inl (dA 1, 1024, .inl fE2)), (s3, .inl (dA 1, 1024, .inl fH2)), (ob, .inl (dA 0, 32, .inl fO2)), (nb, .inl (dA 1, 32, .inl fB2))]) (by rw [hsk]) ?_
                refine jv_iload_n C (jd D_Rd_readTape 52 rfl) rfl 0 rfl ?_
                refine jv_callV (wr := []) C cl_Rd_59 (c_Rd_name_q o tp pp nn ob nb tb pb s1 s2 s3 f g2 fS2 fE2 fH2 fO2 fB2 t pr s0 ns i2 ub2 (-1) 123 n0 (js_b t i2) hq) [0, 1, 2, 3, 4, 5, 6, 7, 8, 9, 10] [] rfl rfl rfl rfl (by decide) rfl rfl 0 rfl ⟨Nat.le_of_ble_eq_true rfl, Nat.le_of_ble_eq_true rfl⟩ ⟨Nat.le_of_ble_eq_true rfl, Nat.le_of_ble_eq_true rfl⟩ rfl rfl (Nat.le_of_ble_eq_true rfl) (jd D_Rd_readTape 53 rfl) (fun v16 _ k2 => ?_)
                obtain ⟨r2, rfl, k2⟩ := k2
                refine jv_fix [0, 1, 2, 3, 4, 5, 6, 7, 8, 9, 10] [(o, .inr (2, [.ref tp, .ref pp, .ref nn, .ref ob, .ref nb, .int (nI ((s0 ++ [(123, n0)]).length)), .int (nI i2), .int ub2, .int (nI i2)])), (tp, .inr (0, [.ref tb, .int (nI t.length)])), (tb, .inl (dA 0, 4096, .inl f)), (pp, .inr (0, [.ref pb, .int (nI pr.length)])), (pb, .inl (dA 0, 4096, .inl g2)), (nn, .inr (1, [.ref pp, .ref s1, .ref s2, .ref s3, .int (nI ns.length)])), (s1, .inl (dA 1, 1024, .inl fS2)), (s2, .inl (dA 1, 1024, .inl fE2)), (s3, .inl (dA 1, 1024, .inl fH2)), (ob, .inl (dA 0, 32, .inl fO2)), (nb, .inl (dA 1, 32, .inl fB2))] [.int r2] 0 0 rfl rfl rfl (Nat.le_refl _) (Nat.le_refl _) ?_
                subst k2
                refine jv_istore_n C [(1, .int 6), (3, .int (js_b t i2)), (0, .ref o), (2, .int (nI k))] (jd D_Rd_readTape 54 rfl) rfl (by decide) rfl ?_
                refine jv_goto (tgt := 151) C (jd D_Rd_readTape 55 rfl) (by decide) ?_
                refine jv_iinc (v := nI (k + 1)) C [(2, .int (nI (k + 1))), (1, .int 6), (3, .int (js_b t i2)), (0, .ref o)] (jd D_Rd_readTape 65 rfl) 3 rfl (nI_1 k) (by decide) rfl ?_
                refine jv_goto (tgt := 8) C (jd D_Rd_readTape 66 rfl) (by decide) ?_
                refine jv_iload_n C (jd D_Rd_readTape 6 rfl) rfl 0 rfl ?_
                refine jv_sipush (v := 4096) C (jd D_Rd_readTape 7 rfl) (by decide) ?_
                refine jv_icmp_gt (tgt := 157) C (jd D_Rd_readTape 8 rfl) (by decide) (fun c12 => ?_) (fun c12 => ?_)
                · refine jv_weq (ws' := [(o, .inr (2, [.ref tp, .ref pp, .ref nn, .ref ob, .ref nb, .int (nI ((s0 ++ [(123, n0)]).length)), .int (nI i2), .int ub2, .int (nI q)])), (tp, .inr (0, [.ref tb, .int (nI t.length)])), (tb, .inl (dA 0, 4096, .inl f)), (pp, .inr (0, [.ref pb, .int (nI pr.length)])), (pb, .inl (dA 0, 4096, .inl g2)), (nn, .inr (1, [.ref pp, .ref s1, .ref s2, .ref s3, .int (nI ns.length)])), (s1, .inl (dA 1, 1024, .inl fS2)), (s2, .inl (dA 1, 1024, .inl fE2)), (s3, .inl (dA 1, 1024, .inl fH2)), (ob, .inl (dA 0, 32, .inl fO2)), (nb, .inl (dA 1, 32, .inl fB2))]) (by rw [hqq]) ?_
                  refine jv_aload_n C (jd D_Rd_readTape 67 rfl) rfl 3 rfl ?_
                  refine jv_get C fl_Rd_68 0 rfl rfl (jd D_Rd_readTape 68 rfl) ?_
                  rw [hQ]
                  exact jv_iret C hr ((nI ((s0 ++ [(123, n0)]).length)), (nI i2), ub2, pr, ns.length, g2, fS2, fE2, fH2, fO2, fB2) (⟨rfl, hR2.2.2.2.2.1, Nat.le_trans hR2.2.1 hi24, hR.2.2.2.1⟩) rfl [0, 1, 2, 3, 4, 5, 6, 7, 8, 9, 10] rfl rfl (Nat.le_of_ble_eq_true rfl) (Nat.le_of_ble_eq_true rfl) (jd D_Rd_readTape 69 rfl)
                · refine jv_iload_n C (jd D_Rd_readTape 9 rfl) rfl 1 rfl ?_
                  refine jv_bipush (v := 6) C (jd D_Rd_readTape 10 rfl) (by decide) ?_
                  refine jv_icmp_eq (tgt := 157) C (jd D_Rd_readTape 11 rfl) (by decide) (fun c18 => ?_) (fun c18 => absurd (rfl) c18)
                  refine jv_weq (ws' := [(o, .inr (2, [.ref tp, .ref pp, .ref nn, .ref ob, .ref nb, .int (nI ((s0 ++ [(123, n0)]).length)), .int (nI i2), .int ub2, .int (nI q)])), (tp, .inr (0, [.ref tb, .int (nI t.length)])), (tb, .inl (dA 0, 4096, .inl f)), (pp, .inr (0, [.ref pb, .int (nI pr.length)])), (pb, .inl (dA 0, 4096, .inl g2)), (nn, .inr (1, [.ref pp, .ref s1, .ref s2, .ref s3, .int (nI ns.length)])), (s1, .inl (dA 1, 1024, .inl fS2)), (s2, .inl (dA 1, 1024, .inl fE2)), (s3, .inl (dA 1, 1024, .inl fH2)), (ob, .inl (dA 0, 32, .inl fO2)), (nb, .inl (dA 1, 32, .inl fB2))]) (by rw [hqq]) ?_
                  refine jv_aload_n C (jd D_Rd_readTape 67 rfl) rfl 3 rfl ?_
                  refine jv_get C fl_Rd_68 0 rfl rfl (jd D_Rd_readTape 68 rfl) ?_
                  rw [hQ]
                  exact jv_iret C hr ((nI ((s0 ++ [(123, n0)]).length)), (nI i2), ub2, pr, ns.length, g2, fS2, fE2, fH2, fO2, fB2) (⟨rfl, hR2.2.2.2.2.1, Nat.le_trans hR2.2.1 hi24, hR.2.2.2.1⟩) rfl [0, 1, 2, 3, 4, 5, 6, 7, 8, 9, 10] rfl rfl (Nat.le_of_ble_eq_true rfl) (Nat.le_of_ble_eq_true rfl) (jd D_Rd_readTape 69 rfl)
            · obtain ⟨s0, n0, hsk⟩ := hw.2.2.2.2.2.2 (by omega)
              have hit : i2 < t.length := js_b_lt (by rw [c116]; decide)
              have hR3 := hR2
              rw [hsk] at hR3
              have hw3 := hw
              rw [hsk] at hw3
              have hm3 := js_pw_last hw3.2.2.2.1
              refine jv_weq (ws' := [(o, .inr (2, [.ref tp, .ref pp, .ref nn, .ref ob, .ref nb, .int (nI ((s0 ++ [(123, n0)]).length)), .int (nI i2), .int ub2, .int (-1)])), (tp, .inr (0, [.ref tb, .int (nI t.length)])), (tb, .inl (dA 0, 4096, .inl f)), (pp, .inr (0, [.ref pb, .int (nI pr.length)])), (pb, .inl (dA 0, 4096, .inl g2)), (nn, .inr (1, [.ref pp, .ref s1, .ref s2, .ref s3, .int (nI ns.length)])), (s1, .inl (dA 1, 1024, .inl fS2)), (s2, .inl (dA 1, 1024, .inl fE2)), (s3, .inl (dA 1, 1024, .inl fH2)), (ob, .inl (dA 0, 32, .inl fO2)), (nb, .inl (dA 1, 32, .inl fB2))]) (by rw [hsk]) ?_
              refine jv_lveq (lv' := [(3, .int (nI 125)), (0, .ref o), (1, .int (nI nx)), (2, .int (nI k))]) (by rw [c116]; rfl) ?_
              refine jv_aload_n C (jd D_Rd_readTape 47 rfl) rfl 1 rfl ?_
              refine jv_iload_n C (jd D_Rd_readTape 48 rfl) rfl 0 rfl ?_
              refine jv_callV (wr := []) C cl_Rd_56 (c_Rd_close o tp pp nn ob nb tb pb s1 s2 s3 f g2 fS2 fE2 fH2 fO2 fB2 t pr s0 ns i2 ub2 (-1) 123 n0 125 ht h4 hR3 hit (by decide) hm3) [0, 1, 2, 3, 4, 5, 6, 7, 8, 9, 10] [] rfl rfl rfl rfl (by decide) rfl rfl 0 rfl ⟨Nat.le_of_ble_eq_true rfl, Nat.le_of_ble_eq_true rfl⟩ ⟨Nat.le_of_ble_eq_true rfl, Nat.le_of_ble_eq_true rfl⟩ rfl rfl (Nat.le_of_ble_eq_true rfl) (jd D_Rd_readTape 49 rfl) (fun v17 g9 k2 => ?_)
              obtain ⟨r2, rfl, k2⟩ := k2
              refine jv_fix [0, 1, 2, 3, 4, 5, 6, 7, 8, 9, 10] [(o, .inr (2, [.ref tp, .ref pp, .ref nn, .ref ob, .ref nb, .int (nI s0.length), .int (nI (i2 + 1)), .int ub2, .int (-1)])), (tp, .inr (0, [.ref tb, .int (nI t.length)])), (tb, .inl (dA 0, 4096, .inl f)), (pp, .inr (0, [.ref pb, .int (nI (pr ++ [125]).length)])), (pb, .inl (dA 0, 4096, .inl g9)), (nn, .inr (1, [.ref pp, .ref s1, .ref s2, .ref s3, .int (nI ((ns.take n0).length))])), (s1, .inl (dA 1, 1024, .inl fS2)), (s2, .inl (dA 1, 1024, .inl fE2)), (s3, .inl (dA 1, 1024, .inl fH2)), (ob, .inl (dA 0, 32, .inl fO2)), (nb, .inl (dA 1, 32, .inl fB2))] [.int r2] 0 0 rfl rfl rfl (Nat.le_refl _) (Nat.le_refl _) ?_
              obtain ⟨k2a, k2⟩ := k2
              subst k2a
              refine jv_goto (tgt := 132) C (jd D_Rd_readTape 50 rfl) (by decide) ?_
              refine jv_istore_n C [(1, .int 5), (3, .int (nI 125)), (0, .ref o), (2, .int (nI k))] (jd D_Rd_readTape 54 rfl) rfl (by decide) rfl ?_
              refine jv_goto (tgt := 151) C (jd D_Rd_readTape 55 rfl) (by decide) ?_
              refine jv_iinc (v := nI (k + 1)) C [(2, .int (nI (k + 1))), (1, .int 5), (3, .int (nI 125)), (0, .ref o)] (jd D_Rd_readTape 65 rfl) 3 rfl (nI_1 k) (by decide) rfl ?_
              refine jv_goto (tgt := 8) C (jd D_Rd_readTape 66 rfl) (by decide) ?_
              refine jv_lvsub [3, 1, 0] rfl ?_
              exact ih (k + 1) 5 (i2 + 1) (pr ++ [125]) s0 (ns.take n0) ub2 g9 fS2 fE2 fH2 fO2 fB2 (by omega) (by omega) (k2) (js_clo_wf (i := i2) (by omega) (by omega) hw3) (by rw [← hrun, show 4097 - k = (4097 - (k + 1)) + 1 by omega, js_run_ok (nx3 := 5) (i3 := (i2 + 1)) (pr3 := (pr ++ [125])) (sk3 := s0) (ns3 := (ns.take n0)) h6 hi2 (by rw [js_step, if_neg (by omega), if_neg (by omega), if_neg (by omega), if_pos hnx, if_pos c116, hsk, js_clo_app])])
          by_cases s38_4 : (nI nx) = 4
          · refine jv_tableIn (tgt := 136) (off := 98) C (jd D_Rd_readTape 21 rfl) (by rw [s38_4]; decide) (by rw [s38_4]; decide) (by rw [s38_4] <;> rfl) (by decide) ?_
            have hnx : nx = 4 := (nI_eq (a := nx) (b := 4) (by omega) (by decide)).mp s38_4
            by_cases hq : js_b t i2 = 58
            · refine jv_aload_n C (jd D_Rd_readTape 56 rfl) rfl 1 rfl ?_
              have hit : i2 < t.length := js_b_lt (by rw [hq]; decide)
              refine jv_lveq (lv' := [(3, .int 58), (0, .ref o), (1, .int (nI nx)), (2, .int (nI k))]) (by rw [hq]) ?_
              refine jv_iload_n C (jd D_Rd_readTape 57 rfl) rfl 0 rfl ?_
              refine jv_callV (wr := []) C cl_Rd_62 (c_Rd_colon_ok o tp pp nn ob nb tb pb s1 s2 s3 f g2 fS2 fE2 fH2 fO2 fB2 t pr sk ns i2 ub2 (-1) ht h4 hR2 hit) [0, 1, 2, 3, 4, 5, 6, 7, 8, 9, 10] [] rfl rfl rfl rfl (by decide) rfl rfl 0 rfl ⟨Nat.le_of_ble_eq_true rfl, Nat.le_of_ble_eq_true rfl⟩ ⟨Nat.le_of_ble_eq_true rfl, Nat.le_of_ble_eq_true rfl⟩ rfl rfl (Nat.le_of_ble_eq_true rfl) (jd D_Rd_readTape 58 rfl) (fun v18 g9 k2 => ?_)
              obtain ⟨r2, rfl, k2⟩ := k2
              refine jv_fix [0, 1, 2, 3, 4, 5, 6, 7, 8, 9, 10] [(o, .inr (2, [.ref tp, .ref pp, .ref nn, .ref ob, .ref nb, .int (nI sk.length), .int (nI (i2 + 1)), .int ub2, .int (-1)])), (tp, .inr (0, [.ref tb, .int (nI t.length)])), (tb, .inl (dA 0, 4096, .inl f)), (pp, .inr (0, [.ref pb, .int (nI (pr ++ [58]).length)])), (pb, .inl (dA 0, 4096, .inl g9)), (nn, .inr (1, [.ref pp, .ref s1, .ref s2, .ref s3, .int (nI ns.length)])), (s1, .inl (dA 1, 1024, .inl fS2)), (s2, .inl (dA 1, 1024, .inl fE2)), (s3, .inl (dA 1, 1024, .inl fH2)), (ob, .inl (dA 0, 32, .inl fO2)), (nb, .inl (dA 1, 32, .inl fB2))] [.int r2] 0 0 rfl rfl rfl (Nat.le_refl _) (Nat.le_refl _) ?_
              obtain ⟨k2a, k2⟩ := k2
              subst k2a
              refine jv_istore_n C [(1, .int 0), (3, .int 58), (0, .ref o), (2, .int (nI k))] (jd D_Rd_readTape 59 rfl) rfl (by decide) rfl ?_
              refine jv_goto (tgt := 151) C (jd D_Rd_readTape 60 rfl) (by decide) ?_
              refine jv_iinc (v := nI (k + 1)) C [(2, .int (nI (k + 1))), (1, .int 0), (3, .int 58), (0, .ref o)] (jd D_Rd_readTape 65 rfl) 3 rfl (nI_1 k) (by decide) rfl ?_
              refine jv_goto (tgt := 8) C (jd D_Rd_readTape 66 rfl) (by decide) ?_
              refine jv_lvsub [3, 1, 0] rfl ?_
              exact ih (k + 1) 0 (i2 + 1) (pr ++ [58]) sk ns ub2 g9 fS2 fE2 fH2 fO2 fB2 (by omega) (by omega) (k2) (js_col_wf (t := t) (i := i2) (hnx ▸ hw) (by rw [js_col, if_pos hq])) (by rw [← hrun, show 4097 - k = (4097 - (k + 1)) + 1 by omega, js_run_ok (nx3 := 0) (i3 := (i2 + 1)) (pr3 := (pr ++ [58])) (sk3 := sk) (ns3 := ns) h6 hi2 (by rw [js_step, if_neg (by omega), if_neg (by omega), if_neg (by omega), if_neg (by omega), if_pos hnx, js_col, if_pos hq])])
            · rw [show 4097 - k = (4097 - (k + 1)) + 1 by omega, js_run_no h6 hi2 (by rw [js_step, if_neg (by omega), if_neg (by omega), if_neg (by omega), if_neg (by omega), if_pos hnx, js_col, if_neg hq]), hfin] at hrun
              have hqq : i2 = q := Sum.inl.inj hrun
              refine jv_aload_n C (jd D_Rd_readTape 56 rfl) rfl 1 rfl ?_
              refine jv_iload_n C (jd D_Rd_readTape 57 rfl) rfl 0 rfl ?_
              refine jv_callV (wr := []) C cl_Rd_62 (c_Rd_colon_no o tp pp nn ob nb tb pb s1 s2 s3 f g2 fS2 fE2 fH2 fO2 fB2 t pr sk ns i2 ub2 (-1) (js_b t i2) hq) [0, 1, 2, 3, 4, 5, 6, 7, 8, 9, 10] [] rfl rfl rfl rfl (by decide) rfl rfl 0 rfl ⟨Nat.le_of_ble_eq_true rfl, Nat.le_of_ble_eq_true rfl⟩ ⟨Nat.le_of_ble_eq_true rfl, Nat.le_of_ble_eq_true rfl⟩ rfl rfl (Nat.le_of_ble_eq_true rfl) (jd D_Rd_readTape 58 rfl) (fun v19 _ k2 => ?_)
              obtain ⟨r2, rfl, k2⟩ := k2
              refine jv_fix [0, 1, 2, 3, 4, 5, 6, 7, 8, 9, 10] [(o, .inr (2, [.ref tp, .ref pp, .ref nn, .ref ob, .ref nb, .int (nI sk.length), .int (nI i2), .int ub2, .int (nI i2)])), (tp, .inr (0, [.ref tb, .int (nI t.length)])), (tb, .inl (dA 0, 4096, .inl f)), (pp, .inr (0, [.ref pb, .int (nI pr.length)])), (pb, .inl (dA 0, 4096, .inl g2)), (nn, .inr (1, [.ref pp, .ref s1, .ref s2, .ref s3, .int (nI ns.length)])), (s1, .inl (dA 1, 1024, .inl fS2)), (s2, .inl (dA 1, 1024, .inl fE2)), (s3, .inl (dA 1, 1024, .inl fH2)), (ob, .inl (dA 0, 32, .inl fO2)), (nb, .inl (dA 1, 32, .inl fB2))] [.int r2] 0 0 rfl rfl rfl (Nat.le_refl _) (Nat.le_refl _) ?_
              subst k2
              refine jv_istore_n C [(1, .int 6), (3, .int (js_b t i2)), (0, .ref o), (2, .int (nI k))] (jd D_Rd_readTape 59 rfl) rfl (by decide) rfl ?_
              refine jv_goto (tgt := 151) C (jd D_Rd_readTape 60 rfl) (by decide) ?_
              refine jv_iinc (v := nI (k + 1)) C [(2, .int (nI (k + 1))), (1, .int 6), (3, .int (js_b t i2)), (0, .ref o)] (jd D_Rd_readTape 65 rfl) 3 rfl (nI_1 k) (by decide) rfl ?_
              refine jv_goto (tgt := 8) C (jd D_Rd_readTape 66 rfl) (by decide) ?_
              refine jv_iload_n C (jd D_Rd_readTape 6 rfl) rfl 0 rfl ?_
              refine jv_sipush (v := 4096) C (jd D_Rd_readTape 7 rfl) (by decide) ?_
              refine jv_icmp_gt (tgt := 157) C (jd D_Rd_readTape 8 rfl) (by decide) (fun c12 => ?_) (fun c12 => ?_)
              · refine jv_weq (ws' := [(o, .inr (2, [.ref tp, .ref pp, .ref nn, .ref ob, .ref nb, .int (nI sk.length), .int (nI i2), .int ub2, .int (nI q)])), (tp, .inr (0, [.ref tb, .int (nI t.length)])), (tb, .inl (dA 0, 4096, .inl f)), (pp, .inr (0, [.ref pb, .int (nI pr.length)])), (pb, .inl (dA 0, 4096, .inl g2)), (nn, .inr (1, [.ref pp, .ref s1, .ref s2, .ref s3, .int (nI ns.length)])), (s1, .inl (dA 1, 1024, .inl fS2)), (s2, .inl (dA 1, 1024, .inl fE2)), (s3, .inl (dA 1, 1024, .inl fH2)), (ob, .inl (dA 0, 32, .inl fO2)), (nb, .inl (dA 1, 32, .inl fB2))]) (by rw [hqq]) ?_
                refine jv_aload_n C (jd D_Rd_readTape 67 rfl) rfl 3 rfl ?_
                refine jv_get C fl_Rd_68 0 rfl rfl (jd D_Rd_readTape 68 rfl) ?_
                rw [hQ]
                exact jv_iret C hr ((nI sk.length), (nI i2), ub2, pr, ns.length, g2, fS2, fE2, fH2, fO2, fB2) (⟨rfl, hR2.2.2.2.2.1, Nat.le_trans hR2.2.1 hi24, hR.2.2.2.1⟩) rfl [0, 1, 2, 3, 4, 5, 6, 7, 8, 9, 10] rfl rfl (Nat.le_of_ble_eq_true rfl) (Nat.le_of_ble_eq_true rfl) (jd D_Rd_readTape 69 rfl)
              · refine jv_iload_n C (jd D_Rd_readTape 9 rfl) rfl 1 rfl ?_
                refine jv_bipush (v := 6) C (jd D_Rd_readTape 10 rfl) (by decide) ?_
                refine jv_icmp_eq (tgt := 157) C (jd D_Rd_readTape 11 rfl) (by decide) (fun c18 => ?_) (fun c18 => absurd (rfl) c18)
                refine jv_weq (ws' := [(o, .inr (2, [.ref tp, .ref pp, .ref nn, .ref ob, .ref nb, .int (nI sk.length), .int (nI i2), .int ub2, .int (nI q)])), (tp, .inr (0, [.ref tb, .int (nI t.length)])), (tb, .inl (dA 0, 4096, .inl f)), (pp, .inr (0, [.ref pb, .int (nI pr.length)])), (pb, .inl (dA 0, 4096, .inl g2)), (nn, .inr (1, [.ref pp, .ref s1, .ref s2, .ref s3, .int (nI ns.length)])), (s1, .inl (dA 1, 1024, .inl fS2)), (s2, .inl (dA 1, 1024, .inl fE2)), (s3, .inl (dA 1, 1024, .inl fH2)), (ob, .inl (dA 0, 32, .inl fO2)), (nb, .inl (dA 1, 32, .inl fB2))]) (by rw [hqq]) ?_
                refine jv_aload_n C (jd D_Rd_readTape 67 rfl) rfl 3 rfl ?_
                refine jv_get C fl_Rd_68 0 rfl rfl (jd D_Rd_readTape 68 rfl) ?_
                rw [hQ]
                exact jv_iret C hr ((nI sk.length), (nI i2), ub2, pr, ns.length, g2, fS2, fE2, fH2, fO2, fB2) (⟨rfl, hR2.2.2.2.2.1, Nat.le_trans hR2.2.1 hi24, hR.2.2.2.1⟩) rfl [0, 1, 2, 3, 4, 5, 6, 7, 8, 9, 10] rfl rfl (Nat.le_of_ble_eq_true rfl) (Nat.le_of_ble_eq_true rfl) (jd D_Rd_readTape 69 rfl)
          have q38 : (nI nx).toInt < 0 ∨ 4 < (nI nx).toInt := by
            have z0 : ¬ (nI nx).toInt = 0 := lv_neT s38_0 (by decide)
            have z1 : ¬ (nI nx).toInt = 1 := lv_neT s38_1 (by decide)
            have z2 : ¬ (nI nx).toInt = 2 := lv_neT s38_2 (by decide)
            have z3 : ¬ (nI nx).toInt = 3 := lv_neT s38_3 (by decide)
            have z4 : ¬ (nI nx).toInt = 4 := lv_neT s38_4 (by decide)
            omega
          refine jv_tableOut (tgt := 145) C (jd D_Rd_readTape 21 rfl) q38 (by decide) ?_
          have hnx : nx = 5 := by
            have z0 : ¬ nx = 0 := fun y => s38_0 (by rw [y]; rfl)
            have z1 : ¬ nx = 1 := fun y => s38_1 (by rw [y]; rfl)
            have z2 : ¬ nx = 2 := fun y => s38_2 (by rw [y]; rfl)
            have z3 : ¬ nx = 3 := fun y => s38_3 (by rw [y]; rfl)
            have z4 : ¬ nx = 4 := fun y => s38_4 (by rw [y]; rfl)
            omega
          rcases List.eq_nil_or_concat sk with hsk | ⟨s0, ⟨y0, n0⟩, hsk⟩
          · by_cases hq : js_b t i2 = -1
            · refine jv_aload_n C (jd D_Rd_readTape 61 rfl) rfl 1 rfl ?_
              refine jv_weq (ws' := [(o, .inr (2, [.ref tp, .ref pp, .ref nn, .ref ob, .ref nb, .int (nI 0), .int (nI i2), .int ub2, .int (-1)])), (tp, .inr (0, [.ref tb, .int (nI t.length)])), (tb, .inl (dA 0, 4096, .inl f)), (pp, .inr (0, [.ref pb, .int (nI pr.length)])), (pb, .inl (dA 0, 4096, .inl g2)), (nn, .inr (1, [.ref pp, .ref s1, .ref s2, .ref s3, .int (nI ns.length)])), (s1, .inl (dA 1, 1024, .inl fS2)), (s2, .inl (dA 1, 1024, .inl fE2)), (s3, .inl (dA 1, 1024, .inl fH2)), (ob, .inl (dA 0, 32, .inl fO2)), (nb, .inl (dA 1, 32, .inl fB2))]) (by rw [hsk]; rfl) ?_
              refine jv_lveq (lv' := [(3, .int (-1)), (0, .ref o), (1, .int (nI nx)), (2, .int (nI k))]) (by rw [hq]) ?_
              refine jv_iload_n C (jd D_Rd_readTape 62 rfl) rfl 0 rfl ?_
              refine jv_callV (wr := []) C cl_Rd_65 (c_Rd_behindValue_end o tp pp nn ob nb tb pb s1 s2 s3 f g2 fS2 fE2 fH2 fO2 fB2 t pr sk ns i2 ub2 (-1)) [0, 1, 2, 3, 4, 5, 6, 7, 8, 9, 10] [] rfl rfl rfl rfl (by decide) rfl rfl 0 rfl ⟨Nat.le_of_ble_eq_true rfl, Nat.le_of_ble_eq_true rfl⟩ ⟨Nat.le_of_ble_eq_true rfl, Nat.le_of_ble_eq_true rfl⟩ rfl rfl (Nat.le_of_ble_eq_true rfl) (jd D_Rd_readTape 63 rfl) (fun v20 _ k2 => ?_)
              obtain ⟨r2, rfl, k2⟩ := k2
              refine jv_fix [0, 1, 2, 3, 4, 5, 6, 7, 8, 9, 10] [(o, .inr (2, [.ref tp, .ref pp, .ref nn, .ref ob, .ref nb, .int (nI 0), .int (nI i2), .int ub2, .int (-1)])), (tp, .inr (0, [.ref tb, .int (nI t.length)])), (tb, .inl (dA 0, 4096, .inl f)), (pp, .inr (0, [.ref pb, .int (nI pr.length)])), (pb, .inl (dA 0, 4096, .inl g2)), (nn, .inr (1, [.ref pp, .ref s1, .ref s2, .ref s3, .int (nI ns.length)])), (s1, .inl (dA 1, 1024, .inl fS2)), (s2, .inl (dA 1, 1024, .inl fE2)), (s3, .inl (dA 1, 1024, .inl fH2)), (ob, .inl (dA 0, 32, .inl fO2)), (nb, .inl (dA 1, 32, .inl fB2))] [.int r2] 0 0 rfl rfl rfl (Nat.le_refl _) (Nat.le_refl _) ?_
              subst k2
              refine jv_istore_n C [(1, .int 6), (3, .int (-1)), (0, .ref o), (2, .int (nI k))] (jd D_Rd_readTape 64 rfl) rfl (by decide) rfl ?_
              refine jv_iinc (v := nI (k + 1)) C [(2, .int (nI (k + 1))), (1, .int 6), (3, .int (-1)), (0, .ref o)] (jd D_Rd_readTape 65 rfl) 3 rfl (nI_1 k) (by decide) rfl ?_
              refine jv_goto (tgt := 8) C (jd D_Rd_readTape 66 rfl) (by decide) ?_
              refine jv_lvsub [3, 1, 0] rfl ?_
              exact ih (k + 1) 6 i2 pr [] ns ub2 g2 fS2 fE2 fH2 fO2 fB2 (by omega) (by omega) (hsk ▸ hR2) (⟨Nat.le_refl _, by have := hw.2.1; rw [hnx] at this; exact this, fun q h => absurd h List.not_mem_nil, List.Pairwise.nil, fun q h => absurd h List.not_mem_nil, fun e => absurd e (by decide), fun e => absurd e (by decide)⟩) (by rw [← hrun, show 4097 - k = (4097 - (k + 1)) + 1 by omega, js_run_ok (nx3 := 6) (i3 := i2) (pr3 := pr) (sk3 := []) (ns3 := ns) h6 hi2 (by rw [js_step, if_neg (by omega), if_neg (by omega), if_neg (by omega), if_neg (by omega), if_neg (by omega), hsk, js_bv_nil, if_pos hq])])
            · rw [show 4097 - k = (4097 - (k + 1)) + 1 by omega, js_run_no h6 hi2 (by rw [js_step, if_neg (by omega), if_neg (by omega), if_neg (by omega), if_neg (by omega), if_neg (by omega), hsk, js_bv_nil, if_neg hq]), hfin] at hrun
              have hqq : i2 = q := Sum.inl.inj hrun
              refine jv_aload_n C (jd D_Rd_readTape 61 rfl) rfl 1 rfl ?_
              refine jv_weq (ws' := [(o, .inr (2, [.ref tp, .ref pp, .ref nn, .ref ob, .ref nb, .int (nI 0), .int (nI i2), .int ub2, .int (-1)])), (tp, .inr (0, [.ref tb, .int (nI t.length)])), (tb, .inl (dA 0, 4096, .inl f)), (pp, .inr (0, [.ref pb, .int (nI pr.length)])), (pb, .inl (dA 0, 4096, .inl g2)), (nn, .inr (1, [.ref pp, .ref s1, .ref s2, .ref s3, .int (nI ns.length)])), (s1, .inl (dA 1, 1024, .inl fS2)), (s2, .inl (dA 1, 1024, .inl fE2)), (s3, .inl (dA 1, 1024, .inl fH2)), (ob, .inl (dA 0, 32, .inl fO2)), (nb, .inl (dA 1, 32, .inl fB2))]) (by rw [hsk]; rfl) ?_
              refine jv_iload_n C (jd D_Rd_readTape 62 rfl) rfl 0 rfl ?_
              refine jv_callV (wr := []) C cl_Rd_65 (c_Rd_behindValue_more o tp pp nn ob nb tb pb s1 s2 s3 f g2 fS2 fE2 fH2 fO2 fB2 t pr sk ns i2 ub2 (-1) (js_b t i2) hq) [0, 1, 2, 3, 4, 5, 6, 7, 8, 9, 10] [] rfl rfl rfl rfl (by decide) rfl rfl 0 rfl ⟨Nat.le_of_ble_eq_true rfl, Nat.le_of_ble_eq_true rfl⟩ ⟨Nat.le_of_ble_eq_true rfl, Nat.le_of_ble_eq_true rfl⟩ rfl rfl (Nat.le_of_ble_eq_true rfl) (jd D_Rd_readTape 63 rfl) (fun v21 _ k2 => ?_)
              obtain ⟨r2, rfl, k2⟩ := k2
              refine jv_fix [0, 1, 2, 3, 4, 5, 6, 7, 8, 9, 10] [(o, .inr (2, [.ref tp, .ref pp, .ref nn, .ref ob, .ref nb, .int (nI 0), .int (nI i2), .int ub2, .int (nI i2)])), (tp, .inr (0, [.ref tb, .int (nI t.length)])), (tb, .inl (dA 0, 4096, .inl f)), (pp, .inr (0, [.ref pb, .int (nI pr.length)])), (pb, .inl (dA 0, 4096, .inl g2)), (nn, .inr (1, [.ref pp, .ref s1, .ref s2, .ref s3, .int (nI ns.length)])), (s1, .inl (dA 1, 1024, .inl fS2)), (s2, .inl (dA 1, 1024, .inl fE2)), (s3, .inl (dA 1, 1024, .inl fH2)), (ob, .inl (dA 0, 32, .inl fO2)), (nb, .inl (dA 1, 32, .inl fB2))] [.int r2] 0 0 rfl rfl rfl (Nat.le_refl _) (Nat.le_refl _) ?_
              subst k2
              refine jv_istore_n C [(1, .int 6), (3, .int (js_b t i2)), (0, .ref o), (2, .int (nI k))] (jd D_Rd_readTape 64 rfl) rfl (by decide) rfl ?_
              refine jv_iinc (v := nI (k + 1)) C [(2, .int (nI (k + 1))), (1, .int 6), (3, .int (js_b t i2)), (0, .ref o)] (jd D_Rd_readTape 65 rfl) 3 rfl (nI_1 k) (by decide) rfl ?_
              refine jv_goto (tgt := 8) C (jd D_Rd_readTape 66 rfl) (by decide) ?_
              refine jv_iload_n C (jd D_Rd_readTape 6 rfl) rfl 0 rfl ?_
              refine jv_sipush (v := 4096) C (jd D_Rd_readTape 7 rfl) (by decide) ?_
              refine jv_icmp_gt (tgt := 157) C (jd D_Rd_readTape 8 rfl) (by decide) (fun c12 => ?_) (fun c12 => ?_)
              · refine jv_weq (ws' := [(o, .inr (2, [.ref tp, .ref pp, .ref nn, .ref ob, .ref nb, .int (nI 0), .int (nI i2), .int ub2, .int (nI q)])), (tp, .inr (0, [.ref tb, .int (nI t.length)])), (tb, .inl (dA 0, 4096, .inl f)), (pp, .inr (0, [.ref pb, .int (nI pr.length)])), (pb, .inl (dA 0, 4096, .inl g2)), (nn, .inr (1, [.ref pp, .ref s1, .ref s2, .ref s3, .int (nI ns.length)])), (s1, .inl (dA 1, 1024, .inl fS2)), (s2, .inl (dA 1, 1024, .inl fE2)), (s3, .inl (dA 1, 1024, .inl fH2)), (ob, .inl (dA 0, 32, .inl fO2)), (nb, .inl (dA 1, 32, .inl fB2))]) (by rw [hqq]) ?_
                refine jv_aload_n C (jd D_Rd_readTape 67 rfl) rfl 3 rfl ?_
                refine jv_get C fl_Rd_68 0 rfl rfl (jd D_Rd_readTape 68 rfl) ?_
                rw [hQ]
                exact jv_iret C hr ((nI 0), (nI i2), ub2, pr, ns.length, g2, fS2, fE2, fH2, fO2, fB2) (⟨rfl, hR2.2.2.2.2.1, Nat.le_trans hR2.2.1 hi24, hR.2.2.2.1⟩) rfl [0, 1, 2, 3, 4, 5, 6, 7, 8, 9, 10] rfl rfl (Nat.le_of_ble_eq_true rfl) (Nat.le_of_ble_eq_true rfl) (jd D_Rd_readTape 69 rfl)
              · refine jv_iload_n C (jd D_Rd_readTape 9 rfl) rfl 1 rfl ?_
                refine jv_bipush (v := 6) C (jd D_Rd_readTape 10 rfl) (by decide) ?_
                refine jv_icmp_eq (tgt := 157) C (jd D_Rd_readTape 11 rfl) (by decide) (fun c18 => ?_) (fun c18 => absurd (rfl) c18)
                refine jv_weq (ws' := [(o, .inr (2, [.ref tp, .ref pp, .ref nn, .ref ob, .ref nb, .int (nI 0), .int (nI i2), .int ub2, .int (nI q)])), (tp, .inr (0, [.ref tb, .int (nI t.length)])), (tb, .inl (dA 0, 4096, .inl f)), (pp, .inr (0, [.ref pb, .int (nI pr.length)])), (pb, .inl (dA 0, 4096, .inl g2)), (nn, .inr (1, [.ref pp, .ref s1, .ref s2, .ref s3, .int (nI ns.length)])), (s1, .inl (dA 1, 1024, .inl fS2)), (s2, .inl (dA 1, 1024, .inl fE2)), (s3, .inl (dA 1, 1024, .inl fH2)), (ob, .inl (dA 0, 32, .inl fO2)), (nb, .inl (dA 1, 32, .inl fB2))]) (by rw [hqq]) ?_
                refine jv_aload_n C (jd D_Rd_readTape 67 rfl) rfl 3 rfl ?_
                refine jv_get C fl_Rd_68 0 rfl rfl (jd D_Rd_readTape 68 rfl) ?_
                rw [hQ]
                exact jv_iret C hr ((nI 0), (nI i2), ub2, pr, ns.length, g2, fS2, fE2, fH2, fO2, fB2) (⟨rfl, hR2.2.2.2.2.1, Nat.le_trans hR2.2.1 hi24, hR.2.2.2.1⟩) rfl [0, 1, 2, 3, 4, 5, 6, 7, 8, 9, 10] rfl rfl (Nat.le_of_ble_eq_true rfl) (Nat.le_of_ble_eq_true rfl) (jd D_Rd_readTape 69 rfl)
          · rw [List.concat_eq_append] at hsk
            have hR3 := hR2
            rw [hsk] at hR3
            have hw3 := hw
            rw [hsk, hnx] at hw3
            have hm3 := js_pw_last hw3.2.2.2.1
            rcases hw3.2.2.1 (y0, n0) (List.mem_append_right _ (List.mem_singleton.mpr rfl)) with hy | hy
            all_goals (have hy : y0 = _ := hy; subst hy)
            · by_cases hq : js_b t i2 = 44
              · refine jv_aload_n C (jd D_Rd_readTape 61 rfl) rfl 1 rfl ?_
                refine jv_weq (ws' := [(o, .inr (2, [.ref tp, .ref pp, .ref nn, .ref ob, .ref nb, .int (nI ((s0 ++ [(91, n0)]).length)), .int (nI i2), .int ub2, .int (-1)])), (tp, .inr (0, [.ref tb, .int (nI t.length)])), (tb, .inl (dA 0, 4096, .inl f)), (pp, .inr (0, [.ref pb, .int (nI pr.length)])), (pb, .inl (dA 0, 4096, .inl g2)), (nn, .inr (1, [.ref pp, .ref s1, .ref s2, .ref s3, .int (nI ns.length)])), (s1, .inl (dA 1, 1024, .inl fS2)), (s2, .inl (dA 1, 1024, .inl fE2)), (s3, .inl (dA 1, 1024, .inl fH2)), (ob, .inl (dA 0, 32, .inl fO2)), (nb, .inl (dA 1, 32, .inl fB2))]) (by rw [hsk]) ?_
                have hit : i2 < t.length := js_b_lt (by rw [hq]; decide)
                refine jv_lveq (lv' := [(3, .int 44), (0, .ref o), (1, .int (nI nx)), (2, .int (nI k))]) (by rw [hq]) ?_
                refine jv_iload_n C (jd D_Rd_readTape 62 rfl) rfl 0 rfl ?_
                refine jv_callV (wr := []) C cl_Rd_65 (c_Rd_behindValue_comma91 o tp pp nn ob nb tb pb s1 s2 s3 f g2 fS2 fE2 fH2 fO2 fB2 t pr s0 ns i2 ub2 (-1) n0 ht h4 hR3 hm3 hit) [0, 1, 2, 3, 4, 5, 6, 7, 8, 9, 10] [] rfl rfl rfl rfl (by decide) rfl rfl 0 rfl ⟨Nat.le_of_ble_eq_true rfl, Nat.le_of_ble_eq_true rfl⟩ ⟨Nat.le_of_ble_eq_true rfl, Nat.le_of_ble_eq_true rfl⟩ rfl rfl (Nat.le_of_ble_eq_true rfl) (jd D_Rd_readTape 63 rfl) (fun v22 g9 k2 => ?_)
                obtain ⟨r2, rfl, k2⟩ := k2
                refine jv_fix [0, 1, 2, 3, 4, 5, 6, 7, 8, 9, 10] [(o, .inr (2, [.ref tp, .ref pp, .ref nn, .ref ob, .ref nb, .int (nI ((s0 ++ [(91, n0)]).length)), .int (nI (i2 + 1)), .int ub2, .int (-1)])), (tp, .inr (0, [.ref tb, .int (nI t.length)])), (tb, .inl (dA 0, 4096, .inl f)), (pp, .inr (0, [.ref pb, .int (nI (pr ++ [44]).length)])), (pb, .inl (dA 0, 4096, .inl g9)), (nn, .inr (1, [.ref pp, .ref s1, .ref s2, .ref s3, .int (nI ns.length)])), (s1, .inl (dA 1, 1024, .inl fS2)), (s2, .inl (dA 1, 1024, .inl fE2)), (s3, .inl (dA 1, 1024, .inl fH2)), (ob, .inl (dA 0, 32, .inl fO2)), (nb, .inl (dA 1, 32, .inl fB2))] [.int r2] 0 0 rfl rfl rfl (Nat.le_refl _) (Nat.le_refl _) ?_
                obtain ⟨k2a, k2⟩ := k2
                subst k2a
                refine jv_istore_n C [(1, .int 0), (3, .int 44), (0, .ref o), (2, .int (nI k))] (jd D_Rd_readTape 64 rfl) rfl (by decide) rfl ?_
                refine jv_iinc (v := nI (k + 1)) C [(2, .int (nI (k + 1))), (1, .int 0), (3, .int 44), (0, .ref o)] (jd D_Rd_readTape 65 rfl) 3 rfl (nI_1 k) (by decide) rfl ?_
                refine jv_goto (tgt := 8) C (jd D_Rd_readTape 66 rfl) (by decide) ?_
                refine jv_lvsub [3, 1, 0] rfl ?_
                exact ih (k + 1) 0 (i2 + 1) (pr ++ [44]) (s0 ++ [(91, n0)]) ns ub2 g9 fS2 fE2 fH2 fO2 fB2 (by omega) (by omega) (k2) (js_comma_wf (y := 91) (by decide) hw3) (by rw [← hrun, show 4097 - k = (4097 - (k + 1)) + 1 by omega, js_run_ok (nx3 := 0) (i3 := (i2 + 1)) (pr3 := (pr ++ [44])) (sk3 := (s0 ++ [(91, n0)])) (ns3 := ns) h6 hi2 (by rw [js_step, if_neg (by omega), if_neg (by omega), if_neg (by omega), if_neg (by omega), if_neg (by omega), hsk, js_bv_app, if_pos hq]; rfl)])
              · by_cases hq2 : js_b t i2 = 93
                · refine jv_aload_n C (jd D_Rd_readTape 61 rfl) rfl 1 rfl ?_
                  refine jv_weq (ws' := [(o, .inr (2, [.ref tp, .ref pp, .ref nn, .ref ob, .ref nb, .int (nI ((s0 ++ [(91, n0)]).length)), .int (nI i2), .int ub2, .int (-1)])), (tp, .inr (0, [.ref tb, .int (nI t.length)])), (tb, .inl (dA 0, 4096, .inl f)), (pp, .inr (0, [.ref pb, .int (nI pr.length)])), (pb, .inl (dA 0, 4096, .inl g2)), (nn, .inr (1, [.ref pp, .ref s1, .ref s2, .ref s3, .int (nI ns.length)])), (s1, .inl (dA 1, 1024, .inl fS2)), (s2, .inl (dA 1, 1024, .inl fE2)), (s3, .inl (dA 1, 1024, .inl fH2)), (ob, .inl (dA 0, 32, .inl fO2)), (nb, .inl (dA 1, 32, .inl fB2))]) (by rw [hsk]) ?_
                  have hit : i2 < t.length := js_b_lt (by rw [hq2]; decide)
                  refine jv_lveq (lv' := [(3, .int 93), (0, .ref o), (1, .int (nI nx)), (2, .int (nI k))]) (by rw [hq2]) ?_
                  refine jv_iload_n C (jd D_Rd_readTape 62 rfl) rfl 0 rfl ?_
                  refine jv_callV (wr := []) C cl_Rd_65 (c_Rd_behindValue_close91 o tp pp nn ob nb tb pb s1 s2 s3 f g2 fS2 fE2 fH2 fO2 fB2 t pr s0 ns i2 ub2 (-1) n0 ht h4 hR3 hm3 hit) [0, 1, 2, 3, 4, 5, 6, 7, 8, 9, 10] [] rfl rfl rfl rfl (by decide) rfl rfl 0 rfl ⟨Nat.le_of_ble_eq_true rfl, Nat.le_of_ble_eq_true rfl⟩ ⟨Nat.le_of_ble_eq_true rfl, Nat.le_of_ble_eq_true rfl⟩ rfl rfl (Nat.le_of_ble_eq_true rfl) (jd D_Rd_readTape 63 rfl) (fun v23 g9 k2 => ?_)
                  obtain ⟨r2, rfl, k2⟩ := k2
                  refine jv_fix [0, 1, 2, 3, 4, 5, 6, 7, 8, 9, 10] [(o, .inr (2, [.ref tp, .ref pp, .ref nn, .ref ob, .ref nb, .int (nI s0.length), .int (nI (i2 + 1)), .int ub2, .int (-1)])), (tp, .inr (0, [.ref tb, .int (nI t.length)])), (tb, .inl (dA 0, 4096, .inl f)), (pp, .inr (0, [.ref pb, .int (nI (pr ++ [93]).length)])), (pb, .inl (dA 0, 4096, .inl g9)), (nn, .inr (1, [.ref pp, .ref s1, .ref s2, .ref s3, .int (nI ((ns.take n0).length))])), (s1, .inl (dA 1, 1024, .inl fS2)), (s2, .inl (dA 1, 1024, .inl fE2)), (s3, .inl (dA 1, 1024, .inl fH2)), (ob, .inl (dA 0, 32, .inl fO2)), (nb, .inl (dA 1, 32, .inl fB2))] [.int r2] 0 0 rfl rfl rfl (Nat.le_refl _) (Nat.le_refl _) ?_
                  obtain ⟨k2a, k2⟩ := k2
                  subst k2a
                  refine jv_istore_n C [(1, .int 5), (3, .int 93), (0, .ref o), (2, .int (nI k))] (jd D_Rd_readTape 64 rfl) rfl (by decide) rfl ?_
                  refine jv_iinc (v := nI (k + 1)) C [(2, .int (nI (k + 1))), (1, .int 5), (3, .int 93), (0, .ref o)] (jd D_Rd_readTape 65 rfl) 3 rfl (nI_1 k) (by decide) rfl ?_
                  refine jv_goto (tgt := 8) C (jd D_Rd_readTape 66 rfl) (by decide) ?_
                  refine jv_lvsub [3, 1, 0] rfl ?_
                  exact ih (k + 1) 5 (i2 + 1) (pr ++ [93]) s0 (ns.take n0) ub2 g9 fS2 fE2 fH2 fO2 fB2 (by omega) (by omega) (k2) (js_clo_wf (nx := 5) (i := i2) (by decide) (by decide) hw3) (by rw [← hrun, show 4097 - k = (4097 - (k + 1)) + 1 by omega, js_run_ok (nx3 := 5) (i3 := (i2 + 1)) (pr3 := (pr ++ [93])) (sk3 := s0) (ns3 := (ns.take n0)) h6 hi2 (by rw [js_step, if_neg (by omega), if_neg (by omega), if_neg (by omega), if_neg (by omega), if_neg (by omega), hsk, js_bv_app, if_neg hq, if_pos (by rw [hq2]; rfl)]; exact js_clo_app)])
                · rw [show 4097 - k = (4097 - (k + 1)) + 1 by omega, js_run_no h6 hi2 (by rw [js_step, if_neg (by omega), if_neg (by omega), if_neg (by omega), if_neg (by omega), if_neg (by omega), hsk, js_bv_app, if_neg hq, if_neg (fun y => hq2 (by rw [y]; rfl))]), hfin] at hrun
                  have hqq : i2 = q := Sum.inl.inj hrun
                  refine jv_aload_n C (jd D_Rd_readTape 61 rfl) rfl 1 rfl ?_
                  refine jv_weq (ws' := [(o, .inr (2, [.ref tp, .ref pp, .ref nn, .ref ob, .ref nb, .int (nI ((s0 ++ [(91, n0)]).length)), .int (nI i2), .int ub2, .int (-1)])), (tp, .inr (0, [.ref tb, .int (nI t.length)])), (tb, .inl (dA 0, 4096, .inl f)), (pp, .inr (0, [.ref pb, .int (nI pr.length)])), (pb, .inl (dA 0, 4096, .inl g2)), (nn, .inr (1, [.ref pp, .ref s1, .ref s2, .ref s3, .int (nI ns.length)])), (s1, .inl (dA 1, 1024, .inl fS2)), (s2, .inl (dA 1, 1024, .inl fE2)), (s3, .inl (dA 1, 1024, .inl fH2)), (ob, .inl (dA 0, 32, .inl fO2)), (nb, .inl (dA 1, 32, .inl fB2))]) (by rw [hsk]) ?_
                  refine jv_iload_n C (jd D_Rd_readTape 62 rfl) rfl 0 rfl ?_
                  refine jv_callV (wr := []) C cl_Rd_65 (c_Rd_behindValue_bad91 o tp pp nn ob nb tb pb s1 s2 s3 f g2 fS2 fE2 fH2 fO2 fB2 t pr s0 ns i2 ub2 (-1) n0 (js_b t i2) ht h4 hR3 hm3 hq hq2) [0, 1, 2, 3, 4, 5, 6, 7, 8, 9, 10] [] rfl rfl rfl rfl (by decide) rfl rfl 0 rfl ⟨Nat.le_of_ble_eq_true rfl, Nat.le_of_ble_eq_true rfl⟩ ⟨Nat.le_of_ble_eq_true rfl, Nat.le_of_ble_eq_true rfl⟩ rfl rfl (Nat.le_of_ble_eq_true rfl) (jd D_Rd_readTape 63 rfl) (fun v24 _ k2 => ?_)
                  obtain ⟨r2, rfl, k2⟩ := k2
                  refine jv_fix [0, 1, 2, 3, 4, 5, 6, 7, 8, 9, 10] [(o, .inr (2, [.ref tp, .ref pp, .ref nn, .ref ob, .ref nb, .int (nI ((s0 ++ [(91, n0)]).length)), .int (nI i2), .int ub2, .int (nI i2)])), (tp, .inr (0, [.ref tb, .int (nI t.length)])), (tb, .inl (dA 0, 4096, .inl f)), (pp, .inr (0, [.ref pb, .int (nI pr.length)])), (pb, .inl (dA 0, 4096, .inl g2)), (nn, .inr (1, [.ref pp, .ref s1, .ref s2, .ref s3, .int (nI ns.length)])), (s1, .inl (dA 1, 1024, .inl fS2)), (s2, .inl (dA 1, 1024, .inl fE2)), (s3, .inl (dA 1, 1024, .inl fH2)), (ob, .inl (dA 0, 32, .inl fO2)), (nb, .inl (dA 1, 32, .inl fB2))] [.int r2] 0 0 rfl rfl rfl (Nat.le_refl _) (Nat.le_refl _) ?_
                  subst k2
                  refine jv_istore_n C [(1, .int 6), (3, .int (js_b t i2)), (0, .ref o), (2, .int (nI k))] (jd D_Rd_readTape 64 rfl) rfl (by decide) rfl ?_
                  refine jv_iinc (v := nI (k + 1)) C [(2, .int (nI (k + 1))), (1, .int 6), (3, .int (js_b t i2)), (0, .ref o)] (jd D_Rd_readTape 65 rfl) 3 rfl (nI_1 k) (by decide) rfl ?_
                  refine jv_goto (tgt := 8) C (jd D_Rd_readTape 66 rfl) (by decide) ?_
                  refine jv_iload_n C (jd D_Rd_readTape 6 rfl) rfl 0 rfl ?_
                  refine jv_sipush (v := 4096) C (jd D_Rd_readTape 7 rfl) (by decide) ?_
                  refine jv_icmp_gt (tgt := 157) C (jd D_Rd_readTape 8 rfl) (by decide) (fun c12 => ?_) (fun c12 => ?_)
                  · refine jv_weq (ws' := [(o, .inr (2, [.ref tp, .ref pp, .ref nn, .ref ob, .ref nb, .int (nI ((s0 ++ [(91, n0)]).length)), .int (nI i2), .int ub2, .int (nI q)])), (tp, .inr (0, [.ref tb, .int (nI t.length)])), (tb, .inl (dA 0, 4096, .inl f)), (pp, .inr (0, [.ref pb, .int (nI pr.length)])), (pb, .inl (dA 0, 4096, .inl g2)), (nn, .inr (1, [.ref pp, .ref s1, .ref s2, .ref s3, .int (nI ns.length)])), (s1, .inl (dA 1, 1024, .inl fS2)), (s2, .inl (dA 1, 1024, .inl fE2)), (s3, .inl (dA 1, 1024, .inl fH2)), (ob, .inl (dA 0, 32, .inl fO2)), (nb, .inl (dA 1, 32, .inl fB2))]) (by rw [hqq]) ?_
                    refine jv_aload_n C (jd D_Rd_readTape 67 rfl) rfl 3 rfl ?_
                    refine jv_get C fl_Rd_68 0 rfl rfl (jd D_Rd_readTape 68 rfl) ?_
                    rw [hQ]
                    exact jv_iret C hr ((nI ((s0 ++ [(91, n0)]).length)), (nI i2), ub2, pr, ns.length, g2, fS2, fE2, fH2, fO2, fB2) (⟨rfl, hR2.2.2.2.2.1, Nat.le_trans hR2.2.1 hi24, hR.2.2.2.1⟩) rfl [0, 1, 2, 3, 4, 5, 6, 7, 8, 9, 10] rfl rfl (Nat.le_of_ble_eq_true rfl) (Nat.le_of_ble_eq_true rfl) (jd D_Rd_readTape 69 rfl)
                  · refine jv_iload_n C (jd D_Rd_readTape 9 rfl) rfl 1 rfl ?_
                    refine jv_bipush (v := 6) C (jd D_Rd_readTape 10 rfl) (by decide) ?_
                    refine jv_icmp_eq (tgt := 157) C (jd D_Rd_readTape 11 rfl) (by decide) (fun c18 => ?_) (fun c18 => absurd (rfl) c18)
                    refine jv_weq (ws' := [(o, .inr (2, [.ref tp, .ref pp, .ref nn, .ref ob, .ref nb, .int (nI ((s0 ++ [(91, n0)]).length)), .int (nI i2), .int ub2, .int (nI q)])), (tp, .inr (0, [.ref tb, .int (nI t.length)])), (tb, .inl (dA 0, 4096, .inl f)), (pp, .inr (0, [.ref pb, .int (nI pr.length)])), (pb, .inl (dA 0, 4096, .inl g2)), (nn, .inr (1, [.ref pp, .ref s1, .ref s2, .ref s3, .int (nI ns.length)])), (s1, .inl (dA 1, 1024, .inl fS2)), (s2, .inl (dA 1, 1024, .inl fE2)), (s3, .inl (dA 1, 1024, .inl fH2)), (ob, .inl (dA 0, 32, .inl fO2)), (nb, .inl (dA 1, 32, .inl fB2))]) (by rw [hqq]) ?_
                    refine jv_aload_n C (jd D_Rd_readTape 67 rfl) rfl 3 rfl ?_
                    refine jv_get C fl_Rd_68 0 rfl rfl (jd D_Rd_readTape 68 rfl) ?_
                    rw [hQ]
                    exact jv_iret C hr ((nI ((s0 ++ [(91, n0)]).length)), (nI i2), ub2, pr, ns.length, g2, fS2, fE2, fH2, fO2, fB2) (⟨rfl, hR2.2.2.2.2.1, Nat.le_trans hR2.2.1 hi24, hR.2.2.2.1⟩) rfl [0, 1, 2, 3, 4, 5, 6, 7, 8, 9, 10] rfl rfl (Nat.le_of_ble_eq_true rfl) (Nat.le_of_ble_eq_true rfl) (jd D_Rd_readTape 69 rfl)
            · by_cases hq : js_b t i2 = 44
              · refine jv_aload_n C (jd D_Rd_readTape 61 rfl) rfl 1 rfl ?_
                refine jv_weq (ws' := [(o, .inr (2, [.ref tp, .ref pp, .ref nn, .ref ob, .ref nb, .int (nI ((s0 ++ [(123, n0)]).length)), .int (nI i2), .int ub2, .int (-1)])), (tp, .inr (0, [.ref tb, .int (nI t.length)])), (tb, .inl (dA 0, 4096, .inl f)), (pp, .inr (0, [.ref pb, .int (nI pr.length)])), (pb, .inl (dA 0, 4096, .inl g2)), (nn, .inr (1, [.ref pp, .ref s1, .ref s2, .ref s3, .int (nI ns.length)])), (s1, .inl (dA 1, 1024, .inl fS2)), (s2, .inl (dA 1, 1024, .inl fE2)), (s3, .inl (dA 1, 1024, .inl fH2)), (ob, .inl (dA 0, 32, .inl fO2)), (nb, .inl (dA 1, 32, .inl fB2))]) (by rw [hsk]) ?_
                have hit : i2 < t.length := js_b_lt (by rw [hq]; decide)
                refine jv_lveq (lv' := [(3, .int 44), (0, .ref o), (1, .int (nI nx)), (2, .int (nI k))]) (by rw [hq]) ?_
                refine jv_iload_n C (jd D_Rd_readTape 62 rfl) rfl 0 rfl ?_
                refine jv_callV (wr := []) C cl_Rd_65 (c_Rd_behindValue_comma123 o tp pp nn ob nb tb pb s1 s2 s3 f g2 fS2 fE2 fH2 fO2 fB2 t pr s0 ns i2 ub2 (-1) n0 ht h4 hR3 hm3 hit) [0, 1, 2, 3, 4, 5, 6, 7, 8, 9, 10] [] rfl rfl rfl rfl (by decide) rfl rfl 0 rfl ⟨Nat.le_of_ble_eq_true rfl, Nat.le_of_ble_eq_true rfl⟩ ⟨Nat.le_of_ble_eq_true rfl, Nat.le_of_ble_eq_true rfl⟩ rfl rfl (Nat.le_of_ble_eq_true rfl) (jd D_Rd_readTape 63 rfl) (fun v25 g9 k2 => ?_)
                obtain ⟨r2, rfl, k2⟩ := k2
                refine jv_fix [0, 1, 2, 3, 4, 5, 6, 7, 8, 9, 10] [(o, .inr (2, [.ref tp, .ref pp, .ref nn, .ref ob, .ref nb, .int (nI ((s0 ++ [(123, n0)]).length)), .int (nI (i2 + 1)), .int ub2, .int (-1)])), (tp, .inr (0, [.ref tb, .int (nI t.length)])), (tb, .inl (dA 0, 4096, .inl f)), (pp, .inr (0, [.ref pb, .int (nI (pr ++ [44]).length)])), (pb, .inl (dA 0, 4096, .inl g9)), (nn, .inr (1, [.ref pp, .ref s1, .ref s2, .ref s3, .int (nI ns.length)])), (s1, .inl (dA 1, 1024, .inl fS2)), (s2, .inl (dA 1, 1024, .inl fE2)), (s3, .inl (dA 1, 1024, .inl fH2)), (ob, .inl (dA 0, 32, .inl fO2)), (nb, .inl (dA 1, 32, .inl fB2))] [.int r2] 0 0 rfl rfl rfl (Nat.le_refl _) (Nat.le_refl _) ?_
                obtain ⟨k2a, k2⟩ := k2
                subst k2a
                refine jv_istore_n C [(1, .int 2), (3, .int 44), (0, .ref o), (2, .int (nI k))] (jd D_Rd_readTape 64 rfl) rfl (by decide) rfl ?_
                refine jv_iinc (v := nI (k + 1)) C [(2, .int (nI (k + 1))), (1, .int 2), (3, .int 44), (0, .ref o)] (jd D_Rd_readTape 65 rfl) 3 rfl (nI_1 k) (by decide) rfl ?_
                refine jv_goto (tgt := 8) C (jd D_Rd_readTape 66 rfl) (by decide) ?_
                refine jv_lvsub [3, 1, 0] rfl ?_
                exact ih (k + 1) 2 (i2 + 1) (pr ++ [44]) (s0 ++ [(123, n0)]) ns ub2 g9 fS2 fE2 fH2 fO2 fB2 (by omega) (by omega) (k2) (js_comma_wf (y := 123) (by decide) hw3) (by rw [← hrun, show 4097 - k = (4097 - (k + 1)) + 1 by omega, js_run_ok (nx3 := 2) (i3 := (i2 + 1)) (pr3 := (pr ++ [44])) (sk3 := (s0 ++ [(123, n0)])) (ns3 := ns) h6 hi2 (by rw [js_step, if_neg (by omega), if_neg (by omega), if_neg (by omega), if_neg (by omega), if_neg (by omega), hsk, js_bv_app, if_pos hq]; rfl)])
              · by_cases hq2 : js_b t i2 = 125
                · refine jv_aload_n C (jd D_Rd_readTape 61 rfl) rfl 1 rfl ?_
                  refine jv_weq (ws' := [(o, .inr (2, [.ref tp, .ref pp, .ref nn, .ref ob, .ref nb, .int (nI ((s0 ++ [(123, n0)]).length)), .int (nI i2), .int ub2, .int (-1)])), (tp, .inr (0, [.ref tb, .int (nI t.length)])), (tb, .inl (dA 0, 4096, .inl f)), (pp, .inr (0, [.ref pb, .int (nI pr.length)])), (pb, .inl (dA 0, 4096, .inl g2)), (nn, .inr (1, [.ref pp, .ref s1, .ref s2, .ref s3, .int (nI ns.length)])), (s1, .inl (dA 1, 1024, .inl fS2)), (s2, .inl (dA 1, 1024, .inl fE2)), (s3, .inl (dA 1, 1024, .inl fH2)), (ob, .inl (dA 0, 32, .inl fO2)), (nb, .inl (dA 1, 32, .inl fB2))]) (by rw [hsk]) ?_
                  have hit : i2 < t.length := js_b_lt (by rw [hq2]; decide)
                  refine jv_lveq (lv' := [(3, .int 125), (0, .ref o), (1, .int (nI nx)), (2, .int (nI k))]) (by rw [hq2]) ?_
                  refine jv_iload_n C (jd D_Rd_readTape 62 rfl) rfl 0 rfl ?_
                  refine jv_callV (wr := []) C cl_Rd_65 (c_Rd_behindValue_close123 o tp pp nn ob nb tb pb s1 s2 s3 f g2 fS2 fE2 fH2 fO2 fB2 t pr s0 ns i2 ub2 (-1) n0 ht h4 hR3 hm3 hit) [0, 1, 2, 3, 4, 5, 6, 7, 8, 9, 10] [] rfl rfl rfl rfl (by decide) rfl rfl 0 rfl ⟨Nat.le_of_ble_eq_true rfl, Nat.le_of_ble_eq_true rfl⟩ ⟨Nat.le_of_ble_eq_true rfl, Nat.le_of_ble_eq_true rfl⟩ rfl rfl (Nat.le_of_ble_eq_true rfl) (jd D_Rd_readTape 63 rfl) (fun v26 g9 k2 => ?_)
                  obtain ⟨r2, rfl, k2⟩ := k2
                  refine jv_fix [0, 1, 2, 3, 4, 5, 6, 7, 8, 9, 10] [(o, .inr (2, [.ref tp, .ref pp, .ref nn, .ref ob, .ref nb, .int (nI s0.length), .int (nI (i2 + 1)), .int ub2, .int (-1)])), (tp, .inr (0, [.ref tb, .int (nI t.length)])), (tb, .inl (dA 0, 4096, .inl f)), (pp, .inr (0, [.ref pb, .int (nI (pr ++ [125]).length)])), (pb, .inl (dA 0, 4096, .inl g9)), (nn, .inr (1, [.ref pp, .ref s1, .ref s2, .ref s3, .int (nI ((ns.take n0).length))])), (s1, .inl (dA 1, 1024, .inl fS2)), (s2, .inl (dA 1, 1024, .inl fE2)), (s3, .inl (dA 1, 1024, .inl fH2)), (ob, .inl (dA 0, 32, .inl fO2)), (nb, .inl (dA 1, 32, .inl fB2))] [.int r2] 0 0 rfl rfl rfl (Nat.le_refl _) (Nat.le_refl _) ?_
                  obtain ⟨k2a, k2⟩ := k2
                  subst k2a
                  refine jv_istore_n C [(1, .int 5), (3, .int 125), (0, .ref o), (2, .int (nI k))] (jd D_Rd_readTape 64 rfl) rfl (by decide) rfl ?_
                  refine jv_iinc (v := nI (k + 1)) C [(2, .int (nI (k + 1))), (1, .int 5), (3, .int 125), (0, .ref o)] (jd D_Rd_readTape 65 rfl) 3 rfl (nI_1 k) (by decide) rfl ?_
                  refine jv_goto (tgt := 8) C (jd D_Rd_readTape 66 rfl) (by decide) ?_
                  refine jv_lvsub [3, 1, 0] rfl ?_
                  exact ih (k + 1) 5 (i2 + 1) (pr ++ [125]) s0 (ns.take n0) ub2 g9 fS2 fE2 fH2 fO2 fB2 (by omega) (by omega) (k2) (js_clo_wf (nx := 5) (i := i2) (by decide) (by decide) hw3) (by rw [← hrun, show 4097 - k = (4097 - (k + 1)) + 1 by omega, js_run_ok (nx3 := 5) (i3 := (i2 + 1)) (pr3 := (pr ++ [125])) (sk3 := s0) (ns3 := (ns.take n0)) h6 hi2 (by rw [js_step, if_neg (by omega), if_neg (by omega), if_neg (by omega), if_neg (by omega), if_neg (by omega), hsk, js_bv_app, if_neg hq, if_pos (by rw [hq2]; rfl)]; exact js_clo_app)])
                · rw [show 4097 - k = (4097 - (k + 1)) + 1 by omega, js_run_no h6 hi2 (by rw [js_step, if_neg (by omega), if_neg (by omega), if_neg (by omega), if_neg (by omega), if_neg (by omega), hsk, js_bv_app, if_neg hq, if_neg (fun y => hq2 (by rw [y]; rfl))]), hfin] at hrun
                  have hqq : i2 = q := Sum.inl.inj hrun
                  refine jv_aload_n C (jd D_Rd_readTape 61 rfl) rfl 1 rfl ?_
                  refine jv_weq (ws' := [(o, .inr (2, [.ref tp, .ref pp, .ref nn, .ref ob, .ref nb, .int (nI ((s0 ++ [(123, n0)]).length)), .int (nI i2), .int ub2, .int (-1)])), (tp, .inr (0, [.ref tb, .int (nI t.length)])), (tb, .inl (dA 0, 4096, .inl f)), (pp, .inr (0, [.ref pb, .int (nI pr.length)])), (pb, .inl (dA 0, 4096, .inl g2)), (nn, .inr (1, [.ref pp, .ref s1, .ref s2, .ref s3, .int (nI ns.length)])), (s1, .inl (dA 1, 1024, .inl fS2)), (s2, .inl (dA 1, 1024, .inl fE2)), (s3, .inl (dA 1, 1024, .inl fH2)), (ob, .inl (dA 0, 32, .inl fO2)), (nb, .inl (dA 1, 32, .inl fB2))]) (by rw [hsk]) ?_
                  refine jv_iload_n C (jd D_Rd_readTape 62 rfl) rfl 0 rfl ?_
                  refine jv_callV (wr := []) C cl_Rd_65 (c_Rd_behindValue_bad123 o tp pp nn ob nb tb pb s1 s2 s3 f g2 fS2 fE2 fH2 fO2 fB2 t pr s0 ns i2 ub2 (-1) n0 (js_b t i2) ht h4 hR3 hm3 hq hq2) [0, 1, 2, 3, 4, 5, 6, 7, 8, 9, 10] [] rfl rfl rfl rfl (by decide) rfl rfl 0 rfl ⟨Nat.le_of_ble_eq_true rfl, Nat.le_of_ble_eq_true rfl⟩ ⟨Nat.le_of_ble_eq_true rfl, Nat.le_of_ble_eq_true rfl⟩ rfl rfl (Nat.le_of_ble_eq_true rfl) (jd D_Rd_readTape 63 rfl) (fun v27 _ k2 => ?_)
                  obtain ⟨r2, rfl, k2⟩ := k2
                  refine jv_fix [0, 1, 2, 3, 4, 5, 6, 7, 8, 9, 10] [(o, .inr (2, [.ref tp, .ref pp, .ref nn, .ref ob, .ref nb, .int (nI ((s0 ++ [(123, n0)]).length)), .int (nI i2), .int ub2, .int (nI i2)])), (tp, .inr (0, [.ref tb, .int (nI t.length)])), (tb, .inl (dA 0, 4096, .inl f)), (pp, .inr (0, [.ref pb, .int (nI pr.length)])), (pb, .inl (dA 0, 4096, .inl g2)), (nn, .inr (1, [.ref pp, .ref s1, .ref s2, .ref s3, .int (nI ns.length)])), (s1, .inl (dA 1, 1024, .inl fS2)), (s2, .inl (dA 1, 1024, .inl fE2)), (s3, .inl (dA 1, 1024, .inl fH2)), (ob, .inl (dA 0, 32, .inl fO2)), (nb, .inl (dA 1, 32, .inl fB2))] [.int r2] 0 0 rfl rfl rfl (Nat.le_refl _) (Nat.le_refl _) ?_
                  subst k2
                  refine jv_istore_n C [(1, .int 6), (3, .int (js_b t i2)), (0, .ref o), (2, .int (nI k))] (jd D_Rd_readTape 64 rfl) rfl (by decide) rfl ?_
                  refine jv_iinc (v := nI (k + 1)) C [(2, .int (nI (k + 1))), (1, .int 6), (3, .int (js_b t i2)), (0, .ref o)] (jd D_Rd_readTape 65 rfl) 3 rfl (nI_1 k) (by decide) rfl ?_
                  refine jv_goto (tgt := 8) C (jd D_Rd_readTape 66 rfl) (by decide) ?_
                  refine jv_iload_n C (jd D_Rd_readTape 6 rfl) rfl 0 rfl ?_
                  refine jv_sipush (v := 4096) C (jd D_Rd_readTape 7 rfl) (by decide) ?_
                  refine jv_icmp_gt (tgt := 157) C (jd D_Rd_readTape 8 rfl) (by decide) (fun c12 => ?_) (fun c12 => ?_)
                  · refine jv_weq (ws' := [(o, .inr (2, [.ref tp, .ref pp, .ref nn, .ref ob, .ref nb, .int (nI ((s0 ++ [(123, n0)]).length)), .int (nI i2), .int ub2, .int (nI q)])), (tp, .inr (0, [.ref tb, .int (nI t.length)])), (tb, .inl (dA 0, 4096, .inl f)), (pp, .inr (0, [.ref pb, .int (nI pr.length)])), (pb, .inl (dA 0, 4096, .inl g2)), (nn, .inr (1, [.ref pp, .ref s1, .ref s2, .ref s3, .int (nI ns.length)])), (s1, .inl (dA 1, 1024, .inl fS2)), (s2, .inl (dA 1, 1024, .inl fE2)), (s3, .inl (dA 1, 1024, .inl fH2)), (ob, .inl (dA 0, 32, .inl fO2)), (nb, .inl (dA 1, 32, .inl fB2))]) (by rw [hqq]) ?_
                    refine jv_aload_n C (jd D_Rd_readTape 67 rfl) rfl 3 rfl ?_
                    refine jv_get C fl_Rd_68 0 rfl rfl (jd D_Rd_readTape 68 rfl) ?_
                    rw [hQ]
                    exact jv_iret C hr ((nI ((s0 ++ [(123, n0)]).length)), (nI i2), ub2, pr, ns.length, g2, fS2, fE2, fH2, fO2, fB2) (⟨rfl, hR2.2.2.2.2.1, Nat.le_trans hR2.2.1 hi24, hR.2.2.2.1⟩) rfl [0, 1, 2, 3, 4, 5, 6, 7, 8, 9, 10] rfl rfl (Nat.le_of_ble_eq_true rfl) (Nat.le_of_ble_eq_true rfl) (jd D_Rd_readTape 69 rfl)
                  · refine jv_iload_n C (jd D_Rd_readTape 9 rfl) rfl 1 rfl ?_
                    refine jv_bipush (v := 6) C (jd D_Rd_readTape 10 rfl) (by decide) ?_
                    refine jv_icmp_eq (tgt := 157) C (jd D_Rd_readTape 11 rfl) (by decide) (fun c18 => ?_) (fun c18 => absurd (rfl) c18)
                    refine jv_weq (ws' := [(o, .inr (2, [.ref tp, .ref pp, .ref nn, .ref ob, .ref nb, .int (nI ((s0 ++ [(123, n0)]).length)), .int (nI i2), .int ub2, .int (nI q)])), (tp, .inr (0, [.ref tb, .int (nI t.length)])), (tb, .inl (dA 0, 4096, .inl f)), (pp, .inr (0, [.ref pb, .int (nI pr.length)])), (pb, .inl (dA 0, 4096, .inl g2)), (nn, .inr (1, [.ref pp, .ref s1, .ref s2, .ref s3, .int (nI ns.length)])), (s1, .inl (dA 1, 1024, .inl fS2)), (s2, .inl (dA 1, 1024, .inl fE2)), (s3, .inl (dA 1, 1024, .inl fH2)), (ob, .inl (dA 0, 32, .inl fO2)), (nb, .inl (dA 1, 32, .inl fB2))]) (by rw [hqq]) ?_
                    refine jv_aload_n C (jd D_Rd_readTape 67 rfl) rfl 3 rfl ?_
                    refine jv_get C fl_Rd_68 0 rfl rfl (jd D_Rd_readTape 68 rfl) ?_
                    rw [hQ]
                    exact jv_iret C hr ((nI ((s0 ++ [(123, n0)]).length)), (nI i2), ub2, pr, ns.length, g2, fS2, fE2, fH2, fO2, fB2) (⟨rfl, hR2.2.2.2.2.1, Nat.le_trans hR2.2.1 hi24, hR.2.2.2.1⟩) rfl [0, 1, 2, 3, 4, 5, 6, 7, 8, 9, 10] rfl rfl (Nat.le_of_ble_eq_true rfl) (Nat.le_of_ble_eq_true rfl) (jd D_Rd_readTape 69 rfl)
  refine jv_lvsub [2, 1, 0] rfl ?_
  exact hL8 4098 0 0 0 [] [] [] ub g fS fE fH fO fB (by omega) (by omega) ⟨Nat.zero_le _, Nat.le_refl _, Nat.zero_le _, Nat.zero_le _, fun j h => absurd h (Nat.not_lt_zero j), fun j h => absurd h (Nat.not_lt_zero j), fun j h => absurd h (Nat.not_lt_zero j)⟩ js_wf0 rfl
