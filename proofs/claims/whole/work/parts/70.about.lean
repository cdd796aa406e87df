theorem js_kr_lt : ∀ {n : Nat} {v : js_J n}, js_ok n v → js_kr n v < 7
  | 0, .inl w, h => Nat.lt_of_lt_of_le (js_kind_b w h) (by decide)
  | 0, .inr (.inl _), _ => (by decide : 3 < 7)
  | 0, .inr (.inr _), _ => (by decide : 4 < 7)
  | _ + 1, Sum.inl (.inl w), h => Nat.lt_of_lt_of_le (js_kind_b w h) (by decide)
  | _ + 1, Sum.inl (.inr (.inl _)), _ => (by decide : 3 < 7)
  | _ + 1, Sum.inl (.inr (.inr _)), _ => (by decide : 4 < 7)
  | _ + 1, Sum.inr (b, _), _ => by show (if b = true then 6 else 5) < 7; split <;> decide
theorem js_l_1 (n : Nat) : js_l n + 1 = js_l (n + 1) := by
  unfold js_l
  rw [Int64.ofNat_add]
  rfl

set_option maxHeartbeats 4000000 in
set_option maxRecDepth 100000 in
/-- about, out of range -/
theorem c_Md_about_no1 {l : Launch} {D : va_G} {dA : Nat → ClassId} {zz : (Nat → Nat) × (Nat → Nat)} (o : Nat) (Q : Nat → Nat) (K : Nat → Int32) (vt : Value) (i w : Int32) (hb : (i < 0 ∨ 8 ≤ i) ∨ w < 0 ∨ 3 < w) : jv_M l D dA zz y_Md_about b_Md_about 9 (some (FieldType.long)) 2 [.ref o, .int i, .int w] [(o, .inr (7, [.ref (Q 0), .int (K 1), .ref (Q 2), .int (K 3), .int (K 4), .int (K 5), vt, .int (K 7), .int (K 8), .int (K 9), .ref (Q 10), .int (K 11), .int (K 12), .ref (Q 13), .ref (Q 14), .ref (Q 15), .ref (Q 16), .ref (Q 17)]))] (jv_pl fun r (_ : Unit) => r = 0) (fun _ => [(o, .inr (7, [.ref (Q 0), .int (K 1), .ref (Q 2), .int (K 3), .int 1, .int (K 5), vt, .int (K 7), .int (K 8), .int (K 9), .ref (Q 10), .int (K 11), .int (K 12), .ref (Q 13), .ref (Q 14), .ref (Q 15), .ref (Q 16), .ref (Q 17)]))]) 0 0 := by
  refine jv_M.of [(0, .ref o), (1, .int i), (2, .int w)] (by decide) (Nat.le_of_ble_eq_true rfl) rfl ?_
  intro pR eR sR mR belowR methR cR AR C hr hin
  refine jv_aload_n C (jd D_Md_about 0 rfl) rfl 0 rfl ?_
  refine jv_iload_n C (jd D_Md_about 1 rfl) rfl 1 rfl ?_
  refine jv_callS (wr := [(o, .inr (7, [.ref (Q 0), .int (K 1), .ref (Q 2), .int (K 3), .int (K 4), .int (K 5), vt, .int (K 7), .int (K 8), .int (K 9), .ref (Q 10), .int (K 11), .int (K 12), .ref (Q 13), .ref (Q 14), .ref (Q 15), .ref (Q 16), .ref (Q 17)]))]) C cl_Md_248 (c_Md_isSlot i) [] [0] rfl rfl rfl rfl (by decide) ⟨Nat.le_of_ble_eq_true rfl, Nat.le_of_ble_eq_true rfl⟩ ⟨Nat.le_of_ble_eq_true rfl, Nat.le_of_ble_eq_true rfl⟩ rfl rfl (Nat.le_of_ble_eq_true rfl) (jd D_Md_about 2 rfl) (fun v1 _ ks1 => ?_)
  obtain ⟨rs1, rfl, ks1⟩ := ks1
  refine jv_fix [0] [(o, .inr (7, [.ref (Q 0), .int (K 1), .ref (Q 2), .int (K 3), .int (K 4), .int (K 5), vt, .int (K 7), .int (K 8), .int (K 9), .ref (Q 10), .int (K 11), .int (K 12), .ref (Q 13), .ref (Q 14), .ref (Q 15), .ref (Q 16), .ref (Q 17)]))] [.int rs1, .ref o] 0 0 rfl rfl rfl (Nat.le_refl _) (Nat.le_refl _) ?_
  refine jv_if_eq (tgt := 21) C (jd D_Md_about 3 rfl) (by decide) (fun c5 => ?_) (fun c5 => ?_)
  · refine jv_iconst (v := 0) C (jd D_Md_about 11 rfl) (by decide) ?_
    refine jv_iconst (v := 1) C (jd D_Md_about 12 rfl) (by decide) ?_
    refine jv_callV (wr := []) C cl_Md_104 (c_Md_good_0 o Q (js_rows [0, (K 1), 0, (K 3), (K 4), (K 5), 0, (K 7), (K 8), (K 9), 0, (K 11), (K 12), 0, 0, 0, 0, 0] 0) vt 1) [0] [] rfl rfl rfl rfl (by decide) rfl rfl 0 rfl ⟨Nat.le_of_ble_eq_true rfl, Nat.le_of_ble_eq_true rfl⟩ ⟨Nat.le_of_ble_eq_true rfl, Nat.le_of_ble_eq_true rfl⟩ rfl rfl (Nat.le_of_ble_eq_true rfl) (jd D_Md_about 13 rfl) (fun v2 _ kg3 => ?_)
    obtain ⟨rg3, rfl, kg3⟩ := kg3
    refine jv_fix [0] [(o, .inr (7, [.ref (Q 0), .int (K 1), .ref (Q 2), .int (K 3), .int 1, .int (K 5), vt, .int (K 7), .int (K 8), .int (K 9), .ref (Q 10), .int (K 11), .int (K 12), .ref (Q 13), .ref (Q 14), .ref (Q 15), .ref (Q 16), .ref (Q 17)]))] [.int rg3] 0 0 rfl rfl rfl (Nat.le_refl _) (Nat.le_refl _) ?_
    subst kg3
    refine jv_if_eq (tgt := 43) C (jd D_Md_about 14 rfl) (by decide) (fun c26 => ?_) (fun c26 => absurd (rfl) c26)
    refine jv_lconst (v := 0) C (jd D_Md_about 23 rfl) (by decide) ?_
    exact jv_lret C hr () (rfl) [0] rfl rfl (Nat.le_of_ble_eq_true rfl) (Nat.le_of_ble_eq_true rfl) (jd D_Md_about 24 rfl)
  · refine jv_iload_n C (jd D_Md_about 4 rfl) rfl 2 rfl ?_
    refine jv_if_lt (tgt := 21) C (jd D_Md_about 5 rfl) (by decide) (fun c9 => ?_) (fun c9 => ?_)
    · refine jv_iconst (v := 0) C (jd D_Md_about 11 rfl) (by decide) ?_
      refine jv_iconst (v := 1) C (jd D_Md_about 12 rfl) (by decide) ?_
      refine jv_callV (wr := []) C cl_Md_104 (c_Md_good_0 o Q (js_rows [0, (K 1), 0, (K 3), (K 4), (K 5), 0, (K 7), (K 8), (K 9), 0, (K 11), (K 12), 0, 0, 0, 0, 0] 0) vt 1) [0] [] rfl rfl rfl rfl (by decide) rfl rfl 0 rfl ⟨Nat.le_of_ble_eq_true rfl, Nat.le_of_ble_eq_true rfl⟩ ⟨Nat.le_of_ble_eq_true rfl, Nat.le_of_ble_eq_true rfl⟩ rfl rfl (Nat.le_of_ble_eq_true rfl) (jd D_Md_about 13 rfl) (fun v3 _ kg3 => ?_)
      obtain ⟨rg3, rfl, kg3⟩ := kg3
      refine jv_fix [0] [(o, .inr (7, [.ref (Q 0), .int (K 1), .ref (Q 2), .int (K 3), .int 1, .int (K 5), vt, .int (K 7), .int (K 8), .int (K 9), .ref (Q 10), .int (K 11), .int (K 12), .ref (Q 13), .ref (Q 14), .ref (Q 15), .ref (Q 16), .ref (Q 17)]))] [.int rg3] 0 0 rfl rfl rfl (Nat.le_refl _) (Nat.le_refl _) ?_
      subst kg3
      refine jv_if_eq (tgt := 43) C (jd D_Md_about 14 rfl) (by decide) (fun c26 => ?_) (fun c26 => absurd (rfl) c26)
      refine jv_lconst (v := 0) C (jd D_Md_about 23 rfl) (by decide) ?_
      exact jv_lret C hr () (rfl) [0] rfl rfl (Nat.le_of_ble_eq_true rfl) (Nat.le_of_ble_eq_true rfl) (jd D_Md_about 24 rfl)
    · refine jv_iload_n C (jd D_Md_about 6 rfl) rfl 2 rfl ?_
      refine jv_iconst (v := 3) C (jd D_Md_about 7 rfl) (by decide) ?_
      refine jv_icmp_gt (tgt := 21) C (jd D_Md_about 8 rfl) (by decide) (fun c14 => ?_) (fun c14 => absurd (by
  rcases hb with h | h | h
  · exact absurd (ks1.trans (js_sl0 h)) c5
  · exact absurd h c9
  · exact h) c14)
      refine jv_iconst (v := 0) C (jd D_Md_about 11 rfl) (by decide) ?_
      refine jv_iconst (v := 1) C (jd D_Md_about 12 rfl) (by decide) ?_
      refine jv_callV (wr := []) C cl_Md_104 (c_Md_good_0 o Q (js_rows [0, (K 1), 0, (K 3), (K 4), (K 5), 0, (K 7), (K 8), (K 9), 0, (K 11), (K 12), 0, 0, 0, 0, 0] 0) vt 1) [0] [] rfl rfl rfl rfl (by decide) rfl rfl 0 rfl ⟨Nat.le_of_ble_eq_true rfl, Nat.le_of_ble_eq_true rfl⟩ ⟨Nat.le_of_ble_eq_true rfl, Nat.le_of_ble_eq_true rfl⟩ rfl rfl (Nat.le_of_ble_eq_true rfl) (jd D_Md_about 13 rfl) (fun v4 _ kg3 => ?_)
      obtain ⟨rg3, rfl, kg3⟩ := kg3
      refine jv_fix [0] [(o, .inr (7, [.ref (Q 0), .int (K 1), .ref (Q 2), .int (K 3), .int 1, .int (K 5), vt, .int (K 7), .int (K 8), .int (K 9), .ref (Q 10), .int (K 11), .int (K 12), .ref (Q 13), .ref (Q 14), .ref (Q 15), .ref (Q 16), .ref (Q 17)]))] [.int rg3] 0 0 rfl rfl rfl (Nat.le_refl _) (Nat.le_refl _) ?_
      subst kg3
      refine jv_if_eq (tgt := 43) C (jd D_Md_about 14 rfl) (by decide) (fun c26 => ?_) (fun c26 => absurd (rfl) c26)
      refine jv_lconst (v := 0) C (jd D_Md_about 23 rfl) (by decide) ?_
      exact jv_lret C hr () (rfl) [0] rfl rfl (Nat.le_of_ble_eq_true rfl) (Nat.le_of_ble_eq_true rfl) (jd D_Md_about 24 rfl)

set_option maxHeartbeats 4000000 in
set_option maxRecDepth 100000 in
/-- about, nothing there -/
theorem c_Md_about_no2 {l : Launch} {D : va_G} {dA : Nat → ClassId} {zz : (Nat → Nat) × (Nat → Nat)} (o : Nat) (Q : Nat → Nat) (K : Nat → Int32) (vt : Value) (th : Nat → Int32) (s : Nat) (w : Int32) (hs8 : s < 8) (hw0 : ¬ w < 0) (hw3 : w ≤ 3) (hth : th s = 0) : jv_M l D dA zz y_Md_about b_Md_about 9 (some (FieldType.long)) 2 [.ref o, .int (nI s), .int w] [(o, .inr (7, [.ref (Q 0), .int (K 1), .ref (Q 2), .int (K 3), .int (K 4), .int (K 5), vt, .int (K 7), .int (K 8), .int (K 9), .ref (Q 10), .int (K 11), .int (K 12), .ref (Q 13), .ref (Q 14), .ref (Q 15), .ref (Q 16), .ref (Q 17)])), ((Q 15), .inl (dA 4, 8, .inl th))] (jv_pl fun r (_ : Unit) => r = 0) (fun _ => [(o, .inr (7, [.ref (Q 0), .int (K 1), .ref (Q 2), .int (K 3), .int 2, .int (K 5), vt, .int (K 7), .int (K 8), .int (K 9), .ref (Q 10), .int (K 11), .int (K 12), .ref (Q 13), .ref (Q 14), .ref (Q 15), .ref (Q 16), .ref (Q 17)])), ((Q 15), .inl (dA 4, 8, .inl th))]) 0 0 := by
  refine jv_M.of [(0, .ref o), (1, .int (nI s)), (2, .int w)] (by decide) (Nat.le_of_ble_eq_true rfl) rfl ?_
  intro pR eR sR mR belowR methR cR AR C hr hin
  refine jv_aload_n C (jd D_Md_about 0 rfl) rfl 0 rfl ?_
  refine jv_iload_n C (jd D_Md_about 1 rfl) rfl 1 rfl ?_
  refine jv_callS (wr := [(o, .inr (7, [.ref (Q 0), .int (K 1), .ref (Q 2), .int (K 3), .int (K 4), .int (K 5), vt, .int (K 7), .int (K 8), .int (K 9), .ref (Q 10), .int (K 11), .int (K 12), .ref (Q 13), .ref (Q 14), .ref (Q 15), .ref (Q 16), .ref (Q 17)])), ((Q 15), .inl (dA 4, 8, .inl th))]) C cl_Md_248 (c_Md_isSlot (nI s)) [] [0, 1] rfl rfl rfl rfl (by decide) ⟨Nat.le_of_ble_eq_true rfl, Nat.le_of_ble_eq_true rfl⟩ ⟨Nat.le_of_ble_eq_true rfl, Nat.le_of_ble_eq_true rfl⟩ rfl rfl (Nat.le_of_ble_eq_true rfl) (jd D_Md_about 2 rfl) (fun v1 _ ks1 => ?_)
  obtain ⟨rs1, rfl, ks1⟩ := ks1
  refine jv_fix [0, 1] [(o, .inr (7, [.ref (Q 0), .int (K 1), .ref (Q 2), .int (K 3), .int (K 4), .int (K 5), vt, .int (K 7), .int (K 8), .int (K 9), .ref (Q 10), .int (K 11), .int (K 12), .ref (Q 13), .ref (Q 14), .ref (Q 15), .ref (Q 16), .ref (Q 17)])), ((Q 15), .inl (dA 4, 8, .inl th))] [.int rs1, .ref o] 0 0 rfl rfl rfl (Nat.le_refl _) (Nat.le_refl _) ?_
  have ks1 : rs1 = 1 := ks1.trans (js_sl1 hs8)
  subst ks1
  refine jv_if_eq (tgt := 21) C (jd D_Md_about 3 rfl) (by decide) (fun c5 => absurd c5 (by decide)) (fun c5 => ?_)
  refine jv_iload_n C (jd D_Md_about 4 rfl) rfl 2 rfl ?_
  refine jv_if_lt (tgt := 21) C (jd D_Md_about 5 rfl) (by decide) (fun c9 => absurd c9 (hw0)) (fun c9 => ?_)
  refine jv_iload_n C (jd D_Md_about 6 rfl) rfl 2 rfl ?_
  refine jv_iconst (v := 3) C (jd D_Md_about 7 rfl) (by decide) ?_
  refine jv_icmp_gt (tgt := 21) C (jd D_Md_about 8 rfl) (by decide) (fun c14 => absurd c14 (Int32.not_lt.mpr hw3)) (fun c14 => ?_)
  refine jv_iconst (v := 1) C (jd D_Md_about 9 rfl) (by decide) ?_
  refine jv_goto (tgt := 22) C (jd D_Md_about 10 rfl) (by decide) ?_
  refine jv_iconst (v := 1) C (jd D_Md_about 12 rfl) (by decide) ?_
  refine jv_callV (wr := [((Q 15), .inl (dA 4, 8, .inl th))]) C cl_Md_104 (c_Md_good_1 o Q (js_rows [0, (K 1), 0, (K 3), (K 4), (K 5), 0, (K 7), (K 8), (K 9), 0, (K 11), (K 12), 0, 0, 0, 0, 0] 0) vt 1) [0] [1] rfl rfl rfl rfl (by decide) rfl rfl 0 rfl ⟨Nat.le_of_ble_eq_true rfl, Nat.le_of_ble_eq_true rfl⟩ ⟨Nat.le_of_ble_eq_true rfl, Nat.le_of_ble_eq_true rfl⟩ rfl rfl (Nat.le_of_ble_eq_true rfl) (jd D_Md_about 13 rfl) (fun v2 _ kg3 => ?_)
  obtain ⟨rg3, rfl, kg3⟩ := kg3
  refine jv_fix [1, 0] [(o, .inr (7, [.ref (Q 0), .int (K 1), .ref (Q 2), .int (K 3), .int 0, .int (K 5), vt, .int (K 7), .int (K 8), .int (K 9), .ref (Q 10), .int (K 11), .int (K 12), .ref (Q 13), .ref (Q 14), .ref (Q 15), .ref (Q 16), .ref (Q 17)])), ((Q 15), .inl (dA 4, 8, .inl th))] [.int rg3] 0 0 rfl rfl rfl (Nat.le_refl _) (Nat.le_refl _) ?_
  subst kg3
  refine jv_if_eq (tgt := 43) C (jd D_Md_about 14 rfl) (by decide) (fun c26 => absurd c26 (by decide)) (fun c26 => ?_)
  refine jv_aload_n C (jd D_Md_about 15 rfl) rfl 0 rfl ?_
  refine jv_aload_n C (jd D_Md_about 16 rfl) rfl 0 rfl ?_
  refine jv_get C fl_Md_32 0 rfl rfl (jd D_Md_about 17 rfl) ?_
  refine jv_iload_n C (jd D_Md_about 18 rfl) rfl 1 rfl ?_
  refine jv_zald C 1 rfl (vp_in_nI hs8 (by decide)) (jd D_Md_about 19 rfl) ?_
  refine jv_ati (y := 0) (by rw [nI_clamp (by omega)]; exact hth) ?_
  refine jv_iconst (v := 2) C (jd D_Md_about 20 rfl) (by decide) ?_
  refine jv_callV (wr := [((Q 15), .inl (dA 4, 8, .inl th))]) C cl_Md_104 (c_Md_good_0 o Q (js_rows [0, (K 1), 0, (K 3), 0, (K 5), 0, (K 7), (K 8), (K 9), 0, (K 11), (K 12), 0, 0, 0, 0, 0] 0) vt 2) [0] [1] rfl rfl rfl rfl (by decide) rfl rfl 0 rfl ⟨Nat.le_of_ble_eq_true rfl, Nat.le_of_ble_eq_true rfl⟩ ⟨Nat.le_of_ble_eq_true rfl, Nat.le_of_ble_eq_true rfl⟩ rfl rfl (Nat.le_of_ble_eq_true rfl) (jd D_Md_about 21 rfl) (fun v3 _ kg4 => ?_)
  obtain ⟨rg4, rfl, kg4⟩ := kg4
  refine jv_fix [1, 0] [(o, .inr (7, [.ref (Q 0), .int (K 1), .ref (Q 2), .int (K 3), .int 2, .int (K 5), vt, .int (K 7), .int (K 8), .int (K 9), .ref (Q 10), .int (K 11), .int (K 12), .ref (Q 13), .ref (Q 14), .ref (Q 15), .ref (Q 16), .ref (Q 17)])), ((Q 15), .inl (dA 4, 8, .inl th))] [.int rg4] 0 0 rfl rfl rfl (Nat.le_refl _) (Nat.le_refl _) ?_
  subst kg4
  refine jv_if_ne (tgt := 45) C (jd D_Md_about 22 rfl) (by decide) (fun c40 => absurd c40 (fun z => z rfl)) (fun c40 => ?_)
  refine jv_lconst (v := 0) C (jd D_Md_about 23 rfl) (by decide) ?_
  exact jv_lret C hr () (rfl) [0, 1] rfl rfl (Nat.le_of_ble_eq_true rfl) (Nat.le_of_ble_eq_true rfl) (jd D_Md_about 24 rfl)

set_option maxHeartbeats 4000000 in
set_option maxRecDepth 100000 in
/-- about 0 -/
theorem c_Md_about_0 {l : Launch} {D : va_G} {dA : Nat → ClassId} {zz : (Nat → Nat) × (Nat → Nat)} (o : Nat) (Q : Nat → Nat) (K : Nat → Int32) (vt : Value) (hs : Nat → Option Nat) (ln th : Nat → Int32) (b : Nat) (f0 : Nat → Int32) (t : List Nat) (A : Nat → Nat) (M Mu : Nat) (F : Nat → Nat → Int32) (G : Nat → Int64) (c u : Nat) (s : Nat) (v0 : js_J 32) (ht : js_tx f0 t) (h4 : t.length ≤ 4096) (hs8 : s < 8) (hsb : hs s = some b) (hth : th s = 1) (hln : ln s = nI t.length) (hrd : js_rd t = .inr v0) (hM4 : M ≤ 4096) (hMu4 : Mu ≤ 4096) : jv_M l D dA zz y_Md_about b_Md_about 9 (some (FieldType.long)) 73 [.ref o, .int (nI s), .int 0] [(o, .inr (7, [.ref (Q 0), .int (K 1), .ref (Q 2), .int (K 3), .int (K 4), .int (K 5), vt, .int (K 7), .int (K 8), .int (K 9), .ref (Q 10), .int (K 11), .int (K 12), .ref (Q 13), .ref (Q 14), .ref (Q 15), .ref (Q 16), .ref (Q 17)])), ((Q 13), .inl (dA 6, 8, .inr (.inr (.inr (.inr hs))))), ((Q 14), .inl (dA 1, 8, .inl ln)), ((Q 15), .inl (dA 4, 8, .inl th)), (b, .inl (dA 0, 4096, .inl f0)), ((Q 16), .inr (6, [.ref (A 0), .ref (A 1), .ref (A 2), .ref (A 3), .ref (A 4), .ref (A 5), .ref (A 6), .ref (A 7), .ref (A 8), .ref (A 9), .int (nI c), .ref (A 10), .int (nI u)])), ((A 0), .inl (dA 1, (js_cp M), .inl (F 0))), ((A 1), .inl (dA 2, (js_cp M), .inr (.inl G))), ((A 2), .inl (dA 1, (js_cp M), .inl (F 2))), ((A 3), .inl (dA 1, (js_cp M), .inl (F 3))), ((A 4), .inl (dA 1, (js_cp M), .inl (F 4))), ((A 5), .inl (dA 1, (js_cp M), .inl (F 5))), ((A 6), .inl (dA 1, (js_cp M), .inl (F 6))), ((A 7), .inl (dA 1, (js_cp M), .inl (F 7))), ((A 8), .inl (dA 1, (js_cp M), .inl (F 8))), ((A 9), .inl (dA 1, (js_cp M), .inl (F 9))), ((A 10), .inl (dA 3, (js_cu Mu), .inl (F 10)))] (jv_pl fun r (_ : (Nat → Nat) × (Nat → Nat → Int32) × (Nat → Int64) × Int32) => r = (if js_kr 32 v0 = 1 then 2 else if js_kr 32 v0 = 2 then 1 else (nI (js_kr 32 v0)).toInt64)) (fun v => [(o, .inr (7, [.ref (Q 0), .int (K 1), .ref (Q 2), .int (K 3), .int 0, .int (K 5), .ref b, .int v.2.2.2, .int (nI t.length), .int (-1), .ref (Q 10), .int (K 11), .int (K 12), .ref (Q 13), .ref (Q 14), .ref (Q 15), .ref (Q 16), .ref (Q 17)])), ((Q 13), .inl (dA 6, 8, .inr (.inr (.inr (.inr hs))))), ((Q 14), .inl (dA 1, 8, .inl ln)), ((Q 15), .inl (dA 4, 8, .inl th)), (b, .inl (dA 0, 4096, .inl f0)), ((Q 16), .inr (6, [.ref (v.1 0), .ref (v.1 1), .ref (v.1 2), .ref (v.1 3), .ref (v.1 4), .ref (v.1 5), .ref (v.1 6), .ref (v.1 7), .ref (v.1 8), .ref (v.1 9), .int (nI (js_cnt 32 v0)), .ref (v.1 10), .int (nI (js_uu 32 v0))])), ((v.1 0), .inl (dA 1, (js_cp (max M (js_cnt 32 v0))), .inl (v.2.1 0))), ((v.1 1), .inl (dA 2, (js_cp (max M (js_cnt 32 v0))), .inr (.inl v.2.2.1))), ((v.1 2), .inl (dA 1, (js_cp (max M (js_cnt 32 v0))), .inl (v.2.1 2))), ((v.1 3), .inl (dA 1, (js_cp (max M (js_cnt 32 v0))), .inl (v.2.1 3))), ((v.1 4), .inl (dA 1, (js_cp (max M (js_cnt 32 v0))), .inl (v.2.1 4))), ((v.1 5), .inl (dA 1, (js_cp (max M (js_cnt 32 v0))), .inl (v.2.1 5))), ((v.1 6), .inl (dA 1, (js_cp (max M (js_cnt 32 v0))), .inl (v.2.1 6))), ((v.1 7), .inl (dA 1, (js_cp (max M (js_cnt 32 v0))), .inl (v.2.1 7))), ((v.1 8), .inl (dA 1, (js_cp (max M (js_cnt 32 v0))), .inl (v.2.1 8))), ((v.1 9), .inl (dA 1, (js_cp (max M (js_cnt 32 v0))), .inl (v.2.1 9))), ((v.1 10), .inl (dA 3, (js_cu (max Mu (js_uu 32 v0))), .inl (v.2.1 10)))]) ((js_cp (max M (js_cnt 32 v0)) - js_cp M) + (js_cu (max Mu (js_uu 32 v0)) - js_cu Mu)) (20 * (js_cp (max M (js_cnt 32 v0)) - js_cp M) + 2 * (js_cu (max Mu (js_uu 32 v0)) - js_cu Mu)) := by
  refine jv_M.of [(0, .ref o), (1, .int (nI s)), (2, .int 0)] (by decide) (Nat.le_of_ble_eq_true rfl) rfl ?_
  intro pR eR sR mR belowR methR cR AR C hr hin
  refine jv_aload_n C (jd D_Md_about 0 rfl) rfl 0 rfl ?_
  refine jv_iload_n C (jd D_Md_about 1 rfl) rfl 1 rfl ?_
  refine jv_callS (wr := [(o, .inr (7, [.ref (Q 0), .int (K 1), .ref (Q 2), .int (K 3), .int (K 4), .int (K 5), vt, .int (K 7), .int (K 8), .int (K 9), .ref (Q 10), .int (K 11), .int (K 12), .ref (Q 13), .ref (Q 14), .ref (Q 15), .ref (Q 16), .ref (Q 17)])), ((Q 13), .inl (dA 6, 8, .inr (.inr (.inr (.inr hs))))), ((Q 14), .inl (dA 1, 8, .inl ln)), ((Q 15), .inl (dA 4, 8, .inl th)), (b, .inl (dA 0, 4096, .inl f0)), ((Q 16), .inr (6, [.ref (A 0), .ref (A 1), .ref (A 2), .ref (A 3), .ref (A 4), .ref (A 5), .ref (A 6), .ref (A 7), .ref (A 8), .ref (A 9), .int (nI c), .ref (A 10), .int (nI u)])), ((A 0), .inl (dA 1, (js_cp M), .inl (F 0))), ((A 1), .inl (dA 2, (js_cp M), .inr (.inl G))), ((A 2), .inl (dA 1, (js_cp M), .inl (F 2))), ((A 3), .inl (dA 1, (js_cp M), .inl (F 3))), ((A 4), .inl (dA 1, (js_cp M), .inl (F 4))), ((A 5), .inl (dA 1, (js_cp M), .inl (F 5))), ((A 6), .inl (dA 1, (js_cp M), .inl (F 6))), ((A 7), .inl (dA 1, (js_cp M), .inl (F 7))), ((A 8), .inl (dA 1, (js_cp M), .inl (F 8))), ((A 9), .inl (dA 1, (js_cp M), .inl (F 9))), ((A 10), .inl (dA 3, (js_cu Mu), .inl (F 10)))]) C cl_Md_248 (c_Md_isSlot (nI s)) [] [0, 1, 2, 3, 4, 5, 6, 7, 8, 9, 10, 11, 12, 13, 14, 15, 16] rfl rfl rfl rfl (by decide) ⟨Nat.le_of_ble_eq_true rfl, Nat.le_of_ble_eq_true rfl⟩ ⟨(by simp only [jv_rm]; omega), (by simp only [jv_rm]; omega)⟩ rfl rfl (Nat.le_of_ble_eq_true rfl) (jd D_Md_about 2 rfl) (fun v1 _ ks1 => ?_)
  obtain ⟨rs1, rfl, ks1⟩ := ks1
  refine jv_fix [0, 1, 2, 3, 4, 5, 6, 7, 8, 9, 10, 11, 12, 13, 14, 15, 16] [(o, .inr (7, [.ref (Q 0), .int (K 1), .ref (Q 2), .int (K 3), .int (K 4), .int (K 5), vt, .int (K 7), .int (K 8), .int (K 9), .ref (Q 10), .int (K 11), .int (K 12), .ref (Q 13), .ref (Q 14), .ref (Q 15), .ref (Q 16), .ref (Q 17)])), ((Q 13), .inl (dA 6, 8, .inr (.inr (.inr (.inr hs))))), ((Q 14), .inl (dA 1, 8, .inl ln)), ((Q 15), .inl (dA 4, 8, .inl th)), (b, .inl (dA 0, 4096, .inl f0)), ((Q 16), .inr (6, [.ref (A 0), .ref (A 1), .ref (A 2), .ref (A 3), .ref (A 4), .ref (A 5), .ref (A 6), .ref (A 7), .ref (A 8), .ref (A 9), .int (nI c), .ref (A 10), .int (nI u)])), ((A 0), .inl (dA 1, (js_cp M), .inl (F 0))), ((A 1), .inl (dA 2, (js_cp M), .inr (.inl G))), ((A 2), .inl (dA 1, (js_cp M), .inl (F 2))), ((A 3), .inl (dA 1, (js_cp M), .inl (F 3))), ((A 4), .inl (dA 1, (js_cp M), .inl (F 4))), ((A 5), .inl (dA 1, (js_cp M), .inl (F 5))), ((A 6), .inl (dA 1, (js_cp M), .inl (F 6))), ((A 7), .inl (dA 1, (js_cp M), .inl (F 7))), ((A 8), .inl (dA 1, (js_cp M), .inl (F 8))), ((A 9), .inl (dA 1, (js_cp M), .inl (F 9))), ((A 10), .inl (dA 3, (js_cu Mu), .inl (F 10)))] [.int rs1, .ref o] 0 0 rfl rfl rfl (Nat.le_refl _) (Nat.le_refl _) ?_
  have ks1 : rs1 = 1 := ks1.trans (js_sl1 hs8)
  subst ks1
  refine jv_if_eq (tgt := 21) C (jd D_Md_about 3 rfl) (by decide) (fun c5 => absurd c5 (by decide)) (fun c5 => ?_)
  refine jv_iload_n C (jd D_Md_about 4 rfl) rfl 2 rfl ?_
  refine jv_if_lt (tgt := 21) C (jd D_Md_about 5 rfl) (by decide) (fun c9 => absurd c9 (by decide)) (fun c9 => ?_)
  refine jv_iload_n C (jd D_Md_about 6 rfl) rfl 2 rfl ?_
  refine jv_iconst (v := 3) C (jd D_Md_about 7 rfl) (by decide) ?_
  refine jv_icmp_gt (tgt := 21) C (jd D_Md_about 8 rfl) (by decide) (fun c14 => absurd c14 (by decide)) (fun c14 => ?_)
  refine jv_iconst (v := 1) C (jd D_Md_about 9 rfl) (by decide) ?_
  refine jv_goto (tgt := 22) C (jd D_Md_about 10 rfl) (by decide) ?_
  refine jv_iconst (v := 1) C (jd D_Md_about 12 rfl) (by decide) ?_
  refine jv_callV (wr := [((Q 13), .inl (dA 6, 8, .inr (.inr (.inr (.inr hs))))), ((Q 14), .inl (dA 1, 8, .inl ln)), ((Q 15), .inl (dA 4, 8, .inl th)), (b, .inl (dA 0, 4096, .inl f0)), ((Q 16), .inr (6, [.ref (A 0), .ref (A 1), .ref (A 2), .ref (A 3), .ref (A 4), .ref (A 5), .ref (A 6), .ref (A 7), .ref (A 8), .ref (A 9), .int (nI c), .ref (A 10), .int (nI u)])), ((A 0), .inl (dA 1, (js_cp M), .inl (F 0))), ((A 1), .inl (dA 2, (js_cp M), .inr (.inl G))), ((A 2), .inl (dA 1, (js_cp M), .inl (F 2))), ((A 3), .inl (dA 1, (js_cp M), .inl (F 3))), ((A 4), .inl (dA 1, (js_cp M), .inl (F 4))), ((A 5), .inl (dA 1, (js_cp M), .inl (F 5))), ((A 6), .inl (dA 1, (js_cp M), .inl (F 6))), ((A 7), .inl (dA 1, (js_cp M), .inl (F 7))), ((A 8), .inl (dA 1, (js_cp M), .inl (F 8))), ((A 9), .inl (dA 1, (js_cp M), .inl (F 9))), ((A 10), .inl (dA 3, (js_cu Mu), .inl (F 10)))]) C cl_Md_104 (c_Md_good_1 o Q (js_rows [0, (K 1), 0, (K 3), (K 4), (K 5), 0, (K 7), (K 8), (K 9), 0, (K 11), (K 12), 0, 0, 0, 0, 0] 0) vt 1) [0] [1, 2, 3, 4, 5, 6, 7, 8, 9, 10, 11, 12, 13, 14, 15, 16] rfl rfl rfl rfl (by decide) rfl rfl 0 rfl ⟨Nat.le_of_ble_eq_true rfl, Nat.le_of_ble_eq_true rfl⟩ ⟨(by simp only [jv_rm]; omega), (by simp only [jv_rm]; omega)⟩ rfl rfl (Nat.le_of_ble_eq_true rfl) (jd D_Md_about 13 rfl) (fun v2 _ kg3 => ?_)
  obtain ⟨rg3, rfl, kg3⟩ := kg3
  refine jv_fix [16, 0, 1, 2, 3, 4, 5, 6, 7, 8, 9, 10, 11, 12, 13, 14, 15] [(o, .inr (7, [.ref (Q 0), .int (K 1), .ref (Q 2), .int (K 3), .int 0, .int (K 5), vt, .int (K 7), .int (K 8), .int (K 9), .ref (Q 10), .int (K 11), .int (K 12), .ref (Q 13), .ref (Q 14), .ref (Q 15), .ref (Q 16), .ref (Q 17)])), ((Q 13), .inl (dA 6, 8, .inr (.inr (.inr (.inr hs))))), ((Q 14), .inl (dA 1, 8, .inl ln)), ((Q 15), .inl (dA 4, 8, .inl th)), (b, .inl (dA 0, 4096, .inl f0)), ((Q 16), .inr (6, [.ref (A 0), .ref (A 1), .ref (A 2), .ref (A 3), .ref (A 4), .ref (A 5), .ref (A 6), .ref (A 7), .ref (A 8), .ref (A 9), .int (nI c), .ref (A 10), .int (nI u)])), ((A 0), .inl (dA 1, (js_cp M), .inl (F 0))), ((A 1), .inl (dA 2, (js_cp M), .inr (.inl G))), ((A 2), .inl (dA 1, (js_cp M), .inl (F 2))), ((A 3), .inl (dA 1, (js_cp M), .inl (F 3))), ((A 4), .inl (dA 1, (js_cp M), .inl (F 4))), ((A 5), .inl (dA 1, (js_cp M), .inl (F 5))), ((A 6), .inl (dA 1, (js_cp M), .inl (F 6))), ((A 7), .inl (dA 1, (js_cp M), .inl (F 7))), ((A 8), .inl (dA 1, (js_cp M), .inl (F 8))), ((A 9), .inl (dA 1, (js_cp M), .inl (F 9))), ((A 10), .inl (dA 3, (js_cu Mu), .inl (F 10)))] [.int rg3] 0 0 rfl rfl rfl (Nat.le_refl _) (Nat.le_refl _) ?_
  subst kg3
  refine jv_if_eq (tgt := 43) C (jd D_Md_about 14 rfl) (by decide) (fun c26 => absurd c26 (by decide)) (fun c26 => ?_)
  refine jv_aload_n C (jd D_Md_about 15 rfl) rfl 0 rfl ?_
  refine jv_aload_n C (jd D_Md_about 16 rfl) rfl 0 rfl ?_
  refine jv_get C fl_Md_32 0 rfl rfl (jd D_Md_about 17 rfl) ?_
  refine jv_iload_n C (jd D_Md_about 18 rfl) rfl 1 rfl ?_
  refine jv_zald C 3 rfl (vp_in_nI hs8 (by decide)) (jd D_Md_about 19 rfl) ?_
  refine jv_ati (y := 1) (by rw [nI_clamp (by omega)]; exact hth) ?_
  refine jv_iconst (v := 2) C (jd D_Md_about 20 rfl) (by decide) ?_
  refine jv_callV (wr := [((Q 13), .inl (dA 6, 8, .inr (.inr (.inr (.inr hs))))), ((Q 14), .inl (dA 1, 8, .inl ln)), ((Q 15), .inl (dA 4, 8, .inl th)), (b, .inl (dA 0, 4096, .inl f0)), ((Q 16), .inr (6, [.ref (A 0), .ref (A 1), .ref (A 2), .ref (A 3), .ref (A 4), .ref (A 5), .ref (A 6), .ref (A 7), .ref (A 8), .ref (A 9), .int (nI c), .ref (A 10), .int (nI u)])), ((A 0), .inl (dA 1, (js_cp M), .inl (F 0))), ((A 1), .inl (dA 2, (js_cp M), .inr (.inl G))), ((A 2), .inl (dA 1, (js_cp M), .inl (F 2))), ((A 3), .inl (dA 1, (js_cp M), .inl (F 3))), ((A 4), .inl (dA 1, (js_cp M), .inl (F 4))), ((A 5), .inl (dA 1, (js_cp M), .inl (F 5))), ((A 6), .inl (dA 1, (js_cp M), .inl (F 6))), ((A 7), .inl (dA 1, (js_cp M), .inl (F 7))), ((A 8), .inl (dA 1, (js_cp M), .inl (F 8))), ((A 9), .inl (dA 1, (js_cp M), .inl (F 9))), ((A 10), .inl (dA 3, (js_cu Mu), .inl (F 10)))]) C cl_Md_104 (c_Md_good_1 o Q (js_rows [0, (K 1), 0, (K 3), 0, (K 5), 0, (K 7), (K 8), (K 9), 0, (K 11), (K 12), 0, 0, 0, 0, 0] 0) vt 2) [0] [1, 2, 3, 4, 5, 6, 7, 8, 9, 10, 11, 12, 13, 14, 15, 16] rfl rfl rfl rfl (by decide) rfl rfl 0 rfl ⟨Nat.le_of_ble_eq_true rfl, Nat.le_of_ble_eq_true rfl⟩ ⟨(by simp only [jv_rm]; omega), (by simp only [jv_rm]; omega)⟩ rfl rfl (Nat.le_of_ble_eq_true rfl) (jd D_Md_about 21 rfl) (fun v3 _ kg4 => ?_)
  obtain ⟨rg4, rfl, kg4⟩ := kg4
  refine jv_fix [16, 0, 1, 2, 3, 4, 5, 6, 7, 8, 9, 10, 11, 12, 13, 14, 15] [(o, .inr (7, [.ref (Q 0), .int (K 1), .ref (Q 2), .int (K 3), .int 0, .int (K 5), vt, .int (K 7), .int (K 8), .int (K 9), .ref (Q 10), .int (K 11), .int (K 12), .ref (Q 13), .ref (Q 14), .ref (Q 15), .ref (Q 16), .ref (Q 17)])), ((Q 13), .inl (dA 6, 8, .inr (.inr (.inr (.inr hs))))), ((Q 14), .inl (dA 1, 8, .inl ln)), ((Q 15), .inl (dA 4, 8, .inl th)), (b, .inl (dA 0, 4096, .inl f0)), ((Q 16), .inr (6, [.ref (A 0), .ref (A 1), .ref (A 2), .ref (A 3), .ref (A 4), .ref (A 5), .ref (A 6), .ref (A 7), .ref (A 8), .ref (A 9), .int (nI c), .ref (A 10), .int (nI u)])), ((A 0), .inl (dA 1, (js_cp M), .inl (F 0))), ((A 1), .inl (dA 2, (js_cp M), .inr (.inl G))), ((A 2), .inl (dA 1, (js_cp M), .inl (F 2))), ((A 3), .inl (dA 1, (js_cp M), .inl (F 3))), ((A 4), .inl (dA 1, (js_cp M), .inl (F 4))), ((A 5), .inl (dA 1, (js_cp M), .inl (F 5))), ((A 6), .inl (dA 1, (js_cp M), .inl (F 6))), ((A 7), .inl (dA 1, (js_cp M), .inl (F 7))), ((A 8), .inl (dA 1, (js_cp M), .inl (F 8))), ((A 9), .inl (dA 1, (js_cp M), .inl (F 9))), ((A 10), .inl (dA 3, (js_cu Mu), .inl (F 10)))] [.int rg4] 0 0 rfl rfl rfl (Nat.le_refl _) (Nat.le_refl _) ?_
  subst kg4
  refine jv_if_ne (tgt := 45) C (jd D_Md_about 22 rfl) (by decide) (fun c40 => ?_) (fun c40 => absurd c40 (by decide))
  refine jv_aload_n C (jd D_Md_about 25 rfl) rfl 0 rfl ?_
  refine jv_aload_n C (jd D_Md_about 26 rfl) rfl 0 rfl ?_
  refine jv_get C fl_Md_25 0 rfl rfl (jd D_Md_about 27 rfl) ?_
  refine jv_iload_n C (jd D_Md_about 28 rfl) rfl 1 rfl ?_
  refine jv_aldb (h := b) C 1 rfl (vp_in_nI hs8 (by decide)) (by rw [nI_clamp (by omega)]; exact hsb) (jd D_Md_about 29 rfl) ?_
  refine jv_aload_n C (jd D_Md_about 30 rfl) rfl 0 rfl ?_
  refine jv_get C fl_Md_28 0 rfl rfl (jd D_Md_about 31 rfl) ?_
  refine jv_iload_n C (jd D_Md_about 32 rfl) rfl 1 rfl ?_
  refine jv_iald C 2 rfl (vp_in_nI hs8 (by decide)) (jd D_Md_about 33 rfl) ?_
  refine jv_ati (y := nI t.length) (by rw [nI_clamp (by omega)]; exact hln) ?_
  refine jv_aload_n C (jd D_Md_about 34 rfl) rfl 0 rfl ?_
  refine jv_get C fl_Md_39 0 rfl rfl (jd D_Md_about 35 rfl) ?_
  refine jv_callV (wr := [((Q 13), .inl (dA 6, 8, .inr (.inr (.inr (.inr hs))))), ((Q 14), .inl (dA 1, 8, .inl ln)), ((Q 15), .inl (dA 4, 8, .inl th))]) C cl_Md_253 (c_Md_read3_ok o Q (js_rows [0, (K 1), 0, (K 3), 0, (K 5), 0, (K 7), (K 8), (K 9), 0, (K 11), (K 12), 0, 0, 0, 0, 0] 0) vt b 4096 f0 t (Q 16) A M Mu F G c u v0 h4 (by decide) ht h4 hM4 hMu4 hrd) [0, 4, 5, 6, 7, 8, 9, 10, 11, 12, 13, 14, 15, 16] [1, 2, 3] rfl rfl rfl rfl (by decide) rfl rfl 0 rfl ⟨Nat.le_of_ble_eq_true rfl, Nat.le_of_ble_eq_true rfl⟩ ⟨(by simp only [jv_rm]; omega), (by simp only [jv_rm]; omega)⟩ rfl rfl (Nat.le_of_ble_eq_true rfl) (jd D_Md_about 36 rfl) (fun v4 w5 k5 => ?_)
  obtain ⟨r5, rfl, k5⟩ := k5
  refine jv_fix [3, 0, 1, 2, 4, 5, 6, 7, 8, 9, 10, 11, 12, 13, 14, 15, 16] [(o, .inr (7, [.ref (Q 0), .int (K 1), .ref (Q 2), .int (K 3), .int 0, .int (K 5), .ref b, .int w5.2.2.2, .int (nI t.length), .int (-1), .ref (Q 10), .int (K 11), .int (K 12), .ref (Q 13), .ref (Q 14), .ref (Q 15), .ref (Q 16), .ref (Q 17)])), ((Q 13), .inl (dA 6, 8, .inr (.inr (.inr (.inr hs))))), ((Q 14), .inl (dA 1, 8, .inl ln)), ((Q 15), .inl (dA 4, 8, .inl th)), (b, .inl (dA 0, 4096, .inl f0)), ((Q 16), .inr (6, [.ref (w5.1 0), .ref (w5.1 1), .ref (w5.1 2), .ref (w5.1 3), .ref (w5.1 4), .ref (w5.1 5), .ref (w5.1 6), .ref (w5.1 7), .ref (w5.1 8), .ref (w5.1 9), .int (nI (js_cnt 32 v0)), .ref (w5.1 10), .int (nI (js_uu 32 v0))])), ((w5.1 0), .inl (dA 1, (js_cp (max M (js_cnt 32 v0))), .inl (w5.2.1 0))), ((w5.1 1), .inl (dA 2, (js_cp (max M (js_cnt 32 v0))), .inr (.inl w5.2.2.1))), ((w5.1 2), .inl (dA 1, (js_cp (max M (js_cnt 32 v0))), .inl (w5.2.1 2))), ((w5.1 3), .inl (dA 1, (js_cp (max M (js_cnt 32 v0))), .inl (w5.2.1 3))), ((w5.1 4), .inl (dA 1, (js_cp (max M (js_cnt 32 v0))), .inl (w5.2.1 4))), ((w5.1 5), .inl (dA 1, (js_cp (max M (js_cnt 32 v0))), .inl (w5.2.1 5))), ((w5.1 6), .inl (dA 1, (js_cp (max M (js_cnt 32 v0))), .inl (w5.2.1 6))), ((w5.1 7), .inl (dA 1, (js_cp (max M (js_cnt 32 v0))), .inl (w5.2.1 7))), ((w5.1 8), .inl (dA 1, (js_cp (max M (js_cnt 32 v0))), .inl (w5.2.1 8))), ((w5.1 9), .inl (dA 1, (js_cp (max M (js_cnt 32 v0))), .inl (w5.2.1 9))), ((w5.1 10), .inl (dA 3, (js_cu (max Mu (js_uu 32 v0))), .inl (w5.2.1 10)))] [.int r5] ((js_cp (max M (js_cnt 32 v0)) - js_cp M) + (js_cu (max Mu (js_uu 32 v0)) - js_cu Mu)) (20 * (js_cp (max M (js_cnt 32 v0)) - js_cp M) + 2 * (js_cu (max Mu (js_uu 32 v0)) - js_cu Mu)) rfl rfl rfl (by omega) (by omega) ?_
  obtain ⟨e5, hV5, hC5⟩ := k5
  subst e5
  refine jv_istore_n C [(3, .int 0), (0, .ref o), (1, .int (nI s)), (2, .int 0)] (jd D_Md_about 37 rfl) rfl (by decide) rfl ?_
  obtain ⟨ok1, hle1⟩ := js_rd_ok ht.by hrd
  have hc1 := js_cnt_len ok1
  have hc0 := js_cnt_pos 32 v0
  have hu1 := js_uu_le 32 v0 ok1
  have hb1 := js_cp_b (max M (js_cnt 32 v0))
  have hb2_ := js_cu_b (max Mu (js_uu 32 v0))
  have hkr := js_TV_kr hV5
  have hk7 : js_kr 32 v0 < 7 := js_kr_lt ok1
  refine jv_aload_n C (jd D_Md_about 38 rfl) rfl 1 rfl ?_
  refine jv_get C fl_Md_39 0 rfl rfl (jd D_Md_about 39 rfl) ?_
  refine jv_get C fl_Md_46 5 rfl rfl (jd D_Md_about 40 rfl) ?_
  refine jv_iload_n C (jd D_Md_about 41 rfl) rfl 0 rfl ?_
  refine jv_iald C 6 rfl (vp_in_nI (n := 0) (by omega) (by omega)) (jd D_Md_about 42 rfl) ?_
  refine jv_ati (y := nI (js_kr 32 v0)) (hkr) ?_
  refine jv_istore C [(4, .int (nI (js_kr 32 v0))), (3, .int 0), (0, .ref o), (1, .int (nI s)), (2, .int 0)] (jd D_Md_about 43 rfl) (by decide) rfl ?_
  refine jv_iload_n C (jd D_Md_about 44 rfl) rfl 4 rfl ?_
  refine jv_if_ne (tgt := 107) C (jd D_Md_about 45 rfl) (by decide) (fun c78 => absurd c78 (fun z => z rfl)) (fun c78 => ?_)
  refine jv_iload C (jd D_Md_about 46 rfl) 0 rfl ?_
  refine jv_iconst (v := 1) C (jd D_Md_about 47 rfl) (by decide) ?_
  refine jv_icmp_ne (tgt := 93) C (jd D_Md_about 48 rfl) (by decide) (fun c84 => ?_) (fun c84 => ?_)
  · refine jv_iload C (jd D_Md_about 51 rfl) 0 rfl ?_
    refine jv_iconst (v := 2) C (jd D_Md_about 52 rfl) (by decide) ?_
    refine jv_icmp_ne (tgt := 103) C (jd D_Md_about 53 rfl) (by decide) (fun c96 => ?_) (fun c96 => ?_)
    · refine jv_iload C (jd D_Md_about 56 rfl) 0 rfl ?_
      refine jv_i2l C (jd D_Md_about 57 rfl) ?_
      exact jv_lret C hr w5 (by rw [if_neg (fun z => c84 (by rw [z]; rfl)), if_neg (fun z => c96 (by rw [z]; rfl))]) [0, 1, 2, 3, 4, 5, 6, 7, 8, 9, 10, 11, 12, 13, 14, 15, 16] rfl rfl (by omega) (by omega) (jd D_Md_about 58 rfl)
    · refine jv_lconst (v := 1) C (jd D_Md_about 54 rfl) (by decide) ?_
      refine jv_goto (tgt := 106) C (jd D_Md_about 55 rfl) (by decide) ?_
      exact jv_lret C hr w5 (by rw [(nI_eq (b := 2) (by omega) (by decide)).mp c96]; rfl) [0, 1, 2, 3, 4, 5, 6, 7, 8, 9, 10, 11, 12, 13, 14, 15, 16] rfl rfl (by omega) (by omega) (jd D_Md_about 58 rfl)
  · refine jv_ldc2_w (v := 2) C (jm5 (List.mem_of_getElem? (i := 129) rfl)) (jd D_Md_about 49 rfl) ?_
    refine jv_goto (tgt := 106) C (jd D_Md_about 50 rfl) (by decide) ?_
    exact jv_lret C hr w5 (by rw [(nI_eq (b := 1) (by omega) (by decide)).mp c84]; rfl) [0, 1, 2, 3, 4, 5, 6, 7, 8, 9, 10, 11, 12, 13, 14, 15, 16] rfl rfl (by omega) (by omega) (jd D_Md_about 58 rfl)

set_option maxHeartbeats 4000000 in
set_option maxRecDepth 100000 in
/-- about 2 -/
theorem c_Md_about_2 {l : Launch} {D : va_G} {dA : Nat → ClassId} {zz : (Nat → Nat) × (Nat → Nat)} (o : Nat) (Q : Nat → Nat) (K : Nat → Int32) (vt : Value) (hs : Nat → Option Nat) (ln th : Nat → Int32) (b : Nat) (f0 : Nat → Int32) (t : List Nat) (A : Nat → Nat) (M Mu : Nat) (F : Nat → Nat → Int32) (G : Nat → Int64) (c u : Nat) (s : Nat) (v0 : js_J 32) (ht : js_tx f0 t) (h4 : t.length ≤ 4096) (hs8 : s < 8) (hsb : hs s = some b) (hth : th s = 1) (hln : ln s = nI t.length) (hrd : js_rd t = .inr v0) (hM4 : M ≤ 4096) (hMu4 : Mu ≤ 4096) : jv_M l D dA zz y_Md_about b_Md_about 9 (some (FieldType.long)) 73 [.ref o, .int (nI s), .int 2] [(o, .inr (7, [.ref (Q 0), .int (K 1), .ref (Q 2), .int (K 3), .int (K 4), .int (K 5), vt, .int (K 7), .int (K 8), .int (K 9), .ref (Q 10), .int (K 11), .int (K 12), .ref (Q 13), .ref (Q 14), .ref (Q 15), .ref (Q 16), .ref (Q 17)])), ((Q 13), .inl (dA 6, 8, .inr (.inr (.inr (.inr hs))))), ((Q 14), .inl (dA 1, 8, .inl ln)), ((Q 15), .inl (dA 4, 8, .inl th)), (b, .inl (dA 0, 4096, .inl f0)), ((Q 16), .inr (6, [.ref (A 0), .ref (A 1), .ref (A 2), .ref (A 3), .ref (A 4), .ref (A 5), .ref (A 6), .ref (A 7), .ref (A 8), .ref (A 9), .int (nI c), .ref (A 10), .int (nI u)])), ((A 0), .inl (dA 1, (js_cp M), .inl (F 0))), ((A 1), .inl (dA 2, (js_cp M), .inr (.inl G))), ((A 2), .inl (dA 1, (js_cp M), .inl (F 2))), ((A 3), .inl (dA 1, (js_cp M), .inl (F 3))), ((A 4), .inl (dA 1, (js_cp M), .inl (F 4))), ((A 5), .inl (dA 1, (js_cp M), .inl (F 5))), ((A 6), .inl (dA 1, (js_cp M), .inl (F 6))), ((A 7), .inl (dA 1, (js_cp M), .inl (F 7))), ((A 8), .inl (dA 1, (js_cp M), .inl (F 8))), ((A 9), .inl (dA 1, (js_cp M), .inl (F 9))), ((A 10), .inl (dA 3, (js_cu Mu), .inl (F 10)))] (jv_pl fun r (_ : (Nat → Nat) × (Nat → Nat → Int32) × (Nat → Int64) × Int32) => r = (nI (js_dep 32 v0)).toInt64) (fun v => [(o, .inr (7, [.ref (Q 0), .int (K 1), .ref (Q 2), .int (K 3), .int 0, .int (K 5), .ref b, .int v.2.2.2, .int (nI t.length), .int (-1), .ref (Q 10), .int (K 11), .int (K 12), .ref (Q 13), .ref (Q 14), .ref (Q 15), .ref (Q 16), .ref (Q 17)])), ((Q 13), .inl (dA 6, 8, .inr (.inr (.inr (.inr hs))))), ((Q 14), .inl (dA 1, 8, .inl ln)), ((Q 15), .inl (dA 4, 8, .inl th)), (b, .inl (dA 0, 4096, .inl f0)), ((Q 16), .inr (6, [.ref (v.1 0), .ref (v.1 1), .ref (v.1 2), .ref (v.1 3), .ref (v.1 4), .ref (v.1 5), .ref (v.1 6), .ref (v.1 7), .ref (v.1 8), .ref (v.1 9), .int (nI (js_cnt 32 v0)), .ref (v.1 10), .int (nI (js_uu 32 v0))])), ((v.1 0), .inl (dA 1, (js_cp (max M (js_cnt 32 v0))), .inl (v.2.1 0))), ((v.1 1), .inl (dA 2, (js_cp (max M (js_cnt 32 v0))), .inr (.inl v.2.2.1))), ((v.1 2), .inl (dA 1, (js_cp (max M (js_cnt 32 v0))), .inl (v.2.1 2))), ((v.1 3), .inl (dA 1, (js_cp (max M (js_cnt 32 v0))), .inl (v.2.1 3))), ((v.1 4), .inl (dA 1, (js_cp (max M (js_cnt 32 v0))), .inl (v.2.1 4))), ((v.1 5), .inl (dA 1, (js_cp (max M (js_cnt 32 v0))), .inl (v.2.1 5))), ((v.1 6), .inl (dA 1, (js_cp (max M (js_cnt 32 v0))), .inl (v.2.1 6))), ((v.1 7), .inl (dA 1, (js_cp (max M (js_cnt 32 v0))), .inl (v.2.1 7))), ((v.1 8), .inl (dA 1, (js_cp (max M (js_cnt 32 v0))), .inl (v.2.1 8))), ((v.1 9), .inl (dA 1, (js_cp (max M (js_cnt 32 v0))), .inl (v.2.1 9))), ((v.1 10), .inl (dA 3, (js_cu (max Mu (js_uu 32 v0))), .inl (v.2.1 10)))]) ((js_cp (max M (js_cnt 32 v0)) - js_cp M) + (js_cu (max Mu (js_uu 32 v0)) - js_cu Mu)) (20 * (js_cp (max M (js_cnt 32 v0)) - js_cp M) + 2 * (js_cu (max Mu (js_uu 32 v0)) - js_cu Mu)) := by
  refine jv_M.of [(0, .ref o), (1, .int (nI s)), (2, .int 2)] (by decide) (Nat.le_of_ble_eq_true rfl) rfl ?_
  intro pR eR sR mR belowR methR cR AR C hr hin
  refine jv_aload_n C (jd D_Md_about 0 rfl) rfl 0 rfl ?_
  refine jv_iload_n C (jd D_Md_about 1 rfl) rfl 1 rfl ?_
  refine jv_callS (wr := [(o, .inr (7, [.ref (Q 0), .int (K 1), .ref (Q 2), .int (K 3), .int (K 4), .int (K 5), vt, .int (K 7), .int (K 8), .int (K 9), .ref (Q 10), .int (K 11), .int (K 12), .ref (Q 13), .ref (Q 14), .ref (Q 15), .ref (Q 16), .ref (Q 17)])), ((Q 13), .inl (dA 6, 8, .inr (.inr (.inr (.inr hs))))), ((Q 14), .inl (dA 1, 8, .inl ln)), ((Q 15), .inl (dA 4, 8, .inl th)), (b, .inl (dA 0, 4096, .inl f0)), ((Q 16), .inr (6, [.ref (A 0), .ref (A 1), .ref (A 2), .ref (A 3), .ref (A 4), .ref (A 5), .ref (A 6), .ref (A 7), .ref (A 8), .ref (A 9), .int (nI c), .ref (A 10), .int (nI u)])), ((A 0), .inl (dA 1, (js_cp M), .inl (F 0))), ((A 1), .inl (dA 2, (js_cp M), .inr (.inl G))), ((A 2), .inl (dA 1, (js_cp M), .inl (F 2))), ((A 3), .inl (dA 1, (js_cp M), .inl (F 3))), ((A 4), .inl (dA 1, (js_cp M), .inl (F 4))), ((A 5), .inl (dA 1, (js_cp M), .inl (F 5))), ((A 6), .inl (dA 1, (js_cp M), .inl (F 6))), ((A 7), .inl (dA 1, (js_cp M), .inl (F 7))), ((A 8), .inl (dA 1, (js_cp M), .inl (F 8))), ((A 9), .inl (dA 1, (js_cp M), .inl (F 9))), ((A 10), .inl (dA 3, (js_cu Mu), .inl (F 10)))]) C cl_Md_248 (c_Md_isSlot (nI s)) [] [0, 1, 2, 3, 4, 5, 6, 7, 8, 9, 10, 11, 12, 13, 14, 15, 16] rfl rfl rfl rfl (by decide) ⟨Nat.le_of_ble_eq_true rfl, Nat.le_of_ble_eq_true rfl⟩ ⟨(by simp only [jv_rm]; omega), (by simp only [jv_rm]; omega)⟩ rfl rfl (Nat.le_of_ble_eq_true rfl) (jd D_Md_about 2 rfl) (fun v1 _ ks1 => ?_)
  obtain ⟨rs1, rfl, ks1⟩ := ks1
  refine jv_fix [0, 1, 2, 3, 4, 5, 6, 7, 8, 9, 10, 11, 12, 13, 14, 15, 16] [(o, .inr (7, [.ref (Q 0), .int (K 1), .ref (Q 2), .int (K 3), .int (K 4), .int (K 5), vt, .int (K 7), .int (K 8), .int (K 9), .ref (Q 10), .int (K 11), .int (K 12), .ref (Q 13), .ref (Q 14), .ref (Q 15), .ref (Q 16), .ref (Q 17)])), ((Q 13), .inl (dA 6, 8, .inr (.inr (.inr (.inr hs))))), ((Q 14), .inl (dA 1, 8, .inl ln)), ((Q 15), .inl (dA 4, 8, .inl th)), (b, .inl (dA 0, 4096, .inl f0)), ((Q 16), .inr (6, [.ref (A 0), .ref (A 1), .ref (A 2), .ref (A 3), .ref (A 4), .ref (A 5), .ref (A 6), .ref (A 7), .ref (A 8), .ref (A 9), .int (nI c), .ref (A 10), .int (nI u)])), ((A 0), .inl (dA 1, (js_cp M), .inl (F 0))), ((A 1), .inl (dA 2, (js_cp M), .inr (.inl G))), ((A 2), .inl (dA 1, (js_cp M), .inl (F 2))), ((A 3), .inl (dA 1, (js_cp M), .inl (F 3))), ((A 4), .inl (dA 1, (js_cp M), .inl (F 4))), ((A 5), .inl (dA 1, (js_cp M), .inl (F 5))), ((A 6), .inl (dA 1, (js_cp M), .inl (F 6))), ((A 7), .inl (dA 1, (js_cp M), .inl (F 7))), ((A 8), .inl (dA 1, (js_cp M), .inl (F 8))), ((A 9), .inl (dA 1, (js_cp M), .inl (F 9))), ((A 10), .inl (dA 3, (js_cu Mu), .inl (F 10)))] [.int rs1, .ref o] 0 0 rfl rfl rfl (Nat.le_refl _) (Nat.le_refl _) ?_
  have ks1 : rs1 = 1 := ks1.trans (js_sl1 hs8)
  subst ks1
  refine jv_if_eq (tgt := 21) C (jd D_Md_about 3 rfl) (by decide) (fun c5 => absurd c5 (by decide)) (fun c5 => ?_)
  refine jv_iload_n C (jd D_Md_about 4 rfl) rfl 2 rfl ?_
  refine jv_if_lt (tgt := 21) C (jd D_Md_about 5 rfl) (by decide) (fun c9 => absurd c9 (by decide)) (fun c9 => ?_)
  refine jv_iload_n C (jd D_Md_about 6 rfl) rfl 2 rfl ?_
  refine jv_iconst (v := 3) C (jd D_Md_about 7 rfl) (by decide) ?_
  refine jv_icmp_gt (tgt := 21) C (jd D_Md_about 8 rfl) (by decide) (fun c14 => absurd c14 (by decide)) (fun c14 => ?_)
  refine jv_iconst (v := 1) C (jd D_Md_about 9 rfl) (by decide) ?_
  refine jv_goto (tgt := 22) C (jd D_Md_about 10 rfl) (by decide) ?_
  refine jv_iconst (v := 1) C (jd D_Md_about 12 rfl) (by decide) ?_
  refine jv_callV (wr := [((Q 13), .inl (dA 6, 8, .inr (.inr (.inr (.inr hs))))), ((Q 14), .inl (dA 1, 8, .inl ln)), ((Q 15), .inl (dA 4, 8, .inl th)), (b, .inl (dA 0, 4096, .inl f0)), ((Q 16), .inr (6, [.ref (A 0), .ref (A 1), .ref (A 2), .ref (A 3), .ref (A 4), .ref (A 5), .ref (A 6), .ref (A 7), .ref (A 8), .ref (A 9), .int (nI c), .ref (A 10), .int (nI u)])), ((A 0), .inl (dA 1, (js_cp M), .inl (F 0))), ((A 1), .inl (dA 2, (js_cp M), .inr (.inl G))), ((A 2), .inl (dA 1, (js_cp M), .inl (F 2))), ((A 3), .inl (dA 1, (js_cp M), .inl (F 3))), ((A 4), .inl (dA 1, (js_cp M), .inl (F 4))), ((A 5), .inl (dA 1, (js_cp M), .inl (F 5))), ((A 6), .inl (dA 1, (js_cp M), .inl (F 6))), ((A 7), .inl (dA 1, (js_cp M), .inl (F 7))), ((A 8), .inl (dA 1, (js_cp M), .inl (F 8))), ((A 9), .inl (dA 1, (js_cp M), .inl (F 9))), ((A 10), .inl (dA 3, (js_cu Mu), .inl (F 10)))]) C cl_Md_104 (c_Md_good_1 o Q (js_rows [0, (K 1), 0, (K 3), (K 4), (K 5), 0, (K 7), (K 8), (K 9), 0, (K 11), (K 12), 0, 0, 0, 0, 0] 0) vt 1) [0] [1, 2, 3, 4, 5, 6, 7, 8, 9, 10, 11, 12, 13, 14, 15, 16] rfl rfl rfl rfl (by decide) rfl rfl 0 rfl ⟨Nat.le_of_ble_eq_true rfl, Nat.le_of_ble_eq_true rfl⟩ ⟨(by simp only [jv_rm]; omega), (by simp only [jv_rm]; omega)⟩ rfl rfl (Nat.le_of_ble_eq_true rfl) (jd D_Md_about 13 rfl) (fun v2 _ kg3 => ?_)
  obtain ⟨rg3, rfl, kg3⟩ := kg3
  refine jv_fix [16, 0, 1, 2, 3, 4, 5, 6, 7, 8, 9, 10, 11, 12, 13, 14, 15] [(o, .inr (7, [.ref (Q 0), .int (K 1), .ref (Q 2), .int (K 3), .int 0, .int (K 5), vt, .int (K 7), .int (K 8), .int (K 9), .ref (Q 10), .int (K 11), .int (K 12), .ref (Q 13), .ref (Q 14), .ref (Q 15), .ref (Q 16), .ref (Q 17)])), ((Q 13), .inl (dA 6, 8, .inr (.inr (.inr (.inr hs))))), ((Q 14), .inl (dA 1, 8, .inl ln)), ((Q 15), .inl (dA 4, 8, .inl th)), (b, .inl (dA 0, 4096, .inl f0)), ((Q 16), .inr (6, [.ref (A 0), .ref (A 1), .ref (A 2), .ref (A 3), .ref (A 4), .ref (A 5), .ref (A 6), .ref (A 7), .ref (A 8), .ref (A 9), .int (nI c), .ref (A 10), .int (nI u)])), ((A 0), .inl (dA 1, (js_cp M), .inl (F 0))), ((A 1), .inl (dA 2, (js_cp M), .inr (.inl G))), ((A 2), .inl (dA 1, (js_cp M), .inl (F 2))), ((A 3), .inl (dA 1, (js_cp M), .inl (F 3))), ((A 4), .inl (dA 1, (js_cp M), .inl (F 4))), ((A 5), .inl (dA 1, (js_cp M), .inl (F 5))), ((A 6), .inl (dA 1, (js_cp M), .inl (F 6))), ((A 7), .inl (dA 1, (js_cp M), .inl (F 7))), ((A 8), .inl (dA 1, (js_cp M), .inl (F 8))), ((A 9), .inl (dA 1, (js_cp M), .inl (F 9))), ((A 10), .inl (dA 3, (js_cu Mu), .inl (F 10)))] [.int rg3] 0 0 rfl rfl rfl (Nat.le_refl _) (Nat.le_refl _) ?_
  subst kg3
  refine jv_if_eq (tgt := 43) C (jd D_Md_about 14 rfl) (by decide) (fun c26 => absurd c26 (by decide)) (fun c26 => ?_)
  refine jv_aload_n C (jd D_Md_about 15 rfl) rfl 0 rfl ?_
  refine jv_aload_n C (jd D_Md_about 16 rfl) rfl 0 rfl ?_
  refine jv_get C fl_Md_32 0 rfl rfl (jd D_Md_about 17 rfl) ?_
  refine jv_iload_n C (jd D_Md_about 18 rfl) rfl 1 rfl ?_
  refine jv_zald C 3 rfl (vp_in_nI hs8 (by decide)) (jd D_Md_about 19 rfl) ?_
  refine jv_ati (y := 1) (by rw [nI_clamp (by omega)]; exact hth) ?_
  refine jv_iconst (v := 2) C (jd D_Md_about 20 rfl) (by decide) ?_
  refine jv_callV (wr := [((Q 13), .inl (dA 6, 8, .inr (.inr (.inr (.inr hs))))), ((Q 14), .inl (dA 1, 8, .inl ln)), ((Q 15), .inl (dA 4, 8, .inl th)), (b, .inl (dA 0, 4096, .inl f0)), ((Q 16), .inr (6, [.ref (A 0), .ref (A 1), .ref (A 2), .ref (A 3), .ref (A 4), .ref (A 5), .ref (A 6), .ref (A 7), .ref (A 8), .ref (A 9), .int (nI c), .ref (A 10), .int (nI u)])), ((A 0), .inl (dA 1, (js_cp M), .inl (F 0))), ((A 1), .inl (dA 2, (js_cp M), .inr (.inl G))), ((A 2), .inl (dA 1, (js_cp M), .inl (F 2))), ((A 3), .inl (dA 1, (js_cp M), .inl (F 3))), ((A 4), .inl (dA 1, (js_cp M), .inl (F 4))), ((A 5), .inl (dA 1, (js_cp M), .inl (F 5))), ((A 6), .inl (dA 1, (js_cp M), .inl (F 6))), ((A 7), .inl (dA 1, (js_cp M), .inl (F 7))), ((A 8), .inl (dA 1, (js_cp M), .inl (F 8))), ((A 9), .inl (dA 1, (js_cp M), .inl (F 9))), ((A 10), .inl (dA 3, (js_cu Mu), .inl (F 10)))]) C cl_Md_104 (c_Md_good_1 o Q (js_rows [0, (K 1), 0, (K 3), 0, (K 5), 0, (K 7), (K 8), (K 9), 0, (K 11), (K 12), 0, 0, 0, 0, 0] 0) vt 2) [0] [1, 2, 3, 4, 5, 6, 7, 8, 9, 10, 11, 12, 13, 14, 15, 16] rfl rfl rfl rfl (by decide) rfl rfl 0 rfl ⟨Nat.le_of_ble_eq_true rfl, Nat.le_of_ble_eq_true rfl⟩ ⟨(by simp only [jv_rm]; omega), (by simp only [jv_rm]; omega)⟩ rfl rfl (Nat.le_of_ble_eq_true rfl) (jd D_Md_about 21 rfl) (fun v3 _ kg4 => ?_)
  obtain ⟨rg4, rfl, kg4⟩ := kg4
  refine jv_fix [16, 0, 1, 2, 3, 4, 5, 6, 7, 8, 9, 10, 11, 12, 13, 14, 15] [(o, .inr (7, [.ref (Q 0), .int (K 1), .ref (Q 2), .int (K 3), .int 0, .int (K 5), vt, .int (K 7), .int (K 8), .int (K 9), .ref (Q 10), .int (K 11), .int (K 12), .ref (Q 13), .ref (Q 14), .ref (Q 15), .ref (Q 16), .ref (Q 17)])), ((Q 13), .inl (dA 6, 8, .inr (.inr (.inr (.inr hs))))), ((Q 14), .inl (dA 1, 8, .inl ln)), ((Q 15), .inl (dA 4, 8, .inl th)), (b, .inl (dA 0, 4096, .inl f0)), ((Q 16), .inr (6, [.ref (A 0), .ref (A 1), .ref (A 2), .ref (A 3), .ref (A 4), .ref (A 5), .ref (A 6), .ref (A 7), .ref (A 8), .ref (A 9), .int (nI c), .ref (A 10), .int (nI u)])), ((A 0), .inl (dA 1, (js_cp M), .inl (F 0))), ((A 1), .inl (dA 2, (js_cp M), .inr (.inl G))), ((A 2), .inl (dA 1, (js_cp M), .inl (F 2))), ((A 3), .inl (dA 1, (js_cp M), .inl (F 3))), ((A 4), .inl (dA 1, (js_cp M), .inl (F 4))), ((A 5), .inl (dA 1, (js_cp M), .inl (F 5))), ((A 6), .inl (dA 1, (js_cp M), .inl (F 6))), ((A 7), .inl (dA 1, (js_cp M), .inl (F 7))), ((A 8), .inl (dA 1, (js_cp M), .inl (F 8))), ((A 9), .inl (dA 1, (js_cp M), .inl (F 9))), ((A 10), .inl (dA 3, (js_cu Mu), .inl (F 10)))] [.int rg4] 0 0 rfl rfl rfl (Nat.le_refl _) (Nat.le_refl _) ?_
  subst kg4
  refine jv_if_ne (tgt := 45) C (jd D_Md_about 22 rfl) (by decide) (fun c40 => ?_) (fun c40 => absurd c40 (by decide))
  refine jv_aload_n C (jd D_Md_about 25 rfl) rfl 0 rfl ?_
  refine jv_aload_n C (jd D_Md_about 26 rfl) rfl 0 rfl ?_
  refine jv_get C fl_Md_25 0 rfl rfl (jd D_Md_about 27 rfl) ?_
  refine jv_iload_n C (jd D_Md_about 28 rfl) rfl 1 rfl ?_
  refine jv_aldb (h := b) C 1 rfl (vp_in_nI hs8 (by decide)) (by rw [nI_clamp (by omega)]; exact hsb) (jd D_Md_about 29 rfl) ?_
  refine jv_aload_n C (jd D_Md_about 30 rfl) rfl 0 rfl ?_
  refine jv_get C fl_Md_28 0 rfl rfl (jd D_Md_about 31 rfl) ?_
  refine jv_iload_n C (jd D_Md_about 32 rfl) rfl 1 rfl ?_
  refine jv_iald C 2 rfl (vp_in_nI hs8 (by decide)) (jd D_Md_about 33 rfl) ?_
  refine jv_ati (y := nI t.length) (by rw [nI_clamp (by omega)]; exact hln) ?_
  refine jv_aload_n C (jd D_Md_about 34 rfl) rfl 0 rfl ?_
  refine jv_get C fl_Md_39 0 rfl rfl (jd D_Md_about 35 rfl) ?_
  refine jv_callV (wr := [((Q 13), .inl (dA 6, 8, .inr (.inr (.inr (.inr hs))))), ((Q 14), .inl (dA 1, 8, .inl ln)), ((Q 15), .inl (dA 4, 8, .inl th))]) C cl_Md_253 (c_Md_read3_ok o Q (js_rows [0, (K 1), 0, (K 3), 0, (K 5), 0, (K 7), (K 8), (K 9), 0, (K 11), (K 12), 0, 0, 0, 0, 0] 0) vt b 4096 f0 t (Q 16) A M Mu F G c u v0 h4 (by decide) ht h4 hM4 hMu4 hrd) [0, 4, 5, 6, 7, 8, 9, 10, 11, 12, 13, 14, 15, 16] [1, 2, 3] rfl rfl rfl rfl (by decide) rfl rfl 0 rfl ⟨Nat.le_of_ble_eq_true rfl, Nat.le_of_ble_eq_true rfl⟩ ⟨(by simp only [jv_rm]; omega), (by simp only [jv_rm]; omega)⟩ rfl rfl (Nat.le_of_ble_eq_true rfl) (jd D_Md_about 36 rfl) (fun v4 w5 k5 => ?_)
  obtain ⟨r5, rfl, k5⟩ := k5
  refine jv_fix [3, 0, 1, 2, 4, 5, 6, 7, 8, 9, 10, 11, 12, 13, 14, 15, 16] [(o, .inr (7, [.ref (Q 0), .int (K 1), .ref (Q 2), .int (K 3), .int 0, .int (K 5), .ref b, .int w5.2.2.2, .int (nI t.length), .int (-1), .ref (Q 10), .int (K 11), .int (K 12), .ref (Q 13), .ref (Q 14), .ref (Q 15), .ref (Q 16), .ref (Q 17)])), ((Q 13), .inl (dA 6, 8, .inr (.inr (.inr (.inr hs))))), ((Q 14), .inl (dA 1, 8, .inl ln)), ((Q 15), .inl (dA 4, 8, .inl th)), (b, .inl (dA 0, 4096, .inl f0)), ((Q 16), .inr (6, [.ref (w5.1 0), .ref (w5.1 1), .ref (w5.1 2), .ref (w5.1 3), .ref (w5.1 4), .ref (w5.1 5), .ref (w5.1 6), .ref (w5.1 7), .ref (w5.1 8), .ref (w5.1 9), .int (nI (js_cnt 32 v0)), .ref (w5.1 10), .int (nI (js_uu 32 v0))])), ((w5.1 0), .inl (dA 1, (js_cp (max M (js_cnt 32 v0))), .inl (w5.2.1 0))), ((w5.1 1), .inl (dA 2, (js_cp (max M (js_cnt 32 v0))), .inr (.inl w5.2.2.1))), ((w5.1 2), .inl (dA 1, (js_cp (max M (js_cnt 32 v0))), .inl (w5.2.1 2))), ((w5.1 3), .inl (dA 1, (js_cp (max M (js_cnt 32 v0))), .inl (w5.2.1 3))), ((w5.1 4), .inl (dA 1, (js_cp (max M (js_cnt 32 v0))), .inl (w5.2.1 4))), ((w5.1 5), .inl (dA 1, (js_cp (max M (js_cnt 32 v0))), .inl (w5.2.1 5))), ((w5.1 6), .inl (dA 1, (js_cp (max M (js_cnt 32 v0))), .inl (w5.2.1 6))), ((w5.1 7), .inl (dA 1, (js_cp (max M (js_cnt 32 v0))), .inl (w5.2.1 7))), ((w5.1 8), .inl (dA 1, (js_cp (max M (js_cnt 32 v0))), .inl (w5.2.1 8))), ((w5.1 9), .inl (dA 1, (js_cp (max M (js_cnt 32 v0))), .inl (w5.2.1 9))), ((w5.1 10), .inl (dA 3, (js_cu (max Mu (js_uu 32 v0))), .inl (w5.2.1 10)))] [.int r5] ((js_cp (max M (js_cnt 32 v0)) - js_cp M) + (js_cu (max Mu (js_uu 32 v0)) - js_cu Mu)) (20 * (js_cp (max M (js_cnt 32 v0)) - js_cp M) + 2 * (js_cu (max Mu (js_uu 32 v0)) - js_cu Mu)) rfl rfl rfl (by omega) (by omega) ?_
  obtain ⟨e5, hV5, hC5⟩ := k5
  subst e5
  refine jv_istore_n C [(3, .int 0), (0, .ref o), (1, .int (nI s)), (2, .int 2)] (jd D_Md_about 37 rfl) rfl (by decide) rfl ?_
  obtain ⟨ok1, hle1⟩ := js_rd_ok ht.by hrd
  have hc1 := js_cnt_len ok1
  have hc0 := js_cnt_pos 32 v0
  have hu1 := js_uu_le 32 v0 ok1
  have hb1 := js_cp_b (max M (js_cnt 32 v0))
  have hb2_ := js_cu_b (max Mu (js_uu 32 v0))
  have hkr := js_TV_kr hV5
  refine jv_aload_n C (jd D_Md_about 38 rfl) rfl 1 rfl ?_
  refine jv_get C fl_Md_39 0 rfl rfl (jd D_Md_about 39 rfl) ?_
  refine jv_get C fl_Md_46 5 rfl rfl (jd D_Md_about 40 rfl) ?_
  refine jv_iload_n C (jd D_Md_about 41 rfl) rfl 0 rfl ?_
  refine jv_iald C 6 rfl (vp_in_nI (n := 0) (by omega) (by omega)) (jd D_Md_about 42 rfl) ?_
  refine jv_ati (y := nI (js_kr 32 v0)) (hkr) ?_
  refine jv_istore C [(4, .int (nI (js_kr 32 v0))), (3, .int 0), (0, .ref o), (1, .int (nI s)), (2, .int 2)] (jd D_Md_about 43 rfl) (by decide) rfl ?_
  refine jv_iload_n C (jd D_Md_about 44 rfl) rfl 4 rfl ?_
  refine jv_if_ne (tgt := 107) C (jd D_Md_about 45 rfl) (by decide) (fun c78 => ?_) (fun c78 => absurd c78 (by decide))
  refine jv_iload_n C (jd D_Md_about 59 rfl) rfl 4 rfl ?_
  refine jv_iconst (v := 2) C (jd D_Md_about 60 rfl) (by decide) ?_
  refine jv_icmp_ne (tgt := 122) C (jd D_Md_about 61 rfl) (by decide) (fun c109 => absurd c109 (fun z => z rfl)) (fun c109 => ?_)
  refine jv_aload_n C (jd D_Md_about 62 rfl) rfl 2 rfl ?_
  refine jv_get C fl_Md_39 0 rfl rfl (jd D_Md_about 63 rfl) ?_
  refine jv_iload_n C (jd D_Md_about 64 rfl) rfl 1 rfl ?_
  refine jv_callV (wr := [(o, .inr (7, [.ref (Q 0), .int (K 1), .ref (Q 2), .int (K 3), .int 0, .int (K 5), .ref b, .int w5.2.2.2, .int (nI t.length), .int (-1), .ref (Q 10), .int (K 11), .int (K 12), .ref (Q 13), .ref (Q 14), .ref (Q 15), .ref (Q 16), .ref (Q 17)])), ((Q 13), .inl (dA 6, 8, .inr (.inr (.inr (.inr hs))))), ((Q 14), .inl (dA 1, 8, .inl ln)), ((Q 15), .inl (dA 4, 8, .inl th)), (b, .inl (dA 0, 4096, .inl f0))]) C cl_Md_263 (c_Tr_depth (Q 16) w5.1 (max M (js_cnt 32 v0)) (max Mu (js_uu 32 v0)) w5.2.1 w5.2.2.1 (js_cnt 32 v0) (js_uu 32 v0) (by omega) 32 (by decide) v0 0 ok1 hV5 (by omega)) [5, 6, 7, 8, 9, 10, 11, 12, 13, 14, 15, 16] [0, 1, 2, 3, 4] rfl rfl rfl rfl (by decide) rfl rfl 0 rfl ⟨Nat.le_of_ble_eq_true rfl, Nat.le_of_ble_eq_true rfl⟩ ⟨(by simp only [jv_rm]; omega), (by simp only [jv_rm]; omega)⟩ rfl rfl (Nat.le_of_ble_eq_true rfl) (jd D_Md_about 65 rfl) (fun v5 _ k8 => ?_)
  obtain ⟨r8, rfl, k8⟩ := k8
  refine jv_fix [0, 1, 2, 3, 4, 5, 6, 7, 8, 9, 10, 11, 12, 13, 14, 15, 16] [(o, .inr (7, [.ref (Q 0), .int (K 1), .ref (Q 2), .int (K 3), .int 0, .int (K 5), .ref b, .int w5.2.2.2, .int (nI t.length), .int (-1), .ref (Q 10), .int (K 11), .int (K 12), .ref (Q 13), .ref (Q 14), .ref (Q 15), .ref (Q 16), .ref (Q 17)])), ((Q 13), .inl (dA 6, 8, .inr (.inr (.inr (.inr hs))))), ((Q 14), .inl (dA 1, 8, .inl ln)), ((Q 15), .inl (dA 4, 8, .inl th)), (b, .inl (dA 0, 4096, .inl f0)), ((Q 16), .inr (6, [.ref (w5.1 0), .ref (w5.1 1), .ref (w5.1 2), .ref (w5.1 3), .ref (w5.1 4), .ref (w5.1 5), .ref (w5.1 6), .ref (w5.1 7), .ref (w5.1 8), .ref (w5.1 9), .int (nI (js_cnt 32 v0)), .ref (w5.1 10), .int (nI (js_uu 32 v0))])), ((w5.1 0), .inl (dA 1, (js_cp (max M (js_cnt 32 v0))), .inl (w5.2.1 0))), ((w5.1 1), .inl (dA 2, (js_cp (max M (js_cnt 32 v0))), .inr (.inl w5.2.2.1))), ((w5.1 2), .inl (dA 1, (js_cp (max M (js_cnt 32 v0))), .inl (w5.2.1 2))), ((w5.1 3), .inl (dA 1, (js_cp (max M (js_cnt 32 v0))), .inl (w5.2.1 3))), ((w5.1 4), .inl (dA 1, (js_cp (max M (js_cnt 32 v0))), .inl (w5.2.1 4))), ((w5.1 5), .inl (dA 1, (js_cp (max M (js_cnt 32 v0))), .inl (w5.2.1 5))), ((w5.1 6), .inl (dA 1, (js_cp (max M (js_cnt 32 v0))), .inl (w5.2.1 6))), ((w5.1 7), .inl (dA 1, (js_cp (max M (js_cnt 32 v0))), .inl (w5.2.1 7))), ((w5.1 8), .inl (dA 1, (js_cp (max M (js_cnt 32 v0))), .inl (w5.2.1 8))), ((w5.1 9), .inl (dA 1, (js_cp (max M (js_cnt 32 v0))), .inl (w5.2.1 9))), ((w5.1 10), .inl (dA 3, (js_cu (max Mu (js_uu 32 v0))), .inl (w5.2.1 10)))] [.int r8] ((js_cp (max M (js_cnt 32 v0)) - js_cp M) + (js_cu (max Mu (js_uu 32 v0)) - js_cu Mu)) (20 * (js_cp (max M (js_cnt 32 v0)) - js_cp M) + 2 * (js_cu (max Mu (js_uu 32 v0)) - js_cu Mu)) rfl rfl rfl (Nat.le_refl _) (Nat.le_refl _) ?_
  subst k8
  refine jv_i2l C (jd D_Md_about 66 rfl) ?_
  exact jv_lret C hr w5 (rfl) [0, 1, 2, 3, 4, 5, 6, 7, 8, 9, 10, 11, 12, 13, 14, 15, 16] rfl rfl (by omega) (by omega) (jd D_Md_about 67 rfl)

set_option maxHeartbeats 4000000 in
set_option maxRecDepth 100000 in
/-- about 3 -/
theorem c_Md_about_3 {l : Launch} {D : va_G} {dA : Nat → ClassId} {zz : (Nat → Nat) × (Nat → Nat)} (o : Nat) (Q : Nat → Nat) (K : Nat → Int32) (vt : Value) (hs : Nat → Option Nat) (ln th : Nat → Int32) (b : Nat) (f0 : Nat → Int32) (t : List Nat) (A : Nat → Nat) (M Mu : Nat) (F : Nat → Nat → Int32) (G : Nat → Int64) (c u : Nat) (s : Nat) (v0 : js_J 32) (neg : Bool) (x : Nat) (ht : js_tx f0 t) (h4 : t.length ≤ 4096) (hs8 : s < 8) (hsb : hs s = some b) (hth : th s = 1) (hln : ln s = nI t.length) (hrd : js_rd t = .inr v0) (hM4 : M ≤ 4096) (hMu4 : Mu ≤ 4096) (hkk : js_kr 32 v0 = 3) (hVd : ∀ (F : Nat → Nat → Int32) (G : Nat → Int64), js_TV F G (js_uu 32 v0) 32 v0 0 → G 0 = js_nvi neg x) : jv_M l D dA zz y_Md_about b_Md_about 9 (some (FieldType.long)) 73 [.ref o, .int (nI s), .int 3] [(o, .inr (7, [.ref (Q 0), .int (K 1), .ref (Q 2), .int (K 3), .int (K 4), .int (K 5), vt, .int (K 7), .int (K 8), .int (K 9), .ref (Q 10), .int (K 11), .int (K 12), .ref (Q 13), .ref (Q 14), .ref (Q 15), .ref (Q 16), .ref (Q 17)])), ((Q 13), .inl (dA 6, 8, .inr (.inr (.inr (.inr hs))))), ((Q 14), .inl (dA 1, 8, .inl ln)), ((Q 15), .inl (dA 4, 8, .inl th)), (b, .inl (dA 0, 4096, .inl f0)), ((Q 16), .inr (6, [.ref (A 0), .ref (A 1), .ref (A 2), .ref (A 3), .ref (A 4), .ref (A 5), .ref (A 6), .ref (A 7), .ref (A 8), .ref (A 9), .int (nI c), .ref (A 10), .int (nI u)])), ((A 0), .inl (dA 1, (js_cp M), .inl (F 0))), ((A 1), .inl (dA 2, (js_cp M), .inr (.inl G))), ((A 2), .inl (dA 1, (js_cp M), .inl (F 2))), ((A 3), .inl (dA 1, (js_cp M), .inl (F 3))), ((A 4), .inl (dA 1, (js_cp M), .inl (F 4))), ((A 5), .inl (dA 1, (js_cp M), .inl (F 5))), ((A 6), .inl (dA 1, (js_cp M), .inl (F 6))), ((A 7), .inl (dA 1, (js_cp M), .inl (F 7))), ((A 8), .inl (dA 1, (js_cp M), .inl (F 8))), ((A 9), .inl (dA 1, (js_cp M), .inl (F 9))), ((A 10), .inl (dA 3, (js_cu Mu), .inl (F 10)))] (jv_pl fun r (_ : (Nat → Nat) × (Nat → Nat → Int32) × (Nat → Int64) × Int32) => r = js_nvi neg x) (fun v => [(o, .inr (7, [.ref (Q 0), .int (K 1), .ref (Q 2), .int (K 3), .int 0, .int (K 5), .ref b, .int v.2.2.2, .int (nI t.length), .int (-1), .ref (Q 10), .int (K 11), .int (K 12), .ref (Q 13), .ref (Q 14), .ref (Q 15), .ref (Q 16), .ref (Q 17)])), ((Q 13), .inl (dA 6, 8, .inr (.inr (.inr (.inr hs))))), ((Q 14), .inl (dA 1, 8, .inl ln)), ((Q 15), .inl (dA 4, 8, .inl th)), (b, .inl (dA 0, 4096, .inl f0)), ((Q 16), .inr (6, [.ref (v.1 0), .ref (v.1 1), .ref (v.1 2), .ref (v.1 3), .ref (v.1 4), .ref (v.1 5), .ref (v.1 6), .ref (v.1 7), .ref (v.1 8), .ref (v.1 9), .int (nI (js_cnt 32 v0)), .ref (v.1 10), .int (nI (js_uu 32 v0))])), ((v.1 0), .inl (dA 1, (js_cp (max M (js_cnt 32 v0))), .inl (v.2.1 0))), ((v.1 1), .inl (dA 2, (js_cp (max M (js_cnt 32 v0))), .inr (.inl v.2.2.1))), ((v.1 2), .inl (dA 1, (js_cp (max M (js_cnt 32 v0))), .inl (v.2.1 2))), ((v.1 3), .inl (dA 1, (js_cp (max M (js_cnt 32 v0))), .inl (v.2.1 3))), ((v.1 4), .inl (dA 1, (js_cp (max M (js_cnt 32 v0))), .inl (v.2.1 4))), ((v.1 5), .inl (dA 1, (js_cp (max M (js_cnt 32 v0))), .inl (v.2.1 5))), ((v.1 6), .inl (dA 1, (js_cp (max M (js_cnt 32 v0))), .inl (v.2.1 6))), ((v.1 7), .inl (dA 1, (js_cp (max M (js_cnt 32 v0))), .inl (v.2.1 7))), ((v.1 8), .inl (dA 1, (js_cp (max M (js_cnt 32 v0))), .inl (v.2.1 8))), ((v.1 9), .inl (dA 1, (js_cp (max M (js_cnt 32 v0))), .inl (v.2.1 9))), ((v.1 10), .inl (dA 3, (js_cu (max Mu (js_uu 32 v0))), .inl (v.2.1 10)))]) ((js_cp (max M (js_cnt 32 v0)) - js_cp M) + (js_cu (max Mu (js_uu 32 v0)) - js_cu Mu)) (20 * (js_cp (max M (js_cnt 32 v0)) - js_cp M) + 2 * (js_cu (max Mu (js_uu 32 v0)) - js_cu Mu)) := by
  refine jv_M.of [(0, .ref o), (1, .int (nI s)), (2, .int 3)] (by decide) (Nat.le_of_ble_eq_true rfl) rfl ?_
  intro pR eR sR mR belowR methR cR AR C hr hin
  refine jv_aload_n C (jd D_Md_about 0 rfl) rfl 0 rfl ?_
  refine jv_iload_n C (jd D_Md_about 1 rfl) rfl 1 rfl ?_
  refine jv_callS (wr := [(o, .inr (7, [.ref (Q 0), .int (K 1), .ref (Q 2), .int (K 3), .int (K 4), .int (K 5), vt, .int (K 7), .int (K 8), .int (K 9), .ref (Q 10), .int (K 11), .int (K 12), .ref (Q 13), .ref (Q 14), .ref (Q 15), .ref (Q 16), .ref (Q 17)])), ((Q 13), .inl (dA 6, 8, .inr (.inr (.inr (.inr hs))))), ((Q 14), .inl (dA 1, 8, .inl ln)), ((Q 15), .inl (dA 4, 8, .inl th)), (b, .inl (dA 0, 4096, .inl f0)), ((Q 16), .inr (6, [.ref (A 0), .ref (A 1), .ref (A 2), .ref (A 3), .ref (A 4), .ref (A 5), .ref (A 6), .ref (A 7), .ref (A 8), .ref (A 9), .int (nI c), .ref (A 10), .int (nI u)])), ((A 0), .inl (dA 1, (js_cp M), .inl (F 0))), ((A 1), .inl (dA 2, (js_cp M), .inr (.inl G))), ((A 2), .inl (dA 1, (js_cp M), .inl (F 2))), ((A 3), .inl (dA 1, (js_cp M), .inl (F 3))), ((A 4), .inl (dA 1, (js_cp M), .inl (F 4))), ((A 5), .inl (dA 1, (js_cp M), .inl (F 5))), ((A 6), .inl (dA 1, (js_cp M), .inl (F 6))), ((A 7), .inl (dA 1, (js_cp M), .inl (F 7))), ((A 8), .inl (dA 1, (js_cp M), .inl (F 8))), ((A 9), .inl (dA 1, (js_cp M), .inl (F 9))), ((A 10), .inl (dA 3, (js_cu Mu), .inl (F 10)))]) C cl_Md_248 (c_Md_isSlot (nI s)) [] [0, 1, 2, 3, 4, 5, 6, 7, 8, 9, 10, 11, 12, 13, 14, 15, 16] rfl rfl rfl rfl (by decide) ⟨Nat.le_of_ble_eq_true rfl, Nat.le_of_ble_eq_true rfl⟩ ⟨(by simp only [jv_rm]; omega), (by simp only [jv_rm]; omega)⟩ rfl rfl (Nat.le_of_ble_eq_true rfl) (jd D_Md_about 2 rfl) (fun v1 _ ks1 => ?_)
  obtain ⟨rs1, rfl, ks1⟩ := ks1
  refine jv_fix [0, 1, 2, 3, 4, 5, 6, 7, 8, 9, 10, 11, 12, 13, 14, 15, 16] [(o, .inr (7, [.ref (Q 0), .int (K 1), .ref (Q 2), .int (K 3), .int (K 4), .int (K 5), vt, .int (K 7), .int (K 8), .int (K 9), .ref (Q 10), .int (K 11), .int (K 12), .ref (Q 13), .ref (Q 14), .ref (Q 15), .ref (Q 16), .ref (Q 17)])), ((Q 13), .inl (dA 6, 8, .inr (.inr (.inr (.inr hs))))), ((Q 14), .inl (dA 1, 8, .inl ln)), ((Q 15), .inl (dA 4, 8, .inl th)), (b, .inl (dA 0, 4096, .inl f0)), ((Q 16), .inr (6, [.ref (A 0), .ref (A 1), .ref (A 2), .ref (A 3), .ref (A 4), .ref (A 5), .ref (A 6), .ref (A 7), .ref (A 8), .ref (A 9), .int (nI c), .ref (A 10), .int (nI u)])), ((A 0), .inl (dA 1, (js_cp M), .inl (F 0))), ((A 1), .inl (dA 2, (js_cp M), .inr (.inl G))), ((A 2), .inl (dA 1, (js_cp M), .inl (F 2))), ((A 3), .inl (dA 1, (js_cp M), .inl (F 3))), ((A 4), .inl (dA 1, (js_cp M), .inl (F 4))), ((A 5), .inl (dA 1, (js_cp M), .inl (F 5))), ((A 6), .inl (dA 1, (js_cp M), .inl (F 6))), ((A 7), .inl (dA 1, (js_cp M), .inl (F 7))), ((A 8), .inl (dA 1, (js_cp M), .inl (F 8))), ((A 9), .inl (dA 1, (js_cp M), .inl (F 9))), ((A 10), .inl (dA 3, (js_cu Mu), .inl (F 10)))] [.int rs1, .ref o] 0 0 rfl rfl rfl (Nat.le_refl _) (Nat.le_refl _) ?_
  have ks1 : rs1 = 1 := ks1.trans (js_sl1 hs8)
  subst ks1
  refine jv_if_eq (tgt := 21) C (jd D_Md_about 3 rfl) (by decide) (fun c5 => absurd c5 (by decide)) (fun c5 => ?_)
  refine jv_iload_n C (jd D_Md_about 4 rfl) rfl 2 rfl ?_
  refine jv_if_lt (tgt := 21) C (jd D_Md_about 5 rfl) (by decide) (fun c9 => absurd c9 (by decide)) (fun c9 => ?_)
  refine jv_iload_n C (jd D_Md_about 6 rfl) rfl 2 rfl ?_
  refine jv_iconst (v := 3) C (jd D_Md_about 7 rfl) (by decide) ?_
  refine jv_icmp_gt (tgt := 21) C (jd D_Md_about 8 rfl) (by decide) (fun c14 => absurd c14 (by decide)) (fun c14 => ?_)
  refine jv_iconst (v := 1) C (jd D_Md_about 9 rfl) (by decide) ?_
  refine jv_goto (tgt := 22) C (jd D_Md_about 10 rfl) (by decide) ?_
  refine jv_iconst (v := 1) C (jd D_Md_about 12 rfl) (by decide) ?_
  refine jv_callV (wr := [((Q 13), .inl (dA 6, 8, .inr (.inr (.inr (.inr hs))))), ((Q 14), .inl (dA 1, 8, .inl ln)), ((Q 15), .inl (dA 4, 8, .inl th)), (b, .inl (dA 0, 4096, .inl f0)), ((Q 16), .inr (6, [.ref (A 0), .ref (A 1), .ref (A 2), .ref (A 3), .ref (A 4), .ref (A 5), .ref (A 6), .ref (A 7), .ref (A 8), .ref (A 9), .int (nI c), .ref (A 10), .int (nI u)])), ((A 0), .inl (dA 1, (js_cp M), .inl (F 0))), ((A 1), .inl (dA 2, (js_cp M), .inr (.inl G))), ((A 2), .inl (dA 1, (js_cp M), .inl (F 2))), ((A 3), .inl (dA 1, (js_cp M), .inl (F 3))), ((A 4), .inl (dA 1, (js_cp M), .inl (F 4))), ((A 5), .inl (dA 1, (js_cp M), .inl (F 5))), ((A 6), .inl (dA 1, (js_cp M), .inl (F 6))), ((A 7), .inl (dA 1, (js_cp M), .inl (F 7))), ((A 8), .inl (dA 1, (js_cp M), .inl (F 8))), ((A 9), .inl (dA 1, (js_cp M), .inl (F 9))), ((A 10), .inl (dA 3, (js_cu Mu), .inl (F 10)))]) C cl_Md_104 (c_Md_good_1 o Q (js_rows [0, (K 1), 0, (K 3), (K 4), (K 5), 0, (K 7), (K 8), (K 9), 0, (K 11), (K 12), 0, 0, 0, 0, 0] 0) vt 1) [0] [1, 2, 3, 4, 5, 6, 7, 8, 9, 10, 11, 12, 13, 14, 15, 16] rfl rfl rfl rfl (by decide) rfl rfl 0 rfl ⟨Nat.le_of_ble_eq_true rfl, Nat.le_of_ble_eq_true rfl⟩ ⟨(by simp only [jv_rm]; omega), (by simp only [jv_rm]; omega)⟩ rfl rfl (Nat.le_of_ble_eq_true rfl) (jd D_Md_about 13 rfl) (fun v2 _ kg3 => ?_)
  obtain ⟨rg3, rfl, kg3⟩ := kg3
  refine jv_fix [16, 0, 1, 2, 3, 4, 5, 6, 7, 8, 9, 10, 11, 12, 13, 14, 15] [(o, .inr (7, [.ref (Q 0), .int (K 1), .ref (Q 2), .int (K 3), .int 0, .int (K 5), vt, .int (K 7), .int (K 8), .int (K 9), .ref (Q 10), .int (K 11), .int (K 12), .ref (Q 13), .ref (Q 14), .ref (Q 15), .ref (Q 16), .ref (Q 17)])), ((Q 13), .inl (dA 6, 8, .inr (.inr (.inr (.inr hs))))), ((Q 14), .inl (dA 1, 8, .inl ln)), ((Q 15), .inl (dA 4, 8, .inl th)), (b, .inl (dA 0, 4096, .inl f0)), ((Q 16), .inr (6, [.ref (A 0), .ref (A 1), .ref (A 2), .ref (A 3), .ref (A 4), .ref (A 5), .ref (A 6), .ref (A 7), .ref (A 8), .ref (A 9), .int (nI c), .ref (A 10), .int (nI u)])), ((A 0), .inl (dA 1, (js_cp M), .inl (F 0))), ((A 1), .inl (dA 2, (js_cp M), .inr (.inl G))), ((A 2), .inl (dA 1, (js_cp M), .inl (F 2))), ((A 3), .inl (dA 1, (js_cp M), .inl (F 3))), ((A 4), .inl (dA 1, (js_cp M), .inl (F 4))), ((A 5), .inl (dA 1, (js_cp M), .inl (F 5))), ((A 6), .inl (dA 1, (js_cp M), .inl (F 6))), ((A 7), .inl (dA 1, (js_cp M), .inl (F 7))), ((A 8), .inl (dA 1, (js_cp M), .inl (F 8))), ((A 9), .inl (dA 1, (js_cp M), .inl (F 9))), ((A 10), .inl (dA 3, (js_cu Mu), .inl (F 10)))] [.int rg3] 0 0 rfl rfl rfl (Nat.le_refl _) (Nat.le_refl _) ?_
  subst kg3
  refine jv_if_eq (tgt := 43) C (jd D_Md_about 14 rfl) (by decide) (fun c26 => absurd c26 (by decide)) (fun c26 => ?_)
  refine jv_aload_n C (jd D_Md_about 15 rfl) rfl 0 rfl ?_
  refine jv_aload_n C (jd D_Md_about 16 rfl) rfl 0 rfl ?_
  refine jv_get C fl_Md_32 0 rfl rfl (jd D_Md_about 17 rfl) ?_
  refine jv_iload_n C (jd D_Md_about 18 rfl) rfl 1 rfl ?_
  refine jv_zald C 3 rfl (vp_in_nI hs8 (by decide)) (jd D_Md_about 19 rfl) ?_
  refine jv_ati (y := 1) (by rw [nI_clamp (by omega)]; exact hth) ?_
  refine jv_iconst (v := 2) C (jd D_Md_about 20 rfl) (by decide) ?_
  refine jv_callV (wr := [((Q 13), .inl (dA 6, 8, .inr (.inr (.inr (.inr hs))))), ((Q 14), .inl (dA 1, 8, .inl ln)), ((Q 15), .inl (dA 4, 8, .inl th)), (b, .inl (dA 0, 4096, .inl f0)), ((Q 16), .inr (6, [.ref (A 0), .ref (A 1), .ref (A 2), .ref (A 3), .ref (A 4), .ref (A 5), .ref (A 6), .ref (A 7), .ref (A 8), .ref (A 9), .int (nI c), .ref (A 10), .int (nI u)])), ((A 0), .inl (dA 1, (js_cp M), .inl (F 0))), ((A 1), .inl (dA 2, (js_cp M), .inr (.inl G))), ((A 2), .inl (dA 1, (js_cp M), .inl (F 2))), ((A 3), .inl (dA 1, (js_cp M), .inl (F 3))), ((A 4), .inl (dA 1, (js_cp M), .inl (F 4))), ((A 5), .inl (dA 1, (js_cp M), .inl (F 5))), ((A 6), .inl (dA 1, (js_cp M), .inl (F 6))), ((A 7), .inl (dA 1, (js_cp M), .inl (F 7))), ((A 8), .inl (dA 1, (js_cp M), .inl (F 8))), ((A 9), .inl (dA 1, (js_cp M), .inl (F 9))), ((A 10), .inl (dA 3, (js_cu Mu), .inl (F 10)))]) C cl_Md_104 (c_Md_good_1 o Q (js_rows [0, (K 1), 0, (K 3), 0, (K 5), 0, (K 7), (K 8), (K 9), 0, (K 11), (K 12), 0, 0, 0, 0, 0] 0) vt 2) [0] [1, 2, 3, 4, 5, 6, 7, 8, 9, 10, 11, 12, 13, 14, 15, 16] rfl rfl rfl rfl (by decide) rfl rfl 0 rfl ⟨Nat.le_of_ble_eq_true rfl, Nat.le_of_ble_eq_true rfl⟩ ⟨(by simp only [jv_rm]; omega), (by simp only [jv_rm]; omega)⟩ rfl rfl (Nat.le_of_ble_eq_true rfl) (jd D_Md_about 21 rfl) (fun v3 _ kg4 => ?_)
  obtain ⟨rg4, rfl, kg4⟩ := kg4
  refine jv_fix [16, 0, 1, 2, 3, 4, 5, 6, 7, 8, 9, 10, 11, 12, 13, 14, 15] [(o, .inr (7, [.ref (Q 0), .int (K 1), .ref (Q 2), .int (K 3), .int 0, .int (K 5), vt, .int (K 7), .int (K 8), .int (K 9), .ref (Q 10), .int (K 11), .int (K 12), .ref (Q 13), .ref (Q 14), .ref (Q 15), .ref (Q 16), .ref (Q 17)])), ((Q 13), .inl (dA 6, 8, .inr (.inr (.inr (.inr hs))))), ((Q 14), .inl (dA 1, 8, .inl ln)), ((Q 15), .inl (dA 4, 8, .inl th)), (b, .inl (dA 0, 4096, .inl f0)), ((Q 16), .inr (6, [.ref (A 0), .ref (A 1), .ref (A 2), .ref (A 3), .ref (A 4), .ref (A 5), .ref (A 6), .ref (A 7), .ref (A 8), .ref (A 9), .int (nI c), .ref (A 10), .int (nI u)])), ((A 0), .inl (dA 1, (js_cp M), .inl (F 0))), ((A 1), .inl (dA 2, (js_cp M), .inr (.inl G))), ((A 2), .inl (dA 1, (js_cp M), .inl (F 2))), ((A 3), .inl (dA 1, (js_cp M), .inl (F 3))), ((A 4), .inl (dA 1, (js_cp M), .inl (F 4))), ((A 5), .inl (dA 1, (js_cp M), .inl (F 5))), ((A 6), .inl (dA 1, (js_cp M), .inl (F 6))), ((A 7), .inl (dA 1, (js_cp M), .inl (F 7))), ((A 8), .inl (dA 1, (js_cp M), .inl (F 8))), ((A 9), .inl (dA 1, (js_cp M), .inl (F 9))), ((A 10), .inl (dA 3, (js_cu Mu), .inl (F 10)))] [.int rg4] 0 0 rfl rfl rfl (Nat.le_refl _) (Nat.le_refl _) ?_
  subst kg4
  refine jv_if_ne (tgt := 45) C (jd D_Md_about 22 rfl) (by decide) (fun c40 => ?_) (fun c40 => absurd c40 (by decide))
  refine jv_aload_n C (jd D_Md_about 25 rfl) rfl 0 rfl ?_
  refine jv_aload_n C (jd D_Md_about 26 rfl) rfl 0 rfl ?_
  refine jv_get C fl_Md_25 0 rfl rfl (jd D_Md_about 27 rfl) ?_
  refine jv_iload_n C (jd D_Md_about 28 rfl) rfl 1 rfl ?_
  refine jv_aldb (h := b) C 1 rfl (vp_in_nI hs8 (by decide)) (by rw [nI_clamp (by omega)]; exact hsb) (jd D_Md_about 29 rfl) ?_
  refine jv_aload_n C (jd D_Md_about 30 rfl) rfl 0 rfl ?_
  refine jv_get C fl_Md_28 0 rfl rfl (jd D_Md_about 31 rfl) ?_
  refine jv_iload_n C (jd D_Md_about 32 rfl) rfl 1 rfl ?_
  refine jv_iald C 2 rfl (vp_in_nI hs8 (by decide)) (jd D_Md_about 33 rfl) ?_
  refine jv_ati (y := nI t.length) (by rw [nI_clamp (by omega)]; exact hln) ?_
  refine jv_aload_n C (jd D_Md_about 34 rfl) rfl 0 rfl ?_
  refine jv_get C fl_Md_39 0 rfl rfl (jd D_Md_about 35 rfl) ?_
  refine jv_callV (wr := [((Q 13), .inl (dA 6, 8, .inr (.inr (.inr (.inr hs))))), ((Q 14), .inl (dA 1, 8, .inl ln)), ((Q 15), .inl (dA 4, 8, .inl th))]) C cl_Md_253 (c_Md_read3_ok o Q (js_rows [0, (K 1), 0, (K 3), 0, (K 5), 0, (K 7), (K 8), (K 9), 0, (K 11), (K 12), 0, 0, 0, 0, 0] 0) vt b 4096 f0 t (Q 16) A M Mu F G c u v0 h4 (by decide) ht h4 hM4 hMu4 hrd) [0, 4, 5, 6, 7, 8, 9, 10, 11, 12, 13, 14, 15, 16] [1, 2, 3] rfl rfl rfl rfl (by decide) rfl rfl 0 rfl ⟨Nat.le_of_ble_eq_true rfl, Nat.le_of_ble_eq_true rfl⟩ ⟨(by simp only [jv_rm]; omega), (by simp only [jv_rm]; omega)⟩ rfl rfl (Nat.le_of_ble_eq_true rfl) (jd D_Md_about 36 rfl) (fun v4 w5 k5 => ?_)
  obtain ⟨r5, rfl, k5⟩ := k5
  refine jv_fix [3, 0, 1, 2, 4, 5, 6, 7, 8, 9, 10, 11, 12, 13, 14, 15, 16] [(o, .inr (7, [.ref (Q 0), .int (K 1), .ref (Q 2), .int (K 3), .int 0, .int (K 5), .ref b, .int w5.2.2.2, .int (nI t.length), .int (-1), .ref (Q 10), .int (K 11), .int (K 12), .ref (Q 13), .ref (Q 14), .ref (Q 15), .ref (Q 16), .ref (Q 17)])), ((Q 13), .inl (dA 6, 8, .inr (.inr (.inr (.inr hs))))), ((Q 14), .inl (dA 1, 8, .inl ln)), ((Q 15), .inl (dA 4, 8, .inl th)), (b, .inl (dA 0, 4096, .inl f0)), ((Q 16), .inr (6, [.ref (w5.1 0), .ref (w5.1 1), .ref (w5.1 2), .ref (w5.1 3), .ref (w5.1 4), .ref (w5.1 5), .ref (w5.1 6), .ref (w5.1 7), .ref (w5.1 8), .ref (w5.1 9), .int (nI (js_cnt 32 v0)), .ref (w5.1 10), .int (nI (js_uu 32 v0))])), ((w5.1 0), .inl (dA 1, (js_cp (max M (js_cnt 32 v0))), .inl (w5.2.1 0))), ((w5.1 1), .inl (dA 2, (js_cp (max M (js_cnt 32 v0))), .inr (.inl w5.2.2.1))), ((w5.1 2), .inl (dA 1, (js_cp (max M (js_cnt 32 v0))), .inl (w5.2.1 2))), ((w5.1 3), .inl (dA 1, (js_cp (max M (js_cnt 32 v0))), .inl (w5.2.1 3))), ((w5.1 4), .inl (dA 1, (js_cp (max M (js_cnt 32 v0))), .inl (w5.2.1 4))), ((w5.1 5), .inl (dA 1, (js_cp (max M (js_cnt 32 v0))), .inl (w5.2.1 5))), ((w5.1 6), .inl (dA 1, (js_cp (max M (js_cnt 32 v0))), .inl (w5.2.1 6))), ((w5.1 7), .inl (dA 1, (js_cp (max M (js_cnt 32 v0))), .inl (w5.2.1 7))), ((w5.1 8), .inl (dA 1, (js_cp (max M (js_cnt 32 v0))), .inl (w5.2.1 8))), ((w5.1 9), .inl (dA 1, (js_cp (max M (js_cnt 32 v0))), .inl (w5.2.1 9))), ((w5.1 10), .inl (dA 3, (js_cu (max Mu (js_uu 32 v0))), .inl (w5.2.1 10)))] [.int r5] ((js_cp (max M (js_cnt 32 v0)) - js_cp M) + (js_cu (max Mu (js_uu 32 v0)) - js_cu Mu)) (20 * (js_cp (max M (js_cnt 32 v0)) - js_cp M) + 2 * (js_cu (max Mu (js_uu 32 v0)) - js_cu Mu)) rfl rfl rfl (by omega) (by omega) ?_
  obtain ⟨e5, hV5, hC5⟩ := k5
  subst e5
  refine jv_istore_n C [(3, .int 0), (0, .ref o), (1, .int (nI s)), (2, .int 3)] (jd D_Md_about 37 rfl) rfl (by decide) rfl ?_
  obtain ⟨ok1, hle1⟩ := js_rd_ok ht.by hrd
  have hc1 := js_cnt_len ok1
  have hc0 := js_cnt_pos 32 v0
  have hu1 := js_uu_le 32 v0 ok1
  have hb1 := js_cp_b (max M (js_cnt 32 v0))
  have hb2_ := js_cu_b (max Mu (js_uu 32 v0))
  have hkr := js_TV_kr hV5
  refine jv_aload_n C (jd D_Md_about 38 rfl) rfl 1 rfl ?_
  refine jv_get C fl_Md_39 0 rfl rfl (jd D_Md_about 39 rfl) ?_
  refine jv_get C fl_Md_46 5 rfl rfl (jd D_Md_about 40 rfl) ?_
  refine jv_iload_n C (jd D_Md_about 41 rfl) rfl 0 rfl ?_
  refine jv_iald C 6 rfl (vp_in_nI (n := 0) (by omega) (by omega)) (jd D_Md_about 42 rfl) ?_
  refine jv_ati (y := nI 3) (hkr.trans (by rw [hkk])) ?_
  refine jv_istore C [(4, .int (nI 3)), (3, .int 0), (0, .ref o), (1, .int (nI s)), (2, .int 3)] (jd D_Md_about 43 rfl) (by decide) rfl ?_
  refine jv_iload_n C (jd D_Md_about 44 rfl) rfl 4 rfl ?_
  refine jv_if_ne (tgt := 107) C (jd D_Md_about 45 rfl) (by decide) (fun c78 => ?_) (fun c78 => absurd c78 (by decide))
  refine jv_iload_n C (jd D_Md_about 59 rfl) rfl 4 rfl ?_
  refine jv_iconst (v := 2) C (jd D_Md_about 60 rfl) (by decide) ?_
  refine jv_icmp_ne (tgt := 122) C (jd D_Md_about 61 rfl) (by decide) (fun c109 => ?_) (fun c109 => absurd c109 (by decide))
  refine jv_iload_n C (jd D_Md_about 68 rfl) rfl 4 rfl ?_
  refine jv_iconst (v := 3) C (jd D_Md_about 69 rfl) (by decide) ?_
  refine jv_icmp_ne (tgt := 147) C (jd D_Md_about 70 rfl) (by decide) (fun c124 => absurd c124 (fun z => z rfl)) (fun c124 => ?_)
  refine jv_iload C (jd D_Md_about 71 rfl) 0 rfl ?_
  refine jv_iconst (v := 3) C (jd D_Md_about 72 rfl) (by decide) ?_
  refine jv_icmp_ne (tgt := 145) C (jd D_Md_about 73 rfl) (by decide) (fun c130 => absurd c130 (fun z => z rfl)) (fun c130 => ?_)
  refine jv_aload_n C (jd D_Md_about 74 rfl) rfl 2 rfl ?_
  refine jv_get C fl_Md_39 0 rfl rfl (jd D_Md_about 75 rfl) ?_
  refine jv_get C fl_Md_49 5 rfl rfl (jd D_Md_about 76 rfl) ?_
  refine jv_iload_n C (jd D_Md_about 77 rfl) rfl 1 rfl ?_
  refine jv_lald C 7 rfl (vp_in_nI (n := 0) (by omega) (by omega)) (jd D_Md_about 78 rfl) ?_
  refine jv_atl (y := js_nvi neg x) ((hVd w5.2.1 w5.2.2.1 hV5)) ?_
  refine jv_goto (tgt := 146) C (jd D_Md_about 79 rfl) (by decide) ?_
  exact jv_lret C hr w5 (rfl) [0, 1, 2, 3, 4, 5, 6, 7, 8, 9, 10, 11, 12, 13, 14, 15, 16] rfl rfl (by omega) (by omega) (jd D_Md_about 81 rfl)

set_option maxHeartbeats 4000000 in
set_option maxRecDepth 100000 in
/-- about 3 -/
theorem c_Md_about_3n {l : Launch} {D : va_G} {dA : Nat → ClassId} {zz : (Nat → Nat) × (Nat → Nat)} (o : Nat) (Q : Nat → Nat) (K : Nat → Int32) (vt : Value) (hs : Nat → Option Nat) (ln th : Nat → Int32) (b : Nat) (f0 : Nat → Int32) (t : List Nat) (A : Nat → Nat) (M Mu : Nat) (F : Nat → Nat → Int32) (G : Nat → Int64) (c u : Nat) (s : Nat) (v0 : js_J 32) (ht : js_tx f0 t) (h4 : t.length ≤ 4096) (hs8 : s < 8) (hsb : hs s = some b) (hth : th s = 1) (hln : ln s = nI t.length) (hrd : js_rd t = .inr v0) (hM4 : M ≤ 4096) (hMu4 : Mu ≤ 4096) (hkk : ¬ js_kr 32 v0 = 3) : jv_M l D dA zz y_Md_about b_Md_about 9 (some (FieldType.long)) 73 [.ref o, .int (nI s), .int 3] [(o, .inr (7, [.ref (Q 0), .int (K 1), .ref (Q 2), .int (K 3), .int (K 4), .int (K 5), vt, .int (K 7), .int (K 8), .int (K 9), .ref (Q 10), .int (K 11), .int (K 12), .ref (Q 13), .ref (Q 14), .ref (Q 15), .ref (Q 16), .ref (Q 17)])), ((Q 13), .inl (dA 6, 8, .inr (.inr (.inr (.inr hs))))), ((Q 14), .inl (dA 1, 8, .inl ln)), ((Q 15), .inl (dA 4, 8, .inl th)), (b, .inl (dA 0, 4096, .inl f0)), ((Q 16), .inr (6, [.ref (A 0), .ref (A 1), .ref (A 2), .ref (A 3), .ref (A 4), .ref (A 5), .ref (A 6), .ref (A 7), .ref (A 8), .ref (A 9), .int (nI c), .ref (A 10), .int (nI u)])), ((A 0), .inl (dA 1, (js_cp M), .inl (F 0))), ((A 1), .inl (dA 2, (js_cp M), .inr (.inl G))), ((A 2), .inl (dA 1, (js_cp M), .inl (F 2))), ((A 3), .inl (dA 1, (js_cp M), .inl (F 3))), ((A 4), .inl (dA 1, (js_cp M), .inl (F 4))), ((A 5), .inl (dA 1, (js_cp M), .inl (F 5))), ((A 6), .inl (dA 1, (js_cp M), .inl (F 6))), ((A 7), .inl (dA 1, (js_cp M), .inl (F 7))), ((A 8), .inl (dA 1, (js_cp M), .inl (F 8))), ((A 9), .inl (dA 1, (js_cp M), .inl (F 9))), ((A 10), .inl (dA 3, (js_cu Mu), .inl (F 10)))] (jv_pl fun r (_ : (Nat → Nat) × (Nat → Nat → Int32) × (Nat → Int64) × Int32) => r = 0) (fun v => [(o, .inr (7, [.ref (Q 0), .int (K 1), .ref (Q 2), .int (K 3), .int 0, .int (K 5), .ref b, .int v.2.2.2, .int (nI t.length), .int (-1), .ref (Q 10), .int (K 11), .int (K 12), .ref (Q 13), .ref (Q 14), .ref (Q 15), .ref (Q 16), .ref (Q 17)])), ((Q 13), .inl (dA 6, 8, .inr (.inr (.inr (.inr hs))))), ((Q 14), .inl (dA 1, 8, .inl ln)), ((Q 15), .inl (dA 4, 8, .inl th)), (b, .inl (dA 0, 4096, .inl f0)), ((Q 16), .inr (6, [.ref (v.1 0), .ref (v.1 1), .ref (v.1 2), .ref (v.1 3), .ref (v.1 4), .ref (v.1 5), .ref (v.1 6), .ref (v.1 7), .ref (v.1 8), .ref (v.1 9), .int (nI (js_cnt 32 v0)), .ref (v.1 10), .int (nI (js_uu 32 v0))])), ((v.1 0), .inl (dA 1, (js_cp (max M (js_cnt 32 v0))), .inl (v.2.1 0))), ((v.1 1), .inl (dA 2, (js_cp (max M (js_cnt 32 v0))), .inr (.inl v.2.2.1))), ((v.1 2), .inl (dA 1, (js_cp (max M (js_cnt 32 v0))), .inl (v.2.1 2))), ((v.1 3), .inl (dA 1, (js_cp (max M (js_cnt 32 v0))), .inl (v.2.1 3))), ((v.1 4), .inl (dA 1, (js_cp (max M (js_cnt 32 v0))), .inl (v.2.1 4))), ((v.1 5), .inl (dA 1, (js_cp (max M (js_cnt 32 v0))), .inl (v.2.1 5))), ((v.1 6), .inl (dA 1, (js_cp (max M (js_cnt 32 v0))), .inl (v.2.1 6))), ((v.1 7), .inl (dA 1, (js_cp (max M (js_cnt 32 v0))), .inl (v.2.1 7))), ((v.1 8), .inl (dA 1, (js_cp (max M (js_cnt 32 v0))), .inl (v.2.1 8))), ((v.1 9), .inl (dA 1, (js_cp (max M (js_cnt 32 v0))), .inl (v.2.1 9))), ((v.1 10), .inl (dA 3, (js_cu (max Mu (js_uu 32 v0))), .inl (v.2.1 10)))]) ((js_cp (max M (js_cnt 32 v0)) - js_cp M) + (js_cu (max Mu (js_uu 32 v0)) - js_cu Mu)) (20 * (js_cp (max M (js_cnt 32 v0)) - js_cp M) + 2 * (js_cu (max Mu (js_uu 32 v0)) - js_cu Mu)) := by
  refine jv_M.of [(0, .ref o), (1, .int (nI s)), (2, .int 3)] (by decide) (Nat.le_of_ble_eq_true rfl) rfl ?_
  intro pR eR sR mR belowR methR cR AR C hr hin
  refine jv_aload_n C (jd D_Md_about 0 rfl) rfl 0 rfl ?_
  refine jv_iload_n C (jd D_Md_about 1 rfl) rfl 1 rfl ?_
  refine jv_callS (wr := [(o, .inr (7, [.ref (Q 0), .int (K 1), .ref (Q 2), .int (K 3), .int (K 4), .int (K 5), vt, .int (K 7), .int (K 8), .int (K 9), .ref (Q 10), .int (K 11), .int (K 12), .ref (Q 13), .ref (Q 14), .ref (Q 15), .ref (Q 16), .ref (Q 17)])), ((Q 13), .inl (dA 6, 8, .inr (.inr (.inr (.inr hs))))), ((Q 14), .inl (dA 1, 8, .inl ln)), ((Q 15), .inl (dA 4, 8, .inl th)), (b, .inl (dA 0, 4096, .inl f0)), ((Q 16), .inr (6, [.ref (A 0), .ref (A 1), .ref (A 2), .ref (A 3), .ref (A 4), .ref (A 5), .ref (A 6), .ref (A 7), .ref (A 8), .ref (A 9), .int (nI c), .ref (A 10), .int (nI u)])), ((A 0), .inl (dA 1, (js_cp M), .inl (F 0))), ((A 1), .inl (dA 2, (js_cp M), .inr (.inl G))), ((A 2), .inl (dA 1, (js_cp M), .inl (F 2))), ((A 3), .inl (dA 1, (js_cp M), .inl (F 3))), ((A 4), .inl (dA 1, (js_cp M), .inl (F 4))), ((A 5), .inl (dA 1, (js_cp M), .inl (F 5))), ((A 6), .inl (dA 1, (js_cp M), .inl (F 6))), ((A 7), .inl (dA 1, (js_cp M), .inl (F 7))), ((A 8), .inl (dA 1, (js_cp M), .inl (F 8))), ((A 9), .inl (dA 1, (js_cp M), .inl (F 9))), ((A 10), .inl (dA 3, (js_cu Mu), .inl (F 10)))]) C cl_Md_248 (c_Md_isSlot (nI s)) [] [0, 1, 2, 3, 4, 5, 6, 7, 8, 9, 10, 11, 12, 13, 14, 15, 16] rfl rfl rfl rfl (by decide) ⟨Nat.le_of_ble_eq_true rfl, Nat.le_of_ble_eq_true rfl⟩ ⟨(by simp only [jv_rm]; omega), (by simp only [jv_rm]; omega)⟩ rfl rfl (Nat.le_of_ble_eq_true rfl) (jd D_Md_about 2 rfl) (fun v1 _ ks1 => ?_)
  obtain ⟨rs1, rfl, ks1⟩ := ks1
  refine jv_fix [0, 1, 2, 3, 4, 5, 6, 7, 8, 9, 10, 11, 12, 13, 14, 15, 16] [(o, .inr (7, [.ref (Q 0), .int (K 1), .ref (Q 2), .int (K 3), .int (K 4), .int (K 5), vt, .int (K 7), .int (K 8), .int (K 9), .ref (Q 10), .int (K 11), .int (K 12), .ref (Q 13), .ref (Q 14), .ref (Q 15), .ref (Q 16), .ref (Q 17)])), ((Q 13), .inl (dA 6, 8, .inr (.inr (.inr (.inr hs))))), ((Q 14), .inl (dA 1, 8, .inl ln)), ((Q 15), .inl (dA 4, 8, .inl th)), (b, .inl (dA 0, 4096, .inl f0)), ((Q 16), .inr (6, [.ref (A 0), .ref (A 1), .ref (A 2), .ref (A 3), .ref (A 4), .ref (A 5), .ref (A 6), .ref (A 7), .ref (A 8), .ref (A 9), .int (nI c), .ref (A 10), .int (nI u)])), ((A 0), .inl (dA 1, (js_cp M), .inl (F 0))), ((A 1), .inl (dA 2, (js_cp M), .inr (.inl G))), ((A 2), .inl (dA 1, (js_cp M), .inl (F 2))), ((A 3), .inl (dA 1, (js_cp M), .inl (F 3))), ((A 4), .inl (dA 1, (js_cp M), .inl (F 4))), ((A 5), .inl (dA 1, (js_cp M), .inl (F 5))), ((A 6), .inl (dA 1, (js_cp M), .inl (F 6))), ((A 7), .inl (dA 1, (js_cp M), .inl (F 7))), ((A 8), .inl (dA 1, (js_cp M), .inl (F 8))), ((A 9), .inl (dA 1, (js_cp M), .inl (F 9))), ((A 10), .inl (dA 3, (js_cu Mu), .inl (F 10)))] [.int rs1, .ref o] 0 0 rfl rfl rfl (Nat.le_refl _) (Nat.le_refl _) ?_
  have ks1 : rs1 = 1 := ks1.trans (js_sl1 hs8)
  subst ks1
  refine jv_if_eq (tgt := 21) C (jd D_Md_about 3 rfl) (by decide) (fun c5 => absurd c5 (by decide)) (fun c5 => ?_)
  refine jv_iload_n C (jd D_Md_about 4 rfl) rfl 2 rfl ?_
  refine jv_if_lt (tgt := 21) C (jd D_Md_about 5 rfl) (by decide) (fun c9 => absurd c9 (by decide)) (fun c9 => ?_)
  refine jv_iload_n C (jd D_Md_about 6 rfl) rfl 2 rfl ?_
  refine jv_iconst (v := 3) C (jd D_Md_about 7 rfl) (by decide) ?_
  refine jv_icmp_gt (tgt := 21) C (jd D_Md_about 8 rfl) (by decide) (fun c14 => absurd c14 (by decide)) (fun c14 => ?_)
  refine jv_iconst (v := 1) C (jd D_Md_about 9 rfl) (by decide) ?_
  refine jv_goto (tgt := 22) C (jd D_Md_about 10 rfl) (by decide) ?_
  refine jv_iconst (v := 1) C (jd D_Md_about 12 rfl) (by decide) ?_
  refine jv_callV (wr := [((Q 13), .inl (dA 6, 8, .inr (.inr (.inr (.inr hs))))), ((Q 14), .inl (dA 1, 8, .inl ln)), ((Q 15), .inl (dA 4, 8, .inl th)), (b, .inl (dA 0, 4096, .inl f0)), ((Q 16), .inr (6, [.ref (A 0), .ref (A 1), .ref (A 2), .ref (A 3), .ref (A 4), .ref (A 5), .ref (A 6), .ref (A 7), .ref (A 8), .ref (A 9), .int (nI c), .ref (A 10), .int (nI u)])), ((A 0), .inl (dA 1, (js_cp M), .inl (F 0))), ((A 1), .inl (dA 2, (js_cp M), .inr (.inl G))), ((A 2), .inl (dA 1, (js_cp M), .inl (F 2))), ((A 3), .inl (dA 1, (js_cp M), .inl (F 3))), ((A 4), .inl (dA 1, (js_cp M), .inl (F 4))), ((A 5), .inl (dA 1, (js_cp M), .inl (F 5))), ((A 6), .inl (dA 1, (js_cp M), .inl (F 6))), ((A 7), .inl (dA 1, (js_cp M), .inl (F 7))), ((A 8), .inl (dA 1, (js_cp M), .inl (F 8))), ((A 9), .inl (dA 1, (js_cp M), .inl (F 9))), ((A 10), .inl (dA 3, (js_cu Mu), .inl (F 10)))]) C cl_Md_104 (c_Md_good_1 o Q (js_rows [0, (K 1), 0, (K 3), (K 4), (K 5), 0, (K 7), (K 8), (K 9), 0, (K 11), (K 12), 0, 0, 0, 0, 0] 0) vt 1) [0] [1, 2, 3, 4, 5, 6, 7, 8, 9, 10, 11, 12, 13, 14, 15, 16] rfl rfl rfl rfl (by decide) rfl rfl 0 rfl ⟨Nat.le_of_ble_eq_true rfl, Nat.le_of_ble_eq_true rfl⟩ ⟨(by simp only [jv_rm]; omega), (by simp only [jv_rm]; omega)⟩ rfl rfl (Nat.le_of_ble_eq_true rfl) (jd D_Md_about 13 rfl) (fun v2 _ kg3 => ?_)
  obtain ⟨rg3, rfl, kg3⟩ := kg3
  refine jv_fix [16, 0, 1, 2, 3, 4, 5, 6, 7, 8, 9, 10, 11, 12, 13, 14, 15] [(o, .inr (7, [.ref (Q 0), .int (K 1), .ref (Q 2), .int (K 3), .int 0, .int (K 5), vt, .int (K 7), .int (K 8), .int (K 9), .ref (Q 10), .int (K 11), .int (K 12), .ref (Q 13), .ref (Q 14), .ref (Q 15), .ref (Q 16), .ref (Q 17)])), ((Q 13), .inl (dA 6, 8, .inr (.inr (.inr (.inr hs))))), ((Q 14), .inl (dA 1, 8, .inl ln)), ((Q 15), .inl (dA 4, 8, .inl th)), (b, .inl (dA 0, 4096, .inl f0)), ((Q 16), .inr (6, [.ref (A 0), .ref (A 1), .ref (A 2), .ref (A 3), .ref (A 4), .ref (A 5), .ref (A 6), .ref (A 7), .ref (A 8), .ref (A 9), .int (nI c), .ref (A 10), .int (nI u)])), ((A 0), .inl (dA 1, (js_cp M), .inl (F 0))), ((A 1), .inl (dA 2, (js_cp M), .inr (.inl G))), ((A 2), .inl (dA 1, (js_cp M), .inl (F 2))), ((A 3), .inl (dA 1, (js_cp M), .inl (F 3))), ((A 4), .inl (dA 1, (js_cp M), .inl (F 4))), ((A 5), .inl (dA 1, (js_cp M), .inl (F 5))), ((A 6), .inl (dA 1, (js_cp M), .inl (F 6))), ((A 7), .inl (dA 1, (js_cp M), .inl (F 7))), ((A 8), .inl (dA 1, (js_cp M), .inl (F 8))), ((A 9), .inl (dA 1, (js_cp M), .inl (F 9))), ((A 10), .inl (dA 3, (js_cu Mu), .inl (F 10)))] [.int rg3] 0 0 rfl rfl rfl (Nat.le_refl _) (Nat.le_refl _) ?_
  subst kg3
  refine jv_if_eq (tgt := 43) C (jd D_Md_about 14 rfl) (by decide) (fun c26 => absurd c26 (by decide)) (fun c26 => ?_)
  refine jv_aload_n C (jd D_Md_about 15 rfl) rfl 0 rfl ?_
  refine jv_aload_n C (jd D_Md_about 16 rfl) rfl 0 rfl ?_
  refine jv_get C fl_Md_32 0 rfl rfl (jd D_Md_about 17 rfl) ?_
  refine jv_iload_n C (jd D_Md_about 18 rfl) rfl 1 rfl ?_
  refine jv_zald C 3 rfl (vp_in_nI hs8 (by decide)) (jd D_Md_about 19 rfl) ?_
  refine jv_ati (y := 1) (by rw [nI_clamp (by omega)]; exact hth) ?_
  refine jv_iconst (v := 2) C (jd D_Md_about 20 rfl) (by decide) ?_
  refine jv_callV (wr := [((Q 13), .inl (dA 6, 8, .inr (.inr (.inr (.inr hs))))), ((Q 14), .inl (dA 1, 8, .inl ln)), ((Q 15), .inl (dA 4, 8, .inl th)), (b, .inl (dA 0, 4096, .inl f0)), ((Q 16), .inr (6, [.ref (A 0), .ref (A 1), .ref (A 2), .ref (A 3), .ref (A 4), .ref (A 5), .ref (A 6), .ref (A 7), .ref (A 8), .ref (A 9), .int (nI c), .ref (A 10), .int (nI u)])), ((A 0), .inl (dA 1, (js_cp M), .inl (F 0))), ((A 1), .inl (dA 2, (js_cp M), .inr (.inl G))), ((A 2), .inl (dA 1, (js_cp M), .inl (F 2))), ((A 3), .inl (dA 1, (js_cp M), .inl (F 3))), ((A 4), .inl (dA 1, (js_cp M), .inl (F 4))), ((A 5), .inl (dA 1, (js_cp M), .inl (F 5))), ((A 6), .inl (dA 1, (js_cp M), .inl (F 6))), ((A 7), .inl (dA 1, (js_cp M), .inl (F 7))), ((A 8), .inl (dA 1, (js_cp M), .inl (F 8))), ((A 9), .inl (dA 1, (js_cp M), .inl (F 9))), ((A 10), .inl (dA 3, (js_cu Mu), .inl (F 10)))]) C cl_Md_104 (c_Md_good_1 o Q (js_rows [0, (K 1), 0, (K 3), 0, (K 5), 0, (K 7), (K 8), (K 9), 0, (K 11), (K 12), 0, 0, 0, 0, 0] 0) vt 2) [0] [1, 2, 3, 4, 5, 6, 7, 8, 9, 10, 11, 12, 13, 14, 15, 16] rfl rfl rfl rfl (by decide) rfl rfl 0 rfl ⟨Nat.le_of_ble_eq_true rfl, Nat.le_of_ble_eq_true rfl⟩ ⟨(by simp only [jv_rm]; omega), (by simp only [jv_rm]; omega)⟩ rfl rfl (Nat.le_of_ble_eq_true rfl) (jd D_Md_about 21 rfl) (fun v3 _ kg4 => ?_)
  obtain ⟨rg4, rfl, kg4⟩ := kg4
  refine jv_fix [16, 0, 1, 2, 3, 4, 5, 6, 7, 8, 9, 10, 11, 12, 13, 14, 15] [(o, .inr (7, [.ref (Q 0), .int (K 1), .ref (Q 2), .int (K 3), .int 0, .int (K 5), vt, .int (K 7), .int (K 8), .int (K 9), .ref (Q 10), .int (K 11), .int (K 12), .ref (Q 13), .ref (Q 14), .ref (Q 15), .ref (Q 16), .ref (Q 17)])), ((Q 13), .inl (dA 6, 8, .inr (.inr (.inr (.inr hs))))), ((Q 14), .inl (dA 1, 8, .inl ln)), ((Q 15), .inl (dA 4, 8, .inl th)), (b, .inl (dA 0, 4096, .inl f0)), ((Q 16), .inr (6, [.ref (A 0), .ref (A 1), .ref (A 2), .ref (A 3), .ref (A 4), .ref (A 5), .ref (A 6), .ref (A 7), .ref (A 8), .ref (A 9), .int (nI c), .ref (A 10), .int (nI u)])), ((A 0), .inl (dA 1, (js_cp M), .inl (F 0))), ((A 1), .inl (dA 2, (js_cp M), .inr (.inl G))), ((A 2), .inl (dA 1, (js_cp M), .inl (F 2))), ((A 3), .inl (dA 1, (js_cp M), .inl (F 3))), ((A 4), .inl (dA 1, (js_cp M), .inl (F 4))), ((A 5), .inl (dA 1, (js_cp M), .inl (F 5))), ((A 6), .inl (dA 1, (js_cp M), .inl (F 6))), ((A 7), .inl (dA 1, (js_cp M), .inl (F 7))), ((A 8), .inl (dA 1, (js_cp M), .inl (F 8))), ((A 9), .inl (dA 1, (js_cp M), .inl (F 9))), ((A 10), .inl (dA 3, (js_cu Mu), .inl (F 10)))] [.int rg4] 0 0 rfl rfl rfl (Nat.le_refl _) (Nat.le_refl _) ?_
  subst kg4
  refine jv_if_ne (tgt := 45) C (jd D_Md_about 22 rfl) (by decide) (fun c40 => ?_) (fun c40 => absurd c40 (by decide))
  refine jv_aload_n C (jd D_Md_about 25 rfl) rfl 0 rfl ?_
  refine jv_aload_n C (jd D_Md_about 26 rfl) rfl 0 rfl ?_
  refine jv_get C fl_Md_25 0 rfl rfl (jd D_Md_about 27 rfl) ?_
  refine jv_iload_n C (jd D_Md_about 28 rfl) rfl 1 rfl ?_
  refine jv_aldb (h := b) C 1 rfl (vp_in_nI hs8 (by decide)) (by rw [nI_clamp (by omega)]; exact hsb) (jd D_Md_about 29 rfl) ?_
  refine jv_aload_n C (jd D_Md_about 30 rfl) rfl 0 rfl ?_
  refine jv_get C fl_Md_28 0 rfl rfl (jd D_Md_about 31 rfl) ?_
  refine jv_iload_n C (jd D_Md_about 32 rfl) rfl 1 rfl ?_
  refine jv_iald C 2 rfl (vp_in_nI hs8 (by decide)) (jd D_Md_about 33 rfl) ?_
  refine jv_ati (y := nI t.length) (by rw [nI_clamp (by omega)]; exact hln) ?_
  refine jv_aload_n C (jd D_Md_about 34 rfl) rfl 0 rfl ?_
  refine jv_get C fl_Md_39 0 rfl rfl (jd D_Md_about 35 rfl) ?_
  refine jv_callV (wr := [((Q 13), .inl (dA 6, 8, .inr (.inr (.inr (.inr hs))))), ((Q 14), .inl (dA 1, 8, .inl ln)), ((Q 15), .inl (dA 4, 8, .inl th))]) C cl_Md_253 (c_Md_read3_ok o Q (js_rows [0, (K 1), 0, (K 3), 0, (K 5), 0, (K 7), (K 8), (K 9), 0, (K 11), (K 12), 0, 0, 0, 0, 0] 0) vt b 4096 f0 t (Q 16) A M Mu F G c u v0 h4 (by decide) ht h4 hM4 hMu4 hrd) [0, 4, 5, 6, 7, 8, 9, 10, 11, 12, 13, 14, 15, 16] [1, 2, 3] rfl rfl rfl rfl (by decide) rfl rfl 0 rfl ⟨Nat.le_of_ble_eq_true rfl, Nat.le_of_ble_eq_true rfl⟩ ⟨(by simp only [jv_rm]; omega), (by simp only [jv_rm]; omega)⟩ rfl rfl (Nat.le_of_ble_eq_true rfl) (jd D_Md_about 36 rfl) (fun v4 w5 k5 => ?_)
  obtain ⟨r5, rfl, k5⟩ := k5
  refine jv_fix [3, 0, 1, 2, 4, 5, 6, 7, 8, 9, 10, 11, 12, 13, 14, 15, 16] [(o, .inr (7, [.ref (Q 0), .int (K 1), .ref (Q 2), .int (K 3), .int 0, .int (K 5), .ref b, .int w5.2.2.2, .int (nI t.length), .int (-1), .ref (Q 10), .int (K 11), .int (K 12), .ref (Q 13), .ref (Q 14), .ref (Q 15), .ref (Q 16), .ref (Q 17)])), ((Q 13), .inl (dA 6, 8, .inr (.inr (.inr (.inr hs))))), ((Q 14), .inl (dA 1, 8, .inl ln)), ((Q 15), .inl (dA 4, 8, .inl th)), (b, .inl (dA 0, 4096, .inl f0)), ((Q 16), .inr (6, [.ref (w5.1 0), .ref (w5.1 1), .ref (w5.1 2), .ref (w5.1 3), .ref (w5.1 4), .ref (w5.1 5), .ref (w5.1 6), .ref (w5.1 7), .ref (w5.1 8), .ref (w5.1 9), .int (nI (js_cnt 32 v0)), .ref (w5.1 10), .int (nI (js_uu 32 v0))])), ((w5.1 0), .inl (dA 1, (js_cp (max M (js_cnt 32 v0))), .inl (w5.2.1 0))), ((w5.1 1), .inl (dA 2, (js_cp (max M (js_cnt 32 v0))), .inr (.inl w5.2.2.1))), ((w5.1 2), .inl (dA 1, (js_cp (max M (js_cnt 32 v0))), .inl (w5.2.1 2))), ((w5.1 3), .inl (dA 1, (js_cp (max M (js_cnt 32 v0))), .inl (w5.2.1 3))), ((w5.1 4), .inl (dA 1, (js_cp (max M (js_cnt 32 v0))), .inl (w5.2.1 4))), ((w5.1 5), .inl (dA 1, (js_cp (max M (js_cnt 32 v0))), .inl (w5.2.1 5))), ((w5.1 6), .inl (dA 1, (js_cp (max M (js_cnt 32 v0))), .inl (w5.2.1 6))), ((w5.1 7), .inl (dA 1, (js_cp (max M (js_cnt 32 v0))), .inl (w5.2.1 7))), ((w5.1 8), .inl (dA 1, (js_cp (max M (js_cnt 32 v0))), .inl (w5.2.1 8))), ((w5.1 9), .inl (dA 1, (js_cp (max M (js_cnt 32 v0))), .inl (w5.2.1 9))), ((w5.1 10), .inl (dA 3, (js_cu (max Mu (js_uu 32 v0))), .inl (w5.2.1 10)))] [.int r5] ((js_cp (max M (js_cnt 32 v0)) - js_cp M) + (js_cu (max Mu (js_uu 32 v0)) - js_cu Mu)) (20 * (js_cp (max M (js_cnt 32 v0)) - js_cp M) + 2 * (js_cu (max Mu (js_uu 32 v0)) - js_cu Mu)) rfl rfl rfl (by omega) (by omega) ?_
  obtain ⟨e5, hV5, hC5⟩ := k5
  subst e5
  refine jv_istore_n C [(3, .int 0), (0, .ref o), (1, .int (nI s)), (2, .int 3)] (jd D_Md_about 37 rfl) rfl (by decide) rfl ?_
  obtain ⟨ok1, hle1⟩ := js_rd_ok ht.by hrd
  have hc1 := js_cnt_len ok1
  have hc0 := js_cnt_pos 32 v0
  have hu1 := js_uu_le 32 v0 ok1
  have hb1 := js_cp_b (max M (js_cnt 32 v0))
  have hb2_ := js_cu_b (max Mu (js_uu 32 v0))
  have hkr := js_TV_kr hV5
  have hk7 : js_kr 32 v0 < 7 := js_kr_lt ok1
  refine jv_aload_n C (jd D_Md_about 38 rfl) rfl 1 rfl ?_
  refine jv_get C fl_Md_39 0 rfl rfl (jd D_Md_about 39 rfl) ?_
  refine jv_get C fl_Md_46 5 rfl rfl (jd D_Md_about 40 rfl) ?_
  refine jv_iload_n C (jd D_Md_about 41 rfl) rfl 0 rfl ?_
  refine jv_iald C 6 rfl (vp_in_nI (n := 0) (by omega) (by omega)) (jd D_Md_about 42 rfl) ?_
  refine jv_ati (y := nI (js_kr 32 v0)) (hkr) ?_
  refine jv_istore C [(4, .int (nI (js_kr 32 v0))), (3, .int 0), (0, .ref o), (1, .int (nI s)), (2, .int 3)] (jd D_Md_about 43 rfl) (by decide) rfl ?_
  refine jv_iload_n C (jd D_Md_about 44 rfl) rfl 4 rfl ?_
  refine jv_if_ne (tgt := 107) C (jd D_Md_about 45 rfl) (by decide) (fun c78 => ?_) (fun c78 => absurd c78 (by decide))
  refine jv_iload_n C (jd D_Md_about 59 rfl) rfl 4 rfl ?_
  refine jv_iconst (v := 2) C (jd D_Md_about 60 rfl) (by decide) ?_
  refine jv_icmp_ne (tgt := 122) C (jd D_Md_about 61 rfl) (by decide) (fun c109 => ?_) (fun c109 => absurd c109 (by decide))
  refine jv_iload_n C (jd D_Md_about 68 rfl) rfl 4 rfl ?_
  refine jv_iconst (v := 3) C (jd D_Md_about 69 rfl) (by decide) ?_
  refine jv_icmp_ne (tgt := 147) C (jd D_Md_about 70 rfl) (by decide) (fun c124 => absurd c124 (fun z => z rfl)) (fun c124 => ?_)
  refine jv_iload C (jd D_Md_about 71 rfl) 0 rfl ?_
  refine jv_iconst (v := 3) C (jd D_Md_about 72 rfl) (by decide) ?_
  refine jv_icmp_ne (tgt := 145) C (jd D_Md_about 73 rfl) (by decide) (fun c130 => ?_) (fun c130 => absurd c130 (fun z => hkk ((nI_eq (b := 3) (by omega) (by decide)).mp z)))
  refine jv_lconst (v := 0) C (jd D_Md_about 80 rfl) (by decide) ?_
  exact jv_lret C hr w5 (rfl) [0, 1, 2, 3, 4, 5, 6, 7, 8, 9, 10, 11, 12, 13, 14, 15, 16] rfl rfl (by omega) (by omega) (jd D_Md_about 81 rfl)

set_option maxHeartbeats 4000000 in
set_option maxRecDepth 100000 in
/-- about 1 -/
theorem c_Md_about_1m {l : Launch} {D : va_G} {dA : Nat → ClassId} {zz : (Nat → Nat) × (Nat → Nat)} (o : Nat) (Q : Nat → Nat) (K : Nat → Int32) (vt : Value) (hs : Nat → Option Nat) (ln th : Nat → Int32) (b : Nat) (f0 : Nat → Int32) (t : List Nat) (A : Nat → Nat) (M Mu : Nat) (F : Nat → Nat → Int32) (G : Nat → Int64) (c u : Nat) (s : Nat) (v0 : js_J 32) (l0 : List (List Nat × js_J 31)) (bb : Bool) (ht : js_tx f0 t) (h4 : t.length ≤ 4096) (hs8 : s < 8) (hsb : hs s = some b) (hth : th s = 1) (hln : ln s = nI t.length) (hrd : js_rd t = .inr v0) (hM4 : M ≤ 4096) (hMu4 : Mu ≤ 4096) (hv0 : v0 = Sum.inr (bb, l0)) : jv_M l D dA zz y_Md_about b_Md_about 9 (some (FieldType.long)) 73 [.ref o, .int (nI s), .int 1] [(o, .inr (7, [.ref (Q 0), .int (K 1), .ref (Q 2), .int (K 3), .int (K 4), .int (K 5), vt, .int (K 7), .int (K 8), .int (K 9), .ref (Q 10), .int (K 11), .int (K 12), .ref (Q 13), .ref (Q 14), .ref (Q 15), .ref (Q 16), .ref (Q 17)])), ((Q 13), .inl (dA 6, 8, .inr (.inr (.inr (.inr hs))))), ((Q 14), .inl (dA 1, 8, .inl ln)), ((Q 15), .inl (dA 4, 8, .inl th)), (b, .inl (dA 0, 4096, .inl f0)), ((Q 16), .inr (6, [.ref (A 0), .ref (A 1), .ref (A 2), .ref (A 3), .ref (A 4), .ref (A 5), .ref (A 6), .ref (A 7), .ref (A 8), .ref (A 9), .int (nI c), .ref (A 10), .int (nI u)])), ((A 0), .inl (dA 1, (js_cp M), .inl (F 0))), ((A 1), .inl (dA 2, (js_cp M), .inr (.inl G))), ((A 2), .inl (dA 1, (js_cp M), .inl (F 2))), ((A 3), .inl (dA 1, (js_cp M), .inl (F 3))), ((A 4), .inl (dA 1, (js_cp M), .inl (F 4))), ((A 5), .inl (dA 1, (js_cp M), .inl (F 5))), ((A 6), .inl (dA 1, (js_cp M), .inl (F 6))), ((A 7), .inl (dA 1, (js_cp M), .inl (F 7))), ((A 8), .inl (dA 1, (js_cp M), .inl (F 8))), ((A 9), .inl (dA 1, (js_cp M), .inl (F 9))), ((A 10), .inl (dA 3, (js_cu Mu), .inl (F 10)))] (jv_pl fun r (_ : (Nat → Nat) × (Nat → Nat → Int32) × (Nat → Int64) × Int32) => r = (nI l0.length).toInt64) (fun v => [(o, .inr (7, [.ref (Q 0), .int (K 1), .ref (Q 2), .int (K 3), .int 0, .int (K 5), .ref b, .int v.2.2.2, .int (nI t.length), .int (-1), .ref (Q 10), .int (K 11), .int (K 12), .ref (Q 13), .ref (Q 14), .ref (Q 15), .ref (Q 16), .ref (Q 17)])), ((Q 13), .inl (dA 6, 8, .inr (.inr (.inr (.inr hs))))), ((Q 14), .inl (dA 1, 8, .inl ln)), ((Q 15), .inl (dA 4, 8, .inl th)), (b, .inl (dA 0, 4096, .inl f0)), ((Q 16), .inr (6, [.ref (v.1 0), .ref (v.1 1), .ref (v.1 2), .ref (v.1 3), .ref (v.1 4), .ref (v.1 5), .ref (v.1 6), .ref (v.1 7), .ref (v.1 8), .ref (v.1 9), .int (nI (js_cnt 32 v0)), .ref (v.1 10), .int (nI (js_uu 32 v0))])), ((v.1 0), .inl (dA 1, (js_cp (max M (js_cnt 32 v0))), .inl (v.2.1 0))), ((v.1 1), .inl (dA 2, (js_cp (max M (js_cnt 32 v0))), .inr (.inl v.2.2.1))), ((v.1 2), .inl (dA 1, (js_cp (max M (js_cnt 32 v0))), .inl (v.2.1 2))), ((v.1 3), .inl (dA 1, (js_cp (max M (js_cnt 32 v0))), .inl (v.2.1 3))), ((v.1 4), .inl (dA 1, (js_cp (max M (js_cnt 32 v0))), .inl (v.2.1 4))), ((v.1 5), .inl (dA 1, (js_cp (max M (js_cnt 32 v0))), .inl (v.2.1 5))), ((v.1 6), .inl (dA 1, (js_cp (max M (js_cnt 32 v0))), .inl (v.2.1 6))), ((v.1 7), .inl (dA 1, (js_cp (max M (js_cnt 32 v0))), .inl (v.2.1 7))), ((v.1 8), .inl (dA 1, (js_cp (max M (js_cnt 32 v0))), .inl (v.2.1 8))), ((v.1 9), .inl (dA 1, (js_cp (max M (js_cnt 32 v0))), .inl (v.2.1 9))), ((v.1 10), .inl (dA 3, (js_cu (max Mu (js_uu 32 v0))), .inl (v.2.1 10)))]) ((js_cp (max M (js_cnt 32 v0)) - js_cp M) + (js_cu (max Mu (js_uu 32 v0)) - js_cu Mu)) (20 * (js_cp (max M (js_cnt 32 v0)) - js_cp M) + 2 * (js_cu (max Mu (js_uu 32 v0)) - js_cu Mu)) := by
  refine jv_M.of [(0, .ref o), (1, .int (nI s)), (2, .int 1)] (by decide) (Nat.le_of_ble_eq_true rfl) rfl ?_
  intro pR eR sR mR belowR methR cR AR C hr hin
  refine jv_aload_n C (jd D_Md_about 0 rfl) rfl 0 rfl ?_
  refine jv_iload_n C (jd D_Md_about 1 rfl) rfl 1 rfl ?_
  refine jv_callS (wr := [(o, .inr (7, [.ref (Q 0), .int (K 1), .ref (Q 2), .int (K 3), .int (K 4), .int (K 5), vt, .int (K 7), .int (K 8), .int (K 9), .ref (Q 10), .int (K 11), .int (K 12), .ref (Q 13), .ref (Q 14), .ref (Q 15), .ref (Q 16), .ref (Q 17)])), ((Q 13), .inl (dA 6, 8, .inr (.inr (.inr (.inr hs))))), ((Q 14), .inl (dA 1, 8, .inl ln)), ((Q 15), .inl (dA 4, 8, .inl th)), (b, .inl (dA 0, 4096, .inl f0)), ((Q 16), .inr (6, [.ref (A 0), .ref (A 1), .ref (A 2), .ref (A 3), .ref (A 4), .ref (A 5), .ref (A 6), .ref (A 7), .ref (A 8), .ref (A 9), .int (nI c), .ref (A 10), .int (nI u)])), ((A 0), .inl (dA 1, (js_cp M), .inl (F 0))), ((A 1), .inl (dA 2, (js_cp M), .inr (.inl G))), ((A 2), .inl (dA 1, (js_cp M), .inl (F 2))), ((A 3), .inl (dA 1, (js_cp M), .inl (F 3))), ((A 4), .inl (dA 1, (js_cp M), .inl (F 4))), ((A 5), .inl (dA 1, (js_cp M), .inl (F 5))), ((A 6), .inl (dA 1, (js_cp M), .inl (F 6))), ((A 7), .inl (dA 1, (js_cp M), .inl (F 7))), ((A 8), .inl (dA 1, (js_cp M), .inl (F 8))), ((A 9), .inl (dA 1, (js_cp M), .inl (F 9))), ((A 10), .inl (dA 3, (js_cu Mu), .inl (F 10)))]) C cl_Md_248 (c_Md_isSlot (nI s)) [] [0, 1, 2, 3, 4, 5, 6, 7, 8, 9, 10, 11, 12, 13, 14, 15, 16] rfl rfl rfl rfl (by decide) ⟨Nat.le_of_ble_eq_true rfl, Nat.le_of_ble_eq_true rfl⟩ ⟨(by simp only [jv_rm]; omega), (by simp only [jv_rm]; omega)⟩ rfl rfl (Nat.le_of_ble_eq_true rfl) (jd D_Md_about 2 rfl) (fun v1 _ ks1 => ?_)
  obtain ⟨rs1, rfl, ks1⟩ := ks1
  refine jv_fix [0, 1, 2, 3, 4, 5, 6, 7, 8, 9, 10, 11, 12, 13, 14, 15, 16] [(o, .inr (7, [.ref (Q 0), .int (K 1), .ref (Q 2), .int (K 3), .int (K 4), .int (K 5), vt, .int (K 7), .int (K 8), .int (K 9), .ref (Q 10), .int (K 11), .int (K 12), .ref (Q 13), .ref (Q 14), .ref (Q 15), .ref (Q 16), .ref (Q 17)])), ((Q 13), .inl (dA 6, 8, .inr (.inr (.inr (.inr hs))))), ((Q 14), .inl (dA 1, 8, .inl ln)), ((Q 15), .inl (dA 4, 8, .inl th)), (b, .inl (dA 0, 4096, .inl f0)), ((Q 16), .inr (6, [.ref (A 0), .ref (A 1), .ref (A 2), .ref (A 3), .ref (A 4), .ref (A 5), .ref (A 6), .ref (A 7), .ref (A 8), .ref (A 9), .int (nI c), .ref (A 10), .int (nI u)])), ((A 0), .inl (dA 1, (js_cp M), .inl (F 0))), ((A 1), .inl (dA 2, (js_cp M), .inr (.inl G))), ((A 2), .inl (dA 1, (js_cp M), .inl (F 2))), ((A 3), .inl (dA 1, (js_cp M), .inl (F 3))), ((A 4), .inl (dA 1, (js_cp M), .inl (F 4))), ((A 5), .inl (dA 1, (js_cp M), .inl (F 5))), ((A 6), .inl (dA 1, (js_cp M), .inl (F 6))), ((A 7), .inl (dA 1, (js_cp M), .inl (F 7))), ((A 8), .inl (dA 1, (js_cp M), .inl (F 8))), ((A 9), .inl (dA 1, (js_cp M), .inl (F 9))), ((A 10), .inl (dA 3, (js_cu Mu), .inl (F 10)))] [.int rs1, .ref o] 0 0 rfl rfl rfl (Nat.le_refl _) (Nat.le_refl _) ?_
  have ks1 : rs1 = 1 := ks1.trans (js_sl1 hs8)
  subst ks1
  refine jv_if_eq (tgt := 21) C (jd D_Md_about 3 rfl) (by decide) (fun c5 => absurd c5 (by decide)) (fun c5 => ?_)
  refine jv_iload_n C (jd D_Md_about 4 rfl) rfl 2 rfl ?_
  refine jv_if_lt (tgt := 21) C (jd D_Md_about 5 rfl) (by decide) (fun c9 => absurd c9 (by decide)) (fun c9 => ?_)
  refine jv_iload_n C (jd D_Md_about 6 rfl) rfl 2 rfl ?_
  refine jv_iconst (v := 3) C (jd D_Md_about 7 rfl) (by decide) ?_
  refine jv_icmp_gt (tgt := 21) C (jd D_Md_about 8 rfl) (by decide) (fun c14 => absurd c14 (by decide)) (fun c14 => ?_)
  refine jv_iconst (v := 1) C (jd D_Md_about 9 rfl) (by decide) ?_
  refine jv_goto (tgt := 22) C (jd D_Md_about 10 rfl) (by decide) ?_
  refine jv_iconst (v := 1) C (jd D_Md_about 12 rfl) (by decide) ?_
  refine jv_callV (wr := [((Q 13), .inl (dA 6, 8, .inr (.inr (.inr (.inr hs))))), ((Q 14), .inl (dA 1, 8, .inl ln)), ((Q 15), .inl (dA 4, 8, .inl th)), (b, .inl (dA 0, 4096, .inl f0)), ((Q 16), .inr (6, [.ref (A 0), .ref (A 1), .ref (A 2), .ref (A 3), .ref (A 4), .ref (A 5), .ref (A 6), .ref (A 7), .ref (A 8), .ref (A 9), .int (nI c), .ref (A 10), .int (nI u)])), ((A 0), .inl (dA 1, (js_cp M), .inl (F 0))), ((A 1), .inl (dA 2, (js_cp M), .inr (.inl G))), ((A 2), .inl (dA 1, (js_cp M), .inl (F 2))), ((A 3), .inl (dA 1, (js_cp M), .inl (F 3))), ((A 4), .inl (dA 1, (js_cp M), .inl (F 4))), ((A 5), .inl (dA 1, (js_cp M), .inl (F 5))), ((A 6), .inl (dA 1, (js_cp M), .inl (F 6))), ((A 7), .inl (dA 1, (js_cp M), .inl (F 7))), ((A 8), .inl (dA 1, (js_cp M), .inl (F 8))), ((A 9), .inl (dA 1, (js_cp M), .inl (F 9))), ((A 10), .inl (dA 3, (js_cu Mu), .inl (F 10)))]) C cl_Md_104 (c_Md_good_1 o Q (js_rows [0, (K 1), 0, (K 3), (K 4), (K 5), 0, (K 7), (K 8), (K 9), 0, (K 11), (K 12), 0, 0, 0, 0, 0] 0) vt 1) [0] [1, 2, 3, 4, 5, 6, 7, 8, 9, 10, 11, 12, 13, 14, 15, 16] rfl rfl rfl rfl (by decide) rfl rfl 0 rfl ⟨Nat.le_of_ble_eq_true rfl, Nat.le_of_ble_eq_true rfl⟩ ⟨(by simp only [jv_rm]; omega), (by simp only [jv_rm]; omega)⟩ rfl rfl (Nat.le_of_ble_eq_true rfl) (jd D_Md_about 13 rfl) (fun v2 _ kg3 => ?_)
  obtain ⟨rg3, rfl, kg3⟩ := kg3
  refine jv_fix [16, 0, 1, 2, 3, 4, 5, 6, 7, 8, 9, 10, 11, 12, 13, 14, 15] [(o, .inr (7, [.ref (Q 0), .int (K 1), .ref (Q 2), .int (K 3), .int 0, .int (K 5), vt, .int (K 7), .int (K 8), .int (K 9), .ref (Q 10), .int (K 11), .int (K 12), .ref (Q 13), .ref (Q 14), .ref (Q 15), .ref (Q 16), .ref (Q 17)])), ((Q 13), .inl (dA 6, 8, .inr (.inr (.inr (.inr hs))))), ((Q 14), .inl (dA 1, 8, .inl ln)), ((Q 15), .inl (dA 4, 8, .inl th)), (b, .inl (dA 0, 4096, .inl f0)), ((Q 16), .inr (6, [.ref (A 0), .ref (A 1), .ref (A 2), .ref (A 3), .ref (A 4), .ref (A 5), .ref (A 6), .ref (A 7), .ref (A 8), .ref (A 9), .int (nI c), .ref (A 10), .int (nI u)])), ((A 0), .inl (dA 1, (js_cp M), .inl (F 0))), ((A 1), .inl (dA 2, (js_cp M), .inr (.inl G))), ((A 2), .inl (dA 1, (js_cp M), .inl (F 2))), ((A 3), .inl (dA 1, (js_cp M), .inl (F 3))), ((A 4), .inl (dA 1, (js_cp M), .inl (F 4))), ((A 5), .inl (dA 1, (js_cp M), .inl (F 5))), ((A 6), .inl (dA 1, (js_cp M), .inl (F 6))), ((A 7), .inl (dA 1, (js_cp M), .inl (F 7))), ((A 8), .inl (dA 1, (js_cp M), .inl (F 8))), ((A 9), .inl (dA 1, (js_cp M), .inl (F 9))), ((A 10), .inl (dA 3, (js_cu Mu), .inl (F 10)))] [.int rg3] 0 0 rfl rfl rfl (Nat.le_refl _) (Nat.le_refl _) ?_
  subst kg3
  refine jv_if_eq (tgt := 43) C (jd D_Md_about 14 rfl) (by decide) (fun c26 => absurd c26 (by decide)) (fun c26 => ?_)
  refine jv_aload_n C (jd D_Md_about 15 rfl) rfl 0 rfl ?_
  refine jv_aload_n C (jd D_Md_about 16 rfl) rfl 0 rfl ?_
  refine jv_get C fl_Md_32 0 rfl rfl (jd D_Md_about 17 rfl) ?_
  refine jv_iload_n C (jd D_Md_about 18 rfl) rfl 1 rfl ?_
  refine jv_zald C 3 rfl (vp_in_nI hs8 (by decide)) (jd D_Md_about 19 rfl) ?_
  refine jv_ati (y := 1) (by rw [nI_clamp (by omega)]; exact hth) ?_
  refine jv_iconst (v := 2) C (jd D_Md_about 20 rfl) (by decide) ?_
  refine jv_callV (wr := [((Q 13), .inl (dA 6, 8, .inr (.inr (.inr (.inr hs))))), ((Q 14), .inl (dA 1, 8, .inl ln)), ((Q 15), .inl (dA 4, 8, .inl th)), (b, .inl (dA 0, 4096, .inl f0)), ((Q 16), .inr (6, [.ref (A 0), .ref (A 1), .ref (A 2), .ref (A 3), .ref (A 4), .ref (A 5), .ref (A 6), .ref (A 7), .ref (A 8), .ref (A 9), .int (nI c), .ref (A 10), .int (nI u)])), ((A 0), .inl (dA 1, (js_cp M), .inl (F 0))), ((A 1), .inl (dA 2, (js_cp M), .inr (.inl G))), ((A 2), .inl (dA 1, (js_cp M), .inl (F 2))), ((A 3), .inl (dA 1, (js_cp M), .inl (F 3))), ((A 4), .inl (dA 1, (js_cp M), .inl (F 4))), ((A 5), .inl (dA 1, (js_cp M), .inl (F 5))), ((A 6), .inl (dA 1, (js_cp M), .inl (F 6))), ((A 7), .inl (dA 1, (js_cp M), .inl (F 7))), ((A 8), .inl (dA 1, (js_cp M), .inl (F 8))), ((A 9), .inl (dA 1, (js_cp M), .inl (F 9))), ((A 10), .inl (dA 3, (js_cu Mu), .inl (F 10)))]) C cl_Md_104 (c_Md_good_1 o Q (js_rows [0, (K 1), 0, (K 3), 0, (K 5), 0, (K 7), (K 8), (K 9), 0, (K 11), (K 12), 0, 0, 0, 0, 0] 0) vt 2) [0] [1, 2, 3, 4, 5, 6, 7, 8, 9, 10, 11, 12, 13, 14, 15, 16] rfl rfl rfl rfl (by decide) rfl rfl 0 rfl ⟨Nat.le_of_ble_eq_true rfl, Nat.le_of_ble_eq_true rfl⟩ ⟨(by simp only [jv_rm]; omega), (by simp only [jv_rm]; omega)⟩ rfl rfl (Nat.le_of_ble_eq_true rfl) (jd D_Md_about 21 rfl) (fun v3 _ kg4 => ?_)
  obtain ⟨rg4, rfl, kg4⟩ := kg4
  refine jv_fix [16, 0, 1, 2, 3, 4, 5, 6, 7, 8, 9, 10, 11, 12, 13, 14, 15] [(o, .inr (7, [.ref (Q 0), .int (K 1), .ref (Q 2), .int (K 3), .int 0, .int (K 5), vt, .int (K 7), .int (K 8), .int (K 9), .ref (Q 10), .int (K 11), .int (K 12), .ref (Q 13), .ref (Q 14), .ref (Q 15), .ref (Q 16), .ref (Q 17)])), ((Q 13), .inl (dA 6, 8, .inr (.inr (.inr (.inr hs))))), ((Q 14), .inl (dA 1, 8, .inl ln)), ((Q 15), .inl (dA 4, 8, .inl th)), (b, .inl (dA 0, 4096, .inl f0)), ((Q 16), .inr (6, [.ref (A 0), .ref (A 1), .ref (A 2), .ref (A 3), .ref (A 4), .ref (A 5), .ref (A 6), .ref (A 7), .ref (A 8), .ref (A 9), .int (nI c), .ref (A 10), .int (nI u)])), ((A 0), .inl (dA 1, (js_cp M), .inl (F 0))), ((A 1), .inl (dA 2, (js_cp M), .inr (.inl G))), ((A 2), .inl (dA 1, (js_cp M), .inl (F 2))), ((A 3), .inl (dA 1, (js_cp M), .inl (F 3))), ((A 4), .inl (dA 1, (js_cp M), .inl (F 4))), ((A 5), .inl (dA 1, (js_cp M), .inl (F 5))), ((A 6), .inl (dA 1, (js_cp M), .inl (F 6))), ((A 7), .inl (dA 1, (js_cp M), .inl (F 7))), ((A 8), .inl (dA 1, (js_cp M), .inl (F 8))), ((A 9), .inl (dA 1, (js_cp M), .inl (F 9))), ((A 10), .inl (dA 3, (js_cu Mu), .inl (F 10)))] [.int rg4] 0 0 rfl rfl rfl (Nat.le_refl _) (Nat.le_refl _) ?_
  subst kg4
  refine jv_if_ne (tgt := 45) C (jd D_Md_about 22 rfl) (by decide) (fun c40 => ?_) (fun c40 => absurd c40 (by decide))
  refine jv_aload_n C (jd D_Md_about 25 rfl) rfl 0 rfl ?_
  refine jv_aload_n C (jd D_Md_about 26 rfl) rfl 0 rfl ?_
  refine jv_get C fl_Md_25 0 rfl rfl (jd D_Md_about 27 rfl) ?_
  refine jv_iload_n C (jd D_Md_about 28 rfl) rfl 1 rfl ?_
  refine jv_aldb (h := b) C 1 rfl (vp_in_nI hs8 (by decide)) (by rw [nI_clamp (by omega)]; exact hsb) (jd D_Md_about 29 rfl) ?_
  refine jv_aload_n C (jd D_Md_about 30 rfl) rfl 0 rfl ?_
  refine jv_get C fl_Md_28 0 rfl rfl (jd D_Md_about 31 rfl) ?_
  refine jv_iload_n C (jd D_Md_about 32 rfl) rfl 1 rfl ?_
  refine jv_iald C 2 rfl (vp_in_nI hs8 (by decide)) (jd D_Md_about 33 rfl) ?_
  refine jv_ati (y := nI t.length) (by rw [nI_clamp (by omega)]; exact hln) ?_
  refine jv_aload_n C (jd D_Md_about 34 rfl) rfl 0 rfl ?_
  refine jv_get C fl_Md_39 0 rfl rfl (jd D_Md_about 35 rfl) ?_
  refine jv_callV (wr := [((Q 13), .inl (dA 6, 8, .inr (.inr (.inr (.inr hs))))), ((Q 14), .inl (dA 1, 8, .inl ln)), ((Q 15), .inl (dA 4, 8, .inl th))]) C cl_Md_253 (c_Md_read3_ok o Q (js_rows [0, (K 1), 0, (K 3), 0, (K 5), 0, (K 7), (K 8), (K 9), 0, (K 11), (K 12), 0, 0, 0, 0, 0] 0) vt b 4096 f0 t (Q 16) A M Mu F G c u v0 h4 (by decide) ht h4 hM4 hMu4 hrd) [0, 4, 5, 6, 7, 8, 9, 10, 11, 12, 13, 14, 15, 16] [1, 2, 3] rfl rfl rfl rfl (by decide) rfl rfl 0 rfl ⟨Nat.le_of_ble_eq_true rfl, Nat.le_of_ble_eq_true rfl⟩ ⟨(by simp only [jv_rm]; omega), (by simp only [jv_rm]; omega)⟩ rfl rfl (Nat.le_of_ble_eq_true rfl) (jd D_Md_about 36 rfl) (fun v4 w5 k5 => ?_)
  obtain ⟨r5, rfl, k5⟩ := k5
  refine jv_fix [3, 0, 1, 2, 4, 5, 6, 7, 8, 9, 10, 11, 12, 13, 14, 15, 16] [(o, .inr (7, [.ref (Q 0), .int (K 1), .ref (Q 2), .int (K 3), .int 0, .int (K 5), .ref b, .int w5.2.2.2, .int (nI t.length), .int (-1), .ref (Q 10), .int (K 11), .int (K 12), .ref (Q 13), .ref (Q 14), .ref (Q 15), .ref (Q 16), .ref (Q 17)])), ((Q 13), .inl (dA 6, 8, .inr (.inr (.inr (.inr hs))))), ((Q 14), .inl (dA 1, 8, .inl ln)), ((Q 15), .inl (dA 4, 8, .inl th)), (b, .inl (dA 0, 4096, .inl f0)), ((Q 16), .inr (6, [.ref (w5.1 0), .ref (w5.1 1), .ref (w5.1 2), .ref (w5.1 3), .ref (w5.1 4), .ref (w5.1 5), .ref (w5.1 6), .ref (w5.1 7), .ref (w5.1 8), .ref (w5.1 9), .int (nI (js_cnt 32 v0)), .ref (w5.1 10), .int (nI (js_uu 32 v0))])), ((w5.1 0), .inl (dA 1, (js_cp (max M (js_cnt 32 v0))), .inl (w5.2.1 0))), ((w5.1 1), .inl (dA 2, (js_cp (max M (js_cnt 32 v0))), .inr (.inl w5.2.2.1))), ((w5.1 2), .inl (dA 1, (js_cp (max M (js_cnt 32 v0))), .inl (w5.2.1 2))), ((w5.1 3), .inl (dA 1, (js_cp (max M (js_cnt 32 v0))), .inl (w5.2.1 3))), ((w5.1 4), .inl (dA 1, (js_cp (max M (js_cnt 32 v0))), .inl (w5.2.1 4))), ((w5.1 5), .inl (dA 1, (js_cp (max M (js_cnt 32 v0))), .inl (w5.2.1 5))), ((w5.1 6), .inl (dA 1, (js_cp (max M (js_cnt 32 v0))), .inl (w5.2.1 6))), ((w5.1 7), .inl (dA 1, (js_cp (max M (js_cnt 32 v0))), .inl (w5.2.1 7))), ((w5.1 8), .inl (dA 1, (js_cp (max M (js_cnt 32 v0))), .inl (w5.2.1 8))), ((w5.1 9), .inl (dA 1, (js_cp (max M (js_cnt 32 v0))), .inl (w5.2.1 9))), ((w5.1 10), .inl (dA 3, (js_cu (max Mu (js_uu 32 v0))), .inl (w5.2.1 10)))] [.int r5] ((js_cp (max M (js_cnt 32 v0)) - js_cp M) + (js_cu (max Mu (js_uu 32 v0)) - js_cu Mu)) (20 * (js_cp (max M (js_cnt 32 v0)) - js_cp M) + 2 * (js_cu (max Mu (js_uu 32 v0)) - js_cu Mu)) rfl rfl rfl (by omega) (by omega) ?_
  obtain ⟨e5, hV5, hC5⟩ := k5
  subst e5
  refine jv_istore_n C [(3, .int 0), (0, .ref o), (1, .int (nI s)), (2, .int 1)] (jd D_Md_about 37 rfl) rfl (by decide) rfl ?_
  obtain ⟨ok1, hle1⟩ := js_rd_ok ht.by hrd
  have hc1 := js_cnt_len ok1
  have hc0 := js_cnt_pos 32 v0
  have hu1 := js_uu_le 32 v0 ok1
  have hb1 := js_cp_b (max M (js_cnt 32 v0))
  have hb2_ := js_cu_b (max Mu (js_uu 32 v0))
  have hkr := js_TV_kr hV5
  have hk7 : js_kr 32 v0 < 7 := js_kr_lt ok1
  have hk5 : 5 ≤ js_kr 32 v0 := by rw [hv0]; show 5 ≤ (if bb = true then 6 else 5); split <;> decide
  refine jv_aload_n C (jd D_Md_about 38 rfl) rfl 1 rfl ?_
  refine jv_get C fl_Md_39 0 rfl rfl (jd D_Md_about 39 rfl) ?_
  refine jv_get C fl_Md_46 5 rfl rfl (jd D_Md_about 40 rfl) ?_
  refine jv_iload_n C (jd D_Md_about 41 rfl) rfl 0 rfl ?_
  refine jv_iald C 6 rfl (vp_in_nI (n := 0) (by omega) (by omega)) (jd D_Md_about 42 rfl) ?_
  refine jv_ati (y := nI (js_kr 32 v0)) (hkr) ?_
  refine jv_istore C [(4, .int (nI (js_kr 32 v0))), (3, .int 0), (0, .ref o), (1, .int (nI s)), (2, .int 1)] (jd D_Md_about 43 rfl) (by decide) rfl ?_
  refine jv_iload_n C (jd D_Md_about 44 rfl) rfl 4 rfl ?_
  refine jv_if_ne (tgt := 107) C (jd D_Md_about 45 rfl) (by decide) (fun c78 => ?_) (fun c78 => absurd c78 (by decide))
  refine jv_iload_n C (jd D_Md_about 59 rfl) rfl 4 rfl ?_
  refine jv_iconst (v := 2) C (jd D_Md_about 60 rfl) (by decide) ?_
  refine jv_icmp_ne (tgt := 122) C (jd D_Md_about 61 rfl) (by decide) (fun c109 => ?_) (fun c109 => absurd c109 (by decide))
  refine jv_iload_n C (jd D_Md_about 68 rfl) rfl 4 rfl ?_
  refine jv_iconst (v := 3) C (jd D_Md_about 69 rfl) (by decide) ?_
  refine jv_icmp_ne (tgt := 147) C (jd D_Md_about 70 rfl) (by decide) (fun c124 => ?_) (fun c124 => absurd c124 (by decide))
  refine jv_iload C (jd D_Md_about 82 rfl) 0 rfl ?_
  refine jv_iconst (v := 5) C (jd D_Md_about 83 rfl) (by decide) ?_
  refine jv_icmp_lt (tgt := 163) C (jd D_Md_about 84 rfl) (by decide) (fun c150 => absurd c150 (nI_nlt (b := 5) hk5 (by omega))) (fun c150 => ?_)
  refine jv_aload_n C (jd D_Md_about 85 rfl) rfl 2 rfl ?_
  refine jv_get C fl_Md_39 0 rfl rfl (jd D_Md_about 86 rfl) ?_
  refine jv_iload_n C (jd D_Md_about 87 rfl) rfl 1 rfl ?_
  refine jv_callV (wr := [(o, .inr (7, [.ref (Q 0), .int (K 1), .ref (Q 2), .int (K 3), .int 0, .int (K 5), .ref b, .int w5.2.2.2, .int (nI t.length), .int (-1), .ref (Q 10), .int (K 11), .int (K 12), .ref (Q 13), .ref (Q 14), .ref (Q 15), .ref (Q 16), .ref (Q 17)])), ((Q 13), .inl (dA 6, 8, .inr (.inr (.inr (.inr hs))))), ((Q 14), .inl (dA 1, 8, .inl ln)), ((Q 15), .inl (dA 4, 8, .inl th)), (b, .inl (dA 0, 4096, .inl f0))]) C cl_Md_67 (c_Tr_size (Q 16) w5.1 (max M (js_cnt 32 v0)) (max Mu (js_uu 32 v0)) w5.2.1 w5.2.2.1 (js_cnt 32 v0) (js_uu 32 v0) 31 0 bb l0 (by omega) (by rw [← hv0]; exact hV5) (by rw [← hv0]; exact Nat.le_of_eq (Nat.zero_add _))) [5, 6, 7, 8, 9, 10, 11, 12, 13, 14, 15, 16] [0, 1, 2, 3, 4] rfl rfl rfl rfl (by decide) rfl rfl 0 rfl ⟨Nat.le_of_ble_eq_true rfl, Nat.le_of_ble_eq_true rfl⟩ ⟨(by simp only [jv_rm]; omega), (by simp only [jv_rm]; omega)⟩ rfl rfl (Nat.le_of_ble_eq_true rfl) (jd D_Md_about 88 rfl) (fun v5 _ k8 => ?_)
  obtain ⟨r8, rfl, k8⟩ := k8
  refine jv_fix [0, 1, 2, 3, 4, 5, 6, 7, 8, 9, 10, 11, 12, 13, 14, 15, 16] [(o, .inr (7, [.ref (Q 0), .int (K 1), .ref (Q 2), .int (K 3), .int 0, .int (K 5), .ref b, .int w5.2.2.2, .int (nI t.length), .int (-1), .ref (Q 10), .int (K 11), .int (K 12), .ref (Q 13), .ref (Q 14), .ref (Q 15), .ref (Q 16), .ref (Q 17)])), ((Q 13), .inl (dA 6, 8, .inr (.inr (.inr (.inr hs))))), ((Q 14), .inl (dA 1, 8, .inl ln)), ((Q 15), .inl (dA 4, 8, .inl th)), (b, .inl (dA 0, 4096, .inl f0)), ((Q 16), .inr (6, [.ref (w5.1 0), .ref (w5.1 1), .ref (w5.1 2), .ref (w5.1 3), .ref (w5.1 4), .ref (w5.1 5), .ref (w5.1 6), .ref (w5.1 7), .ref (w5.1 8), .ref (w5.1 9), .int (nI (js_cnt 32 v0)), .ref (w5.1 10), .int (nI (js_uu 32 v0))])), ((w5.1 0), .inl (dA 1, (js_cp (max M (js_cnt 32 v0))), .inl (w5.2.1 0))), ((w5.1 1), .inl (dA 2, (js_cp (max M (js_cnt 32 v0))), .inr (.inl w5.2.2.1))), ((w5.1 2), .inl (dA 1, (js_cp (max M (js_cnt 32 v0))), .inl (w5.2.1 2))), ((w5.1 3), .inl (dA 1, (js_cp (max M (js_cnt 32 v0))), .inl (w5.2.1 3))), ((w5.1 4), .inl (dA 1, (js_cp (max M (js_cnt 32 v0))), .inl (w5.2.1 4))), ((w5.1 5), .inl (dA 1, (js_cp (max M (js_cnt 32 v0))), .inl (w5.2.1 5))), ((w5.1 6), .inl (dA 1, (js_cp (max M (js_cnt 32 v0))), .inl (w5.2.1 6))), ((w5.1 7), .inl (dA 1, (js_cp (max M (js_cnt 32 v0))), .inl (w5.2.1 7))), ((w5.1 8), .inl (dA 1, (js_cp (max M (js_cnt 32 v0))), .inl (w5.2.1 8))), ((w5.1 9), .inl (dA 1, (js_cp (max M (js_cnt 32 v0))), .inl (w5.2.1 9))), ((w5.1 10), .inl (dA 3, (js_cu (max Mu (js_uu 32 v0))), .inl (w5.2.1 10)))] [.int r8] ((js_cp (max M (js_cnt 32 v0)) - js_cp M) + (js_cu (max Mu (js_uu 32 v0)) - js_cu Mu)) (20 * (js_cp (max M (js_cnt 32 v0)) - js_cp M) + 2 * (js_cu (max Mu (js_uu 32 v0)) - js_cu Mu)) rfl rfl rfl (Nat.le_refl _) (Nat.le_refl _) ?_
  subst k8
  refine jv_i2l C (jd D_Md_about 89 rfl) ?_
  exact jv_lret C hr w5 (rfl) [0, 1, 2, 3, 4, 5, 6, 7, 8, 9, 10, 11, 12, 13, 14, 15, 16] rfl rfl (by omega) (by omega) (jd D_Md_about 90 rfl)

set_option maxHeartbeats 4000000 in
set_option maxRecDepth 100000 in
/-- about 1 -/
theorem c_Md_about_1o {l : Launch} {D : va_G} {dA : Nat → ClassId} {zz : (Nat → Nat) × (Nat → Nat)} (o : Nat) (Q : Nat → Nat) (K : Nat → Int32) (vt : Value) (hs : Nat → Option Nat) (ln th : Nat → Int32) (b : Nat) (f0 : Nat → Int32) (t : List Nat) (A : Nat → Nat) (M Mu : Nat) (F : Nat → Nat → Int32) (G : Nat → Int64) (c u : Nat) (s : Nat) (v0 : js_J 32) (ht : js_tx f0 t) (h4 : t.length ≤ 4096) (hs8 : s < 8) (hsb : hs s = some b) (hth : th s = 1) (hln : ln s = nI t.length) (hrd : js_rd t = .inr v0) (hM4 : M ≤ 4096) (hMu4 : Mu ≤ 4096) (hkk : js_kr 32 v0 < 4) : jv_M l D dA zz y_Md_about b_Md_about 9 (some (FieldType.long)) 73 [.ref o, .int (nI s), .int 1] [(o, .inr (7, [.ref (Q 0), .int (K 1), .ref (Q 2), .int (K 3), .int (K 4), .int (K 5), vt, .int (K 7), .int (K 8), .int (K 9), .ref (Q 10), .int (K 11), .int (K 12), .ref (Q 13), .ref (Q 14), .ref (Q 15), .ref (Q 16), .ref (Q 17)])), ((Q 13), .inl (dA 6, 8, .inr (.inr (.inr (.inr hs))))), ((Q 14), .inl (dA 1, 8, .inl ln)), ((Q 15), .inl (dA 4, 8, .inl th)), (b, .inl (dA 0, 4096, .inl f0)), ((Q 16), .inr (6, [.ref (A 0), .ref (A 1), .ref (A 2), .ref (A 3), .ref (A 4), .ref (A 5), .ref (A 6), .ref (A 7), .ref (A 8), .ref (A 9), .int (nI c), .ref (A 10), .int (nI u)])), ((A 0), .inl (dA 1, (js_cp M), .inl (F 0))), ((A 1), .inl (dA 2, (js_cp M), .inr (.inl G))), ((A 2), .inl (dA 1, (js_cp M), .inl (F 2))), ((A 3), .inl (dA 1, (js_cp M), .inl (F 3))), ((A 4), .inl (dA 1, (js_cp M), .inl (F 4))), ((A 5), .inl (dA 1, (js_cp M), .inl (F 5))), ((A 6), .inl (dA 1, (js_cp M), .inl (F 6))), ((A 7), .inl (dA 1, (js_cp M), .inl (F 7))), ((A 8), .inl (dA 1, (js_cp M), .inl (F 8))), ((A 9), .inl (dA 1, (js_cp M), .inl (F 9))), ((A 10), .inl (dA 3, (js_cu Mu), .inl (F 10)))] (jv_pl fun r (_ : (Nat → Nat) × (Nat → Nat → Int32) × (Nat → Int64) × Int32) => r = 0) (fun v => [(o, .inr (7, [.ref (Q 0), .int (K 1), .ref (Q 2), .int (K 3), .int 0, .int (K 5), .ref b, .int v.2.2.2, .int (nI t.length), .int (-1), .ref (Q 10), .int (K 11), .int (K 12), .ref (Q 13), .ref (Q 14), .ref (Q 15), .ref (Q 16), .ref (Q 17)])), ((Q 13), .inl (dA 6, 8, .inr (.inr (.inr (.inr hs))))), ((Q 14), .inl (dA 1, 8, .inl ln)), ((Q 15), .inl (dA 4, 8, .inl th)), (b, .inl (dA 0, 4096, .inl f0)), ((Q 16), .inr (6, [.ref (v.1 0), .ref (v.1 1), .ref (v.1 2), .ref (v.1 3), .ref (v.1 4), .ref (v.1 5), .ref (v.1 6), .ref (v.1 7), .ref (v.1 8), .ref (v.1 9), .int (nI (js_cnt 32 v0)), .ref (v.1 10), .int (nI (js_uu 32 v0))])), ((v.1 0), .inl (dA 1, (js_cp (max M (js_cnt 32 v0))), .inl (v.2.1 0))), ((v.1 1), .inl (dA 2, (js_cp (max M (js_cnt 32 v0))), .inr (.inl v.2.2.1))), ((v.1 2), .inl (dA 1, (js_cp (max M (js_cnt 32 v0))), .inl (v.2.1 2))), ((v.1 3), .inl (dA 1, (js_cp (max M (js_cnt 32 v0))), .inl (v.2.1 3))), ((v.1 4), .inl (dA 1, (js_cp (max M (js_cnt 32 v0))), .inl (v.2.1 4))), ((v.1 5), .inl (dA 1, (js_cp (max M (js_cnt 32 v0))), .inl (v.2.1 5))), ((v.1 6), .inl (dA 1, (js_cp (max M (js_cnt 32 v0))), .inl (v.2.1 6))), ((v.1 7), .inl (dA 1, (js_cp (max M (js_cnt 32 v0))), .inl (v.2.1 7))), ((v.1 8), .inl (dA 1, (js_cp (max M (js_cnt 32 v0))), .inl (v.2.1 8))), ((v.1 9), .inl (dA 1, (js_cp (max M (js_cnt 32 v0))), .inl (v.2.1 9))), ((v.1 10), .inl (dA 3, (js_cu (max Mu (js_uu 32 v0))), .inl (v.2.1 10)))]) ((js_cp (max M (js_cnt 32 v0)) - js_cp M) + (js_cu (max Mu (js_uu 32 v0)) - js_cu Mu)) (20 * (js_cp (max M (js_cnt 32 v0)) - js_cp M) + 2 * (js_cu (max Mu (js_uu 32 v0)) - js_cu Mu)) := by
  refine jv_M.of [(0, .ref o), (1, .int (nI s)), (2, .int 1)] (by decide) (Nat.le_of_ble_eq_true rfl) rfl ?_
  intro pR eR sR mR belowR methR cR AR C hr hin
  refine jv_aload_n C (jd D_Md_about 0 rfl) rfl 0 rfl ?_
  refine jv_iload_n C (jd D_Md_about 1 rfl) rfl 1 rfl ?_
  refine jv_callS (wr := [(o, .inr (7, [.ref (Q 0), .int (K 1), .ref (Q 2), .int (K 3), .int (K 4), .int (K 5), vt, .int (K 7), .int (K 8), .int (K 9), .ref (Q 10), .int (K 11), .int (K 12), .ref (Q 13), .ref (Q 14), .ref (Q 15), .ref (Q 16), .ref (Q 17)])), ((Q 13), .inl (dA 6, 8, .inr (.inr (.inr (.inr hs))))), ((Q 14), .inl (dA 1, 8, .inl ln)), ((Q 15), .inl (dA 4, 8, .inl th)), (b, .inl (dA 0, 4096, .inl f0)), ((Q 16), .inr (6, [.ref (A 0), .ref (A 1), .ref (A 2), .ref (A 3), .ref (A 4), .ref (A 5), .ref (A 6), .ref (A 7), .ref (A 8), .ref (A 9), .int (nI c), .ref (A 10), .int (nI u)])), ((A 0), .inl (dA 1, (js_cp M), .inl (F 0))), ((A 1), .inl (dA 2, (js_cp M), .inr (.inl G))), ((A 2), .inl (dA 1, (js_cp M), .inl (F 2))), ((A 3), .inl (dA 1, (js_cp M), .inl (F 3))), ((A 4), .inl (dA 1, (js_cp M), .inl (F 4))), ((A 5), .inl (dA 1, (js_cp M), .inl (F 5))), ((A 6), .inl (dA 1, (js_cp M), .inl (F 6))), ((A 7), .inl (dA 1, (js_cp M), .inl (F 7))), ((A 8), .inl (dA 1, (js_cp M), .inl (F 8))), ((A 9), .inl (dA 1, (js_cp M), .inl (F 9))), ((A 10), .inl (dA 3, (js_cu Mu), .inl (F 10)))]) C cl_Md_248 (c_Md_isSlot (nI s)) [] [0, 1, 2, 3, 4, 5, 6, 7, 8, 9, 10, 11, 12, 13, 14, 15, 16] rfl rfl rfl rfl (by decide) ⟨Nat.le_of_ble_eq_true rfl, Nat.le_of_ble_eq_true rfl⟩ ⟨(by simp only [jv_rm]; omega), (by simp only [jv_rm]; omega)⟩ rfl rfl (Nat.le_of_ble_eq_true rfl) (jd D_Md_about 2 rfl) (fun v1 _ ks1 => ?_)
  obtain ⟨rs1, rfl, ks1⟩ := ks1
  refine jv_fix [0, 1, 2, 3, 4, 5, 6, 7, 8, 9, 10, 11, 12, 13, 14, 15, 16] [(o, .inr (7, [.ref (Q 0), .int (K 1), .ref (Q 2), .int (K 3), .int (K 4), .int (K 5), vt, .int (K 7), .int (K 8), .int (K 9), .ref (Q 10), .int (K 11), .int (K 12), .ref (Q 13), .ref (Q 14), .ref (Q 15), .ref (Q 16), .ref (Q 17)])), ((Q 13), .inl (dA 6, 8, .inr (.inr (.inr (.inr hs))))), ((Q 14), .inl (dA 1, 8, .inl ln)), ((Q 15), .inl (dA 4, 8, .inl th)), (b, .inl (dA 0, 4096, .inl f0)), ((Q 16), .inr (6, [.ref (A 0), .ref (A 1), .ref (A 2), .ref (A 3), .ref (A 4), .ref (A 5), .ref (A 6), .ref (A 7), .ref (A 8), .ref (A 9), .int (nI c), .ref (A 10), .int (nI u)])), ((A 0), .inl (dA 1, (js_cp M), .inl (F 0))), ((A 1), .inl (dA 2, (js_cp M), .inr (.inl G))), ((A 2), .inl (dA 1, (js_cp M), .inl (F 2))), ((A 3), .inl (dA 1, (js_cp M), .inl (F 3))), ((A 4), .inl (dA 1, (js_cp M), .inl (F 4))), ((A 5), .inl (dA 1, (js_cp M), .inl (F 5))), ((A 6), .inl (dA 1, (js_cp M), .inl (F 6))), ((A 7), .inl (dA 1, (js_cp M), .inl (F 7))), ((A 8), .inl (dA 1, (js_cp M), .inl (F 8))), ((A 9), .inl (dA 1, (js_cp M), .inl (F 9))), ((A 10), .inl (dA 3, (js_cu Mu), .inl (F 10)))] [.int rs1, .ref o] 0 0 rfl rfl rfl (Nat.le_refl _) (Nat.le_refl _) ?_
  have ks1 : rs1 = 1 := ks1.trans (js_sl1 hs8)
  subst ks1
  refine jv_if_eq (tgt := 21) C (jd D_Md_about 3 rfl) (by decide) (fun c5 => absurd c5 (by decide)) (fun c5 => ?_)
  refine jv_iload_n C (jd D_Md_about 4 rfl) rfl 2 rfl ?_
  refine jv_if_lt (tgt := 21) C (jd D_Md_about 5 rfl) (by decide) (fun c9 => absurd c9 (by decide)) (fun c9 => ?_)
  refine jv_iload_n C (jd D_Md_about 6 rfl) rfl 2 rfl ?_
  refine jv_iconst (v := 3) C (jd D_Md_about 7 rfl) (by decide) ?_
  refine jv_icmp_gt (tgt := 21) C (jd D_Md_about 8 rfl) (by decide) (fun c14 => absurd c14 (by decide)) (fun c14 => ?_)
  refine jv_iconst (v := 1) C (jd D_Md_about 9 rfl) (by decide) ?_
  refine jv_goto (tgt := 22) C (jd D_Md_about 10 rfl) (by decide) ?_
  refine jv_iconst (v := 1) C (jd D_Md_about 12 rfl) (by decide) ?_
  refine jv_callV (wr := [((Q 13), .inl (dA 6, 8, .inr (.inr (.inr (.inr hs))))), ((Q 14), .inl (dA 1, 8, .inl ln)), ((Q 15), .inl (dA 4, 8, .inl th)), (b, .inl (dA 0, 4096, .inl f0)), ((Q 16), .inr (6, [.ref (A 0), .ref (A 1), .ref (A 2), .ref (A 3), .ref (A 4), .ref (A 5), .ref (A 6), .ref (A 7), .ref (A 8), .ref (A 9), .int (nI c), .ref (A 10), .int (nI u)])), ((A 0), .inl (dA 1, (js_cp M), .inl (F 0))), ((A 1), .inl (dA 2, (js_cp M), .inr (.inl G))), ((A 2), .inl (dA 1, (js_cp M), .inl (F 2))), ((A 3), .inl (dA 1, (js_cp M), .inl (F 3))), ((A 4), .inl (dA 1, (js_cp M), .inl (F 4))), ((A 5), .inl (dA 1, (js_cp M), .inl (F 5))), ((A 6), .inl (dA 1, (js_cp M), .inl (F 6))), ((A 7), .inl (dA 1, (js_cp M), .inl (F 7))), ((A 8), .inl (dA 1, (js_cp M), .inl (F 8))), ((A 9), .inl (dA 1, (js_cp M), .inl (F 9))), ((A 10), .inl (dA 3, (js_cu Mu), .inl (F 10)))]) C cl_Md_104 (c_Md_good_1 o Q (js_rows [0, (K 1), 0, (K 3), (K 4), (K 5), 0, (K 7), (K 8), (K 9), 0, (K 11), (K 12), 0, 0, 0, 0, 0] 0) vt 1) [0] [1, 2, 3, 4, 5, 6, 7, 8, 9, 10, 11, 12, 13, 14, 15, 16] rfl rfl rfl rfl (by decide) rfl rfl 0 rfl ⟨Nat.le_of_ble_eq_true rfl, Nat.le_of_ble_eq_true rfl⟩ ⟨(by simp only [jv_rm]; omega), (by simp only [jv_rm]; omega)⟩ rfl rfl (Nat.le_of_ble_eq_true rfl) (jd D_Md_about 13 rfl) (fun v2 _ kg3 => ?_)
  obtain ⟨rg3, rfl, kg3⟩ := kg3
  refine jv_fix [16, 0, 1, 2, 3, 4, 5, 6, 7, 8, 9, 10, 11, 12, 13, 14, 15] [(o, .inr (7, [.ref (Q 0), .int (K 1), .ref (Q 2), .int (K 3), .int 0, .int (K 5), vt, .int (K 7), .int (K 8), .int (K 9), .ref (Q 10), .int (K 11), .int (K 12), .ref (Q 13), .ref (Q 14), .ref (Q 15), .ref (Q 16), .ref (Q 17)])), ((Q 13), .inl (dA 6, 8, .inr (.inr (.inr (.inr hs))))), ((Q 14), .inl (dA 1, 8, .inl ln)), ((Q 15), .inl (dA 4, 8, .inl th)), (b, .inl (dA 0, 4096, .inl f0)), ((Q 16), .inr (6, [.ref (A 0), .ref (A 1), .ref (A 2), .ref (A 3), .ref (A 4), .ref (A 5), .ref (A 6), .ref (A 7), .ref (A 8), .ref (A 9), .int (nI c), .ref (A 10), .int (nI u)])), ((A 0), .inl (dA 1, (js_cp M), .inl (F 0))), ((A 1), .inl (dA 2, (js_cp M), .inr (.inl G))), ((A 2), .inl (dA 1, (js_cp M), .inl (F 2))), ((A 3), .inl (dA 1, (js_cp M), .inl (F 3))), ((A 4), .inl (dA 1, (js_cp M), .inl (F 4))), ((A 5), .inl (dA 1, (js_cp M), .inl (F 5))), ((A 6), .inl (dA 1, (js_cp M), .inl (F 6))), ((A 7), .inl (dA 1, (js_cp M), .inl (F 7))), ((A 8), .inl (dA 1, (js_cp M), .inl (F 8))), ((A 9), .inl (dA 1, (js_cp M), .inl (F 9))), ((A 10), .inl (dA 3, (js_cu Mu), .inl (F 10)))] [.int rg3] 0 0 rfl rfl rfl (Nat.le_refl _) (Nat.le_refl _) ?_
  subst kg3
  refine jv_if_eq (tgt := 43) C (jd D_Md_about 14 rfl) (by decide) (fun c26 => absurd c26 (by decide)) (fun c26 => ?_)
  refine jv_aload_n C (jd D_Md_about 15 rfl) rfl 0 rfl ?_
  refine jv_aload_n C (jd D_Md_about 16 rfl) rfl 0 rfl ?_
  refine jv_get C fl_Md_32 0 rfl rfl (jd D_Md_about 17 rfl) ?_
  refine jv_iload_n C (jd D_Md_about 18 rfl) rfl 1 rfl ?_
  refine jv_zald C 3 rfl (vp_in_nI hs8 (by decide)) (jd D_Md_about 19 rfl) ?_
  refine jv_ati (y := 1) (by rw [nI_clamp (by omega)]; exact hth) ?_
  refine jv_iconst (v := 2) C (jd D_Md_about 20 rfl) (by decide) ?_
  refine jv_callV (wr := [((Q 13), .inl (dA 6, 8, .inr (.inr (.inr (.inr hs))))), ((Q 14), .inl (dA 1, 8, .inl ln)), ((Q 15), .inl (dA 4, 8, .inl th)), (b, .inl (dA 0, 4096, .inl f0)), ((Q 16), .inr (6, [.ref (A 0), .ref (A 1), .ref (A 2), .ref (A 3), .ref (A 4), .ref (A 5), .ref (A 6), .ref (A 7), .ref (A 8), .ref (A 9), .int (nI c), .ref (A 10), .int (nI u)])), ((A 0), .inl (dA 1, (js_cp M), .inl (F 0))), ((A 1), .inl (dA 2, (js_cp M), .inr (.inl G))), ((A 2), .inl (dA 1, (js_cp M), .inl (F 2))), ((A 3), .inl (dA 1, (js_cp M), .inl (F 3))), ((A 4), .inl (dA 1, (js_cp M), .inl (F 4))), ((A 5), .inl (dA 1, (js_cp M), .inl (F 5))), ((A 6), .inl (dA 1, (js_cp M), .inl (F 6))), ((A 7), .inl (dA 1, (js_cp M), .inl (F 7))), ((A 8), .inl (dA 1, (js_cp M), .inl (F 8))), ((A 9), .inl (dA 1, (js_cp M), .inl (F 9))), ((A 10), .inl (dA 3, (js_cu Mu), .inl (F 10)))]) C cl_Md_104 (c_Md_good_1 o Q (js_rows [0, (K 1), 0, (K 3), 0, (K 5), 0, (K 7), (K 8), (K 9), 0, (K 11), (K 12), 0, 0, 0, 0, 0] 0) vt 2) [0] [1, 2, 3, 4, 5, 6, 7, 8, 9, 10, 11, 12, 13, 14, 15, 16] rfl rfl rfl rfl (by decide) rfl rfl 0 rfl ⟨Nat.le_of_ble_eq_true rfl, Nat.le_of_ble_eq_true rfl⟩ ⟨(by simp only [jv_rm]; omega), (by simp only [jv_rm]; omega)⟩ rfl rfl (Nat.le_of_ble_eq_true rfl) (jd D_Md_about 21 rfl) (fun v3 _ kg4 => ?_)
  obtain ⟨rg4, rfl, kg4⟩ := kg4
  refine jv_fix [16, 0, 1, 2, 3, 4, 5, 6, 7, 8, 9, 10, 11, 12, 13, 14, 15] [(o, .inr (7, [.ref (Q 0), .int (K 1), .ref (Q 2), .int (K 3), .int 0, .int (K 5), vt, .int (K 7), .int (K 8), .int (K 9), .ref (Q 10), .int (K 11), .int (K 12), .ref (Q 13), .ref (Q 14), .ref (Q 15), .ref (Q 16), .ref (Q 17)])), ((Q 13), .inl (dA 6, 8, .inr (.inr (.inr (.inr hs))))), ((Q 14), .inl (dA 1, 8, .inl ln)), ((Q 15), .inl (dA 4, 8, .inl th)), (b, .inl (dA 0, 4096, .inl f0)), ((Q 16), .inr (6, [.ref (A 0), .ref (A 1), .ref (A 2), .ref (A 3), .ref (A 4), .ref (A 5), .ref (A 6), .ref (A 7), .ref (A 8), .ref (A 9), .int (nI c), .ref (A 10), .int (nI u)])), ((A 0), .inl (dA 1, (js_cp M), .inl (F 0))), ((A 1), .inl (dA 2, (js_cp M), .inr (.inl G))), ((A 2), .inl (dA 1, (js_cp M), .inl (F 2))), ((A 3), .inl (dA 1, (js_cp M), .inl (F 3))), ((A 4), .inl (dA 1, (js_cp M), .inl (F 4))), ((A 5), .inl (dA 1, (js_cp M), .inl (F 5))), ((A 6), .inl (dA 1, (js_cp M), .inl (F 6))), ((A 7), .inl (dA 1, (js_cp M), .inl (F 7))), ((A 8), .inl (dA 1, (js_cp M), .inl (F 8))), ((A 9), .inl (dA 1, (js_cp M), .inl (F 9))), ((A 10), .inl (dA 3, (js_cu Mu), .inl (F 10)))] [.int rg4] 0 0 rfl rfl rfl (Nat.le_refl _) (Nat.le_refl _) ?_
  subst kg4
  refine jv_if_ne (tgt := 45) C (jd D_Md_about 22 rfl) (by decide) (fun c40 => ?_) (fun c40 => absurd c40 (by decide))
  refine jv_aload_n C (jd D_Md_about 25 rfl) rfl 0 rfl ?_
  refine jv_aload_n C (jd D_Md_about 26 rfl) rfl 0 rfl ?_
  refine jv_get C fl_Md_25 0 rfl rfl (jd D_Md_about 27 rfl) ?_
  refine jv_iload_n C (jd D_Md_about 28 rfl) rfl 1 rfl ?_
  refine jv_aldb (h := b) C 1 rfl (vp_in_nI hs8 (by decide)) (by rw [nI_clamp (by omega)]; exact hsb) (jd D_Md_about 29 rfl) ?_
  refine jv_aload_n C (jd D_Md_about 30 rfl) rfl 0 rfl ?_
  refine jv_get C fl_Md_28 0 rfl rfl (jd D_Md_about 31 rfl) ?_
  refine jv_iload_n C (jd D_Md_about 32 rfl) rfl 1 rfl ?_
  refine jv_iald C 2 rfl (vp_in_nI hs8 (by decide)) (jd D_Md_about 33 rfl) ?_
  refine jv_ati (y := nI t.length) (by rw [nI_clamp (by omega)]; exact hln) ?_
  refine jv_aload_n C (jd D_Md_about 34 rfl) rfl 0 rfl ?_
  refine jv_get C fl_Md_39 0 rfl rfl (jd D_Md_about 35 rfl) ?_
  refine jv_callV (wr := [((Q 13), .inl (dA 6, 8, .inr (.inr (.inr (.inr hs))))), ((Q 14), .inl (dA 1, 8, .inl ln)), ((Q 15), .inl (dA 4, 8, .inl th))]) C cl_Md_253 (c_Md_read3_ok o Q (js_rows [0, (K 1), 0, (K 3), 0, (K 5), 0, (K 7), (K 8), (K 9), 0, (K 11), (K 12), 0, 0, 0, 0, 0] 0) vt b 4096 f0 t (Q 16) A M Mu F G c u v0 h4 (by decide) ht h4 hM4 hMu4 hrd) [0, 4, 5, 6, 7, 8, 9, 10, 11, 12, 13, 14, 15, 16] [1, 2, 3] rfl rfl rfl rfl (by decide) rfl rfl 0 rfl ⟨Nat.le_of_ble_eq_true rfl, Nat.le_of_ble_eq_true rfl⟩ ⟨(by simp only [jv_rm]; omega), (by simp only [jv_rm]; omega)⟩ rfl rfl (Nat.le_of_ble_eq_true rfl) (jd D_Md_about 36 rfl) (fun v4 w5 k5 => ?_)
  obtain ⟨r5, rfl, k5⟩ := k5
  refine jv_fix [3, 0, 1, 2, 4, 5, 6, 7, 8, 9, 10, 11, 12, 13, 14, 15, 16] [(o, .inr (7, [.ref (Q 0), .int (K 1), .ref (Q 2), .int (K 3), .int 0, .int (K 5), .ref b, .int w5.2.2.2, .int (nI t.length), .int (-1), .ref (Q 10), .int (K 11), .int (K 12), .ref (Q 13), .ref (Q 14), .ref (Q 15), .ref (Q 16), .ref (Q 17)])), ((Q 13), .inl (dA 6, 8, .inr (.inr (.inr (.inr hs))))), ((Q 14), .inl (dA 1, 8, .inl ln)), ((Q 15), .inl (dA 4, 8, .inl th)), (b, .inl (dA 0, 4096, .inl f0)), ((Q 16), .inr (6, [.ref (w5.1 0), .ref (w5.1 1), .ref (w5.1 2), .ref (w5.1 3), .ref (w5.1 4), .ref (w5.1 5), .ref (w5.1 6), .ref (w5.1 7), .ref (w5.1 8), .ref (w5.1 9), .int (nI (js_cnt 32 v0)), .ref (w5.1 10), .int (nI (js_uu 32 v0))])), ((w5.1 0), .inl (dA 1, (js_cp (max M (js_cnt 32 v0))), .inl (w5.2.1 0))), ((w5.1 1), .inl (dA 2, (js_cp (max M (js_cnt 32 v0))), .inr (.inl w5.2.2.1))), ((w5.1 2), .inl (dA 1, (js_cp (max M (js_cnt 32 v0))), .inl (w5.2.1 2))), ((w5.1 3), .inl (dA 1, (js_cp (max M (js_cnt 32 v0))), .inl (w5.2.1 3))), ((w5.1 4), .inl (dA 1, (js_cp (max M (js_cnt 32 v0))), .inl (w5.2.1 4))), ((w5.1 5), .inl (dA 1, (js_cp (max M (js_cnt 32 v0))), .inl (w5.2.1 5))), ((w5.1 6), .inl (dA 1, (js_cp (max M (js_cnt 32 v0))), .inl (w5.2.1 6))), ((w5.1 7), .inl (dA 1, (js_cp (max M (js_cnt 32 v0))), .inl (w5.2.1 7))), ((w5.1 8), .inl (dA 1, (js_cp (max M (js_cnt 32 v0))), .inl (w5.2.1 8))), ((w5.1 9), .inl (dA 1, (js_cp (max M (js_cnt 32 v0))), .inl (w5.2.1 9))), ((w5.1 10), .inl (dA 3, (js_cu (max Mu (js_uu 32 v0))), .inl (w5.2.1 10)))] [.int r5] ((js_cp (max M (js_cnt 32 v0)) - js_cp M) + (js_cu (max Mu (js_uu 32 v0)) - js_cu Mu)) (20 * (js_cp (max M (js_cnt 32 v0)) - js_cp M) + 2 * (js_cu (max Mu (js_uu 32 v0)) - js_cu Mu)) rfl rfl rfl (by omega) (by omega) ?_
  obtain ⟨e5, hV5, hC5⟩ := k5
  subst e5
  refine jv_istore_n C [(3, .int 0), (0, .ref o), (1, .int (nI s)), (2, .int 1)] (jd D_Md_about 37 rfl) rfl (by decide) rfl ?_
  obtain ⟨ok1, hle1⟩ := js_rd_ok ht.by hrd
  have hc1 := js_cnt_len ok1
  have hc0 := js_cnt_pos 32 v0
  have hu1 := js_uu_le 32 v0 ok1
  have hb1 := js_cp_b (max M (js_cnt 32 v0))
  have hb2_ := js_cu_b (max Mu (js_uu 32 v0))
  have hkr := js_TV_kr hV5
  have hk7 : js_kr 32 v0 < 7 := js_kr_lt ok1
  refine jv_aload_n C (jd D_Md_about 38 rfl) rfl 1 rfl ?_
  refine jv_get C fl_Md_39 0 rfl rfl (jd D_Md_about 39 rfl) ?_
  refine jv_get C fl_Md_46 5 rfl rfl (jd D_Md_about 40 rfl) ?_
  refine jv_iload_n C (jd D_Md_about 41 rfl) rfl 0 rfl ?_
  refine jv_iald C 6 rfl (vp_in_nI (n := 0) (by omega) (by omega)) (jd D_Md_about 42 rfl) ?_
  refine jv_ati (y := nI (js_kr 32 v0)) (hkr) ?_
  refine jv_istore C [(4, .int (nI (js_kr 32 v0))), (3, .int 0), (0, .ref o), (1, .int (nI s)), (2, .int 1)] (jd D_Md_about 43 rfl) (by decide) rfl ?_
  refine jv_iload_n C (jd D_Md_about 44 rfl) rfl 4 rfl ?_
  refine jv_if_ne (tgt := 107) C (jd D_Md_about 45 rfl) (by decide) (fun c78 => ?_) (fun c78 => absurd c78 (by decide))
  refine jv_iload_n C (jd D_Md_about 59 rfl) rfl 4 rfl ?_
  refine jv_iconst (v := 2) C (jd D_Md_about 60 rfl) (by decide) ?_
  refine jv_icmp_ne (tgt := 122) C (jd D_Md_about 61 rfl) (by decide) (fun c109 => ?_) (fun c109 => absurd c109 (by decide))
  refine jv_iload_n C (jd D_Md_about 68 rfl) rfl 4 rfl ?_
  refine jv_iconst (v := 3) C (jd D_Md_about 69 rfl) (by decide) ?_
  refine jv_icmp_ne (tgt := 147) C (jd D_Md_about 70 rfl) (by decide) (fun c124 => ?_) (fun c124 => absurd c124 (by decide))
  refine jv_iload C (jd D_Md_about 82 rfl) 0 rfl ?_
  refine jv_iconst (v := 5) C (jd D_Md_about 83 rfl) (by decide) ?_
  refine jv_icmp_lt (tgt := 163) C (jd D_Md_about 84 rfl) (by decide) (fun c150 => ?_) (fun c150 => absurd (nI_lt (b := 5) (by omega) (by decide)) c150)
  refine jv_iload C (jd D_Md_about 91 rfl) 0 rfl ?_
  refine jv_iconst (v := 4) C (jd D_Md_about 92 rfl) (by decide) ?_
  refine jv_icmp_eq (tgt := 171) C (jd D_Md_about 93 rfl) (by decide) (fun c166 => absurd c166 (fun z => absurd ((nI_eq (b := 4) (by omega) (by decide)).mp z) (by omega))) (fun c166 => ?_)
  refine jv_lconst (v := 0) C (jd D_Md_about 94 rfl) (by decide) ?_
  exact jv_lret C hr w5 (rfl) [0, 1, 2, 3, 4, 5, 6, 7, 8, 9, 10, 11, 12, 13, 14, 15, 16] rfl rfl (by omega) (by omega) (jd D_Md_about 95 rfl)

set_option maxHeartbeats 4000000 in
set_option maxRecDepth 100000 in
/-- about 1 -/
theorem c_Md_about_1s {l : Launch} {D : va_G} {dA : Nat → ClassId} {zz : (Nat → Nat) × (Nat → Nat)} (o : Nat) (Q : Nat → Nat) (K : Nat → Int32) (vt : Value) (hs : Nat → Option Nat) (ln th : Nat → Int32) (b : Nat) (f0 : Nat → Int32) (t : List Nat) (A : Nat → Nat) (M Mu : Nat) (F : Nat → Nat → Int32) (G : Nat → Int64) (c u : Nat) (s : Nat) (v0 : js_J 32) (us : List Nat) (ht : js_tx f0 t) (h4 : t.length ≤ 4096) (hs8 : s < 8) (hsb : hs s = some b) (hth : th s = 1) (hln : ln s = nI t.length) (hrd : js_rd t = .inr v0) (hM4 : M ≤ 4096) (hMu4 : Mu ≤ 4096) (hkk : js_kr 32 v0 = 4) (hpa : js_pa false us) (hVs : ∀ (F : Nat → Nat → Int32) (G : Nat → Int64), js_TV F G (js_uu 32 v0) 32 v0 0 → ∃ s0, F 2 0 = nI s0 ∧ F 3 0 = nI us.length ∧ js_TU F (js_uu 32 v0) s0 us) : jv_M l D dA zz y_Md_about b_Md_about 9 (some (FieldType.long)) 73 [.ref o, .int (nI s), .int 1] [(o, .inr (7, [.ref (Q 0), .int (K 1), .ref (Q 2), .int (K 3), .int (K 4), .int (K 5), vt, .int (K 7), .int (K 8), .int (K 9), .ref (Q 10), .int (K 11), .int (K 12), .ref (Q 13), .ref (Q 14), .ref (Q 15), .ref (Q 16), .ref (Q 17)])), ((Q 13), .inl (dA 6, 8, .inr (.inr (.inr (.inr hs))))), ((Q 14), .inl (dA 1, 8, .inl ln)), ((Q 15), .inl (dA 4, 8, .inl th)), (b, .inl (dA 0, 4096, .inl f0)), ((Q 16), .inr (6, [.ref (A 0), .ref (A 1), .ref (A 2), .ref (A 3), .ref (A 4), .ref (A 5), .ref (A 6), .ref (A 7), .ref (A 8), .ref (A 9), .int (nI c), .ref (A 10), .int (nI u)])), ((A 0), .inl (dA 1, (js_cp M), .inl (F 0))), ((A 1), .inl (dA 2, (js_cp M), .inr (.inl G))), ((A 2), .inl (dA 1, (js_cp M), .inl (F 2))), ((A 3), .inl (dA 1, (js_cp M), .inl (F 3))), ((A 4), .inl (dA 1, (js_cp M), .inl (F 4))), ((A 5), .inl (dA 1, (js_cp M), .inl (F 5))), ((A 6), .inl (dA 1, (js_cp M), .inl (F 6))), ((A 7), .inl (dA 1, (js_cp M), .inl (F 7))), ((A 8), .inl (dA 1, (js_cp M), .inl (F 8))), ((A 9), .inl (dA 1, (js_cp M), .inl (F 9))), ((A 10), .inl (dA 3, (js_cu Mu), .inl (F 10)))] (jv_pl fun r (_ : (Nat → Nat) × (Nat → Nat → Int32) × (Nat → Int64) × Int32) => r = js_l (js_chn us)) (fun v => [(o, .inr (7, [.ref (Q 0), .int (K 1), .ref (Q 2), .int (K 3), .int 0, .int (K 5), .ref b, .int v.2.2.2, .int (nI t.length), .int (-1), .ref (Q 10), .int (K 11), .int (K 12), .ref (Q 13), .ref (Q 14), .ref (Q 15), .ref (Q 16), .ref (Q 17)])), ((Q 13), .inl (dA 6, 8, .inr (.inr (.inr (.inr hs))))), ((Q 14), .inl (dA 1, 8, .inl ln)), ((Q 15), .inl (dA 4, 8, .inl th)), (b, .inl (dA 0, 4096, .inl f0)), ((Q 16), .inr (6, [.ref (v.1 0), .ref (v.1 1), .ref (v.1 2), .ref (v.1 3), .ref (v.1 4), .ref (v.1 5), .ref (v.1 6), .ref (v.1 7), .ref (v.1 8), .ref (v.1 9), .int (nI (js_cnt 32 v0)), .ref (v.1 10), .int (nI (js_uu 32 v0))])), ((v.1 0), .inl (dA 1, (js_cp (max M (js_cnt 32 v0))), .inl (v.2.1 0))), ((v.1 1), .inl (dA 2, (js_cp (max M (js_cnt 32 v0))), .inr (.inl v.2.2.1))), ((v.1 2), .inl (dA 1, (js_cp (max M (js_cnt 32 v0))), .inl (v.2.1 2))), ((v.1 3), .inl (dA 1, (js_cp (max M (js_cnt 32 v0))), .inl (v.2.1 3))), ((v.1 4), .inl (dA 1, (js_cp (max M (js_cnt 32 v0))), .inl (v.2.1 4))), ((v.1 5), .inl (dA 1, (js_cp (max M (js_cnt 32 v0))), .inl (v.2.1 5))), ((v.1 6), .inl (dA 1, (js_cp (max M (js_cnt 32 v0))), .inl (v.2.1 6))), ((v.1 7), .inl (dA 1, (js_cp (max M (js_cnt 32 v0))), .inl (v.2.1 7))), ((v.1 8), .inl (dA 1, (js_cp (max M (js_cnt 32 v0))), .inl (v.2.1 8))), ((v.1 9), .inl (dA 1, (js_cp (max M (js_cnt 32 v0))), .inl (v.2.1 9))), ((v.1 10), .inl (dA 3, (js_cu (max Mu (js_uu 32 v0))), .inl (v.2.1 10)))]) ((js_cp (max M (js_cnt 32 v0)) - js_cp M) + (js_cu (max Mu (js_uu 32 v0)) - js_cu Mu)) (20 * (js_cp (max M (js_cnt 32 v0)) - js_cp M) + 2 * (js_cu (max Mu (js_uu 32 v0)) - js_cu Mu)) := by
  refine jv_M.of [(0, .ref o), (1, .int (nI s)), (2, .int 1)] (by decide) (Nat.le_of_ble_eq_true rfl) rfl ?_
  intro pR eR sR mR belowR methR cR AR C hr hin
  obtain ⟨QR, hQ⟩ : ∃ QR, QR = jv_E D (jv_pl fun r (_ : (Nat → Nat) × (Nat → Nat → Int32) × (Nat → Int64) × Int32) => r = js_l (js_chn us)) (fun v => [(o, .inr (7, [.ref (Q 0), .int (K 1), .ref (Q 2), .int (K 3), .int 0, .int (K 5), .ref b, .int v.2.2.2, .int (nI t.length), .int (-1), .ref (Q 10), .int (K 11), .int (K 12), .ref (Q 13), .ref (Q 14), .ref (Q 15), .ref (Q 16), .ref (Q 17)])), ((Q 13), .inl (dA 6, 8, .inr (.inr (.inr (.inr hs))))), ((Q 14), .inl (dA 1, 8, .inl ln)), ((Q 15), .inl (dA 4, 8, .inl th)), (b, .inl (dA 0, 4096, .inl f0)), ((Q 16), .inr (6, [.ref (v.1 0), .ref (v.1 1), .ref (v.1 2), .ref (v.1 3), .ref (v.1 4), .ref (v.1 5), .ref (v.1 6), .ref (v.1 7), .ref (v.1 8), .ref (v.1 9), .int (nI (js_cnt 32 v0)), .ref (v.1 10), .int (nI (js_uu 32 v0))])), ((v.1 0), .inl (dA 1, (js_cp (max M (js_cnt 32 v0))), .inl (v.2.1 0))), ((v.1 1), .inl (dA 2, (js_cp (max M (js_cnt 32 v0))), .inr (.inl v.2.2.1))), ((v.1 2), .inl (dA 1, (js_cp (max M (js_cnt 32 v0))), .inl (v.2.1 2))), ((v.1 3), .inl (dA 1, (js_cp (max M (js_cnt 32 v0))), .inl (v.2.1 3))), ((v.1 4), .inl (dA 1, (js_cp (max M (js_cnt 32 v0))), .inl (v.2.1 4))), ((v.1 5), .inl (dA 1, (js_cp (max M (js_cnt 32 v0))), .inl (v.2.1 5))), ((v.1 6), .inl (dA 1, (js_cp (max M (js_cnt 32 v0))), .inl (v.2.1 6))), ((v.1 7), .inl (dA 1, (js_cp (max M (js_cnt 32 v0))), .inl (v.2.1 7))), ((v.1 8), .inl (dA 1, (js_cp (max M (js_cnt 32 v0))), .inl (v.2.1 8))), ((v.1 9), .inl (dA 1, (js_cp (max M (js_cnt 32 v0))), .inl (v.2.1 9))), ((v.1 10), .inl (dA 3, (js_cu (max Mu (js_uu 32 v0))), .inl (v.2.1 10)))]) belowR ([.ref o, .int (nI s), .int 1] : List Value).toArray sR AR ((js_cp (max M (js_cnt 32 v0)) - js_cp M) + (js_cu (max Mu (js_uu 32 v0)) - js_cu Mu)) (20 * (js_cp (max M (js_cnt 32 v0)) - js_cp M) + 2 * (js_cu (max Mu (js_uu 32 v0)) - js_cu Mu)) := ⟨_, rfl⟩
  rw [← hQ]
  refine jv_aload_n C (jd D_Md_about 0 rfl) rfl 0 rfl ?_
  refine jv_iload_n C (jd D_Md_about 1 rfl) rfl 1 rfl ?_
  refine jv_callS (wr := [(o, .inr (7, [.ref (Q 0), .int (K 1), .ref (Q 2), .int (K 3), .int (K 4), .int (K 5), vt, .int (K 7), .int (K 8), .int (K 9), .ref (Q 10), .int (K 11), .int (K 12), .ref (Q 13), .ref (Q 14), .ref (Q 15), .ref (Q 16), .ref (Q 17)])), ((Q 13), .inl (dA 6, 8, .inr (.inr (.inr (.inr hs))))), ((Q 14), .inl (dA 1, 8, .inl ln)), ((Q 15), .inl (dA 4, 8, .inl th)), (b, .inl (dA 0, 4096, .inl f0)), ((Q 16), .inr (6, [.ref (A 0), .ref (A 1), .ref (A 2), .ref (A 3), .ref (A 4), .ref (A 5), .ref (A 6), .ref (A 7), .ref (A 8), .ref (A 9), .int (nI c), .ref (A 10), .int (nI u)])), ((A 0), .inl (dA 1, (js_cp M), .inl (F 0))), ((A 1), .inl (dA 2, (js_cp M), .inr (.inl G))), ((A 2), .inl (dA 1, (js_cp M), .inl (F 2))), ((A 3), .inl (dA 1, (js_cp M), .inl (F 3))), ((A 4), .inl (dA 1, (js_cp M), .inl (F 4))), ((A 5), .inl (dA 1, (js_cp M), .inl (F 5))), ((A 6), .inl (dA 1, (js_cp M), .inl (F 6))), ((A 7), .inl (dA 1, (js_cp M), .inl (F 7))), ((A 8), .inl (dA 1, (js_cp M), .inl (F 8))), ((A 9), .inl (dA 1, (js_cp M), .inl (F 9))), ((A 10), .inl (dA 3, (js_cu Mu), .inl (F 10)))]) C cl_Md_248 (c_Md_isSlot (nI s)) [] [0, 1, 2, 3, 4, 5, 6, 7, 8, 9, 10, 11, 12, 13, 14, 15, 16] rfl rfl rfl rfl (by decide) ⟨Nat.le_of_ble_eq_true rfl, Nat.le_of_ble_eq_true rfl⟩ ⟨(by simp only [jv_rm]; omega), (by simp only [jv_rm]; omega)⟩ rfl rfl (Nat.le_of_ble_eq_true rfl) (jd D_Md_about 2 rfl) (fun v1 _ ks1 => ?_)
  obtain ⟨rs1, rfl, ks1⟩ := ks1
  refine jv_fix [0, 1, 2, 3, 4, 5, 6, 7, 8, 9, 10, 11, 12, 13, 14, 15, 16] [(o, .inr (7, [.ref (Q 0), .int (K 1), .ref (Q 2), .int (K 3), .int (K 4), .int (K 5), vt, .int (K 7), .int (K 8), .int (K 9), .ref (Q 10), .int (K 11), .int (K 12), .ref (Q 13), .ref (Q 14), .ref (Q 15), .ref (Q 16), .ref (Q 17)])), ((Q 13), .inl (dA 6, 8, .inr (.inr (.inr (.inr hs))))), ((Q 14), .inl (dA 1, 8, .inl ln)), ((Q 15), .inl (dA 4, 8, .inl th)), (b, .inl (dA 0, 4096, .inl f0)), ((Q 16), .inr (6, [.ref (A 0), .ref (A 1), .ref (A 2), .ref (A 3), .ref (A 4), .ref (A 5), .ref (A 6), .ref (A 7), .ref (A 8), .ref (A 9), .int (nI c), .ref (A 10), .int (nI u)])), ((A 0), .inl (dA 1, (js_cp M), .inl (F 0))), ((A 1), .inl (dA 2, (js_cp M), .inr (.inl G))), ((A 2), .inl (dA 1, (js_cp M), .inl (F 2))), ((A 3), .inl (dA 1, (js_cp M), .inl (F 3))), ((A 4), .inl (dA 1, (js_cp M), .inl (F 4))), ((A 5), .inl (dA 1, (js_cp M), .inl (F 5))), ((A 6), .inl (dA 1, (js_cp M), .inl (F 6))), ((A 7), .inl (dA 1, (js_cp M), .inl (F 7))), ((A 8), .inl (dA 1, (js_cp M), .inl (F 8))), ((A 9), .inl (dA 1, (js_cp M), .inl (F 9))), ((A 10), .inl (dA 3, (js_cu Mu), .inl (F 10)))] [.int rs1, .ref o] 0 0 rfl rfl rfl (Nat.le_refl _) (Nat.le_refl _) ?_
  have ks1 : rs1 = 1 := ks1.trans (js_sl1 hs8)
  subst ks1
  refine jv_if_eq (tgt := 21) C (jd D_Md_about 3 rfl) (by decide) (fun c5 => absurd c5 (by decide)) (fun c5 => ?_)
  refine jv_iload_n C (jd D_Md_about 4 rfl) rfl 2 rfl ?_
  refine jv_if_lt (tgt := 21) C (jd D_Md_about 5 rfl) (by decide) (fun c9 => absurd c9 (by decide)) (fun c9 => ?_)
  refine jv_iload_n C (jd D_Md_about 6 rfl) rfl 2 rfl ?_
  refine jv_iconst (v := 3) C (jd D_Md_about 7 rfl) (by decide) ?_
  refine jv_icmp_gt (tgt := 21) C (jd D_Md_about 8 rfl) (by decide) (fun c14 => absurd c14 (by decide)) (fun c14 => ?_)
  refine jv_iconst (v := 1) C (jd D_Md_about 9 rfl) (by decide) ?_
  refine jv_goto (tgt := 22) C (jd D_Md_about 10 rfl) (by decide) ?_
  refine jv_iconst (v := 1) C (jd D_Md_about 12 rfl) (by decide) ?_
  refine jv_callV (wr := [((Q 13), .inl (dA 6, 8, .inr (.inr (.inr (.inr hs))))), ((Q 14), .inl (dA 1, 8, .inl ln)), ((Q 15), .inl (dA 4, 8, .inl th)), (b, .inl (dA 0, 4096, .inl f0)), ((Q 16), .inr (6, [.ref (A 0), .ref (A 1), .ref (A 2), .ref (A 3), .ref (A 4), .ref (A 5), .ref (A 6), .ref (A 7), .ref (A 8), .ref (A 9), .int (nI c), .ref (A 10), .int (nI u)])), ((A 0), .inl (dA 1, (js_cp M), .inl (F 0))), ((A 1), .inl (dA 2, (js_cp M), .inr (.inl G))), ((A 2), .inl (dA 1, (js_cp M), .inl (F 2))), ((A 3), .inl (dA 1, (js_cp M), .inl (F 3))), ((A 4), .inl (dA 1, (js_cp M), .inl (F 4))), ((A 5), .inl (dA 1, (js_cp M), .inl (F 5))), ((A 6), .inl (dA 1, (js_cp M), .inl (F 6))), ((A 7), .inl (dA 1, (js_cp M), .inl (F 7))), ((A 8), .inl (dA 1, (js_cp M), .inl (F 8))), ((A 9), .inl (dA 1, (js_cp M), .inl (F 9))), ((A 10), .inl (dA 3, (js_cu Mu), .inl (F 10)))]) C cl_Md_104 (c_Md_good_1 o Q (js_rows [0, (K 1), 0, (K 3), (K 4), (K 5), 0, (K 7), (K 8), (K 9), 0, (K 11), (K 12), 0, 0, 0, 0, 0] 0) vt 1) [0] [1, 2, 3, 4, 5, 6, 7, 8, 9, 10, 11, 12, 13, 14, 15, 16] rfl rfl rfl rfl (by decide) rfl rfl 0 rfl ⟨Nat.le_of_ble_eq_true rfl, Nat.le_of_ble_eq_true rfl⟩ ⟨(by simp only [jv_rm]; omega), (by simp only [jv_rm]; omega)⟩ rfl rfl (Nat.le_of_ble_eq_true rfl) (jd D_Md_about 13 rfl) (fun v2 _ kg3 => ?_)
  obtain ⟨rg3, rfl, kg3⟩ := kg3
  refine jv_fix [16, 0, 1, 2, 3, 4, 5, 6, 7, 8, 9, 10, 11, 12, 13, 14, 15] [(o, .inr (7, [.ref (Q 0), .int (K 1), .ref (Q 2), .int (K 3), .int 0, .int (K 5), vt, .int (K 7), .int (K 8), .int (K 9), .ref (Q 10), .int (K 11), .int (K 12), .ref (Q 13), .ref (Q 14), .ref (Q 15), .ref (Q 16), .ref (Q 17)])), ((Q 13), .inl (dA 6, 8, .inr (.inr (.inr (.inr hs))))), ((Q 14), .inl (dA 1, 8, .inl ln)), ((Q 15), .inl (dA 4, 8, .inl th)), (b, .inl (dA 0, 4096, .inl f0)), ((Q 16), .inr (6, [.ref (A 0), .ref (A 1), .ref (A 2), .ref (A 3), .ref (A 4), .ref (A 5), .ref (A 6), .ref (A 7), .ref (A 8), .ref (A 9), .int (nI c), .ref (A 10), .int (nI u)])), ((A 0), .inl (dA 1, (js_cp M), .inl (F 0))), ((A 1), .inl (dA 2, (js_cp M), .inr (.inl G))), ((A 2), .inl (dA 1, (js_cp M), .inl (F 2))), ((A 3), .inl (dA 1, (js_cp M), .inl (F 3))), ((A 4), .inl (dA 1, (js_cp M), .inl (F 4))), ((A 5), .inl (dA 1, (js_cp M), .inl (F 5))), ((A 6), .inl (dA 1, (js_cp M), .inl (F 6))), ((A 7), .inl (dA 1, (js_cp M), .inl (F 7))), ((A 8), .inl (dA 1, (js_cp M), .inl (F 8))), ((A 9), .inl (dA 1, (js_cp M), .inl (F 9))), ((A 10), .inl (dA 3, (js_cu Mu), .inl (F 10)))] [.int rg3] 0 0 rfl rfl rfl (Nat.le_refl _) (Nat.le_refl _) ?_
  subst kg3
  refine jv_if_eq (tgt := 43) C (jd D_Md_about 14 rfl) (by decide) (fun c26 => absurd c26 (by decide)) (fun c26 => ?_)
  refine jv_aload_n C (jd D_Md_about 15 rfl) rfl 0 rfl ?_
  refine jv_aload_n C (jd D_Md_about 16 rfl) rfl 0 rfl ?_
  refine jv_get C fl_Md_32 0 rfl rfl (jd D_Md_about 17 rfl) ?_
  refine jv_iload_n C (jd D_Md_about 18 rfl) rfl 1 rfl ?_
  refine jv_zald C 3 rfl (vp_in_nI hs8 (by decide)) (jd D_Md_about 19 rfl) ?_
  refine jv_ati (y := 1) (by rw [nI_clamp (by omega)]; exact hth) ?_
  refine jv_iconst (v := 2) C (jd D_Md_about 20 rfl) (by decide) ?_
  refine jv_callV (wr := [((Q 13), .inl (dA 6, 8, .inr (.inr (.inr (.inr hs))))), ((Q 14), .inl (dA 1, 8, .inl ln)), ((Q 15), .inl (dA 4, 8, .inl th)), (b, .inl (dA 0, 4096, .inl f0)), ((Q 16), .inr (6, [.ref (A 0), .ref (A 1), .ref (A 2), .ref (A 3), .ref (A 4), .ref (A 5), .ref (A 6), .ref (A 7), .ref (A 8), .ref (A 9), .int (nI c), .ref (A 10), .int (nI u)])), ((A 0), .inl (dA 1, (js_cp M), .inl (F 0))), ((A 1), .inl (dA 2, (js_cp M), .inr (.inl G))), ((A 2), .inl (dA 1, (js_cp M), .inl (F 2))), ((A 3), .inl (dA 1, (js_cp M), .inl (F 3))), ((A 4), .inl (dA 1, (js_cp M), .inl (F 4))), ((A 5), .inl (dA 1, (js_cp M), .inl (F 5))), ((A 6), .inl (dA 1, (js_cp M), .inl (F 6))), ((A 7), .inl (dA 1, (js_cp M), .inl (F 7))), ((A 8), .inl (dA 1, (js_cp M), .inl (F 8))), ((A 9), .inl (dA 1, (js_cp M), .inl (F 9))), ((A 10), .inl (dA 3, (js_cu Mu), .inl (F 10)))]) C cl_Md_104 (c_Md_good_1 o Q (js_rows [0, (K 1), 0, (K 3), 0, (K 5), 0, (K 7), (K 8), (K 9), 0, (K 11), (K 12), 0, 0, 0, 0, 0] 0) vt 2) [0] [1, 2, 3, 4, 5, 6, 7, 8, 9, 10, 11, 12, 13, 14, 15, 16] rfl rfl rfl rfl (by decide) rfl rfl 0 rfl ⟨Nat.le_of_ble_eq_true rfl, Nat.le_of_ble_eq_true rfl⟩ ⟨(by simp only [jv_rm]; omega), (by simp only [jv_rm]; omega)⟩ rfl rfl (Nat.le_of_ble_eq_true rfl) (jd D_Md_about 21 rfl) (fun v3 _ kg4 => ?_)
  obtain ⟨rg4, rfl, kg4⟩ := kg4
  refine jv_fix [16, 0, 1, 2, 3, 4, 5, 6, 7, 8, 9, 10, 11, 12, 13, 14, 15] [(o, .inr (7, [.ref (Q 0), .int (K 1), .ref (Q 2), .int (K 3), .int 0, .int (K 5), vt, .int (K 7), .int (K 8), .int (K 9), .ref (Q 10), .int (K 11), .int (K 12), .ref (Q 13), .ref (Q 14), .ref (Q 15), .ref (Q 16), .ref (Q 17)])), ((Q 13), .inl (dA 6, 8, .inr (.inr (.inr (.inr hs))))), ((Q 14), .inl (dA 1, 8, .inl ln)), ((Q 15), .inl (dA 4, 8, .inl th)), (b, .inl (dA 0, 4096, .inl f0)), ((Q 16), .inr (6, [.ref (A 0), .ref (A 1), .ref (A 2), .ref (A 3), .ref (A 4), .ref (A 5), .ref (A 6), .ref (A 7), .ref (A 8), .ref (A 9), .int (nI c), .ref (A 10), .int (nI u)])), ((A 0), .inl (dA 1, (js_cp M), .inl (F 0))), ((A 1), .inl (dA 2, (js_cp M), .inr (.inl G))), ((A 2), .inl (dA 1, (js_cp M), .inl (F 2))), ((A 3), .inl (dA 1, (js_cp M), .inl (F 3))), ((A 4), .inl (dA 1, (js_cp M), .inl (F 4))), ((A 5), .inl (dA 1, (js_cp M), .inl (F 5))), ((A 6), .inl (dA 1, (js_cp M), .inl (F 6))), ((A 7), .inl (dA 1, (js_cp M), .inl (F 7))), ((A 8), .inl (dA 1, (js_cp M), .inl (F 8))), ((A 9), .inl (dA 1, (js_cp M), .inl (F 9))), ((A 10), .inl (dA 3, (js_cu Mu), .inl (F 10)))] [.int rg4] 0 0 rfl rfl rfl (Nat.le_refl _) (Nat.le_refl _) ?_
  subst kg4
  refine jv_if_ne (tgt := 45) C (jd D_Md_about 22 rfl) (by decide) (fun c40 => ?_) (fun c40 => absurd c40 (by decide))
  refine jv_aload_n C (jd D_Md_about 25 rfl) rfl 0 rfl ?_
  refine jv_aload_n C (jd D_Md_about 26 rfl) rfl 0 rfl ?_
  refine jv_get C fl_Md_25 0 rfl rfl (jd D_Md_about 27 rfl) ?_
  refine jv_iload_n C (jd D_Md_about 28 rfl) rfl 1 rfl ?_
  refine jv_aldb (h := b) C 1 rfl (vp_in_nI hs8 (by decide)) (by rw [nI_clamp (by omega)]; exact hsb) (jd D_Md_about 29 rfl) ?_
  refine jv_aload_n C (jd D_Md_about 30 rfl) rfl 0 rfl ?_
  refine jv_get C fl_Md_28 0 rfl rfl (jd D_Md_about 31 rfl) ?_
  refine jv_iload_n C (jd D_Md_about 32 rfl) rfl 1 rfl ?_
  refine jv_iald C 2 rfl (vp_in_nI hs8 (by decide)) (jd D_Md_about 33 rfl) ?_
  refine jv_ati (y := nI t.length) (by rw [nI_clamp (by omega)]; exact hln) ?_
  refine jv_aload_n C (jd D_Md_about 34 rfl) rfl 0 rfl ?_
  refine jv_get C fl_Md_39 0 rfl rfl (jd D_Md_about 35 rfl) ?_
  refine jv_callV (wr := [((Q 13), .inl (dA 6, 8, .inr (.inr (.inr (.inr hs))))), ((Q 14), .inl (dA 1, 8, .inl ln)), ((Q 15), .inl (dA 4, 8, .inl th))]) C cl_Md_253 (c_Md_read3_ok o Q (js_rows [0, (K 1), 0, (K 3), 0, (K 5), 0, (K 7), (K 8), (K 9), 0, (K 11), (K 12), 0, 0, 0, 0, 0] 0) vt b 4096 f0 t (Q 16) A M Mu F G c u v0 h4 (by decide) ht h4 hM4 hMu4 hrd) [0, 4, 5, 6, 7, 8, 9, 10, 11, 12, 13, 14, 15, 16] [1, 2, 3] rfl rfl rfl rfl (by decide) rfl rfl 0 rfl ⟨Nat.le_of_ble_eq_true rfl, Nat.le_of_ble_eq_true rfl⟩ ⟨(by simp only [jv_rm]; omega), (by simp only [jv_rm]; omega)⟩ rfl rfl (Nat.le_of_ble_eq_true rfl) (jd D_Md_about 36 rfl) (fun v4 w5 k5 => ?_)
  obtain ⟨r5, rfl, k5⟩ := k5
  refine jv_fix [3, 0, 1, 2, 4, 5, 6, 7, 8, 9, 10, 11, 12, 13, 14, 15, 16] [(o, .inr (7, [.ref (Q 0), .int (K 1), .ref (Q 2), .int (K 3), .int 0, .int (K 5), .ref b, .int w5.2.2.2, .int (nI t.length), .int (-1), .ref (Q 10), .int (K 11), .int (K 12), .ref (Q 13), .ref (Q 14), .ref (Q 15), .ref (Q 16), .ref (Q 17)])), ((Q 13), .inl (dA 6, 8, .inr (.inr (.inr (.inr hs))))), ((Q 14), .inl (dA 1, 8, .inl ln)), ((Q 15), .inl (dA 4, 8, .inl th)), (b, .inl (dA 0, 4096, .inl f0)), ((Q 16), .inr (6, [.ref (w5.1 0), .ref (w5.1 1), .ref (w5.1 2), .ref (w5.1 3), .ref (w5.1 4), .ref (w5.1 5), .ref (w5.1 6), .ref (w5.1 7), .ref (w5.1 8), .ref (w5.1 9), .int (nI (js_cnt 32 v0)), .ref (w5.1 10), .int (nI (js_uu 32 v0))])), ((w5.1 0), .inl (dA 1, (js_cp (max M (js_cnt 32 v0))), .inl (w5.2.1 0))), ((w5.1 1), .inl (dA 2, (js_cp (max M (js_cnt 32 v0))), .inr (.inl w5.2.2.1))), ((w5.1 2), .inl (dA 1, (js_cp (max M (js_cnt 32 v0))), .inl (w5.2.1 2))), ((w5.1 3), .inl (dA 1, (js_cp (max M (js_cnt 32 v0))), .inl (w5.2.1 3))), ((w5.1 4), .inl (dA 1, (js_cp (max M (js_cnt 32 v0))), .inl (w5.2.1 4))), ((w5.1 5), .inl (dA 1, (js_cp (max M (js_cnt 32 v0))), .inl (w5.2.1 5))), ((w5.1 6), .inl (dA 1, (js_cp (max M (js_cnt 32 v0))), .inl (w5.2.1 6))), ((w5.1 7), .inl (dA 1, (js_cp (max M (js_cnt 32 v0))), .inl (w5.2.1 7))), ((w5.1 8), .inl (dA 1, (js_cp (max M (js_cnt 32 v0))), .inl (w5.2.1 8))), ((w5.1 9), .inl (dA 1, (js_cp (max M (js_cnt 32 v0))), .inl (w5.2.1 9))), ((w5.1 10), .inl (dA 3, (js_cu (max Mu (js_uu 32 v0))), .inl (w5.2.1 10)))] [.int r5] ((js_cp (max M (js_cnt 32 v0)) - js_cp M) + (js_cu (max Mu (js_uu 32 v0)) - js_cu Mu)) (20 * (js_cp (max M (js_cnt 32 v0)) - js_cp M) + 2 * (js_cu (max Mu (js_uu 32 v0)) - js_cu Mu)) rfl rfl rfl (by omega) (by omega) ?_
  obtain ⟨e5, hV5, hC5⟩ := k5
  subst e5
  refine jv_istore_n C [(3, .int 0), (0, .ref o), (1, .int (nI s)), (2, .int 1)] (jd D_Md_about 37 rfl) rfl (by decide) rfl ?_
  obtain ⟨ok1, hle1⟩ := js_rd_ok ht.by hrd
  have hc1 := js_cnt_len ok1
  have hc0 := js_cnt_pos 32 v0
  have hu1 := js_uu_le 32 v0 ok1
  have hb1 := js_cp_b (max M (js_cnt 32 v0))
  have hb2_ := js_cu_b (max Mu (js_uu 32 v0))
  have hkr := js_TV_kr hV5
  obtain ⟨s0, st1, st2, st3⟩ := hVs w5.2.1 w5.2.2.1 hV5
  have st4 := st3.1
  refine jv_aload_n C (jd D_Md_about 38 rfl) rfl 1 rfl ?_
  refine jv_get C fl_Md_39 0 rfl rfl (jd D_Md_about 39 rfl) ?_
  refine jv_get C fl_Md_46 5 rfl rfl (jd D_Md_about 40 rfl) ?_
  refine jv_iload_n C (jd D_Md_about 41 rfl) rfl 0 rfl ?_
  refine jv_iald C 6 rfl (vp_in_nI (n := 0) (by omega) (by omega)) (jd D_Md_about 42 rfl) ?_
  refine jv_ati (y := nI 4) (hkr.trans (by rw [hkk])) ?_
  refine jv_istore C [(4, .int (nI 4)), (3, .int 0), (0, .ref o), (1, .int (nI s)), (2, .int 1)] (jd D_Md_about 43 rfl) (by decide) rfl ?_
  refine jv_iload_n C (jd D_Md_about 44 rfl) rfl 4 rfl ?_
  refine jv_if_ne (tgt := 107) C (jd D_Md_about 45 rfl) (by decide) (fun c78 => ?_) (fun c78 => absurd c78 (by decide))
  refine jv_iload_n C (jd D_Md_about 59 rfl) rfl 4 rfl ?_
  refine jv_iconst (v := 2) C (jd D_Md_about 60 rfl) (by decide) ?_
  refine jv_icmp_ne (tgt := 122) C (jd D_Md_about 61 rfl) (by decide) (fun c109 => ?_) (fun c109 => absurd c109 (by decide))
  refine jv_iload_n C (jd D_Md_about 68 rfl) rfl 4 rfl ?_
  refine jv_iconst (v := 3) C (jd D_Md_about 69 rfl) (by decide) ?_
  refine jv_icmp_ne (tgt := 147) C (jd D_Md_about 70 rfl) (by decide) (fun c124 => ?_) (fun c124 => absurd c124 (by decide))
  refine jv_iload C (jd D_Md_about 82 rfl) 0 rfl ?_
  refine jv_iconst (v := 5) C (jd D_Md_about 83 rfl) (by decide) ?_
  refine jv_icmp_lt (tgt := 163) C (jd D_Md_about 84 rfl) (by decide) (fun c150 => ?_) (fun c150 => absurd (by decide) c150)
  refine jv_iload C (jd D_Md_about 91 rfl) 0 rfl ?_
  refine jv_iconst (v := 4) C (jd D_Md_about 92 rfl) (by decide) ?_
  refine jv_icmp_eq (tgt := 171) C (jd D_Md_about 93 rfl) (by decide) (fun c166 => ?_) (fun c166 => absurd (rfl) c166)
  refine jv_lconst (v := 0) C (jd D_Md_about 96 rfl) (by decide) ?_
  refine jv_lstore C [(5, .long 0), (4, .int (nI 4)), (3, .int 0), (0, .ref o), (1, .int (nI s)), (2, .int 1)] (jd D_Md_about 97 rfl) (by decide) rfl ?_
  refine jv_aload_n C (jd D_Md_about 98 rfl) rfl 3 rfl ?_
  refine jv_get C fl_Md_39 0 rfl rfl (jd D_Md_about 99 rfl) ?_
  refine jv_get C fl_Md_85 5 rfl rfl (jd D_Md_about 100 rfl) ?_
  refine jv_iload_n C (jd D_Md_about 101 rfl) rfl 2 rfl ?_
  refine jv_iald C 8 rfl (vp_in_nI (n := 0) (by omega) (by omega)) (jd D_Md_about 102 rfl) ?_
  refine jv_ati (y := nI s0) (st1) ?_
  refine jv_aload_n C (jd D_Md_about 103 rfl) rfl 3 rfl ?_
  refine jv_get C fl_Md_39 0 rfl rfl (jd D_Md_about 104 rfl) ?_
  refine jv_get C fl_Md_88 5 rfl rfl (jd D_Md_about 105 rfl) ?_
  refine jv_iload_n C (jd D_Md_about 106 rfl) rfl 2 rfl ?_
  refine jv_iald C 9 rfl (vp_in_nI (n := 0) (by omega) (by omega)) (jd D_Md_about 107 rfl) ?_
  refine jv_ati (y := nI us.length) (st2) ?_
  refine jv_iadd C (jd D_Md_about 108 rfl) ?_
  refine jv_ati (y := nI (s0 + us.length)) (nI_add s0 _) ?_
  refine jv_istore C [(7, .int (nI (s0 + us.length))), (5, .long 0), (4, .int (nI 4)), (3, .int 0), (0, .ref o), (1, .int (nI s)), (2, .int 1)] (jd D_Md_about 109 rfl) (by decide) rfl ?_
  refine jv_aload_n C (jd D_Md_about 110 rfl) rfl 4 rfl ?_
  refine jv_get C fl_Md_39 0 rfl rfl (jd D_Md_about 111 rfl) ?_
  refine jv_get C fl_Md_85 5 rfl rfl (jd D_Md_about 112 rfl) ?_
  refine jv_iload_n C (jd D_Md_about 113 rfl) rfl 3 rfl ?_
  refine jv_iald C 8 rfl (vp_in_nI (n := 0) (by omega) (by omega)) (jd D_Md_about 114 rfl) ?_
  refine jv_ati (y := nI s0) (st1) ?_
  refine jv_istore C [(8, .int (nI s0)), (7, .int (nI (s0 + us.length))), (5, .long 0), (4, .int (nI 4)), (3, .int 0), (0, .ref o), (1, .int (nI s)), (2, .int 1)] (jd D_Md_about 115 rfl) (by decide) rfl ?_
  have hL206 : ∀ (n : Nat) (i0 n0 : Nat), i0 ≤ us.length → us.length + 1 ≤ i0 + n → js_pa false (us.drop i0) → n0 + js_chn (us.drop i0) = js_chn us → jv_V pR l eR (jv_rm 73 ((js_cp (max M (js_cnt 32 v0)) - js_cp M) + (js_cu (max Mu (js_uu 32 v0)) - js_cu Mu)) (20 * (js_cp (max M (js_cnt 32 v0)) - js_cp M) + 2 * (js_cu (max Mu (js_uu 32 v0)) - js_cu Mu))) sR mR ([.ref o, .int (nI s), .int 1] : List Value).toArray belowR methR cR ((js_cp (max M (js_cnt 32 v0)) - js_cp M) + (js_cu (max Mu (js_uu 32 v0)) - js_cu Mu)) (20 * (js_cp (max M (js_cnt 32 v0)) - js_cp M) + 2 * (js_cu (max Mu (js_uu 32 v0)) - js_cu Mu)) QR D AR 9 [(o, .inr (7, [.ref (Q 0), .int (K 1), .ref (Q 2), .int (K 3), .int 0, .int (K 5), .ref b, .int w5.2.2.2, .int (nI t.length), .int (-1), .ref (Q 10), .int (K 11), .int (K 12), .ref (Q 13), .ref (Q 14), .ref (Q 15), .ref (Q 16), .ref (Q 17)])), ((Q 13), .inl (dA 6, 8, .inr (.inr (.inr (.inr hs))))), ((Q 14), .inl (dA 1, 8, .inl ln)), ((Q 15), .inl (dA 4, 8, .inl th)), (b, .inl (dA 0, 4096, .inl f0)), ((Q 16), .inr (6, [.ref (w5.1 0), .ref (w5.1 1), .ref (w5.1 2), .ref (w5.1 3), .ref (w5.1 4), .ref (w5.1 5), .ref (w5.1 6), .ref (w5.1 7), .ref (w5.1 8), .ref (w5.1 9), .int (nI (js_cnt 32 v0)), .ref (w5.1 10), .int (nI (js_uu 32 v0))])), ((w5.1 0), .inl (dA 1, (js_cp (max M (js_cnt 32 v0))), .inl (w5.2.1 0))), ((w5.1 1), .inl (dA 2, (js_cp (max M (js_cnt 32 v0))), .inr (.inl w5.2.2.1))), ((w5.1 2), .inl (dA 1, (js_cp (max M (js_cnt 32 v0))), .inl (w5.2.1 2))), ((w5.1 3), .inl (dA 1, (js_cp (max M (js_cnt 32 v0))), .inl (w5.2.1 3))), ((w5.1 4), .inl (dA 1, (js_cp (max M (js_cnt 32 v0))), .inl (w5.2.1 4))), ((w5.1 5), .inl (dA 1, (js_cp (max M (js_cnt 32 v0))), .inl (w5.2.1 5))), ((w5.1 6), .inl (dA 1, (js_cp (max M (js_cnt 32 v0))), .inl (w5.2.1 6))), ((w5.1 7), .inl (dA 1, (js_cp (max M (js_cnt 32 v0))), .inl (w5.2.1 7))), ((w5.1 8), .inl (dA 1, (js_cp (max M (js_cnt 32 v0))), .inl (w5.2.1 8))), ((w5.1 9), .inl (dA 1, (js_cp (max M (js_cnt 32 v0))), .inl (w5.2.1 9))), ((w5.1 10), .inl (dA 3, (js_cu (max Mu (js_uu 32 v0))), .inl (w5.2.1 10)))] [(0, .ref o), (1, .int (nI s)), (2, .int 1), (3, .int 0), (4, .int (nI 4)), (5, .long (js_l n0)), (7, .int (nI (s0 + us.length))), (8, .int (nI (s0 + i0)))] 206 [] := by
    intro n
    induction n with
    | zero =>
      intro i0 n0 h0 h1
      exact absurd h1 (by omega)
    | succ n ih =>
      intro i0 n0 hi1 hm hd1 hn0
      refine jv_iload C (jd D_Md_about 116 rfl) 7 rfl ?_
      refine jv_iload C (jd D_Md_about 117 rfl) 6 rfl ?_
      refine jv_icmp_ge (tgt := 251) C (jd D_Md_about 118 rfl) (by decide) (fun c210 => ?_) (fun c210 => ?_)
      · refine jv_lload C (jd D_Md_about 138 rfl) 5 rfl ?_
        have hfin : n0 = js_chn us := by
          have z1 := (nI_leI (a := s0 + us.length) (b := s0 + i0) (by omega) (by omega)).mp c210
          rw [List.drop_of_length_le (by omega)] at hn0
          have z2 : js_chn [] = 0 := rfl
          omega
        rw [hQ]
        exact jv_lret C hr w5 (by rw [hfin]) [0, 1, 2, 3, 4, 5, 6, 7, 8, 9, 10, 11, 12, 13, 14, 15, 16] rfl rfl (by omega) (by omega) (jd D_Md_about 139 rfl)
      · have hl1 : i0 < us.length := by
          rcases Nat.lt_or_ge i0 us.length with q | q
          · exact q
          · exact absurd (nI_le (show s0 + us.length ≤ s0 + i0 by omega) (by omega)) c210
        have hn1 : us.drop i0 ≠ [] := fun z => by have := congrArg List.length z; rw [List.length_drop] at this; have h0 : ([] : List Nat).length = 0 := rfl; omega
        have hw1 := js_cv_w hd1 hn1
        have hcw := js_chn_w hd1 hn1
        rw [List.length_drop, List.drop_drop] at hw1
        rw [List.drop_drop] at hcw
        refine jv_lload C (jd D_Md_about 119 rfl) 5 rfl ?_
        refine jv_lconst (v := 1) C (jd D_Md_about 120 rfl) (by decide) ?_
        refine jv_ladd C (jd D_Md_about 121 rfl) ?_
        refine jv_atl (y := js_l (n0 + 1)) (js_l_1 n0) ?_
        refine jv_lstore C [(5, .long (js_l (n0 + 1))), (0, .ref o), (1, .int (nI s)), (2, .int 1), (3, .int 0), (4, .int (nI 4)), (7, .int (nI (s0 + us.length))), (8, .int (nI (s0 + i0)))] (jd D_Md_about 122 rfl) (by decide) rfl ?_
        refine jv_iload C (jd D_Md_about 123 rfl) 7 rfl ?_
        refine jv_aload_n C (jd D_Md_about 124 rfl) rfl 1 rfl ?_
        refine jv_get C fl_Md_39 0 rfl rfl (jd D_Md_about 125 rfl) ?_
        refine jv_get C fl_Md_89 5 rfl rfl (jd D_Md_about 126 rfl) ?_
        refine jv_iload C (jd D_Md_about 127 rfl) 7 rfl ?_
        refine jv_iload C (jd D_Md_about 128 rfl) 6 rfl ?_
        refine jv_callS (wr := [(o, .inr (7, [.ref (Q 0), .int (K 1), .ref (Q 2), .int (K 3), .int 0, .int (K 5), .ref b, .int w5.2.2.2, .int (nI t.length), .int (-1), .ref (Q 10), .int (K 11), .int (K 12), .ref (Q 13), .ref (Q 14), .ref (Q 15), .ref (Q 16), .ref (Q 17)])), ((Q 13), .inl (dA 6, 8, .inr (.inr (.inr (.inr hs))))), ((Q 14), .inl (dA 1, 8, .inl ln)), ((Q 15), .inl (dA 4, 8, .inl th)), (b, .inl (dA 0, 4096, .inl f0)), ((Q 16), .inr (6, [.ref (w5.1 0), .ref (w5.1 1), .ref (w5.1 2), .ref (w5.1 3), .ref (w5.1 4), .ref (w5.1 5), .ref (w5.1 6), .ref (w5.1 7), .ref (w5.1 8), .ref (w5.1 9), .int (nI (js_cnt 32 v0)), .ref (w5.1 10), .int (nI (js_uu 32 v0))])), ((w5.1 0), .inl (dA 1, (js_cp (max M (js_cnt 32 v0))), .inl (w5.2.1 0))), ((w5.1 1), .inl (dA 2, (js_cp (max M (js_cnt 32 v0))), .inr (.inl w5.2.2.1))), ((w5.1 2), .inl (dA 1, (js_cp (max M (js_cnt 32 v0))), .inl (w5.2.1 2))), ((w5.1 3), .inl (dA 1, (js_cp (max M (js_cnt 32 v0))), .inl (w5.2.1 3))), ((w5.1 4), .inl (dA 1, (js_cp (max M (js_cnt 32 v0))), .inl (w5.2.1 4))), ((w5.1 5), .inl (dA 1, (js_cp (max M (js_cnt 32 v0))), .inl (w5.2.1 5))), ((w5.1 6), .inl (dA 1, (js_cp (max M (js_cnt 32 v0))), .inl (w5.2.1 6))), ((w5.1 7), .inl (dA 1, (js_cp (max M (js_cnt 32 v0))), .inl (w5.2.1 7))), ((w5.1 8), .inl (dA 1, (js_cp (max M (js_cnt 32 v0))), .inl (w5.2.1 8))), ((w5.1 9), .inl (dA 1, (js_cp (max M (js_cnt 32 v0))), .inl (w5.2.1 9)))]) C cl_Md_93 (c_Md_character (w5.1 10) (js_cu (max Mu (js_uu 32 v0))) (s0 + i0) (s0 + us.length) (w5.2.1 10) (us.drop i0) (by omega) (by omega) (by rw [List.length_drop]; omega) hd1 hn1 (fun j x hj => by rw [List.getElem?_drop] at hj; rw [Nat.add_assoc]; exact st3.2 (i0 + j) x hj)) [16] [0, 1, 2, 3, 4, 5, 6, 7, 8, 9, 10, 11, 12, 13, 14, 15] rfl rfl rfl rfl (by decide) ⟨Nat.le_of_ble_eq_true rfl, Nat.le_of_ble_eq_true rfl⟩ ⟨(by simp only [jv_rm]; omega), (by simp only [jv_rm]; omega)⟩ rfl rfl (Nat.le_of_ble_eq_true rfl) (jd D_Md_about 129 rfl) (fun v5 _ k8 => ?_)
        obtain ⟨r8, rfl, k8⟩ := k8
        refine jv_fix [0, 1, 2, 3, 4, 5, 6, 7, 8, 9, 10, 11, 12, 13, 14, 15, 16] [(o, .inr (7, [.ref (Q 0), .int (K 1), .ref (Q 2), .int (K 3), .int 0, .int (K 5), .ref b, .int w5.2.2.2, .int (nI t.length), .int (-1), .ref (Q 10), .int (K 11), .int (K 12), .ref (Q 13), .ref (Q 14), .ref (Q 15), .ref (Q 16), .ref (Q 17)])), ((Q 13), .inl (dA 6, 8, .inr (.inr (.inr (.inr hs))))), ((Q 14), .inl (dA 1, 8, .inl ln)), ((Q 15), .inl (dA 4, 8, .inl th)), (b, .inl (dA 0, 4096, .inl f0)), ((Q 16), .inr (6, [.ref (w5.1 0), .ref (w5.1 1), .ref (w5.1 2), .ref (w5.1 3), .ref (w5.1 4), .ref (w5.1 5), .ref (w5.1 6), .ref (w5.1 7), .ref (w5.1 8), .ref (w5.1 9), .int (nI (js_cnt 32 v0)), .ref (w5.1 10), .int (nI (js_uu 32 v0))])), ((w5.1 0), .inl (dA 1, (js_cp (max M (js_cnt 32 v0))), .inl (w5.2.1 0))), ((w5.1 1), .inl (dA 2, (js_cp (max M (js_cnt 32 v0))), .inr (.inl w5.2.2.1))), ((w5.1 2), .inl (dA 1, (js_cp (max M (js_cnt 32 v0))), .inl (w5.2.1 2))), ((w5.1 3), .inl (dA 1, (js_cp (max M (js_cnt 32 v0))), .inl (w5.2.1 3))), ((w5.1 4), .inl (dA 1, (js_cp (max M (js_cnt 32 v0))), .inl (w5.2.1 4))), ((w5.1 5), .inl (dA 1, (js_cp (max M (js_cnt 32 v0))), .inl (w5.2.1 5))), ((w5.1 6), .inl (dA 1, (js_cp (max M (js_cnt 32 v0))), .inl (w5.2.1 6))), ((w5.1 7), .inl (dA 1, (js_cp (max M (js_cnt 32 v0))), .inl (w5.2.1 7))), ((w5.1 8), .inl (dA 1, (js_cp (max M (js_cnt 32 v0))), .inl (w5.2.1 8))), ((w5.1 9), .inl (dA 1, (js_cp (max M (js_cnt 32 v0))), .inl (w5.2.1 9))), ((w5.1 10), .inl (dA 3, (js_cu (max Mu (js_uu 32 v0))), .inl (w5.2.1 10)))] [.int r8, .int (nI (s0 + i0))] ((js_cp (max M (js_cnt 32 v0)) - js_cp M) + (js_cu (max Mu (js_uu 32 v0)) - js_cu Mu)) (20 * (js_cp (max M (js_cnt 32 v0)) - js_cp M) + 2 * (js_cu (max Mu (js_uu 32 v0)) - js_cu Mu)) rfl rfl rfl (Nat.le_refl _) (Nat.le_refl _) ?_
        subst k8
        refine jv_ldc (v := 65535) C (jm5 (List.mem_of_getElem? (i := 120) rfl)) (jd D_Md_about 130 rfl) ?_
        refine jv_icmp_le (tgt := 244) C (jd D_Md_about 131 rfl) (by decide) (fun c237 => ?_) (fun c237 => ?_)
        · have hw : js_cw (us.drop i0) = 1 := by
            have z1 := (nI_leI (b := 65535) (by omega) (by decide)).mp c237
            have z2 : ¬ js_cw (us.drop i0) = 2 := fun z => absurd (hw1.2.2.2.2.1.mpr z) (by omega)
            omega
          have hb5 := hw1.2.2.2.1
          rw [hw] at hb5 hcw
          have hb6 : n0 + 1 + js_chn (us.drop (i0 + 1)) = js_chn us := by omega
          refine jv_iconst (v := 1) C (jd D_Md_about 134 rfl) (by decide) ?_
          refine jv_iadd C (jd D_Md_about 135 rfl) ?_
          refine jv_ati (y := nI (s0 + (i0 + 1))) (nI_1 (s0 + i0)) ?_
          refine jv_istore C [(8, .int (nI (s0 + (i0 + 1)))), (5, .long (js_l (n0 + 1))), (0, .ref o), (1, .int (nI s)), (2, .int 1), (3, .int 0), (4, .int (nI 4)), (7, .int (nI (s0 + us.length)))] (jd D_Md_about 136 rfl) (by decide) rfl ?_
          refine jv_goto (tgt := 206) C (jd D_Md_about 137 rfl) (by decide) ?_
          refine jv_lvsub [2, 3, 4, 5, 6, 1, 7, 0] rfl ?_
          exact ih (i0 + 1) (n0 + 1) (by omega) (by omega) hb5 hb6
        · have hw : js_cw (us.drop i0) = 2 := hw1.2.2.2.2.1.mp (Nat.lt_of_not_le (fun z => c237 (nI_le (b := 65535) z (by decide))))
          have hb5 := hw1.2.2.2.1
          rw [hw] at hb5 hcw
          have hb6 : n0 + 1 + js_chn (us.drop (i0 + 2)) = js_chn us := by omega
          refine jv_iconst (v := 2) C (jd D_Md_about 132 rfl) (by decide) ?_
          refine jv_goto (tgt := 245) C (jd D_Md_about 133 rfl) (by decide) ?_
          refine jv_iadd C (jd D_Md_about 135 rfl) ?_
          refine jv_ati (y := nI (s0 + (i0 + 2))) (nI_add (s0 + i0) 2) ?_
          refine jv_istore C [(8, .int (nI (s0 + (i0 + 2)))), (5, .long (js_l (n0 + 1))), (0, .ref o), (1, .int (nI s)), (2, .int 1), (3, .int 0), (4, .int (nI 4)), (7, .int (nI (s0 + us.length)))] (jd D_Md_about 136 rfl) (by decide) rfl ?_
          refine jv_goto (tgt := 206) C (jd D_Md_about 137 rfl) (by decide) ?_
          refine jv_lvsub [2, 3, 4, 5, 6, 1, 7, 0] rfl ?_
          exact ih (i0 + 2) (n0 + 1) (by omega) (by omega) hb5 hb6
  refine jv_lvsub [5, 6, 7, 4, 3, 2, 1, 0] rfl ?_
  exact hL206 (us.length + 1) 0 0 (Nat.zero_le _) (by omega) hpa (Nat.zero_add _)
