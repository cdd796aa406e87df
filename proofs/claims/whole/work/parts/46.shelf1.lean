set_option maxHeartbeats 4000000 in
set_option maxRecDepth 100000 in
/-- slotAt(k) -/
theorem c_Sh_slotAt_ok {l : Launch} {D : va_G} {dA : Nat → ClassId} {zz : (Nat → Nat) × (Nat → Nat)} (x tp rs sl rd ol cp : Nat) (pl : Int32) (h k : Nat) (fs : Nat → Option Nat) (hk : k < 8) (hh : fs k = some h) : jv_M l D dA zz y_Sh_slotAt b_Sh_slotAt 2 (some ((FieldType.object "JsonShelf$Text"))) 1 [.ref x, .int (nI k)] [(x, .inr (5, [.ref tp, .ref rs, .ref sl, .ref rd, .ref ol, .ref cp, .int pl])), (sl, .inl (dA 5, 8, .inr (.inr (.inr (.inr fs)))))] (jv_pr fun a (_ : Unit) => a = h) (fun _ => [(x, .inr (5, [.ref tp, .ref rs, .ref sl, .ref rd, .ref ol, .ref cp, .int pl])), (sl, .inl (dA 5, 8, .inr (.inr (.inr (.inr fs)))))]) 0 0 := by
  refine jv_M.of [(0, .ref x), (1, .int (nI k))] (by decide) (Nat.le_of_ble_eq_true rfl) rfl ?_
  intro pR eR sR mR belowR methR cR AR C hr hin
  refine jv_iload_n C (jd D_Sh_slotAt 0 rfl) rfl 1 rfl ?_
  refine jv_if_lt (tgt := 13) C (jd D_Sh_slotAt 1 rfl) (by decide) (fun c1 => absurd c1 (nI_pos (by omega))) (fun c1 => ?_)
  refine jv_iload_n C (jd D_Sh_slotAt 2 rfl) rfl 1 rfl ?_
  refine jv_aload_n C (jd D_Sh_slotAt 3 rfl) rfl 0 rfl ?_
  refine jv_get C fl_Sh_21 0 rfl rfl (jd D_Sh_slotAt 4 rfl) ?_
  refine jv_alen C 1 5 rfl rfl (jd D_Sh_slotAt 5 rfl) ?_
  refine jv_icmp_lt (tgt := 21) C (jd D_Sh_slotAt 6 rfl) (by decide) (fun c10 => ?_) (fun c10 => absurd (nI_lt hk (by decide)) c10)
  refine jv_aload_n C (jd D_Sh_slotAt 11 rfl) rfl 0 rfl ?_
  refine jv_get C fl_Sh_21 0 rfl rfl (jd D_Sh_slotAt 12 rfl) ?_
  refine jv_iload_n C (jd D_Sh_slotAt 13 rfl) rfl 1 rfl ?_
  refine jv_aldq (h := h) C 1 rfl (vp_in_nI hk (by decide)) (by rw [nI_clamp (by omega)]; exact hh) (jd D_Sh_slotAt 14 rfl) ?_
  exact jv_aret C hr (Or.inl ⟨_, rfl⟩) () (rfl) [0, 1] rfl rfl (Nat.le_of_ble_eq_true rfl) (Nat.le_of_ble_eq_true rfl) (jd D_Sh_slotAt 15 rfl)

set_option maxHeartbeats 4000000 in
set_option maxRecDepth 100000 in
/-- slotAt(i), no slot -/
theorem c_Sh_slotAt_no {l : Launch} {D : va_G} {dA : Nat → ClassId} {zz : (Nat → Nat) × (Nat → Nat)} (x tp rs sl rd ol cp : Nat) (pl : Int32) (i : Int32) (fs : Nat → Option Nat) (hb : i < 0 ∨ 8 ≤ i) (hlt : l.stackTraces = false) : jv_MX l D dA zz y_Sh_slotAt b_Sh_slotAt 2 (some ((FieldType.object "JsonShelf$Text"))) 6 [.ref x, .int i] [(x, .inr (5, [.ref tp, .ref rs, .ref sl, .ref rd, .ref ol, .ref cp, .int pl])), (sl, .inl (dA 5, 8, .inr (.inr (.inr (.inr fs)))))] "java/lang/IllegalArgumentException" (fun (_ : Unit) => True) (fun _ => [(x, .inr (5, [.ref tp, .ref rs, .ref sl, .ref rd, .ref ol, .ref cp, .int pl])), (sl, .inl (dA 5, 8, .inr (.inr (.inr (.inr fs)))))]) 1 6 := by
  refine jv_MX.of [(0, .ref x), (1, .int i)] (by decide) (Nat.le_of_ble_eq_true rfl) rfl ?_
  intro pR eR sR mR belowR methR cR AR C hT0
  refine jv_iload_n C (jd D_Sh_slotAt 0 rfl) rfl 1 rfl ?_
  refine jv_if_lt (tgt := 13) C (jd D_Sh_slotAt 1 rfl) (by decide) (fun c1 => ?_) (fun c1 => ?_)
  · exact jv_throw0 C hT0 hlt tw_64 () (trivial) [0, 1] rfl rfl (Nat.le_of_ble_eq_true rfl) (Nat.le_of_ble_eq_true rfl) (Nat.le_of_ble_eq_true rfl) (Nat.le_of_ble_eq_true rfl) (Nat.le_of_ble_eq_true rfl) (Nat.le_of_ble_eq_true rfl) (jd D_Sh_slotAt 7 rfl) (jd D_Sh_slotAt 8 rfl) (jd D_Sh_slotAt 9 rfl) (jd D_Sh_slotAt 10 rfl)
  · refine jv_iload_n C (jd D_Sh_slotAt 2 rfl) rfl 1 rfl ?_
    refine jv_aload_n C (jd D_Sh_slotAt 3 rfl) rfl 0 rfl ?_
    refine jv_get C fl_Sh_21 0 rfl rfl (jd D_Sh_slotAt 4 rfl) ?_
    refine jv_alen C 1 5 rfl rfl (jd D_Sh_slotAt 5 rfl) ?_
    refine jv_icmp_lt (tgt := 21) C (jd D_Sh_slotAt 6 rfl) (by decide) (fun c10 => absurd c10 (fun y => hb.elim c1 (fun z => absurd y (Int32.not_lt.mpr z)))) (fun c10 => ?_)
    exact jv_throw0 C hT0 hlt tw_64 () (trivial) [0, 1] rfl rfl (Nat.le_of_ble_eq_true rfl) (Nat.le_of_ble_eq_true rfl) (Nat.le_of_ble_eq_true rfl) (Nat.le_of_ble_eq_true rfl) (Nat.le_of_ble_eq_true rfl) (Nat.le_of_ble_eq_true rfl) (jd D_Sh_slotAt 7 rfl) (jd D_Sh_slotAt 8 rfl) (jd D_Sh_slotAt 9 rfl) (jd D_Sh_slotAt 10 rfl)

set_option maxHeartbeats 4000000 in
set_option maxRecDepth 100000 in
/-- held(slot) -/
theorem c_Sh_held_ok {l : Launch} {D : va_G} {dA : Nat → ClassId} {zz : (Nat → Nat) × (Nat → Nat)} (h b N : Nat) (f : Nat → Int32) (t : List Nat) (h0 : 0 < t.length) (hN : t.length < 2 ^ 31) : jv_M l D dA zz y_Sh_held b_Sh_held 1 (some ((FieldType.object "JsonShelf$Text"))) 2 [.ref h] [(h, .inr (0, [.ref b, .int (nI t.length)])), (b, .inl (dA 0, N, .inl f))] (jv_pr fun a (_ : Unit) => a = h) (fun _ => [(h, .inr (0, [.ref b, .int (nI t.length)])), (b, .inl (dA 0, N, .inl f))]) 0 0 := by
  refine jv_M.of [(0, .ref h)] (by decide) (Nat.le_of_ble_eq_true rfl) rfl ?_
  intro pR eR sR mR belowR methR cR AR C hr hin
  refine jv_aload_n C (jd D_Sh_held 0 rfl) rfl 0 rfl ?_
  refine jv_callV (wr := []) C cl_Sh_54 (c_Tx_length h b N f t) [0, 1] [] rfl rfl rfl rfl (by decide) rfl rfl 0 rfl ⟨Nat.le_of_ble_eq_true rfl, Nat.le_of_ble_eq_true rfl⟩ ⟨Nat.le_of_ble_eq_true rfl, Nat.le_of_ble_eq_true rfl⟩ rfl rfl (Nat.le_of_ble_eq_true rfl) (jd D_Sh_held 1 rfl) (fun v1 _ k1 => ?_)
  obtain ⟨r1_, rfl, k1⟩ := k1
  refine jv_fix [0, 1] [(h, .inr (0, [.ref b, .int (nI t.length)])), (b, .inl (dA 0, N, .inl f))] [.int r1_] 0 0 rfl rfl rfl (Nat.le_refl _) (Nat.le_refl _) ?_
  subst k1
  refine jv_if_ne (tgt := 15) C (jd D_Sh_held 2 rfl) (by decide) (fun c4 => ?_) (fun c4 => absurd c4 (fun y => absurd ((nI_eq (a := t.length) (b := 0) hN (by decide)).mp y) (by omega)))
  refine jv_aload_n C (jd D_Sh_held 7 rfl) rfl 0 rfl ?_
  exact jv_aret C hr (Or.inl ⟨_, rfl⟩) () (rfl) [0, 1] rfl rfl (Nat.le_of_ble_eq_true rfl) (Nat.le_of_ble_eq_true rfl) (jd D_Sh_held 8 rfl)

set_option maxHeartbeats 4000000 in
set_option maxRecDepth 100000 in
/-- held(slot), nothing there -/
theorem c_Sh_held_no {l : Launch} {D : va_G} {dA : Nat → ClassId} {zz : (Nat → Nat) × (Nat → Nat)} (h b N : Nat) (f : Nat → Int32) (hlt : l.stackTraces = false) : jv_MX l D dA zz y_Sh_held b_Sh_held 1 (some ((FieldType.object "JsonShelf$Text"))) 6 [.ref h] [(h, .inr (0, [.ref b, .int (nI ([] : List Nat).length)])), (b, .inl (dA 0, N, .inl f))] "java/lang/IllegalStateException" (fun (_ : Unit) => True) (fun _ => [(h, .inr (0, [.ref b, .int (nI ([] : List Nat).length)])), (b, .inl (dA 0, N, .inl f))]) 1 6 := by
  refine jv_MX.of [(0, .ref h)] (by decide) (Nat.le_of_ble_eq_true rfl) rfl ?_
  intro pR eR sR mR belowR methR cR AR C hT0
  refine jv_aload_n C (jd D_Sh_held 0 rfl) rfl 0 rfl ?_
  refine jv_callV (wr := []) C cl_Sh_54 (c_Tx_length h b N f ([] : List Nat)) [0, 1] [] rfl rfl rfl rfl (by decide) rfl rfl 0 rfl ⟨Nat.le_of_ble_eq_true rfl, Nat.le_of_ble_eq_true rfl⟩ ⟨Nat.le_of_ble_eq_true rfl, Nat.le_of_ble_eq_true rfl⟩ rfl rfl (Nat.le_of_ble_eq_true rfl) (jd D_Sh_held 1 rfl) (fun v1 _ k1 => ?_)
  obtain ⟨r1_, rfl, k1⟩ := k1
  refine jv_fix [0, 1] [(h, .inr (0, [.ref b, .int (nI ([] : List Nat).length)])), (b, .inl (dA 0, N, .inl f))] [.int r1_] 0 0 rfl rfl rfl (Nat.le_refl _) (Nat.le_refl _) ?_
  subst k1
  refine jv_if_ne (tgt := 15) C (jd D_Sh_held 2 rfl) (by decide) (fun c4 => absurd c4 (fun y => y rfl)) (fun c4 => ?_)
  exact jv_throw0 C hT0 hlt tw_129 () (trivial) [0, 1] rfl rfl (Nat.le_of_ble_eq_true rfl) (Nat.le_of_ble_eq_true rfl) (Nat.le_of_ble_eq_true rfl) (Nat.le_of_ble_eq_true rfl) (Nat.le_of_ble_eq_true rfl) (Nat.le_of_ble_eq_true rfl) (jd D_Sh_held 3 rfl) (jd D_Sh_held 4 rfl) (jd D_Sh_held 5 rfl) (jd D_Sh_held 6 rfl)

set_option maxHeartbeats 4000000 in
set_option maxRecDepth 100000 in
/-- feed -/
theorem c_Sh_feed_ok {l : Launch} {D : va_G} {dA : Nat → ClassId} {zz : (Nat → Nat) × (Nat → Nat)} (x tp rs sl rd ol cp : Nat) (pl : Int32) (tb : Nat) (f : Nat → Int32) (t : List Nat) (a b c d e : Int32) (h20 : t.length + 20 ≤ 4096) (ht : js_tx f t) : jv_M l D dA zz y_Sh_feed b_Sh_feed 6 (some (FieldType.int)) 3 [.ref x, .int a, .int b, .int c, .int d, .int e] [(x, .inr (5, [.ref tp, .ref rs, .ref sl, .ref rd, .ref ol, .ref cp, .int pl])), (tp, .inr (0, [.ref tb, .int (nI t.length)])), (tb, .inl (dA 0, 4096, .inl f))] (jv_pi fun r g => r = nI (t ++ js_i4 a ++ js_i4 b ++ js_i4 c ++ js_i4 d ++ js_i4 e).length ∧ js_tx g (t ++ js_i4 a ++ js_i4 b ++ js_i4 c ++ js_i4 d ++ js_i4 e)) (fun g => [(x, .inr (5, [.ref tp, .ref rs, .ref sl, .ref rd, .ref ol, .ref cp, .int pl])), (tp, .inr (0, [.ref tb, .int (nI (t ++ js_i4 a ++ js_i4 b ++ js_i4 c ++ js_i4 d ++ js_i4 e).length)])), (tb, .inl (dA 0, 4096, .inl g))]) 0 0 := by
  refine jv_M.of [(0, .ref x), (1, .int a), (2, .int b), (3, .int c), (4, .int d), (5, .int e)] (by decide) (Nat.le_of_ble_eq_true rfl) rfl ?_
  intro pR eR sR mR belowR methR cR AR C hr hin
  refine jv_aload_n C (jd D_Sh_feed 0 rfl) rfl 0 rfl ?_
  refine jv_get C fl_Sh_14 0 rfl rfl (jd D_Sh_feed 1 rfl) ?_
  refine jv_callV (wr := [(x, .inr (5, [.ref tp, .ref rs, .ref sl, .ref rd, .ref ol, .ref cp, .int pl]))]) C cl_Sh_54 (c_Tx_length tp tb 4096 f t) [1, 2] [0] rfl rfl rfl rfl (by decide) rfl rfl 0 rfl ⟨Nat.le_of_ble_eq_true rfl, Nat.le_of_ble_eq_true rfl⟩ ⟨Nat.le_of_ble_eq_true rfl, Nat.le_of_ble_eq_true rfl⟩ rfl rfl (Nat.le_of_ble_eq_true rfl) (jd D_Sh_feed 2 rfl) (fun v1 _ k7 => ?_)
  obtain ⟨r7_, rfl, k7⟩ := k7
  refine jv_fix [0, 1, 2] [(x, .inr (5, [.ref tp, .ref rs, .ref sl, .ref rd, .ref ol, .ref cp, .int pl])), (tp, .inr (0, [.ref tb, .int (nI t.length)])), (tb, .inl (dA 0, 4096, .inl f))] [.int r7_] 0 0 rfl rfl rfl (Nat.le_refl _) (Nat.le_refl _) ?_
  subst k7
  refine jv_bipush (v := 20) C (jd D_Sh_feed 3 rfl) (by decide) ?_
  refine jv_iadd C (jd D_Sh_feed 4 rfl) ?_
  refine jv_ati (y := nI (t.length + 20)) (nI_add _ 20) ?_
  refine jv_sipush (v := 4096) C (jd D_Sh_feed 5 rfl) (by decide) ?_
  refine jv_icmp_le (tgt := 24) C (jd D_Sh_feed 6 rfl) (by decide) (fun c13 => ?_) (fun c13 => absurd (nI_le h20 (by decide)) c13)
  refine jv_aload_n C (jd D_Sh_feed 11 rfl) rfl 0 rfl ?_
  refine jv_get C fl_Sh_14 0 rfl rfl (jd D_Sh_feed 12 rfl) ?_
  refine jv_iload_n C (jd D_Sh_feed 13 rfl) rfl 1 rfl ?_
  refine jv_callV (wr := [(x, .inr (5, [.ref tp, .ref rs, .ref sl, .ref rd, .ref ol, .ref cp, .int pl]))]) C cl_Sh_61 (c_Tx_addInt tp tb 4096 f t a (by first | omega | (simp only [List.length_append, js_i4_len]; omega)) (by decide) ht) [1, 2] [0] rfl rfl rfl rfl (by decide) rfl rfl 0 rfl ⟨Nat.le_of_ble_eq_true rfl, Nat.le_of_ble_eq_true rfl⟩ ⟨Nat.le_of_ble_eq_true rfl, Nat.le_of_ble_eq_true rfl⟩ rfl rfl (Nat.le_of_ble_eq_true rfl) (jd D_Sh_feed 14 rfl) (fun v2 g1 k1 => ?_)
  obtain ⟨rfl, k1⟩ := k1
  refine jv_fix [0, 1, 2] [(x, .inr (5, [.ref tp, .ref rs, .ref sl, .ref rd, .ref ol, .ref cp, .int pl])), (tp, .inr (0, [.ref tb, .int (nI (t ++ js_i4 a).length)])), (tb, .inl (dA 0, 4096, .inl g1))] [] 0 0 rfl rfl rfl (Nat.le_refl _) (Nat.le_refl _) ?_
  refine jv_aload_n C (jd D_Sh_feed 15 rfl) rfl 0 rfl ?_
  refine jv_get C fl_Sh_14 0 rfl rfl (jd D_Sh_feed 16 rfl) ?_
  refine jv_iload_n C (jd D_Sh_feed 17 rfl) rfl 2 rfl ?_
  refine jv_callV (wr := [(x, .inr (5, [.ref tp, .ref rs, .ref sl, .ref rd, .ref ol, .ref cp, .int pl]))]) C cl_Sh_61 (c_Tx_addInt tp tb 4096 g1 (t ++ js_i4 a) b (by first | omega | (simp only [List.length_append, js_i4_len]; omega)) (by decide) k1) [1, 2] [0] rfl rfl rfl rfl (by decide) rfl rfl 0 rfl ⟨Nat.le_of_ble_eq_true rfl, Nat.le_of_ble_eq_true rfl⟩ ⟨Nat.le_of_ble_eq_true rfl, Nat.le_of_ble_eq_true rfl⟩ rfl rfl (Nat.le_of_ble_eq_true rfl) (jd D_Sh_feed 18 rfl) (fun v3 g2 k2 => ?_)
  obtain ⟨rfl, k2⟩ := k2
  refine jv_fix [0, 1, 2] [(x, .inr (5, [.ref tp, .ref rs, .ref sl, .ref rd, .ref ol, .ref cp, .int pl])), (tp, .inr (0, [.ref tb, .int (nI (t ++ js_i4 a ++ js_i4 b).length)])), (tb, .inl (dA 0, 4096, .inl g2))] [] 0 0 rfl rfl rfl (Nat.le_refl _) (Nat.le_refl _) ?_
  refine jv_aload_n C (jd D_Sh_feed 19 rfl) rfl 0 rfl ?_
  refine jv_get C fl_Sh_14 0 rfl rfl (jd D_Sh_feed 20 rfl) ?_
  refine jv_iload_n C (jd D_Sh_feed 21 rfl) rfl 3 rfl ?_
  refine jv_callV (wr := [(x, .inr (5, [.ref tp, .ref rs, .ref sl, .ref rd, .ref ol, .ref cp, .int pl]))]) C cl_Sh_61 (c_Tx_addInt tp tb 4096 g2 (t ++ js_i4 a ++ js_i4 b) c (by first | omega | (simp only [List.length_append, js_i4_len]; omega)) (by decide) k2) [1, 2] [0] rfl rfl rfl rfl (by decide) rfl rfl 0 rfl ⟨Nat.le_of_ble_eq_true rfl, Nat.le_of_ble_eq_true rfl⟩ ⟨Nat.le_of_ble_eq_true rfl, Nat.le_of_ble_eq_true rfl⟩ rfl rfl (Nat.le_of_ble_eq_true rfl) (jd D_Sh_feed 22 rfl) (fun v4 g3 k3 => ?_)
  obtain ⟨rfl, k3⟩ := k3
  refine jv_fix [0, 1, 2] [(x, .inr (5, [.ref tp, .ref rs, .ref sl, .ref rd, .ref ol, .ref cp, .int pl])), (tp, .inr (0, [.ref tb, .int (nI (t ++ js_i4 a ++ js_i4 b ++ js_i4 c).length)])), (tb, .inl (dA 0, 4096, .inl g3))] [] 0 0 rfl rfl rfl (Nat.le_refl _) (Nat.le_refl _) ?_
  refine jv_aload_n C (jd D_Sh_feed 23 rfl) rfl 0 rfl ?_
  refine jv_get C fl_Sh_14 0 rfl rfl (jd D_Sh_feed 24 rfl) ?_
  refine jv_iload C (jd D_Sh_feed 25 rfl) 4 rfl ?_
  refine jv_callV (wr := [(x, .inr (5, [.ref tp, .ref rs, .ref sl, .ref rd, .ref ol, .ref cp, .int pl]))]) C cl_Sh_61 (c_Tx_addInt tp tb 4096 g3 (t ++ js_i4 a ++ js_i4 b ++ js_i4 c) d (by first | omega | (simp only [List.length_append, js_i4_len]; omega)) (by decide) k3) [1, 2] [0] rfl rfl rfl rfl (by decide) rfl rfl 0 rfl ⟨Nat.le_of_ble_eq_true rfl, Nat.le_of_ble_eq_true rfl⟩ ⟨Nat.le_of_ble_eq_true rfl, Nat.le_of_ble_eq_true rfl⟩ rfl rfl (Nat.le_of_ble_eq_true rfl) (jd D_Sh_feed 26 rfl) (fun v5 g4 k4 => ?_)
  obtain ⟨rfl, k4⟩ := k4
  refine jv_fix [0, 1, 2] [(x, .inr (5, [.ref tp, .ref rs, .ref sl, .ref rd, .ref ol, .ref cp, .int pl])), (tp, .inr (0, [.ref tb, .int (nI (t ++ js_i4 a ++ js_i4 b ++ js_i4 c ++ js_i4 d).length)])), (tb, .inl (dA 0, 4096, .inl g4))] [] 0 0 rfl rfl rfl (Nat.le_refl _) (Nat.le_refl _) ?_
  refine jv_aload_n C (jd D_Sh_feed 27 rfl) rfl 0 rfl ?_
  refine jv_get C fl_Sh_14 0 rfl rfl (jd D_Sh_feed 28 rfl) ?_
  refine jv_iload C (jd D_Sh_feed 29 rfl) 5 rfl ?_
  refine jv_callV (wr := [(x, .inr (5, [.ref tp, .ref rs, .ref sl, .ref rd, .ref ol, .ref cp, .int pl]))]) C cl_Sh_61 (c_Tx_addInt tp tb 4096 g4 (t ++ js_i4 a ++ js_i4 b ++ js_i4 c ++ js_i4 d) e (by first | omega | (simp only [List.length_append, js_i4_len]; omega)) (by decide) k4) [1, 2] [0] rfl rfl rfl rfl (by decide) rfl rfl 0 rfl ⟨Nat.le_of_ble_eq_true rfl, Nat.le_of_ble_eq_true rfl⟩ ⟨Nat.le_of_ble_eq_true rfl, Nat.le_of_ble_eq_true rfl⟩ rfl rfl (Nat.le_of_ble_eq_true rfl) (jd D_Sh_feed 30 rfl) (fun v6 g5 k5 => ?_)
  obtain ⟨rfl, k5⟩ := k5
  refine jv_fix [0, 1, 2] [(x, .inr (5, [.ref tp, .ref rs, .ref sl, .ref rd, .ref ol, .ref cp, .int pl])), (tp, .inr (0, [.ref tb, .int (nI (t ++ js_i4 a ++ js_i4 b ++ js_i4 c ++ js_i4 d ++ js_i4 e).length)])), (tb, .inl (dA 0, 4096, .inl g5))] [] 0 0 rfl rfl rfl (Nat.le_refl _) (Nat.le_refl _) ?_
  refine jv_aload_n C (jd D_Sh_feed 31 rfl) rfl 0 rfl ?_
  refine jv_get C fl_Sh_14 0 rfl rfl (jd D_Sh_feed 32 rfl) ?_
  refine jv_callV (wr := [(x, .inr (5, [.ref tp, .ref rs, .ref sl, .ref rd, .ref ol, .ref cp, .int pl]))]) C cl_Sh_54 (c_Tx_length tp tb 4096 g5 (t ++ js_i4 a ++ js_i4 b ++ js_i4 c ++ js_i4 d ++ js_i4 e)) [1, 2] [0] rfl rfl rfl rfl (by decide) rfl rfl 0 rfl ⟨Nat.le_of_ble_eq_true rfl, Nat.le_of_ble_eq_true rfl⟩ ⟨Nat.le_of_ble_eq_true rfl, Nat.le_of_ble_eq_true rfl⟩ rfl rfl (Nat.le_of_ble_eq_true rfl) (jd D_Sh_feed 33 rfl) (fun v7 _ k8 => ?_)
  obtain ⟨r8_, rfl, k8⟩ := k8
  refine jv_fix [0, 1, 2] [(x, .inr (5, [.ref tp, .ref rs, .ref sl, .ref rd, .ref ol, .ref cp, .int pl])), (tp, .inr (0, [.ref tb, .int (nI (t ++ js_i4 a ++ js_i4 b ++ js_i4 c ++ js_i4 d ++ js_i4 e).length)])), (tb, .inl (dA 0, 4096, .inl g5))] [.int r8_] 0 0 rfl rfl rfl (Nat.le_refl _) (Nat.le_refl _) ?_
  subst k8
  exact jv_iret C hr g5 (⟨rfl, k5⟩) rfl [0, 1, 2] rfl rfl (Nat.le_of_ble_eq_true rfl) (Nat.le_of_ble_eq_true rfl) (jd D_Sh_feed 34 rfl)

set_option maxHeartbeats 4000000 in
set_option maxRecDepth 100000 in
/-- feed, no room -/
theorem c_Sh_feed_no {l : Launch} {D : va_G} {dA : Nat → ClassId} {zz : (Nat → Nat) × (Nat → Nat)} (x tp rs sl rd ol cp : Nat) (pl : Int32) (tb : Nat) (f : Nat → Int32) (t : List Nat) (a b c d e : Int32) (h20 : 4096 < t.length + 20) (h4 : t.length ≤ 4096) (hlt : l.stackTraces = false) : jv_MX l D dA zz y_Sh_feed b_Sh_feed 6 (some (FieldType.int)) 6 [.ref x, .int a, .int b, .int c, .int d, .int e] [(x, .inr (5, [.ref tp, .ref rs, .ref sl, .ref rd, .ref ol, .ref cp, .int pl])), (tp, .inr (0, [.ref tb, .int (nI t.length)])), (tb, .inl (dA 0, 4096, .inl f))] "java/lang/IndexOutOfBoundsException" (fun (_ : Unit) => True) (fun _ => [(x, .inr (5, [.ref tp, .ref rs, .ref sl, .ref rd, .ref ol, .ref cp, .int pl])), (tp, .inr (0, [.ref tb, .int (nI t.length)])), (tb, .inl (dA 0, 4096, .inl f))]) 1 6 := by
  refine jv_MX.of [(0, .ref x), (1, .int a), (2, .int b), (3, .int c), (4, .int d), (5, .int e)] (by decide) (Nat.le_of_ble_eq_true rfl) rfl ?_
  intro pR eR sR mR belowR methR cR AR C hT0
  refine jv_aload_n C (jd D_Sh_feed 0 rfl) rfl 0 rfl ?_
  refine jv_get C fl_Sh_14 0 rfl rfl (jd D_Sh_feed 1 rfl) ?_
  refine jv_callV (wr := [(x, .inr (5, [.ref tp, .ref rs, .ref sl, .ref rd, .ref ol, .ref cp, .int pl]))]) C cl_Sh_54 (c_Tx_length tp tb 4096 f t) [1, 2] [0] rfl rfl rfl rfl (by decide) rfl rfl 0 rfl ⟨Nat.le_of_ble_eq_true rfl, Nat.le_of_ble_eq_true rfl⟩ ⟨Nat.le_of_ble_eq_true rfl, Nat.le_of_ble_eq_true rfl⟩ rfl rfl (Nat.le_of_ble_eq_true rfl) (jd D_Sh_feed 2 rfl) (fun v1 _ k7 => ?_)
  obtain ⟨r7_, rfl, k7⟩ := k7
  refine jv_fix [0, 1, 2] [(x, .inr (5, [.ref tp, .ref rs, .ref sl, .ref rd, .ref ol, .ref cp, .int pl])), (tp, .inr (0, [.ref tb, .int (nI t.length)])), (tb, .inl (dA 0, 4096, .inl f))] [.int r7_] 0 0 rfl rfl rfl (Nat.le_refl _) (Nat.le_refl _) ?_
  subst k7
  refine jv_bipush (v := 20) C (jd D_Sh_feed 3 rfl) (by decide) ?_
  refine jv_iadd C (jd D_Sh_feed 4 rfl) ?_
  refine jv_ati (y := nI (t.length + 20)) (nI_add _ 20) ?_
  refine jv_sipush (v := 4096) C (jd D_Sh_feed 5 rfl) (by decide) ?_
  refine jv_icmp_le (tgt := 24) C (jd D_Sh_feed 6 rfl) (by decide) (fun c13 => absurd c13 (fun y => absurd ((nI_leI (a := t.length + 20) (b := 4096) (by omega) (by decide)).mp y) (by omega))) (fun c13 => ?_)
  exact jv_throw0 C hT0 hlt tw_58 () (trivial) [0, 1, 2] rfl rfl (Nat.le_of_ble_eq_true rfl) (Nat.le_of_ble_eq_true rfl) (Nat.le_of_ble_eq_true rfl) (Nat.le_of_ble_eq_true rfl) (Nat.le_of_ble_eq_true rfl) (Nat.le_of_ble_eq_true rfl) (jd D_Sh_feed 7 rfl) (jd D_Sh_feed 8 rfl) (jd D_Sh_feed 9 rfl) (jd D_Sh_feed 10 rfl)

set_option maxHeartbeats 4000000 in
set_option maxRecDepth 100000 in
/-- end(k) -/
theorem c_Sh_end_ok {l : Launch} {D : va_G} {dA : Nat → ClassId} {zz : (Nat → Nat) × (Nat → Nat)} (x tp rs sl rd ol cp : Nat) (pl : Int32) (tb : Nat) (f : Nat → Int32) (t : List Nat) (k : Nat) (hk : k ≤ t.length) (h4 : t.length ≤ 4096) : jv_M l D dA zz y_Sh_end b_Sh_end 2 (some (FieldType.int)) 2 [.ref x, .int (nI k)] [(x, .inr (5, [.ref tp, .ref rs, .ref sl, .ref rd, .ref ol, .ref cp, .int pl])), (tp, .inr (0, [.ref tb, .int (nI t.length)])), (tb, .inl (dA 0, 4096, .inl f))] (jv_pi fun r (_ : Unit) => r = nI k) (fun _ => [(x, .inr (5, [.ref tp, .ref rs, .ref sl, .ref rd, .ref ol, .ref cp, .int pl])), (tp, .inr (0, [.ref tb, .int (nI (t.take k).length)])), (tb, .inl (dA 0, 4096, .inl f))]) 0 0 := by
  refine jv_M.of [(0, .ref x), (1, .int (nI k))] (by decide) (Nat.le_of_ble_eq_true rfl) rfl ?_
  intro pR eR sR mR belowR methR cR AR C hr hin
  refine jv_iload_n C (jd D_Sh_end 0 rfl) rfl 1 rfl ?_
  refine jv_if_lt (tgt := 15) C (jd D_Sh_end 1 rfl) (by decide) (fun c1 => absurd c1 (nI_pos (by omega))) (fun c1 => ?_)
  refine jv_iload_n C (jd D_Sh_end 2 rfl) rfl 1 rfl ?_
  refine jv_aload_n C (jd D_Sh_end 3 rfl) rfl 0 rfl ?_
  refine jv_get C fl_Sh_14 0 rfl rfl (jd D_Sh_end 4 rfl) ?_
  refine jv_callV (wr := [(x, .inr (5, [.ref tp, .ref rs, .ref sl, .ref rd, .ref ol, .ref cp, .int pl]))]) C cl_Sh_54 (c_Tx_length tp tb 4096 f t) [1, 2] [0] rfl rfl rfl rfl (by decide) rfl rfl 0 rfl ⟨Nat.le_of_ble_eq_true rfl, Nat.le_of_ble_eq_true rfl⟩ ⟨Nat.le_of_ble_eq_true rfl, Nat.le_of_ble_eq_true rfl⟩ rfl rfl (Nat.le_of_ble_eq_true rfl) (jd D_Sh_end 5 rfl) (fun v1 _ k1 => ?_)
  obtain ⟨r1_, rfl, k1⟩ := k1
  refine jv_fix [0, 1, 2] [(x, .inr (5, [.ref tp, .ref rs, .ref sl, .ref rd, .ref ol, .ref cp, .int pl])), (tp, .inr (0, [.ref tb, .int (nI t.length)])), (tb, .inl (dA 0, 4096, .inl f))] [.int r1_, .int (nI k)] 0 0 rfl rfl rfl (Nat.le_refl _) (Nat.le_refl _) ?_
  subst k1
  refine jv_icmp_le (tgt := 23) C (jd D_Sh_end 6 rfl) (by decide) (fun c12 => ?_) (fun c12 => absurd (nI_le hk (by omega)) c12)
  refine jv_aload_n C (jd D_Sh_end 11 rfl) rfl 0 rfl ?_
  refine jv_get C fl_Sh_14 0 rfl rfl (jd D_Sh_end 12 rfl) ?_
  refine jv_iload_n C (jd D_Sh_end 13 rfl) rfl 1 rfl ?_
  refine jv_callV (wr := [(x, .inr (5, [.ref tp, .ref rs, .ref sl, .ref rd, .ref ol, .ref cp, .int pl]))]) C cl_Sh_67 (c_Tx_keep tp tb 4096 f t k hk h4 (by decide)) [1, 2] [0] rfl rfl rfl rfl (by decide) rfl rfl 0 rfl ⟨Nat.le_of_ble_eq_true rfl, Nat.le_of_ble_eq_true rfl⟩ ⟨Nat.le_of_ble_eq_true rfl, Nat.le_of_ble_eq_true rfl⟩ rfl rfl (Nat.le_of_ble_eq_true rfl) (jd D_Sh_end 14 rfl) (fun v2 _ k2 => ?_)
  obtain ⟨rfl, k2⟩ := k2
  refine jv_fix [0, 1, 2] [(x, .inr (5, [.ref tp, .ref rs, .ref sl, .ref rd, .ref ol, .ref cp, .int pl])), (tp, .inr (0, [.ref tb, .int (nI (t.take k).length)])), (tb, .inl (dA 0, 4096, .inl f))] [] 0 0 rfl rfl rfl (Nat.le_refl _) (Nat.le_refl _) ?_
  refine jv_iload_n C (jd D_Sh_end 15 rfl) rfl 1 rfl ?_
  exact jv_iret C hr () (rfl) rfl [0, 1, 2] rfl rfl (Nat.le_of_ble_eq_true rfl) (Nat.le_of_ble_eq_true rfl) (jd D_Sh_end 16 rfl)

set_option maxHeartbeats 4000000 in
set_option maxRecDepth 100000 in
/-- end(i), out of range -/
theorem c_Sh_end_no {l : Launch} {D : va_G} {dA : Nat → ClassId} {zz : (Nat → Nat) × (Nat → Nat)} (x tp rs sl rd ol cp : Nat) (pl : Int32) (tb : Nat) (f : Nat → Int32) (t : List Nat) (i : Int32) (hb : i < 0 ∨ nI t.length < i) (hlt : l.stackTraces = false) : jv_MX l D dA zz y_Sh_end b_Sh_end 2 (some (FieldType.int)) 6 [.ref x, .int i] [(x, .inr (5, [.ref tp, .ref rs, .ref sl, .ref rd, .ref ol, .ref cp, .int pl])), (tp, .inr (0, [.ref tb, .int (nI t.length)])), (tb, .inl (dA 0, 4096, .inl f))] "java/lang/IllegalArgumentException" (fun (_ : Unit) => True) (fun _ => [(x, .inr (5, [.ref tp, .ref rs, .ref sl, .ref rd, .ref ol, .ref cp, .int pl])), (tp, .inr (0, [.ref tb, .int (nI t.length)])), (tb, .inl (dA 0, 4096, .inl f))]) 1 6 := by
  refine jv_MX.of [(0, .ref x), (1, .int i)] (by decide) (Nat.le_of_ble_eq_true rfl) rfl ?_
  intro pR eR sR mR belowR methR cR AR C hT0
  refine jv_iload_n C (jd D_Sh_end 0 rfl) rfl 1 rfl ?_
  refine jv_if_lt (tgt := 15) C (jd D_Sh_end 1 rfl) (by decide) (fun c1 => ?_) (fun c1 => ?_)
  · exact jv_throw0 C hT0 hlt tw_64 () (trivial) [0, 1, 2] rfl rfl (Nat.le_of_ble_eq_true rfl) (Nat.le_of_ble_eq_true rfl) (Nat.le_of_ble_eq_true rfl) (Nat.le_of_ble_eq_true rfl) (Nat.le_of_ble_eq_true rfl) (Nat.le_of_ble_eq_true rfl) (jd D_Sh_end 7 rfl) (jd D_Sh_end 8 rfl) (jd D_Sh_end 9 rfl) (jd D_Sh_end 10 rfl)
  · refine jv_iload_n C (jd D_Sh_end 2 rfl) rfl 1 rfl ?_
    refine jv_aload_n C (jd D_Sh_end 3 rfl) rfl 0 rfl ?_
    refine jv_get C fl_Sh_14 0 rfl rfl (jd D_Sh_end 4 rfl) ?_
    refine jv_callV (wr := [(x, .inr (5, [.ref tp, .ref rs, .ref sl, .ref rd, .ref ol, .ref cp, .int pl]))]) C cl_Sh_54 (c_Tx_length tp tb 4096 f t) [1, 2] [0] rfl rfl rfl rfl (by decide) rfl rfl 0 rfl ⟨Nat.le_of_ble_eq_true rfl, Nat.le_of_ble_eq_true rfl⟩ ⟨Nat.le_of_ble_eq_true rfl, Nat.le_of_ble_eq_true rfl⟩ rfl rfl (Nat.le_of_ble_eq_true rfl) (jd D_Sh_end 5 rfl) (fun v1 _ k1 => ?_)
    obtain ⟨r1_, rfl, k1⟩ := k1
    refine jv_fix [0, 1, 2] [(x, .inr (5, [.ref tp, .ref rs, .ref sl, .ref rd, .ref ol, .ref cp, .int pl])), (tp, .inr (0, [.ref tb, .int (nI t.length)])), (tb, .inl (dA 0, 4096, .inl f))] [.int r1_, .int i] 0 0 rfl rfl rfl (Nat.le_refl _) (Nat.le_refl _) ?_
    subst k1
    refine jv_icmp_le (tgt := 23) C (jd D_Sh_end 6 rfl) (by decide) (fun c12 => absurd c12 (fun y => hb.elim c1 (fun z => absurd y (Int32.not_le.mpr z)))) (fun c12 => ?_)
    exact jv_throw0 C hT0 hlt tw_64 () (trivial) [0, 1, 2] rfl rfl (Nat.le_of_ble_eq_true rfl) (Nat.le_of_ble_eq_true rfl) (Nat.le_of_ble_eq_true rfl) (Nat.le_of_ble_eq_true rfl) (Nat.le_of_ble_eq_true rfl) (Nat.le_of_ble_eq_true rfl) (jd D_Sh_end 7 rfl) (jd D_Sh_end 8 rfl) (jd D_Sh_end 9 rfl) (jd D_Sh_end 10 rfl)

set_option maxHeartbeats 4000000 in
set_option maxRecDepth 100000 in
/-- print(k) -/
theorem c_Sh_print_ok {l : Launch} {D : va_G} {dA : Nat → ClassId} {zz : (Nat → Nat) × (Nat → Nat)} (x tp rs sl rd ol cp : Nat) (pl : Int32) (rb h b k : Nat) (fs : Nat → Option Nat) (fr f : Nat → Int32) (tr t : List Nat) (hk : k < 8) (hh : fs k = some h) (h0 : 0 < t.length) (hl : t.length ≤ 4096) (ht : js_tx f t) (hlr : tr.length ≤ 4096) (htr : js_tx fr tr) : jv_M l D dA zz y_Sh_print b_Sh_print 3 (some (FieldType.int)) 3 [.ref x, .int (nI k)] [(x, .inr (5, [.ref tp, .ref rs, .ref sl, .ref rd, .ref ol, .ref cp, .int pl])), (sl, .inl (dA 5, 8, .inr (.inr (.inr (.inr fs))))), (rs, .inr (0, [.ref rb, .int (nI tr.length)])), (rb, .inl (dA 0, 4096, .inl fr)), (h, .inr (0, [.ref b, .int (nI t.length)])), (b, .inl (dA 0, 4096, .inl f))] (jv_pi fun r g => r = nI t.length ∧ js_tx g t) (fun g => [(x, .inr (5, [.ref tp, .ref rs, .ref sl, .ref rd, .ref ol, .ref cp, .int pl])), (sl, .inl (dA 5, 8, .inr (.inr (.inr (.inr fs))))), (rs, .inr (0, [.ref rb, .int (nI t.length)])), (rb, .inl (dA 0, 4096, .inl g)), (h, .inr (0, [.ref b, .int (nI t.length)])), (b, .inl (dA 0, 4096, .inl f))]) 0 0 := by
  refine jv_M.of [(0, .ref x), (1, .int (nI k))] (by decide) (Nat.le_of_ble_eq_true rfl) rfl ?_
  intro pR eR sR mR belowR methR cR AR C hr hin
  refine jv_aload_n C (jd D_Sh_print 0 rfl) rfl 0 rfl ?_
  refine jv_iload_n C (jd D_Sh_print 1 rfl) rfl 1 rfl ?_
  refine jv_callV (wr := [(rs, .inr (0, [.ref rb, .int (nI tr.length)])), (rb, .inl (dA 0, 4096, .inl fr)), (h, .inr (0, [.ref b, .int (nI t.length)])), (b, .inl (dA 0, 4096, .inl f))]) C cl_Sh_70 (c_Sh_slotAt_ok x tp rs sl rd ol cp pl h k fs hk hh) [0, 1] [2, 3, 4, 5] rfl rfl rfl rfl (by decide) rfl rfl 0 rfl ⟨Nat.le_of_ble_eq_true rfl, Nat.le_of_ble_eq_true rfl⟩ ⟨Nat.le_of_ble_eq_true rfl, Nat.le_of_ble_eq_true rfl⟩ rfl rfl (Nat.le_of_ble_eq_true rfl) (jd D_Sh_print 2 rfl) (fun v1 _ ka1 => ?_)
  obtain ⟨a1, rfl, ka1⟩ := ka1
  refine jv_fix [4, 5, 0, 1, 2, 3] [(x, .inr (5, [.ref tp, .ref rs, .ref sl, .ref rd, .ref ol, .ref cp, .int pl])), (sl, .inl (dA 5, 8, .inr (.inr (.inr (.inr fs))))), (rs, .inr (0, [.ref rb, .int (nI tr.length)])), (rb, .inl (dA 0, 4096, .inl fr)), (h, .inr (0, [.ref b, .int (nI t.length)])), (b, .inl (dA 0, 4096, .inl f))] [.ref a1] 0 0 rfl rfl rfl (Nat.le_refl _) (Nat.le_refl _) ?_
  have ka1 := ka1.symm
  subst ka1
  refine jv_callS (wr := [(x, .inr (5, [.ref tp, .ref rs, .ref sl, .ref rd, .ref ol, .ref cp, .int pl])), (sl, .inl (dA 5, 8, .inr (.inr (.inr (.inr fs))))), (rs, .inr (0, [.ref rb, .int (nI tr.length)])), (rb, .inl (dA 0, 4096, .inl fr))]) C cl_Sh_88 (c_Sh_held_ok h b 4096 f t h0 (by omega)) [4, 5] [0, 1, 2, 3] rfl rfl rfl rfl (by decide) ⟨Nat.le_of_ble_eq_true rfl, Nat.le_of_ble_eq_true rfl⟩ ⟨Nat.le_of_ble_eq_true rfl, Nat.le_of_ble_eq_true rfl⟩ rfl rfl (Nat.le_of_ble_eq_true rfl) (jd D_Sh_print 3 rfl) (fun v2 _ ka2 => ?_)
  obtain ⟨a2, rfl, ka2⟩ := ka2
  refine jv_fix [0, 1, 2, 3, 4, 5] [(x, .inr (5, [.ref tp, .ref rs, .ref sl, .ref rd, .ref ol, .ref cp, .int pl])), (sl, .inl (dA 5, 8, .inr (.inr (.inr (.inr fs))))), (rs, .inr (0, [.ref rb, .int (nI tr.length)])), (rb, .inl (dA 0, 4096, .inl fr)), (h, .inr (0, [.ref b, .int (nI t.length)])), (b, .inl (dA 0, 4096, .inl f))] [.ref a2] 0 0 rfl rfl rfl (Nat.le_refl _) (Nat.le_refl _) ?_
  have ka2 := ka2.symm
  subst ka2
  refine jv_astore_n C [(2, .ref h), (0, .ref x), (1, .int (nI k))] (jd D_Sh_print 4 rfl) rfl (by decide) rfl ?_
  refine jv_aload_n C (jd D_Sh_print 5 rfl) rfl 1 rfl ?_
  refine jv_get C fl_Sh_18 0 rfl rfl (jd D_Sh_print 6 rfl) ?_
  refine jv_aload_n C (jd D_Sh_print 7 rfl) rfl 0 rfl ?_
  refine jv_iconst (v := 0) C (jd D_Sh_print 8 rfl) (by decide) ?_
  refine jv_aload_n C (jd D_Sh_print 9 rfl) rfl 0 rfl ?_
  refine jv_callV (wr := [(x, .inr (5, [.ref tp, .ref rs, .ref sl, .ref rd, .ref ol, .ref cp, .int pl])), (sl, .inl (dA 5, 8, .inr (.inr (.inr (.inr fs))))), (rs, .inr (0, [.ref rb, .int (nI tr.length)])), (rb, .inl (dA 0, 4096, .inl fr))]) C cl_Sh_54 (c_Tx_length h b 4096 f t) [4, 5] [0, 1, 2, 3] rfl rfl rfl rfl (by decide) rfl rfl 0 rfl ⟨Nat.le_of_ble_eq_true rfl, Nat.le_of_ble_eq_true rfl⟩ ⟨Nat.le_of_ble_eq_true rfl, Nat.le_of_ble_eq_true rfl⟩ rfl rfl (Nat.le_of_ble_eq_true rfl) (jd D_Sh_print 10 rfl) (fun v3 _ k3 => ?_)
  obtain ⟨r3_, rfl, k3⟩ := k3
  refine jv_fix [0, 1, 2, 3, 4, 5] [(x, .inr (5, [.ref tp, .ref rs, .ref sl, .ref rd, .ref ol, .ref cp, .int pl])), (sl, .inl (dA 5, 8, .inr (.inr (.inr (.inr fs))))), (rs, .inr (0, [.ref rb, .int (nI tr.length)])), (rb, .inl (dA 0, 4096, .inl fr)), (h, .inr (0, [.ref b, .int (nI t.length)])), (b, .inl (dA 0, 4096, .inl f))] [.int r3_, .int 0, .ref h, .ref rs] 0 0 rfl rfl rfl (Nat.le_refl _) (Nat.le_refl _) ?_
  subst k3
  refine jv_callV (wr := [(x, .inr (5, [.ref tp, .ref rs, .ref sl, .ref rd, .ref ol, .ref cp, .int pl])), (sl, .inl (dA 5, 8, .inr (.inr (.inr (.inr fs)))))]) C cl_Sh_84 (c_Tx_become rs rb 4096 fr tr h b 4096 f t 0 t.length hlr (by decide) htr hl (by decide) ht (by omega) (by omega) (by omega)) [2, 3, 4, 5] [0, 1] rfl rfl rfl rfl (by decide) rfl rfl 0 rfl ⟨Nat.le_of_ble_eq_true rfl, Nat.le_of_ble_eq_true rfl⟩ ⟨Nat.le_of_ble_eq_true rfl, Nat.le_of_ble_eq_true rfl⟩ rfl rfl (Nat.le_of_ble_eq_true rfl) (jd D_Sh_print 11 rfl) (fun v4 g k4 => ?_)
  obtain ⟨rfl, k4⟩ := k4
  refine jv_fix [0, 1, 2, 3, 4, 5] [(x, .inr (5, [.ref tp, .ref rs, .ref sl, .ref rd, .ref ol, .ref cp, .int pl])), (sl, .inl (dA 5, 8, .inr (.inr (.inr (.inr fs))))), (rs, .inr (0, [.ref rb, .int (nI ((t.drop 0).take (t.length - 0)).length)])), (rb, .inl (dA 0, 4096, .inl g)), (h, .inr (0, [.ref b, .int (nI t.length)])), (b, .inl (dA 0, 4096, .inl f))] [] 0 0 rfl rfl rfl (Nat.le_refl _) (Nat.le_refl _) ?_
  have e4 : (t.drop 0).take (t.length - 0) = t := by rw [List.drop_zero, Nat.sub_zero, List.take_length]
  rw [e4] at k4
  refine jv_weq (ws' := [(x, .inr (5, [.ref tp, .ref rs, .ref sl, .ref rd, .ref ol, .ref cp, .int pl])), (sl, .inl (dA 5, 8, .inr (.inr (.inr (.inr fs))))), (rs, .inr (0, [.ref rb, .int (nI t.length)])), (rb, .inl (dA 0, 4096, .inl g)), (h, .inr (0, [.ref b, .int (nI t.length)])), (b, .inl (dA 0, 4096, .inl f))]) (by rw [e4]) ?_
  refine jv_aload_n C (jd D_Sh_print 12 rfl) rfl 1 rfl ?_
  refine jv_get C fl_Sh_18 0 rfl rfl (jd D_Sh_print 13 rfl) ?_
  refine jv_callV (wr := [(x, .inr (5, [.ref tp, .ref rs, .ref sl, .ref rd, .ref ol, .ref cp, .int pl])), (sl, .inl (dA 5, 8, .inr (.inr (.inr (.inr fs))))), (h, .inr (0, [.ref b, .int (nI t.length)])), (b, .inl (dA 0, 4096, .inl f))]) C cl_Sh_54 (c_Tx_length rs rb 4096 g t) [2, 3] [0, 1, 4, 5] rfl rfl rfl rfl (by decide) rfl rfl 0 rfl ⟨Nat.le_of_ble_eq_true rfl, Nat.le_of_ble_eq_true rfl⟩ ⟨Nat.le_of_ble_eq_true rfl, Nat.le_of_ble_eq_true rfl⟩ rfl rfl (Nat.le_of_ble_eq_true rfl) (jd D_Sh_print 14 rfl) (fun v5 _ k5 => ?_)
  obtain ⟨r5_, rfl, k5⟩ := k5
  refine jv_fix [0, 1, 4, 5, 2, 3] [(x, .inr (5, [.ref tp, .ref rs, .ref sl, .ref rd, .ref ol, .ref cp, .int pl])), (sl, .inl (dA 5, 8, .inr (.inr (.inr (.inr fs))))), (rs, .inr (0, [.ref rb, .int (nI t.length)])), (rb, .inl (dA 0, 4096, .inl g)), (h, .inr (0, [.ref b, .int (nI t.length)])), (b, .inl (dA 0, 4096, .inl f))] [.int r5_] 0 0 rfl rfl rfl (Nat.le_refl _) (Nat.le_refl _) ?_
  subst k5
  exact jv_iret C hr g (⟨rfl, k4⟩) rfl [0, 1, 2, 3, 4, 5] rfl rfl (Nat.le_of_ble_eq_true rfl) (Nat.le_of_ble_eq_true rfl) (jd D_Sh_print 15 rfl)

set_option maxHeartbeats 4000000 in
set_option maxRecDepth 100000 in
/-- print, no slot -/
theorem c_Sh_print_no1 {l : Launch} {D : va_G} {dA : Nat → ClassId} {zz : (Nat → Nat) × (Nat → Nat)} (x tp rs sl rd ol cp : Nat) (pl : Int32) (fs : Nat → Option Nat) (i : Int32) (hb : i < 0 ∨ 8 ≤ i) (hlt : l.stackTraces = false) : jv_MX l D dA zz y_Sh_print b_Sh_print 3 (some (FieldType.int)) 7 [.ref x, .int i] [(x, .inr (5, [.ref tp, .ref rs, .ref sl, .ref rd, .ref ol, .ref cp, .int pl])), (sl, .inl (dA 5, 8, .inr (.inr (.inr (.inr fs)))))] "java/lang/IllegalArgumentException" (fun (_ : Unit) => True) (fun _ => [(x, .inr (5, [.ref tp, .ref rs, .ref sl, .ref rd, .ref ol, .ref cp, .int pl])), (sl, .inl (dA 5, 8, .inr (.inr (.inr (.inr fs)))))]) 1 6 := by
  refine jv_MX.of [(0, .ref x), (1, .int i)] (by decide) (Nat.le_of_ble_eq_true rfl) rfl ?_
  intro pR eR sR mR belowR methR cR AR C hT0
  refine jv_aload_n C (jd D_Sh_print 0 rfl) rfl 0 rfl ?_
  refine jv_iload_n C (jd D_Sh_print 1 rfl) rfl 1 rfl ?_
  exact jv_outV (wr := []) C hT0 cl_Sh_70 (c_Sh_slotAt_no x tp rs sl rd ol cp pl i fs hb hlt) [0, 1] [] rfl rfl rfl rfl (by decide) rfl rfl 0 rfl (fun _ => jv_noNestM (by decide)) ⟨Nat.le_of_ble_eq_true rfl, Nat.le_of_ble_eq_true rfl⟩ ⟨Nat.le_of_ble_eq_true rfl, Nat.le_of_ble_eq_true rfl⟩ rfl rfl (Nat.le_of_ble_eq_true rfl) (jd D_Sh_print 2 rfl) [0, 1] rfl (fun _ _ => ⟨(), trivial, rfl⟩) (Nat.le_of_ble_eq_true rfl) (Nat.le_of_ble_eq_true rfl)

set_option maxHeartbeats 4000000 in
set_option maxRecDepth 100000 in
/-- print, nothing held -/
theorem c_Sh_print_no2 {l : Launch} {D : va_G} {dA : Nat → ClassId} {zz : (Nat → Nat) × (Nat → Nat)} (x tp rs sl rd ol cp : Nat) (pl : Int32) (h b k : Nat) (fs : Nat → Option Nat) (f : Nat → Int32) (hk : k < 8) (hh : fs k = some h) (hlt : l.stackTraces = false) : jv_MX l D dA zz y_Sh_print b_Sh_print 3 (some (FieldType.int)) 7 [.ref x, .int (nI k)] [(x, .inr (5, [.ref tp, .ref rs, .ref sl, .ref rd, .ref ol, .ref cp, .int pl])), (sl, .inl (dA 5, 8, .inr (.inr (.inr (.inr fs))))), (h, .inr (0, [.ref b, .int (nI ([] : List Nat).length)])), (b, .inl (dA 0, 4096, .inl f))] "java/lang/IllegalStateException" (fun (_ : Unit) => True) (fun _ => [(x, .inr (5, [.ref tp, .ref rs, .ref sl, .ref rd, .ref ol, .ref cp, .int pl])), (sl, .inl (dA 5, 8, .inr (.inr (.inr (.inr fs))))), (h, .inr (0, [.ref b, .int (nI ([] : List Nat).length)])), (b, .inl (dA 0, 4096, .inl f))]) 1 6 := by
  refine jv_MX.of [(0, .ref x), (1, .int (nI k))] (by decide) (Nat.le_of_ble_eq_true rfl) rfl ?_
  intro pR eR sR mR belowR methR cR AR C hT0
  refine jv_aload_n C (jd D_Sh_print 0 rfl) rfl 0 rfl ?_
  refine jv_iload_n C (jd D_Sh_print 1 rfl) rfl 1 rfl ?_
  refine jv_callV (wr := [(h, .inr (0, [.ref b, .int (nI ([] : List Nat).length)])), (b, .inl (dA 0, 4096, .inl f))]) C cl_Sh_70 (c_Sh_slotAt_ok x tp rs sl rd ol cp pl h k fs hk hh) [0, 1] [2, 3] rfl rfl rfl rfl (by decide) rfl rfl 0 rfl ⟨Nat.le_of_ble_eq_true rfl, Nat.le_of_ble_eq_true rfl⟩ ⟨Nat.le_of_ble_eq_true rfl, Nat.le_of_ble_eq_true rfl⟩ rfl rfl (Nat.le_of_ble_eq_true rfl) (jd D_Sh_print 2 rfl) (fun v1 _ ka1 => ?_)
  obtain ⟨a1, rfl, ka1⟩ := ka1
  refine jv_fix [2, 3, 0, 1] [(x, .inr (5, [.ref tp, .ref rs, .ref sl, .ref rd, .ref ol, .ref cp, .int pl])), (sl, .inl (dA 5, 8, .inr (.inr (.inr (.inr fs))))), (h, .inr (0, [.ref b, .int (nI ([] : List Nat).length)])), (b, .inl (dA 0, 4096, .inl f))] [.ref a1] 0 0 rfl rfl rfl (Nat.le_refl _) (Nat.le_refl _) ?_
  have ka1 := ka1.symm
  subst ka1
  exact jv_outS (wr := [(x, .inr (5, [.ref tp, .ref rs, .ref sl, .ref rd, .ref ol, .ref cp, .int pl])), (sl, .inl (dA 5, 8, .inr (.inr (.inr (.inr fs)))))]) C hT0 cl_Sh_88 (c_Sh_held_no h b 4096 f hlt) [2, 3] [0, 1] rfl rfl rfl rfl (by decide) (fun _ => jv_noNestM (by decide)) ⟨Nat.le_of_ble_eq_true rfl, Nat.le_of_ble_eq_true rfl⟩ ⟨Nat.le_of_ble_eq_true rfl, Nat.le_of_ble_eq_true rfl⟩ rfl rfl (Nat.le_of_ble_eq_true rfl) (jd D_Sh_print 3 rfl) [0, 1, 2, 3] rfl (fun _ _ => ⟨(), trivial, rfl⟩) (Nat.le_of_ble_eq_true rfl) (Nat.le_of_ble_eq_true rfl)

set_option maxHeartbeats 4000000 in
set_option maxRecDepth 100000 in
/-- word(k) -/
theorem c_Sh_word_ok {l : Launch} {D : va_G} {dA : Nat → ClassId} {zz : (Nat → Nat) × (Nat → Nat)} (x tp rs sl rd ol cp : Nat) (pl : Int32) (rb : Nat) (f : Nat → Int32) (t : List Nat) (k : Nat) (hk : k < t.length) (hl : t.length ≤ 4096) (ht : js_tx f t) : jv_M l D dA zz y_Sh_word b_Sh_word 6 (some (FieldType.long)) 2 [.ref x, .int (nI k)] [(x, .inr (5, [.ref tp, .ref rs, .ref sl, .ref rd, .ref ol, .ref cp, .int pl])), (rs, .inr (0, [.ref rb, .int (nI t.length)])), (rb, .inl (dA 0, 4096, .inl f))] (jv_pl fun r (_ : Unit) => r = js_w8 t k 8) (fun _ => [(x, .inr (5, [.ref tp, .ref rs, .ref sl, .ref rd, .ref ol, .ref cp, .int pl])), (rs, .inr (0, [.ref rb, .int (nI t.length)])), (rb, .inl (dA 0, 4096, .inl f))]) 0 0 := by
  refine jv_M.of [(0, .ref x), (1, .int (nI k))] (by decide) (Nat.le_of_ble_eq_true rfl) rfl ?_
  intro pR eR sR mR belowR methR cR AR C hr hin
  obtain ⟨QR, hQ⟩ : ∃ QR, QR = jv_E D (jv_pl fun r (_ : Unit) => r = js_w8 t k 8) (fun _ => [(x, .inr (5, [.ref tp, .ref rs, .ref sl, .ref rd, .ref ol, .ref cp, .int pl])), (rs, .inr (0, [.ref rb, .int (nI t.length)])), (rb, .inl (dA 0, 4096, .inl f))]) belowR ([.ref x, .int (nI k)] : List Value).toArray sR AR 0 0 := ⟨_, rfl⟩
  rw [← hQ]
  refine jv_iload_n C (jd D_Sh_word 0 rfl) rfl 1 rfl ?_
  refine jv_if_lt (tgt := 15) C (jd D_Sh_word 1 rfl) (by decide) (fun c1 => absurd c1 (nI_pos (by omega))) (fun c1 => ?_)
  refine jv_iload_n C (jd D_Sh_word 2 rfl) rfl 1 rfl ?_
  refine jv_aload_n C (jd D_Sh_word 3 rfl) rfl 0 rfl ?_
  refine jv_get C fl_Sh_18 0 rfl rfl (jd D_Sh_word 4 rfl) ?_
  refine jv_callV (wr := [(x, .inr (5, [.ref tp, .ref rs, .ref sl, .ref rd, .ref ol, .ref cp, .int pl]))]) C cl_Sh_54 (c_Tx_length rs rb 4096 f t) [1, 2] [0] rfl rfl rfl rfl (by decide) rfl rfl 0 rfl ⟨Nat.le_of_ble_eq_true rfl, Nat.le_of_ble_eq_true rfl⟩ ⟨Nat.le_of_ble_eq_true rfl, Nat.le_of_ble_eq_true rfl⟩ rfl rfl (Nat.le_of_ble_eq_true rfl) (jd D_Sh_word 5 rfl) (fun v1 _ k1 => ?_)
  obtain ⟨r1_, rfl, k1⟩ := k1
  refine jv_fix [0, 1, 2] [(x, .inr (5, [.ref tp, .ref rs, .ref sl, .ref rd, .ref ol, .ref cp, .int pl])), (rs, .inr (0, [.ref rb, .int (nI t.length)])), (rb, .inl (dA 0, 4096, .inl f))] [.int r1_, .int (nI k)] 0 0 rfl rfl rfl (Nat.le_refl _) (Nat.le_refl _) ?_
  subst k1
  refine jv_icmp_lt (tgt := 23) C (jd D_Sh_word 6 rfl) (by decide) (fun c12 => ?_) (fun c12 => absurd (nI_lt hk (by omega)) c12)
  refine jv_lconst (v := 0) C (jd D_Sh_word 11 rfl) (by decide) ?_
  refine jv_lstore_n C [(2, .long 0), (0, .ref x), (1, .int (nI k))] (jd D_Sh_word 12 rfl) rfl (by decide) rfl ?_
  refine jv_iconst (v := 0) C (jd D_Sh_word 13 rfl) (by decide) ?_
  refine jv_istore C [(4, .int 0), (2, .long 0), (0, .ref x), (1, .int (nI k))] (jd D_Sh_word 14 rfl) (by decide) rfl ?_
  have hL28 : ∀ (n : Nat) (j : Nat), j ≤ 8 → 9 ≤ j + n → jv_V pR l eR (jv_rm 2 0 0) sR mR ([.ref x, .int (nI k)] : List Value).toArray belowR methR cR 0 0 QR D AR 6 [(x, .inr (5, [.ref tp, .ref rs, .ref sl, .ref rd, .ref ol, .ref cp, .int pl])), (rs, .inr (0, [.ref rb, .int (nI t.length)])), (rb, .inl (dA 0, 4096, .inl f))] [(0, .ref x), (1, .int (nI k)), (2, .long (js_w8 t k j)), (4, .int (nI j))] 28 [] := by
    intro n
    induction n with
    | zero =>
      intro j h1 h2
      exact absurd h2 (by omega)
    | succ n ih =>
      intro j hj hm
      refine jv_iload C (jd D_Sh_word 15 rfl) 3 rfl ?_
      refine jv_bipush (v := 8) C (jd D_Sh_word 16 rfl) (by decide) ?_
      refine jv_icmp_ge (tgt := 73) C (jd D_Sh_word 17 rfl) (by decide) (fun c32 => ?_) (fun c32 => ?_)
      · refine jv_lload_n C (jd D_Sh_word 39 rfl) rfl 2 rfl ?_
        rw [hQ]
        exact jv_lret C hr () (by rw [show j = 8 from (by have := (nI_leI (a := 8) (b := j) (by omega) (by omega)).mp c32; omega)]) [0, 1, 2] rfl rfl (Nat.le_of_ble_eq_true rfl) (Nat.le_of_ble_eq_true rfl) (jd D_Sh_word 40 rfl)
      · have hlt : j < 8 := by
          rcases Nat.lt_or_ge j 8 with y | y
          · exact y
          · exact absurd (nI_le (a := 8) (b := j) y (by omega)) c32
        refine jv_aload_n C (jd D_Sh_word 18 rfl) rfl 0 rfl ?_
        refine jv_get C fl_Sh_18 0 rfl rfl (jd D_Sh_word 19 rfl) ?_
        refine jv_iload_n C (jd D_Sh_word 20 rfl) rfl 1 rfl ?_
        refine jv_iload C (jd D_Sh_word 21 rfl) 3 rfl ?_
        refine jv_iadd C (jd D_Sh_word 22 rfl) ?_
        refine jv_ati (y := nI (k + j)) (nI_add k j) ?_
        refine jv_callV (wr := [(x, .inr (5, [.ref tp, .ref rs, .ref sl, .ref rd, .ref ol, .ref cp, .int pl]))]) C cl_Sh_126 (c_Tx_at rs rb 4096 f t (nI (k + j)) hl (by omega) ht) [1, 2] [0] rfl rfl rfl rfl (by decide) rfl rfl 0 rfl ⟨Nat.le_of_ble_eq_true rfl, Nat.le_of_ble_eq_true rfl⟩ ⟨Nat.le_of_ble_eq_true rfl, Nat.le_of_ble_eq_true rfl⟩ rfl rfl (Nat.le_of_ble_eq_true rfl) (jd D_Sh_word 23 rfl) (fun v2 _ k2 => ?_)
        obtain ⟨r2_, rfl, k2⟩ := k2
        refine jv_fix [0, 1, 2] [(x, .inr (5, [.ref tp, .ref rs, .ref sl, .ref rd, .ref ol, .ref cp, .int pl])), (rs, .inr (0, [.ref rb, .int (nI t.length)])), (rb, .inl (dA 0, 4096, .inl f))] [.int r2_] 0 0 rfl rfl rfl (Nat.le_refl _) (Nat.le_refl _) ?_
        rw [js_at_nat (by omega) (by omega)] at k2
        subst k2
        refine jv_istore C [(5, .int (js_b t (k + j))), (0, .ref x), (1, .int (nI k)), (2, .long (js_w8 t k j)), (4, .int (nI j))] (jd D_Sh_word 24 rfl) (by decide) rfl ?_
        refine jv_lload_n C (jd D_Sh_word 25 rfl) rfl 3 rfl ?_
        refine jv_bipush (v := 8) C (jd D_Sh_word 26 rfl) (by decide) ?_
        refine jv_lshl C (jd D_Sh_word 27 rfl) ?_
        refine jv_iload C (jd D_Sh_word 28 rfl) 0 rfl ?_
        refine jv_iconst (v := -1) C (jd D_Sh_word 29 rfl) (by decide) ?_
        refine jv_icmp_ne (tgt := 62) C (jd D_Sh_word 30 rfl) (by decide) (fun c55 => ?_) (fun c55 => ?_)
        · refine jv_iload C (jd D_Sh_word 33 rfl) 0 rfl ?_
          refine jv_i2l C (jd D_Sh_word 34 rfl) ?_
          refine jv_lor C (jd D_Sh_word 35 rfl) ?_
          refine jv_atl (y := js_w8 t k (j + 1)) (by rw [js_w8, if_neg c55]) ?_
          refine jv_lstore_n C [(2, .long (js_w8 t k (j + 1))), (5, .int (js_b t (k + j))), (0, .ref x), (1, .int (nI k)), (4, .int (nI j))] (jd D_Sh_word 36 rfl) rfl (by decide) rfl ?_
          refine jv_iinc (v := nI (j + 1)) C [(4, .int (nI (j + 1))), (2, .long (js_w8 t k (j + 1))), (5, .int (js_b t (k + j))), (0, .ref x), (1, .int (nI k))] (jd D_Sh_word 37 rfl) 4 rfl (nI_1 j) (by decide) rfl ?_
          refine jv_goto (tgt := 28) C (jd D_Sh_word 38 rfl) (by decide) ?_
          refine jv_lvsub [3, 4, 1, 0] rfl ?_
          exact ih (j + 1) (by omega) (by omega)
        · refine jv_iconst (v := 0) C (jd D_Sh_word 31 rfl) (by decide) ?_
          refine jv_goto (tgt := 64) C (jd D_Sh_word 32 rfl) (by decide) ?_
          refine jv_i2l C (jd D_Sh_word 34 rfl) ?_
          refine jv_lor C (jd D_Sh_word 35 rfl) ?_
          refine jv_atl (y := js_w8 t k (j + 1)) (by rw [js_w8, if_pos c55]) ?_
          refine jv_lstore_n C [(2, .long (js_w8 t k (j + 1))), (5, .int (js_b t (k + j))), (0, .ref x), (1, .int (nI k)), (4, .int (nI j))] (jd D_Sh_word 36 rfl) rfl (by decide) rfl ?_
          refine jv_iinc (v := nI (j + 1)) C [(4, .int (nI (j + 1))), (2, .long (js_w8 t k (j + 1))), (5, .int (js_b t (k + j))), (0, .ref x), (1, .int (nI k))] (jd D_Sh_word 37 rfl) 4 rfl (nI_1 j) (by decide) rfl ?_
          refine jv_goto (tgt := 28) C (jd D_Sh_word 38 rfl) (by decide) ?_
          refine jv_lvsub [3, 4, 1, 0] rfl ?_
          exact ih (j + 1) (by omega) (by omega)
  refine jv_lvsub [2, 3, 1, 0] rfl ?_
  exact hL28 9 0 (by omega) (by omega)

set_option maxHeartbeats 4000000 in
set_option maxRecDepth 100000 in
/-- word(i), out of range -/
theorem c_Sh_word_no {l : Launch} {D : va_G} {dA : Nat → ClassId} {zz : (Nat → Nat) × (Nat → Nat)} (x tp rs sl rd ol cp : Nat) (pl : Int32) (rb : Nat) (f : Nat → Int32) (t : List Nat) (i : Int32) (hb : i < 0 ∨ nI t.length ≤ i) (hlt : l.stackTraces = false) : jv_MX l D dA zz y_Sh_word b_Sh_word 6 (some (FieldType.long)) 6 [.ref x, .int i] [(x, .inr (5, [.ref tp, .ref rs, .ref sl, .ref rd, .ref ol, .ref cp, .int pl])), (rs, .inr (0, [.ref rb, .int (nI t.length)])), (rb, .inl (dA 0, 4096, .inl f))] "java/lang/IndexOutOfBoundsException" (fun (_ : Unit) => True) (fun _ => [(x, .inr (5, [.ref tp, .ref rs, .ref sl, .ref rd, .ref ol, .ref cp, .int pl])), (rs, .inr (0, [.ref rb, .int (nI t.length)])), (rb, .inl (dA 0, 4096, .inl f))]) 1 6 := by
  refine jv_MX.of [(0, .ref x), (1, .int i)] (by decide) (Nat.le_of_ble_eq_true rfl) rfl ?_
  intro pR eR sR mR belowR methR cR AR C hT0
  refine jv_iload_n C (jd D_Sh_word 0 rfl) rfl 1 rfl ?_
  refine jv_if_lt (tgt := 15) C (jd D_Sh_word 1 rfl) (by decide) (fun c1 => ?_) (fun c1 => ?_)
  · exact jv_throw0 C hT0 hlt tw_58 () (trivial) [0, 1, 2] rfl rfl (Nat.le_of_ble_eq_true rfl) (Nat.le_of_ble_eq_true rfl) (Nat.le_of_ble_eq_true rfl) (Nat.le_of_ble_eq_true rfl) (Nat.le_of_ble_eq_true rfl) (Nat.le_of_ble_eq_true rfl) (jd D_Sh_word 7 rfl) (jd D_Sh_word 8 rfl) (jd D_Sh_word 9 rfl) (jd D_Sh_word 10 rfl)
  · refine jv_iload_n C (jd D_Sh_word 2 rfl) rfl 1 rfl ?_
    refine jv_aload_n C (jd D_Sh_word 3 rfl) rfl 0 rfl ?_
    refine jv_get C fl_Sh_18 0 rfl rfl (jd D_Sh_word 4 rfl) ?_
    refine jv_callV (wr := [(x, .inr (5, [.ref tp, .ref rs, .ref sl, .ref rd, .ref ol, .ref cp, .int pl]))]) C cl_Sh_54 (c_Tx_length rs rb 4096 f t) [1, 2] [0] rfl rfl rfl rfl (by decide) rfl rfl 0 rfl ⟨Nat.le_of_ble_eq_true rfl, Nat.le_of_ble_eq_true rfl⟩ ⟨Nat.le_of_ble_eq_true rfl, Nat.le_of_ble_eq_true rfl⟩ rfl rfl (Nat.le_of_ble_eq_true rfl) (jd D_Sh_word 5 rfl) (fun v1 _ k1 => ?_)
    obtain ⟨r1_, rfl, k1⟩ := k1
    refine jv_fix [0, 1, 2] [(x, .inr (5, [.ref tp, .ref rs, .ref sl, .ref rd, .ref ol, .ref cp, .int pl])), (rs, .inr (0, [.ref rb, .int (nI t.length)])), (rb, .inl (dA 0, 4096, .inl f))] [.int r1_, .int i] 0 0 rfl rfl rfl (Nat.le_refl _) (Nat.le_refl _) ?_
    subst k1
    refine jv_icmp_lt (tgt := 23) C (jd D_Sh_word 6 rfl) (by decide) (fun c12 => absurd c12 (fun y => hb.elim c1 (fun z => absurd y (Int32.not_lt.mpr z)))) (fun c12 => ?_)
    exact jv_throw0 C hT0 hlt tw_58 () (trivial) [0, 1, 2] rfl rfl (Nat.le_of_ble_eq_true rfl) (Nat.le_of_ble_eq_true rfl) (Nat.le_of_ble_eq_true rfl) (Nat.le_of_ble_eq_true rfl) (Nat.le_of_ble_eq_true rfl) (Nat.le_of_ble_eq_true rfl) (jd D_Sh_word 7 rfl) (jd D_Sh_word 8 rfl) (jd D_Sh_word 9 rfl) (jd D_Sh_word 10 rfl)

set_option maxHeartbeats 4000000 in
set_option maxRecDepth 100000 in
/-- count(i) -/
theorem c_Sh_count_ok {l : Launch} {D : va_G} {dA : Nat → ClassId} {zz : (Nat → Nat) × (Nat → Nat)} (x tp rs sl rd ol cp : Nat) (pl : Int32) (tb rb : Nat) (f fr : Nat → Int32) (t tr : List Nat) (i : Int32) (hb : ¬ i = 0 → ¬ i = 1 → ¬ i = 2 → False) : jv_M l D dA zz y_Sh_count b_Sh_count 2 (some (FieldType.int)) 2 [.ref x, .int i] [(x, .inr (5, [.ref tp, .ref rs, .ref sl, .ref rd, .ref ol, .ref cp, .int pl])), (tp, .inr (0, [.ref tb, .int (nI t.length)])), (tb, .inl (dA 0, 4096, .inl f)), (rs, .inr (0, [.ref rb, .int (nI tr.length)])), (rb, .inl (dA 0, 4096, .inl fr))] (jv_pi fun r (_ : Unit) => r = (if i = 0 then nI t.length else if i = 1 then nI tr.length else pl)) (fun _ => [(x, .inr (5, [.ref tp, .ref rs, .ref sl, .ref rd, .ref ol, .ref cp, .int pl])), (tp, .inr (0, [.ref tb, .int (nI t.length)])), (tb, .inl (dA 0, 4096, .inl f)), (rs, .inr (0, [.ref rb, .int (nI tr.length)])), (rb, .inl (dA 0, 4096, .inl fr))]) 0 0 := by
  refine jv_M.of [(0, .ref x), (1, .int i)] (by decide) (Nat.le_of_ble_eq_true rfl) rfl ?_
  intro pR eR sR mR belowR methR cR AR C hr hin
  refine jv_iload_n C (jd D_Sh_count 0 rfl) rfl 1 rfl ?_
  by_cases s1_0 : i = 0
  · refine jv_tableIn (tgt := 28) (off := 27) C (jd D_Sh_count 1 rfl) (by rw [s1_0]; decide) (by rw [s1_0]; decide) (by rw [s1_0] <;> rfl) (by decide) ?_
    refine jv_aload_n C (jd D_Sh_count 2 rfl) rfl 0 rfl ?_
    refine jv_get C fl_Sh_14 0 rfl rfl (jd D_Sh_count 3 rfl) ?_
    refine jv_callV (wr := [(x, .inr (5, [.ref tp, .ref rs, .ref sl, .ref rd, .ref ol, .ref cp, .int pl])), (rs, .inr (0, [.ref rb, .int (nI tr.length)])), (rb, .inl (dA 0, 4096, .inl fr))]) C cl_Sh_54 (c_Tx_length tp tb 4096 f t) [1, 2] [0, 3, 4] rfl rfl rfl rfl (by decide) rfl rfl 0 rfl ⟨Nat.le_of_ble_eq_true rfl, Nat.le_of_ble_eq_true rfl⟩ ⟨Nat.le_of_ble_eq_true rfl, Nat.le_of_ble_eq_true rfl⟩ rfl rfl (Nat.le_of_ble_eq_true rfl) (jd D_Sh_count 4 rfl) (fun v1 _ k1 => ?_)
    obtain ⟨r1_, rfl, k1⟩ := k1
    refine jv_fix [0, 3, 4, 1, 2] [(x, .inr (5, [.ref tp, .ref rs, .ref sl, .ref rd, .ref ol, .ref cp, .int pl])), (tp, .inr (0, [.ref tb, .int (nI t.length)])), (tb, .inl (dA 0, 4096, .inl f)), (rs, .inr (0, [.ref rb, .int (nI tr.length)])), (rb, .inl (dA 0, 4096, .inl fr))] [.int r1_] 0 0 rfl rfl rfl (Nat.le_refl _) (Nat.le_refl _) ?_
    subst k1
    exact jv_iret C hr () (by rw [if_pos s1_0]) rfl [0, 1, 2, 3, 4] rfl rfl (Nat.le_of_ble_eq_true rfl) (Nat.le_of_ble_eq_true rfl) (jd D_Sh_count 5 rfl)
  by_cases s1_1 : i = 1
  · refine jv_tableIn (tgt := 36) (off := 35) C (jd D_Sh_count 1 rfl) (by rw [s1_1]; decide) (by rw [s1_1]; decide) (by rw [s1_1] <;> rfl) (by decide) ?_
    refine jv_aload_n C (jd D_Sh_count 6 rfl) rfl 0 rfl ?_
    refine jv_get C fl_Sh_18 0 rfl rfl (jd D_Sh_count 7 rfl) ?_
    refine jv_callV (wr := [(x, .inr (5, [.ref tp, .ref rs, .ref sl, .ref rd, .ref ol, .ref cp, .int pl])), (tp, .inr (0, [.ref tb, .int (nI t.length)])), (tb, .inl (dA 0, 4096, .inl f))]) C cl_Sh_54 (c_Tx_length rs rb 4096 fr tr) [3, 4] [0, 1, 2] rfl rfl rfl rfl (by decide) rfl rfl 0 rfl ⟨Nat.le_of_ble_eq_true rfl, Nat.le_of_ble_eq_true rfl⟩ ⟨Nat.le_of_ble_eq_true rfl, Nat.le_of_ble_eq_true rfl⟩ rfl rfl (Nat.le_of_ble_eq_true rfl) (jd D_Sh_count 8 rfl) (fun v2 _ k2 => ?_)
    obtain ⟨r2_, rfl, k2⟩ := k2
    refine jv_fix [0, 1, 2, 3, 4] [(x, .inr (5, [.ref tp, .ref rs, .ref sl, .ref rd, .ref ol, .ref cp, .int pl])), (tp, .inr (0, [.ref tb, .int (nI t.length)])), (tb, .inl (dA 0, 4096, .inl f)), (rs, .inr (0, [.ref rb, .int (nI tr.length)])), (rb, .inl (dA 0, 4096, .inl fr))] [.int r2_] 0 0 rfl rfl rfl (Nat.le_refl _) (Nat.le_refl _) ?_
    subst k2
    exact jv_iret C hr () (by rw [if_neg s1_0, if_pos s1_1]) rfl [0, 1, 2, 3, 4] rfl rfl (Nat.le_of_ble_eq_true rfl) (Nat.le_of_ble_eq_true rfl) (jd D_Sh_count 9 rfl)
  by_cases s1_2 : i = 2
  · refine jv_tableIn (tgt := 44) (off := 43) C (jd D_Sh_count 1 rfl) (by rw [s1_2]; decide) (by rw [s1_2]; decide) (by rw [s1_2] <;> rfl) (by decide) ?_
    refine jv_aload_n C (jd D_Sh_count 10 rfl) rfl 0 rfl ?_
    refine jv_get C fl_Sh_50 0 rfl rfl (jd D_Sh_count 11 rfl) ?_
    exact jv_iret C hr () (by rw [if_neg s1_0, if_neg s1_1]) rfl [0, 1, 2, 3, 4] rfl rfl (Nat.le_of_ble_eq_true rfl) (Nat.le_of_ble_eq_true rfl) (jd D_Sh_count 12 rfl)
  have q1 : i.toInt < 0 ∨ 2 < i.toInt := by
    have z0 : ¬ i.toInt = 0 := lv_neT s1_0 (by decide)
    have z1 : ¬ i.toInt = 1 := lv_neT s1_1 (by decide)
    have z2 : ¬ i.toInt = 2 := lv_neT s1_2 (by decide)
    omega
  refine jv_tableOut (tgt := 49) C (jd D_Sh_count 1 rfl) q1 (by decide) ?_
  exact (hb s1_0 s1_1 s1_2).elim

set_option maxHeartbeats 4000000 in
set_option maxRecDepth 100000 in
/-- count(i), no such -/
theorem c_Sh_count_no {l : Launch} {D : va_G} {dA : Nat → ClassId} {zz : (Nat → Nat) × (Nat → Nat)} (x tp rs sl rd ol cp : Nat) (pl : Int32) (i : Int32) (h0 : ¬ i = 0) (h1 : ¬ i = 1) (h2 : ¬ i = 2) (hlt : l.stackTraces = false) : jv_MX l D dA zz y_Sh_count b_Sh_count 2 (some (FieldType.int)) 6 [.ref x, .int i] [(x, .inr (5, [.ref tp, .ref rs, .ref sl, .ref rd, .ref ol, .ref cp, .int pl]))] "java/lang/IllegalArgumentException" (fun (_ : Unit) => True) (fun _ => [(x, .inr (5, [.ref tp, .ref rs, .ref sl, .ref rd, .ref ol, .ref cp, .int pl]))]) 1 6 := by
  refine jv_MX.of [(0, .ref x), (1, .int i)] (by decide) (Nat.le_of_ble_eq_true rfl) rfl ?_
  intro pR eR sR mR belowR methR cR AR C hT0
  refine jv_iload_n C (jd D_Sh_count 0 rfl) rfl 1 rfl ?_
  by_cases s1_0 : i = 0
  · refine jv_tableIn (tgt := 28) (off := 27) C (jd D_Sh_count 1 rfl) (by rw [s1_0]; decide) (by rw [s1_0]; decide) (by rw [s1_0] <;> rfl) (by decide) ?_
    exact absurd s1_0 h0
  by_cases s1_1 : i = 1
  · refine jv_tableIn (tgt := 36) (off := 35) C (jd D_Sh_count 1 rfl) (by rw [s1_1]; decide) (by rw [s1_1]; decide) (by rw [s1_1] <;> rfl) (by decide) ?_
    exact absurd s1_1 h1
  by_cases s1_2 : i = 2
  · refine jv_tableIn (tgt := 44) (off := 43) C (jd D_Sh_count 1 rfl) (by rw [s1_2]; decide) (by rw [s1_2]; decide) (by rw [s1_2] <;> rfl) (by decide) ?_
    exact absurd s1_2 h2
  have q1 : i.toInt < 0 ∨ 2 < i.toInt := by
    have z0 : ¬ i.toInt = 0 := lv_neT s1_0 (by decide)
    have z1 : ¬ i.toInt = 1 := lv_neT s1_1 (by decide)
    have z2 : ¬ i.toInt = 2 := lv_neT s1_2 (by decide)
    omega
  refine jv_tableOut (tgt := 49) C (jd D_Sh_count 1 rfl) q1 (by decide) ?_
  exact jv_throw0 C hT0 hlt tw_64 () (trivial) [0] rfl rfl (Nat.le_of_ble_eq_true rfl) (Nat.le_of_ble_eq_true rfl) (Nat.le_of_ble_eq_true rfl) (Nat.le_of_ble_eq_true rfl) (Nat.le_of_ble_eq_true rfl) (Nat.le_of_ble_eq_true rfl) (jd D_Sh_count 13 rfl) (jd D_Sh_count 14 rfl) (jd D_Sh_count 15 rfl) (jd D_Sh_count 16 rfl)

set_option maxHeartbeats 4000000 in
set_option maxRecDepth 100000 in
/-- kindOf(value) -/
theorem c_Sh_kindOf {l : Launch} {D : va_G} {dA : Nat → ClassId} {zz : (Nat → Nat) × (Nat → Nat)} (h b N : Nat) (f : Nat → Int32) (t : List Nat) (hl : t.length ≤ N) (hN : N < 2 ^ 29) (ht : js_tx f t) : jv_M l D dA zz y_Sh_kindOf b_Sh_kindOf 1 (some (FieldType.int)) 2 [.ref h] [(h, .inr (0, [.ref b, .int (nI t.length)])), (b, .inl (dA 0, N, .inl f))] (jv_pi fun r (_ : Unit) => r = js_kd (js_b t 0)) (fun _ => [(h, .inr (0, [.ref b, .int (nI t.length)])), (b, .inl (dA 0, N, .inl f))]) 0 0 := by
  refine jv_M.of [(0, .ref h)] (by decide) (Nat.le_of_ble_eq_true rfl) rfl ?_
  intro pR eR sR mR belowR methR cR AR C hr hin
  refine jv_aload_n C (jd D_Sh_kindOf 0 rfl) rfl 0 rfl ?_
  refine jv_iconst (v := 0) C (jd D_Sh_kindOf 1 rfl) (by decide) ?_
  refine jv_callV (wr := []) C cl_Sh_126 (c_Tx_at h b N f t (nI 0) hl (by omega) ht) [0, 1] [] rfl rfl rfl rfl (by decide) rfl rfl 0 rfl ⟨Nat.le_of_ble_eq_true rfl, Nat.le_of_ble_eq_true rfl⟩ ⟨Nat.le_of_ble_eq_true rfl, Nat.le_of_ble_eq_true rfl⟩ rfl rfl (Nat.le_of_ble_eq_true rfl) (jd D_Sh_kindOf 2 rfl) (fun v1 _ k1 => ?_)
  obtain ⟨r1_, rfl, k1⟩ := k1
  refine jv_fix [0, 1] [(h, .inr (0, [.ref b, .int (nI t.length)])), (b, .inl (dA 0, N, .inl f))] [.int r1_] 0 0 rfl rfl rfl (Nat.le_refl _) (Nat.le_refl _) ?_
  rw [js_at_nat (by omega) (by omega)] at k1
  subst k1
  by_cases s5_34 : (js_b t 0) = 34
  · refine jv_lookup (tgt := 70) (off := 65) C (jd D_Sh_kindOf 3 rfl) (by decide) (by rw [s5_34] <;> rfl) (by decide) ?_
    refine jv_iconst (v := 4) C (jd D_Sh_kindOf 10 rfl) (by decide) ?_
    exact jv_iret C hr () (by rw [js_kd, if_pos s5_34]) rfl [0, 1] rfl rfl (Nat.le_of_ble_eq_true rfl) (Nat.le_of_ble_eq_true rfl) (jd D_Sh_kindOf 11 rfl)
  by_cases s5_91 : (js_b t 0) = 91
  · refine jv_lookup (tgt := 72) (off := 67) C (jd D_Sh_kindOf 3 rfl) (by decide) (by rw [s5_91] <;> rfl) (by decide) ?_
    refine jv_iconst (v := 5) C (jd D_Sh_kindOf 12 rfl) (by decide) ?_
    exact jv_iret C hr () (by rw [js_kd, if_neg s5_34, if_pos s5_91]) rfl [0, 1] rfl rfl (Nat.le_of_ble_eq_true rfl) (Nat.le_of_ble_eq_true rfl) (jd D_Sh_kindOf 13 rfl)
  by_cases s5_102 : (js_b t 0) = 102
  · refine jv_lookup (tgt := 66) (off := 61) C (jd D_Sh_kindOf 3 rfl) (by decide) (by rw [s5_102] <;> rfl) (by decide) ?_
    refine jv_iconst (v := 1) C (jd D_Sh_kindOf 6 rfl) (by decide) ?_
    exact jv_iret C hr () (by rw [js_kd, if_neg s5_34, if_neg s5_91, if_pos s5_102]) rfl [0, 1] rfl rfl (Nat.le_of_ble_eq_true rfl) (Nat.le_of_ble_eq_true rfl) (jd D_Sh_kindOf 7 rfl)
  by_cases s5_110 : (js_b t 0) = 110
  · refine jv_lookup (tgt := 64) (off := 59) C (jd D_Sh_kindOf 3 rfl) (by decide) (by rw [s5_110] <;> rfl) (by decide) ?_
    refine jv_iconst (v := 0) C (jd D_Sh_kindOf 4 rfl) (by decide) ?_
    exact jv_iret C hr () (by rw [js_kd, if_neg s5_34, if_neg s5_91, if_neg s5_102, if_pos s5_110]) rfl [0, 1] rfl rfl (Nat.le_of_ble_eq_true rfl) (Nat.le_of_ble_eq_true rfl) (jd D_Sh_kindOf 5 rfl)
  by_cases s5_116 : (js_b t 0) = 116
  · refine jv_lookup (tgt := 68) (off := 63) C (jd D_Sh_kindOf 3 rfl) (by decide) (by rw [s5_116] <;> rfl) (by decide) ?_
    refine jv_iconst (v := 2) C (jd D_Sh_kindOf 8 rfl) (by decide) ?_
    exact jv_iret C hr () (by rw [js_kd, if_neg s5_34, if_neg s5_91, if_neg s5_102, if_neg s5_110, if_pos s5_116]) rfl [0, 1] rfl rfl (Nat.le_of_ble_eq_true rfl) (Nat.le_of_ble_eq_true rfl) (jd D_Sh_kindOf 9 rfl)
  by_cases s5_123 : (js_b t 0) = 123
  · refine jv_lookup (tgt := 74) (off := 69) C (jd D_Sh_kindOf 3 rfl) (by decide) (by rw [s5_123] <;> rfl) (by decide) ?_
    refine jv_bipush (v := 6) C (jd D_Sh_kindOf 14 rfl) (by decide) ?_
    exact jv_iret C hr () (by rw [js_kd, if_neg s5_34, if_neg s5_91, if_neg s5_102, if_neg s5_110, if_neg s5_116, if_pos s5_123]) rfl [0, 1] rfl rfl (Nat.le_of_ble_eq_true rfl) (Nat.le_of_ble_eq_true rfl) (jd D_Sh_kindOf 15 rfl)
  refine jv_lookup (tgt := 77) (off := 72) C (jd D_Sh_kindOf 3 rfl) (by decide) (by rw [lv_osw s5_34 (by decide), lv_osw s5_91 (by decide), lv_osw s5_102 (by decide), lv_osw s5_110 (by decide), lv_osw s5_116 (by decide), lv_osw s5_123 (by decide)] <;> rfl) (by decide) ?_
  refine jv_iconst (v := 3) C (jd D_Sh_kindOf 16 rfl) (by decide) ?_
  exact jv_iret C hr () (by rw [js_kd, if_neg s5_34, if_neg s5_91, if_neg s5_102, if_neg s5_110, if_neg s5_116, if_neg s5_123]) rfl [0, 1] rfl rfl (Nat.le_of_ble_eq_true rfl) (Nat.le_of_ble_eq_true rfl) (jd D_Sh_kindOf 17 rfl)

set_option maxHeartbeats 4000000 in
set_option maxRecDepth 100000 in
/-- isSecondUnit(string, i) -/
theorem c_Sh_isSecondUnit {l : Launch} {D : va_G} {dA : Nat → ClassId} {zz : (Nat → Nat) × (Nat → Nat)} (h b N : Nat) (f : Nat → Int32) (t : List Nat) (i : Nat) (hl : t.length ≤ N) (hN : N < 2 ^ 29) (ht : js_tx f t) (hi : i ≤ t.length) : jv_M l D dA zz y_Sh_isSecondUnit b_Sh_isSecondUnit 2 (some (FieldType.boolean)) 2 [.ref h, .int (nI i)] [(h, .inr (0, [.ref b, .int (nI t.length)])), (b, .inl (dA 0, N, .inl f))] (jv_pi fun r (_ : Unit) => js_bool (js_sec t i) r) (fun _ => [(h, .inr (0, [.ref b, .int (nI t.length)])), (b, .inl (dA 0, N, .inl f))]) 0 0 := by
  refine jv_M.of [(0, .ref h), (1, .int (nI i))] (by decide) (Nat.le_of_ble_eq_true rfl) rfl ?_
  intro pR eR sR mR belowR methR cR AR C hr hin
  refine jv_aload_n C (jd D_Sh_isSecondUnit 0 rfl) rfl 0 rfl ?_
  refine jv_iload_n C (jd D_Sh_isSecondUnit 1 rfl) rfl 1 rfl ?_
  refine jv_callV (wr := []) C cl_Sh_126 (c_Tx_at h b N f t (nI i) hl (by omega) ht) [0, 1] [] rfl rfl rfl rfl (by decide) rfl rfl 0 rfl ⟨Nat.le_of_ble_eq_true rfl, Nat.le_of_ble_eq_true rfl⟩ ⟨Nat.le_of_ble_eq_true rfl, Nat.le_of_ble_eq_true rfl⟩ rfl rfl (Nat.le_of_ble_eq_true rfl) (jd D_Sh_isSecondUnit 2 rfl) (fun v1 _ k1 => ?_)
  obtain ⟨r1_, rfl, k1⟩ := k1
  refine jv_fix [0, 1] [(h, .inr (0, [.ref b, .int (nI t.length)])), (b, .inl (dA 0, N, .inl f))] [.int r1_] 0 0 rfl rfl rfl (Nat.le_refl _) (Nat.le_refl _) ?_
  rw [js_at_nat (by omega) (by omega)] at k1
  subst k1
  refine jv_bipush (v := 92) C (jd D_Sh_isSecondUnit 3 rfl) (by decide) ?_
  refine jv_icmp_ne (tgt := 50) C (jd D_Sh_isSecondUnit 4 rfl) (by decide) (fun c7 => ?_) (fun c7 => ?_)
  · refine jv_iconst (v := 0) C (jd D_Sh_isSecondUnit 28 rfl) (by decide) ?_
    exact jv_iret C hr () (Or.inr ⟨rfl, fun y => c7 y.1⟩) rfl [0, 1] rfl rfl (Nat.le_of_ble_eq_true rfl) (Nat.le_of_ble_eq_true rfl) (jd D_Sh_isSecondUnit 29 rfl)
  · refine jv_aload_n C (jd D_Sh_isSecondUnit 5 rfl) rfl 0 rfl ?_
    refine jv_iload_n C (jd D_Sh_isSecondUnit 6 rfl) rfl 1 rfl ?_
    refine jv_iconst (v := 1) C (jd D_Sh_isSecondUnit 7 rfl) (by decide) ?_
    refine jv_iadd C (jd D_Sh_isSecondUnit 8 rfl) ?_
    refine jv_ati (y := nI (i + 1)) (nI_add i 1) ?_
    refine jv_callV (wr := []) C cl_Sh_126 (c_Tx_at h b N f t (nI (i + 1)) hl (by omega) ht) [0, 1] [] rfl rfl rfl rfl (by decide) rfl rfl 0 rfl ⟨Nat.le_of_ble_eq_true rfl, Nat.le_of_ble_eq_true rfl⟩ ⟨Nat.le_of_ble_eq_true rfl, Nat.le_of_ble_eq_true rfl⟩ rfl rfl (Nat.le_of_ble_eq_true rfl) (jd D_Sh_isSecondUnit 9 rfl) (fun v2 _ k2 => ?_)
    obtain ⟨r2_, rfl, k2⟩ := k2
    refine jv_fix [0, 1] [(h, .inr (0, [.ref b, .int (nI t.length)])), (b, .inl (dA 0, N, .inl f))] [.int r2_] 0 0 rfl rfl rfl (Nat.le_refl _) (Nat.le_refl _) ?_
    rw [js_at_nat (by omega) (by omega)] at k2
    subst k2
    refine jv_bipush (v := 117) C (jd D_Sh_isSecondUnit 10 rfl) (by decide) ?_
    refine jv_icmp_ne (tgt := 50) C (jd D_Sh_isSecondUnit 11 rfl) (by decide) (fun c19 => ?_) (fun c19 => ?_)
    · refine jv_iconst (v := 0) C (jd D_Sh_isSecondUnit 28 rfl) (by decide) ?_
      exact jv_iret C hr () (Or.inr ⟨rfl, fun y => c19 y.2.1⟩) rfl [0, 1] rfl rfl (Nat.le_of_ble_eq_true rfl) (Nat.le_of_ble_eq_true rfl) (jd D_Sh_isSecondUnit 29 rfl)
    · refine jv_aload_n C (jd D_Sh_isSecondUnit 12 rfl) rfl 0 rfl ?_
      refine jv_iload_n C (jd D_Sh_isSecondUnit 13 rfl) rfl 1 rfl ?_
      refine jv_iconst (v := 2) C (jd D_Sh_isSecondUnit 14 rfl) (by decide) ?_
      refine jv_iadd C (jd D_Sh_isSecondUnit 15 rfl) ?_
      refine jv_ati (y := nI (i + 2)) (nI_add i 2) ?_
      refine jv_callV (wr := []) C cl_Sh_126 (c_Tx_at h b N f t (nI (i + 2)) hl (by omega) ht) [0, 1] [] rfl rfl rfl rfl (by decide) rfl rfl 0 rfl ⟨Nat.le_of_ble_eq_true rfl, Nat.le_of_ble_eq_true rfl⟩ ⟨Nat.le_of_ble_eq_true rfl, Nat.le_of_ble_eq_true rfl⟩ rfl rfl (Nat.le_of_ble_eq_true rfl) (jd D_Sh_isSecondUnit 16 rfl) (fun v3 _ k3 => ?_)
      obtain ⟨r3_, rfl, k3⟩ := k3
      refine jv_fix [0, 1] [(h, .inr (0, [.ref b, .int (nI t.length)])), (b, .inl (dA 0, N, .inl f))] [.int r3_] 0 0 rfl rfl rfl (Nat.le_refl _) (Nat.le_refl _) ?_
      rw [js_at_nat (by omega) (by omega)] at k3
      subst k3
      refine jv_bipush (v := 100) C (jd D_Sh_isSecondUnit 17 rfl) (by decide) ?_
      refine jv_icmp_ne (tgt := 50) C (jd D_Sh_isSecondUnit 18 rfl) (by decide) (fun c31 => ?_) (fun c31 => ?_)
      · refine jv_iconst (v := 0) C (jd D_Sh_isSecondUnit 28 rfl) (by decide) ?_
        exact jv_iret C hr () (Or.inr ⟨rfl, fun y => c31 y.2.2.1⟩) rfl [0, 1] rfl rfl (Nat.le_of_ble_eq_true rfl) (Nat.le_of_ble_eq_true rfl) (jd D_Sh_isSecondUnit 29 rfl)
      · refine jv_aload_n C (jd D_Sh_isSecondUnit 19 rfl) rfl 0 rfl ?_
        refine jv_iload_n C (jd D_Sh_isSecondUnit 20 rfl) rfl 1 rfl ?_
        refine jv_iconst (v := 3) C (jd D_Sh_isSecondUnit 21 rfl) (by decide) ?_
        refine jv_iadd C (jd D_Sh_isSecondUnit 22 rfl) ?_
        refine jv_ati (y := nI (i + 3)) (nI_add i 3) ?_
        refine jv_callV (wr := []) C cl_Sh_126 (c_Tx_at h b N f t (nI (i + 3)) hl (by omega) ht) [0, 1] [] rfl rfl rfl rfl (by decide) rfl rfl 0 rfl ⟨Nat.le_of_ble_eq_true rfl, Nat.le_of_ble_eq_true rfl⟩ ⟨Nat.le_of_ble_eq_true rfl, Nat.le_of_ble_eq_true rfl⟩ rfl rfl (Nat.le_of_ble_eq_true rfl) (jd D_Sh_isSecondUnit 23 rfl) (fun v4 _ k4 => ?_)
        obtain ⟨r4_, rfl, k4⟩ := k4
        refine jv_fix [0, 1] [(h, .inr (0, [.ref b, .int (nI t.length)])), (b, .inl (dA 0, N, .inl f))] [.int r4_] 0 0 rfl rfl rfl (Nat.le_refl _) (Nat.le_refl _) ?_
        rw [js_at_nat (by omega) (by omega)] at k4
        subst k4
        refine jv_bipush (v := 99) C (jd D_Sh_isSecondUnit 24 rfl) (by decide) ?_
        refine jv_icmp_lt (tgt := 50) C (jd D_Sh_isSecondUnit 25 rfl) (by decide) (fun c43 => ?_) (fun c43 => ?_)
        · refine jv_iconst (v := 0) C (jd D_Sh_isSecondUnit 28 rfl) (by decide) ?_
          exact jv_iret C hr () (Or.inr ⟨rfl, fun y => y.2.2.2 c43⟩) rfl [0, 1] rfl rfl (Nat.le_of_ble_eq_true rfl) (Nat.le_of_ble_eq_true rfl) (jd D_Sh_isSecondUnit 29 rfl)
        · refine jv_iconst (v := 1) C (jd D_Sh_isSecondUnit 26 rfl) (by decide) ?_
          refine jv_goto (tgt := 51) C (jd D_Sh_isSecondUnit 27 rfl) (by decide) ?_
          exact jv_iret C hr () (Or.inl ⟨rfl, c7, c19, c31, c43⟩) rfl [0, 1] rfl rfl (Nat.le_of_ble_eq_true rfl) (Nat.le_of_ble_eq_true rfl) (jd D_Sh_isSecondUnit 29 rfl)

set_option maxHeartbeats 4000000 in
set_option maxRecDepth 100000 in
/-- charactersOf(string) -/
theorem c_Sh_charactersOf {l : Launch} {D : va_G} {dA : Nat → ClassId} {zz : (Nat → Nat) × (Nat → Nat)} (h b N : Nat) (f : Nat → Int32) (t : List Nat) (hl : t.length ≤ N) (hN : N < 2 ^ 29) (ht : js_tx f t) (h1 : 1 ≤ t.length) : jv_M l D dA zz y_Sh_charactersOf b_Sh_charactersOf 3 (some (FieldType.int)) 3 [.ref h] [(h, .inr (0, [.ref b, .int (nI t.length)])), (b, .inl (dA 0, N, .inl f))] (jv_pi fun r (_ : Unit) => r = nI (js_cc t (t.length + 5) 1 0)) (fun _ => [(h, .inr (0, [.ref b, .int (nI t.length)])), (b, .inl (dA 0, N, .inl f))]) 0 0 := by
  refine jv_M.of [(0, .ref h)] (by decide) (Nat.le_of_ble_eq_true rfl) rfl ?_
  intro pR eR sR mR belowR methR cR AR C hr hin
  obtain ⟨QR, hQ⟩ : ∃ QR, QR = jv_E D (jv_pi fun r (_ : Unit) => r = nI (js_cc t (t.length + 5) 1 0)) (fun _ => [(h, .inr (0, [.ref b, .int (nI t.length)])), (b, .inl (dA 0, N, .inl f))]) belowR ([.ref h] : List Value).toArray sR AR 0 0 := ⟨_, rfl⟩
  rw [← hQ]
  refine jv_iconst (v := 0) C (jd D_Sh_charactersOf 0 rfl) (by decide) ?_
  refine jv_istore_n C [(1, .int 0), (0, .ref h)] (jd D_Sh_charactersOf 1 rfl) rfl (by decide) rfl ?_
  refine jv_iconst (v := 1) C (jd D_Sh_charactersOf 2 rfl) (by decide) ?_
  refine jv_istore_n C [(2, .int 1), (1, .int 0), (0, .ref h)] (jd D_Sh_charactersOf 3 rfl) rfl (by decide) rfl ?_
  have hL4 : ∀ (n : Nat) (i c : Nat), i ≤ t.length + 5 → t.length + 6 ≤ i + n → js_cc t n i c = js_cc t (t.length + 5) 1 0 → jv_V pR l eR (jv_rm 3 0 0) sR mR ([.ref h] : List Value).toArray belowR methR cR 0 0 QR D AR 3 [(h, .inr (0, [.ref b, .int (nI t.length)])), (b, .inl (dA 0, N, .inl f))] [(0, .ref h), (1, .int (nI c)), (2, .int (nI i))] 4 [] := by
    intro n
    induction n with
    | zero =>
      intro i c h1 h2
      exact absurd h2 (by omega)
    | succ n ih =>
      intro i c hc hm he
      refine jv_iload_n C (jd D_Sh_charactersOf 4 rfl) rfl 2 rfl ?_
      refine jv_aload_n C (jd D_Sh_charactersOf 5 rfl) rfl 0 rfl ?_
      refine jv_callV (wr := []) C cl_Sh_54 (c_Tx_length h b N f t) [0, 1] [] rfl rfl rfl rfl (by decide) rfl rfl 0 rfl ⟨Nat.le_of_ble_eq_true rfl, Nat.le_of_ble_eq_true rfl⟩ ⟨Nat.le_of_ble_eq_true rfl, Nat.le_of_ble_eq_true rfl⟩ rfl rfl (Nat.le_of_ble_eq_true rfl) (jd D_Sh_charactersOf 6 rfl) (fun v1 _ k1 => ?_)
      obtain ⟨r1_, rfl, k1⟩ := k1
      refine jv_fix [0, 1] [(h, .inr (0, [.ref b, .int (nI t.length)])), (b, .inl (dA 0, N, .inl f))] [.int r1_, .int (nI i)] 0 0 rfl rfl rfl (Nat.le_refl _) (Nat.le_refl _) ?_
      subst k1
      refine jv_iconst (v := 1) C (jd D_Sh_charactersOf 7 rfl) (by decide) ?_
      refine jv_isub C (jd D_Sh_charactersOf 8 rfl) ?_
      refine jv_ati (y := nI (t.length - 1)) (by rw [show (1 : Int32) = nI 1 from rfl]; exact pk_sub h1) ?_
      refine jv_icmp_ge (tgt := 61) C (jd D_Sh_charactersOf 9 rfl) (by decide) (fun c11 => ?_) (fun c11 => ?_)
      · refine jv_iload_n C (jd D_Sh_charactersOf 35 rfl) rfl 1 rfl ?_
        rw [hQ]
        exact jv_iret C hr () (by rw [← he, js_cc_end ((nI_leI (a := t.length - 1) (b := i) (by omega) (by omega)).mp c11)]) rfl [0, 1] rfl rfl (Nat.le_of_ble_eq_true rfl) (Nat.le_of_ble_eq_true rfl) (jd D_Sh_charactersOf 36 rfl)
      · have hnp : ¬ t.length - 1 ≤ i := fun y => c11 (nI_le y (by omega))
        refine jv_aload_n C (jd D_Sh_charactersOf 10 rfl) rfl 0 rfl ?_
        refine jv_iload_n C (jd D_Sh_charactersOf 11 rfl) rfl 2 rfl ?_
        refine jv_callS (wr := []) C cl_Sh_138 (c_Sh_isSecondUnit h b N f t i hl hN ht (by omega)) [0, 1] [] rfl rfl rfl rfl (by decide) ⟨Nat.le_of_ble_eq_true rfl, Nat.le_of_ble_eq_true rfl⟩ ⟨Nat.le_of_ble_eq_true rfl, Nat.le_of_ble_eq_true rfl⟩ rfl rfl (Nat.le_of_ble_eq_true rfl) (jd D_Sh_charactersOf 12 rfl) (fun v2 _ k2 => ?_)
        obtain ⟨rv2, rfl, k2⟩ := k2
        refine jv_fix [0, 1] [(h, .inr (0, [.ref b, .int (nI t.length)])), (b, .inl (dA 0, N, .inl f))] [.int rv2] 0 0 rfl rfl rfl (Nat.le_refl _) (Nat.le_refl _) ?_
        refine jv_if_ne (tgt := 25) C (jd D_Sh_charactersOf 13 rfl) (by decide) (fun c19 => ?_) (fun c19 => ?_)
        · refine jv_aload_n C (jd D_Sh_charactersOf 15 rfl) rfl 0 rfl ?_
          refine jv_iload_n C (jd D_Sh_charactersOf 16 rfl) rfl 2 rfl ?_
          refine jv_callV (wr := []) C cl_Sh_126 (c_Tx_at h b N f t (nI i) hl (by omega) ht) [0, 1] [] rfl rfl rfl rfl (by decide) rfl rfl 0 rfl ⟨Nat.le_of_ble_eq_true rfl, Nat.le_of_ble_eq_true rfl⟩ ⟨Nat.le_of_ble_eq_true rfl, Nat.le_of_ble_eq_true rfl⟩ rfl rfl (Nat.le_of_ble_eq_true rfl) (jd D_Sh_charactersOf 17 rfl) (fun v3 _ k3 => ?_)
          obtain ⟨r3_, rfl, k3⟩ := k3
          refine jv_fix [0, 1] [(h, .inr (0, [.ref b, .int (nI t.length)])), (b, .inl (dA 0, N, .inl f))] [.int r3_] 0 0 rfl rfl rfl (Nat.le_refl _) (Nat.le_refl _) ?_
          rw [js_at_nat (by omega) (by omega)] at k3
          subst k3
          refine jv_bipush (v := 92) C (jd D_Sh_charactersOf 18 rfl) (by decide) ?_
          refine jv_icmp_ne (tgt := 55) C (jd D_Sh_charactersOf 19 rfl) (by decide) (fun c32 => ?_) (fun c32 => ?_)
          · refine jv_iinc (v := nI (i + 1)) C [(2, .int (nI (i + 1))), (0, .ref h), (1, .int (nI c))] (jd D_Sh_charactersOf 33 rfl) 2 rfl (nI_1 i) (by decide) rfl ?_
            refine jv_goto (tgt := 4) C (jd D_Sh_charactersOf 34 rfl) (by decide) ?_
            refine jv_lvsub [1, 2, 0] rfl ?_
            exact ih (i + 1) c (by omega) (by omega) (by
              have e1 : js_stp t i = 1 := by rw [js_stp, if_neg c32]
              have e2 : js_ifp (js_sec t i) c (c + 1) = c := js_ifp_pos (by rcases k2 with ⟨-, e1⟩ | ⟨e2, -⟩; exact e1; exact absurd e2 c19)
              rw [← he, js_cc, if_neg hnp, e1, e2])
          · refine jv_iload_n C (jd D_Sh_charactersOf 20 rfl) rfl 2 rfl ?_
            refine jv_aload_n C (jd D_Sh_charactersOf 21 rfl) rfl 0 rfl ?_
            refine jv_iload_n C (jd D_Sh_charactersOf 22 rfl) rfl 2 rfl ?_
            refine jv_iconst (v := 1) C (jd D_Sh_charactersOf 23 rfl) (by decide) ?_
            refine jv_iadd C (jd D_Sh_charactersOf 24 rfl) ?_
            refine jv_ati (y := nI (i + 1)) (nI_1 i) ?_
            refine jv_callV (wr := []) C cl_Sh_126 (c_Tx_at h b N f t (nI (i + 1)) hl (by omega) ht) [0, 1] [] rfl rfl rfl rfl (by decide) rfl rfl 0 rfl ⟨Nat.le_of_ble_eq_true rfl, Nat.le_of_ble_eq_true rfl⟩ ⟨Nat.le_of_ble_eq_true rfl, Nat.le_of_ble_eq_true rfl⟩ rfl rfl (Nat.le_of_ble_eq_true rfl) (jd D_Sh_charactersOf 25 rfl) (fun v4 _ k4 => ?_)
            obtain ⟨r4_, rfl, k4⟩ := k4
            refine jv_fix [0, 1] [(h, .inr (0, [.ref b, .int (nI t.length)])), (b, .inl (dA 0, N, .inl f))] [.int r4_, .int (nI i)] 0 0 rfl rfl rfl (Nat.le_refl _) (Nat.le_refl _) ?_
            rw [js_at_nat (by omega) (by omega)] at k4
            subst k4
            refine jv_bipush (v := 117) C (jd D_Sh_charactersOf 26 rfl) (by decide) ?_
            refine jv_icmp_ne (tgt := 52) C (jd D_Sh_charactersOf 27 rfl) (by decide) (fun c45 => ?_) (fun c45 => ?_)
            · refine jv_iconst (v := 1) C (jd D_Sh_charactersOf 30 rfl) (by decide) ?_
              refine jv_iadd C (jd D_Sh_charactersOf 31 rfl) ?_
              refine jv_ati (y := nI (i + 1)) (nI_1 i) ?_
              refine jv_istore_n C [(2, .int (nI (i + 1))), (0, .ref h), (1, .int (nI c))] (jd D_Sh_charactersOf 32 rfl) rfl (by decide) rfl ?_
              refine jv_iinc (v := nI (i + 2)) C [(2, .int (nI (i + 2))), (0, .ref h), (1, .int (nI c))] (jd D_Sh_charactersOf 33 rfl) 0 rfl (nI_1 (i + 1)) (by decide) rfl ?_
              refine jv_goto (tgt := 4) C (jd D_Sh_charactersOf 34 rfl) (by decide) ?_
              refine jv_lvsub [1, 2, 0] rfl ?_
              exact ih (i + 2) c (by omega) (by omega) (by
                have e1 : js_stp t i = 2 := by rw [js_stp, if_pos c32, if_neg c45]
                have e2 : js_ifp (js_sec t i) c (c + 1) = c := js_ifp_pos (by rcases k2 with ⟨-, e1⟩ | ⟨e2, -⟩; exact e1; exact absurd e2 c19)
                rw [← he, js_cc, if_neg hnp, e1, e2])
            · refine jv_iconst (v := 5) C (jd D_Sh_charactersOf 28 rfl) (by decide) ?_
              refine jv_goto (tgt := 53) C (jd D_Sh_charactersOf 29 rfl) (by decide) ?_
              refine jv_iadd C (jd D_Sh_charactersOf 31 rfl) ?_
              refine jv_ati (y := nI (i + 5)) (nI_add i 5) ?_
              refine jv_istore_n C [(2, .int (nI (i + 5))), (0, .ref h), (1, .int (nI c))] (jd D_Sh_charactersOf 32 rfl) rfl (by decide) rfl ?_
              refine jv_iinc (v := nI (i + 6)) C [(2, .int (nI (i + 6))), (0, .ref h), (1, .int (nI c))] (jd D_Sh_charactersOf 33 rfl) 0 rfl (nI_1 (i + 5)) (by decide) rfl ?_
              refine jv_goto (tgt := 4) C (jd D_Sh_charactersOf 34 rfl) (by decide) ?_
              refine jv_lvsub [1, 2, 0] rfl ?_
              exact ih (i + 6) c (by omega) (by omega) (by
                have e1 : js_stp t i = 6 := by rw [js_stp, if_pos c32, if_pos c45]
                have e2 : js_ifp (js_sec t i) c (c + 1) = c := js_ifp_pos (by rcases k2 with ⟨-, e1⟩ | ⟨e2, -⟩; exact e1; exact absurd e2 c19)
                rw [← he, js_cc, if_neg hnp, e1, e2])
        · refine jv_iinc (v := nI (c + 1)) C [(1, .int (nI (c + 1))), (0, .ref h), (2, .int (nI i))] (jd D_Sh_charactersOf 14 rfl) 1 rfl (nI_1 c) (by decide) rfl ?_
          refine jv_aload_n C (jd D_Sh_charactersOf 15 rfl) rfl 1 rfl ?_
          refine jv_iload_n C (jd D_Sh_charactersOf 16 rfl) rfl 2 rfl ?_
          refine jv_callV (wr := []) C cl_Sh_126 (c_Tx_at h b N f t (nI i) hl (by omega) ht) [0, 1] [] rfl rfl rfl rfl (by decide) rfl rfl 0 rfl ⟨Nat.le_of_ble_eq_true rfl, Nat.le_of_ble_eq_true rfl⟩ ⟨Nat.le_of_ble_eq_true rfl, Nat.le_of_ble_eq_true rfl⟩ rfl rfl (Nat.le_of_ble_eq_true rfl) (jd D_Sh_charactersOf 17 rfl) (fun v5 _ k3 => ?_)
          obtain ⟨r3_, rfl, k3⟩ := k3
          refine jv_fix [0, 1] [(h, .inr (0, [.ref b, .int (nI t.length)])), (b, .inl (dA 0, N, .inl f))] [.int r3_] 0 0 rfl rfl rfl (Nat.le_refl _) (Nat.le_refl _) ?_
          rw [js_at_nat (by omega) (by omega)] at k3
          subst k3
          refine jv_bipush (v := 92) C (jd D_Sh_charactersOf 18 rfl) (by decide) ?_
          refine jv_icmp_ne (tgt := 55) C (jd D_Sh_charactersOf 19 rfl) (by decide) (fun c32 => ?_) (fun c32 => ?_)
          · refine jv_iinc (v := nI (i + 1)) C [(2, .int (nI (i + 1))), (1, .int (nI (c + 1))), (0, .ref h)] (jd D_Sh_charactersOf 33 rfl) 2 rfl (nI_1 i) (by decide) rfl ?_
            refine jv_goto (tgt := 4) C (jd D_Sh_charactersOf 34 rfl) (by decide) ?_
            refine jv_lvsub [2, 1, 0] rfl ?_
            exact ih (i + 1) (c + 1) (by omega) (by omega) (by
              have e1 : js_stp t i = 1 := by rw [js_stp, if_neg c32]
              have e2 : js_ifp (js_sec t i) c (c + 1) = (c + 1) := js_ifp_neg (fun y => by rcases k2 with ⟨e1, -⟩ | ⟨-, e2⟩; rw [e1] at c19; exact absurd c19 (by decide); exact e2 y)
              rw [← he, js_cc, if_neg hnp, e1, e2])
          · refine jv_iload_n C (jd D_Sh_charactersOf 20 rfl) rfl 2 rfl ?_
            refine jv_aload_n C (jd D_Sh_charactersOf 21 rfl) rfl 1 rfl ?_
            refine jv_iload_n C (jd D_Sh_charactersOf 22 rfl) rfl 2 rfl ?_
            refine jv_iconst (v := 1) C (jd D_Sh_charactersOf 23 rfl) (by decide) ?_
            refine jv_iadd C (jd D_Sh_charactersOf 24 rfl) ?_
            refine jv_ati (y := nI (i + 1)) (nI_1 i) ?_
            refine jv_callV (wr := []) C cl_Sh_126 (c_Tx_at h b N f t (nI (i + 1)) hl (by omega) ht) [0, 1] [] rfl rfl rfl rfl (by decide) rfl rfl 0 rfl ⟨Nat.le_of_ble_eq_true rfl, Nat.le_of_ble_eq_true rfl⟩ ⟨Nat.le_of_ble_eq_true rfl, Nat.le_of_ble_eq_true rfl⟩ rfl rfl (Nat.le_of_ble_eq_true rfl) (jd D_Sh_charactersOf 25 rfl) (fun v6 _ k4 => ?_)
            obtain ⟨r4_, rfl, k4⟩ := k4
            refine jv_fix [0, 1] [(h, .inr (0, [.ref b, .int (nI t.length)])), (b, .inl (dA 0, N, .inl f))] [.int r4_, .int (nI i)] 0 0 rfl rfl rfl (Nat.le_refl _) (Nat.le_refl _) ?_
            rw [js_at_nat (by omega) (by omega)] at k4
            subst k4
            refine jv_bipush (v := 117) C (jd D_Sh_charactersOf 26 rfl) (by decide) ?_
            refine jv_icmp_ne (tgt := 52) C (jd D_Sh_charactersOf 27 rfl) (by decide) (fun c45 => ?_) (fun c45 => ?_)
            · refine jv_iconst (v := 1) C (jd D_Sh_charactersOf 30 rfl) (by decide) ?_
              refine jv_iadd C (jd D_Sh_charactersOf 31 rfl) ?_
              refine jv_ati (y := nI (i + 1)) (nI_1 i) ?_
              refine jv_istore_n C [(2, .int (nI (i + 1))), (1, .int (nI (c + 1))), (0, .ref h)] (jd D_Sh_charactersOf 32 rfl) rfl (by decide) rfl ?_
              refine jv_iinc (v := nI (i + 2)) C [(2, .int (nI (i + 2))), (1, .int (nI (c + 1))), (0, .ref h)] (jd D_Sh_charactersOf 33 rfl) 0 rfl (nI_1 (i + 1)) (by decide) rfl ?_
              refine jv_goto (tgt := 4) C (jd D_Sh_charactersOf 34 rfl) (by decide) ?_
              refine jv_lvsub [2, 1, 0] rfl ?_
              exact ih (i + 2) (c + 1) (by omega) (by omega) (by
                have e1 : js_stp t i = 2 := by rw [js_stp, if_pos c32, if_neg c45]
                have e2 : js_ifp (js_sec t i) c (c + 1) = (c + 1) := js_ifp_neg (fun y => by rcases k2 with ⟨e1, -⟩ | ⟨-, e2⟩; rw [e1] at c19; exact absurd c19 (by decide); exact e2 y)
                rw [← he, js_cc, if_neg hnp, e1, e2])
            · refine jv_iconst (v := 5) C (jd D_Sh_charactersOf 28 rfl) (by decide) ?_
              refine jv_goto (tgt := 53) C (jd D_Sh_charactersOf 29 rfl) (by decide) ?_
              refine jv_iadd C (jd D_Sh_charactersOf 31 rfl) ?_
              refine jv_ati (y := nI (i + 5)) (nI_add i 5) ?_
              refine jv_istore_n C [(2, .int (nI (i + 5))), (1, .int (nI (c + 1))), (0, .ref h)] (jd D_Sh_charactersOf 32 rfl) rfl (by decide) rfl ?_
              refine jv_iinc (v := nI (i + 6)) C [(2, .int (nI (i + 6))), (1, .int (nI (c + 1))), (0, .ref h)] (jd D_Sh_charactersOf 33 rfl) 0 rfl (nI_1 (i + 5)) (by decide) rfl ?_
              refine jv_goto (tgt := 4) C (jd D_Sh_charactersOf 34 rfl) (by decide) ?_
              refine jv_lvsub [2, 1, 0] rfl ?_
              exact ih (i + 6) (c + 1) (by omega) (by omega) (by
                have e1 : js_stp t i = 6 := by rw [js_stp, if_pos c32, if_pos c45]
                have e2 : js_ifp (js_sec t i) c (c + 1) = (c + 1) := js_ifp_neg (fun y => by rcases k2 with ⟨e1, -⟩ | ⟨-, e2⟩; rw [e1] at c19; exact absurd c19 (by decide); exact e2 y)
                rw [← he, js_cc, if_neg hnp, e1, e2])
  refine jv_lvsub [2, 1, 0] rfl ?_
  exact hL4 (t.length + 5) 1 0 (by omega) (by omega) rfl

set_option maxHeartbeats 4000000 in
set_option maxRecDepth 100000 in
/-- numberOf(value), a number -/
theorem c_Sh_numberOf_neg {l : Launch} {D : va_G} {dA : Nat → ClassId} {zz : (Nat → Nat) × (Nat → Nat)} (h b N : Nat) (f : Nat → Int32) (t : List Nat) (hl : t.length ≤ N) (hN : N < 2 ^ 29) (ht : js_tx f t) (h1 : 1 ≤ t.length) (h3 : js_kd (js_b t 0) = 3) (h45 : js_b t 0 = 45) : jv_M l D dA zz y_Sh_numberOf b_Sh_numberOf 5 (some (FieldType.long)) 3 [.ref h] [(h, .inr (0, [.ref b, .int (nI t.length)])), (b, .inl (dA 0, N, .inl f))] (jv_pl fun r (_ : Unit) => r = js_nof t) (fun _ => [(h, .inr (0, [.ref b, .int (nI t.length)])), (b, .inl (dA 0, N, .inl f))]) 0 0 := by
  refine jv_M.of [(0, .ref h)] (by decide) (Nat.le_of_ble_eq_true rfl) rfl ?_
  intro pR eR sR mR belowR methR cR AR C hr hin
  obtain ⟨QR, hQ⟩ : ∃ QR, QR = jv_E D (jv_pl fun r (_ : Unit) => r = js_nof t) (fun _ => [(h, .inr (0, [.ref b, .int (nI t.length)])), (b, .inl (dA 0, N, .inl f))]) belowR ([.ref h] : List Value).toArray sR AR 0 0 := ⟨_, rfl⟩
  rw [← hQ]
  refine jv_aload_n C (jd D_Sh_numberOf 0 rfl) rfl 0 rfl ?_
  refine jv_callS (wr := []) C cl_Sh_96 (c_Sh_kindOf h b N f t hl hN ht) [0, 1] [] rfl rfl rfl rfl (by decide) ⟨Nat.le_of_ble_eq_true rfl, Nat.le_of_ble_eq_true rfl⟩ ⟨Nat.le_of_ble_eq_true rfl, Nat.le_of_ble_eq_true rfl⟩ rfl rfl (Nat.le_of_ble_eq_true rfl) (jd D_Sh_numberOf 1 rfl) (fun v1 _ k1 => ?_)
  obtain ⟨rv1, rfl, k1⟩ := k1
  refine jv_fix [0, 1] [(h, .inr (0, [.ref b, .int (nI t.length)])), (b, .inl (dA 0, N, .inl f))] [.int rv1] 0 0 rfl rfl rfl (Nat.le_refl _) (Nat.le_refl _) ?_
  subst k1
  refine jv_iconst (v := 3) C (jd D_Sh_numberOf 2 rfl) (by decide) ?_
  refine jv_icmp_eq (tgt := 10) C (jd D_Sh_numberOf 3 rfl) (by decide) (fun c5 => ?_) (fun c5 => absurd (h3) c5)
  refine jv_aload_n C (jd D_Sh_numberOf 6 rfl) rfl 0 rfl ?_
  refine jv_iconst (v := 0) C (jd D_Sh_numberOf 7 rfl) (by decide) ?_
  refine jv_callV (wr := []) C cl_Sh_126 (c_Tx_at h b N f t (nI 0) hl (by omega) ht) [0, 1] [] rfl rfl rfl rfl (by decide) rfl rfl 0 rfl ⟨Nat.le_of_ble_eq_true rfl, Nat.le_of_ble_eq_true rfl⟩ ⟨Nat.le_of_ble_eq_true rfl, Nat.le_of_ble_eq_true rfl⟩ rfl rfl (Nat.le_of_ble_eq_true rfl) (jd D_Sh_numberOf 8 rfl) (fun v2 _ k2 => ?_)
  obtain ⟨r2_, rfl, k2⟩ := k2
  refine jv_fix [0, 1] [(h, .inr (0, [.ref b, .int (nI t.length)])), (b, .inl (dA 0, N, .inl f))] [.int r2_] 0 0 rfl rfl rfl (Nat.le_refl _) (Nat.le_refl _) ?_
  rw [js_at_nat (by omega) (by omega)] at k2
  subst k2
  refine jv_bipush (v := 45) C (jd D_Sh_numberOf 9 rfl) (by decide) ?_
  refine jv_icmp_ne (tgt := 24) C (jd D_Sh_numberOf 10 rfl) (by decide) (fun c17 => absurd c17 (fun y => y h45)) (fun c17 => ?_)
  refine jv_iconst (v := 1) C (jd D_Sh_numberOf 11 rfl) (by decide) ?_
  refine jv_goto (tgt := 25) C (jd D_Sh_numberOf 12 rfl) (by decide) ?_
  refine jv_istore_n C [(1, .int 1), (0, .ref h)] (jd D_Sh_numberOf 14 rfl) rfl (by decide) rfl ?_
  refine jv_lconst (v := 0) C (jd D_Sh_numberOf 15 rfl) (by decide) ?_
  refine jv_lstore_n C [(2, .long 0), (1, .int 1), (0, .ref h)] (jd D_Sh_numberOf 16 rfl) rfl (by decide) rfl ?_
  refine jv_iload_n C (jd D_Sh_numberOf 17 rfl) rfl 1 rfl ?_
  refine jv_if_eq (tgt := 36) C (jd D_Sh_numberOf 18 rfl) (by decide) (fun c29 => absurd c29 (by decide)) (fun c29 => ?_)
  refine jv_iconst (v := 1) C (jd D_Sh_numberOf 19 rfl) (by decide) ?_
  refine jv_goto (tgt := 37) C (jd D_Sh_numberOf 20 rfl) (by decide) ?_
  refine jv_istore C [(4, .int 1), (2, .long 0), (1, .int 1), (0, .ref h)] (jd D_Sh_numberOf 22 rfl) (by decide) rfl ?_
  have hL39 : ∀ (n : Nat) (i : Nat) (a : Int64), i ≤ t.length → t.length + 1 ≤ i + n → js_nf t (t.length - i) i a = js_nf t (t.length - 1) 1 0 → jv_V pR l eR (jv_rm 3 0 0) sR mR ([.ref h] : List Value).toArray belowR methR cR 0 0 QR D AR 5 [(h, .inr (0, [.ref b, .int (nI t.length)])), (b, .inl (dA 0, N, .inl f))] [(0, .ref h), (1, .int 1), (2, .long a), (4, .int (nI i))] 39 [] := by
    intro n
    induction n with
    | zero =>
      intro i a h1 h2
      exact absurd h2 (by omega)
    | succ n ih =>
      intro i a hi hm he
      refine jv_iload C (jd D_Sh_numberOf 23 rfl) 3 rfl ?_
      refine jv_aload_n C (jd D_Sh_numberOf 24 rfl) rfl 0 rfl ?_
      refine jv_callV (wr := []) C cl_Sh_54 (c_Tx_length h b N f t) [0, 1] [] rfl rfl rfl rfl (by decide) rfl rfl 0 rfl ⟨Nat.le_of_ble_eq_true rfl, Nat.le_of_ble_eq_true rfl⟩ ⟨Nat.le_of_ble_eq_true rfl, Nat.le_of_ble_eq_true rfl⟩ rfl rfl (Nat.le_of_ble_eq_true rfl) (jd D_Sh_numberOf 25 rfl) (fun v3 _ k3 => ?_)
      obtain ⟨r3_, rfl, k3⟩ := k3
      refine jv_fix [0, 1] [(h, .inr (0, [.ref b, .int (nI t.length)])), (b, .inl (dA 0, N, .inl f))] [.int r3_, .int (nI i)] 0 0 rfl rfl rfl (Nat.le_refl _) (Nat.le_refl _) ?_
      subst k3
      refine jv_icmp_ge (tgt := 71) C (jd D_Sh_numberOf 26 rfl) (by decide) (fun c45 => ?_) (fun c45 => ?_)
      · refine jv_iload_n C (jd D_Sh_numberOf 40 rfl) rfl 1 rfl ?_
        refine jv_if_eq (tgt := 80) C (jd D_Sh_numberOf 41 rfl) (by decide) (fun c72 => absurd c72 (by decide)) (fun c72 => ?_)
        refine jv_lload_n C (jd D_Sh_numberOf 42 rfl) rfl 2 rfl ?_
        refine jv_lneg C (jd D_Sh_numberOf 43 rfl) ?_
        refine jv_goto (tgt := 81) C (jd D_Sh_numberOf 44 rfl) (by decide) ?_
        rw [hQ]
        exact jv_lret C hr () (by rw [js_nof, if_pos h3, if_pos h45, ← he, show t.length - i = 0 from (by have := (nI_leI (a := t.length) (b := i) (by omega) (by omega)).mp c45; omega), js_nf]) [0, 1] rfl rfl (Nat.le_of_ble_eq_true rfl) (Nat.le_of_ble_eq_true rfl) (jd D_Sh_numberOf 46 rfl)
      · have hlt : i < t.length := by
          rcases Nat.lt_or_ge i t.length with y | y
          · exact y
          · exact absurd (nI_le y (by omega)) c45
        refine jv_lload_n C (jd D_Sh_numberOf 27 rfl) rfl 2 rfl ?_
        refine jv_ldc2_w (v := 10) C (jm3 (List.mem_of_getElem? (i := 195) rfl)) (jd D_Sh_numberOf 28 rfl) ?_
        refine jv_lmul C (jd D_Sh_numberOf 29 rfl) ?_
        refine jv_aload_n C (jd D_Sh_numberOf 30 rfl) rfl 0 rfl ?_
        refine jv_iload C (jd D_Sh_numberOf 31 rfl) 3 rfl ?_
        refine jv_callV (wr := []) C cl_Sh_126 (c_Tx_at h b N f t (nI i) hl (by omega) ht) [0, 1] [] rfl rfl rfl rfl (by decide) rfl rfl 0 rfl ⟨Nat.le_of_ble_eq_true rfl, Nat.le_of_ble_eq_true rfl⟩ ⟨Nat.le_of_ble_eq_true rfl, Nat.le_of_ble_eq_true rfl⟩ rfl rfl (Nat.le_of_ble_eq_true rfl) (jd D_Sh_numberOf 32 rfl) (fun v4 _ k4 => ?_)
        obtain ⟨r4_, rfl, k4⟩ := k4
        refine jv_fix [0, 1] [(h, .inr (0, [.ref b, .int (nI t.length)])), (b, .inl (dA 0, N, .inl f))] [.int r4_, .long (a * 10)] 0 0 rfl rfl rfl (Nat.le_refl _) (Nat.le_refl _) ?_
        rw [js_at_nat (by omega) (by omega)] at k4
        subst k4
        refine jv_bipush (v := 48) C (jd D_Sh_numberOf 33 rfl) (by decide) ?_
        refine jv_isub C (jd D_Sh_numberOf 34 rfl) ?_
        refine jv_i2l C (jd D_Sh_numberOf 35 rfl) ?_
        refine jv_ladd C (jd D_Sh_numberOf 36 rfl) ?_
        refine jv_lstore_n C [(2, .long ((a * 10) + (((js_b t i) - 48).toInt64))), (0, .ref h), (1, .int 1), (4, .int (nI i))] (jd D_Sh_numberOf 37 rfl) rfl (by decide) rfl ?_
        refine jv_iinc (v := nI (i + 1)) C [(4, .int (nI (i + 1))), (2, .long ((a * 10) + (((js_b t i) - 48).toInt64))), (0, .ref h), (1, .int 1)] (jd D_Sh_numberOf 38 rfl) 3 rfl (nI_1 i) (by decide) rfl ?_
        refine jv_goto (tgt := 39) C (jd D_Sh_numberOf 39 rfl) (by decide) ?_
        refine jv_lvsub [2, 3, 1, 0] rfl ?_
        exact ih (i + 1) (a * 10 + (js_b t i - 48).toInt64) (by omega) (by omega) (by rw [← he, show t.length - i = (t.length - (i + 1)) + 1 by omega, js_nf])
  refine jv_lvsub [3, 2, 1, 0] rfl ?_
  exact hL39 (t.length + 1) 1 0 (by omega) (by omega) rfl

set_option maxHeartbeats 4000000 in
set_option maxRecDepth 100000 in
/-- numberOf(value), a number -/
theorem c_Sh_numberOf_pos {l : Launch} {D : va_G} {dA : Nat → ClassId} {zz : (Nat → Nat) × (Nat → Nat)} (h b N : Nat) (f : Nat → Int32) (t : List Nat) (hl : t.length ≤ N) (hN : N < 2 ^ 29) (ht : js_tx f t) (h1 : 1 ≤ t.length) (h3 : js_kd (js_b t 0) = 3) (h45 : ¬ js_b t 0 = 45) : jv_M l D dA zz y_Sh_numberOf b_Sh_numberOf 5 (some (FieldType.long)) 3 [.ref h] [(h, .inr (0, [.ref b, .int (nI t.length)])), (b, .inl (dA 0, N, .inl f))] (jv_pl fun r (_ : Unit) => r = js_nof t) (fun _ => [(h, .inr (0, [.ref b, .int (nI t.length)])), (b, .inl (dA 0, N, .inl f))]) 0 0 := by
  refine jv_M.of [(0, .ref h)] (by decide) (Nat.le_of_ble_eq_true rfl) rfl ?_
  intro pR eR sR mR belowR methR cR AR C hr hin
  obtain ⟨QR, hQ⟩ : ∃ QR, QR = jv_E D (jv_pl fun r (_ : Unit) => r = js_nof t) (fun _ => [(h, .inr (0, [.ref b, .int (nI t.length)])), (b, .inl (dA 0, N, .inl f))]) belowR ([.ref h] : List Value).toArray sR AR 0 0 := ⟨_, rfl⟩
  rw [← hQ]
  refine jv_aload_n C (jd D_Sh_numberOf 0 rfl) rfl 0 rfl ?_
  refine jv_callS (wr := []) C cl_Sh_96 (c_Sh_kindOf h b N f t hl hN ht) [0, 1] [] rfl rfl rfl rfl (by decide) ⟨Nat.le_of_ble_eq_true rfl, Nat.le_of_ble_eq_true rfl⟩ ⟨Nat.le_of_ble_eq_true rfl, Nat.le_of_ble_eq_true rfl⟩ rfl rfl (Nat.le_of_ble_eq_true rfl) (jd D_Sh_numberOf 1 rfl) (fun v1 _ k1 => ?_)
  obtain ⟨rv1, rfl, k1⟩ := k1
  refine jv_fix [0, 1] [(h, .inr (0, [.ref b, .int (nI t.length)])), (b, .inl (dA 0, N, .inl f))] [.int rv1] 0 0 rfl rfl rfl (Nat.le_refl _) (Nat.le_refl _) ?_
  subst k1
  refine jv_iconst (v := 3) C (jd D_Sh_numberOf 2 rfl) (by decide) ?_
  refine jv_icmp_eq (tgt := 10) C (jd D_Sh_numberOf 3 rfl) (by decide) (fun c5 => ?_) (fun c5 => absurd (h3) c5)
  refine jv_aload_n C (jd D_Sh_numberOf 6 rfl) rfl 0 rfl ?_
  refine jv_iconst (v := 0) C (jd D_Sh_numberOf 7 rfl) (by decide) ?_
  refine jv_callV (wr := []) C cl_Sh_126 (c_Tx_at h b N f t (nI 0) hl (by omega) ht) [0, 1] [] rfl rfl rfl rfl (by decide) rfl rfl 0 rfl ⟨Nat.le_of_ble_eq_true rfl, Nat.le_of_ble_eq_true rfl⟩ ⟨Nat.le_of_ble_eq_true rfl, Nat.le_of_ble_eq_true rfl⟩ rfl rfl (Nat.le_of_ble_eq_true rfl) (jd D_Sh_numberOf 8 rfl) (fun v2 _ k2 => ?_)
  obtain ⟨r2_, rfl, k2⟩ := k2
  refine jv_fix [0, 1] [(h, .inr (0, [.ref b, .int (nI t.length)])), (b, .inl (dA 0, N, .inl f))] [.int r2_] 0 0 rfl rfl rfl (Nat.le_refl _) (Nat.le_refl _) ?_
  rw [js_at_nat (by omega) (by omega)] at k2
  subst k2
  refine jv_bipush (v := 45) C (jd D_Sh_numberOf 9 rfl) (by decide) ?_
  refine jv_icmp_ne (tgt := 24) C (jd D_Sh_numberOf 10 rfl) (by decide) (fun c17 => ?_) (fun c17 => absurd c17 (h45))
  refine jv_iconst (v := 0) C (jd D_Sh_numberOf 13 rfl) (by decide) ?_
  refine jv_istore_n C [(1, .int 0), (0, .ref h)] (jd D_Sh_numberOf 14 rfl) rfl (by decide) rfl ?_
  refine jv_lconst (v := 0) C (jd D_Sh_numberOf 15 rfl) (by decide) ?_
  refine jv_lstore_n C [(2, .long 0), (1, .int 0), (0, .ref h)] (jd D_Sh_numberOf 16 rfl) rfl (by decide) rfl ?_
  refine jv_iload_n C (jd D_Sh_numberOf 17 rfl) rfl 1 rfl ?_
  refine jv_if_eq (tgt := 36) C (jd D_Sh_numberOf 18 rfl) (by decide) (fun c29 => ?_) (fun c29 => absurd (rfl) c29)
  refine jv_iconst (v := 0) C (jd D_Sh_numberOf 21 rfl) (by decide) ?_
  refine jv_istore C [(4, .int 0), (2, .long 0), (1, .int 0), (0, .ref h)] (jd D_Sh_numberOf 22 rfl) (by decide) rfl ?_
  have hL39 : ∀ (n : Nat) (i : Nat) (a : Int64), i ≤ t.length → t.length + 1 ≤ i + n → js_nf t (t.length - i) i a = js_nf t (t.length - 0) 0 0 → jv_V pR l eR (jv_rm 3 0 0) sR mR ([.ref h] : List Value).toArray belowR methR cR 0 0 QR D AR 5 [(h, .inr (0, [.ref b, .int (nI t.length)])), (b, .inl (dA 0, N, .inl f))] [(0, .ref h), (1, .int 0), (2, .long a), (4, .int (nI i))] 39 [] := by
    intro n
    induction n with
    | zero =>
      intro i a h1 h2
      exact absurd h2 (by omega)
    | succ n ih =>
      intro i a hi hm he
      refine jv_iload C (jd D_Sh_numberOf 23 rfl) 3 rfl ?_
      refine jv_aload_n C (jd D_Sh_numberOf 24 rfl) rfl 0 rfl ?_
      refine jv_callV (wr := []) C cl_Sh_54 (c_Tx_length h b N f t) [0, 1] [] rfl rfl rfl rfl (by decide) rfl rfl 0 rfl ⟨Nat.le_of_ble_eq_true rfl, Nat.le_of_ble_eq_true rfl⟩ ⟨Nat.le_of_ble_eq_true rfl, Nat.le_of_ble_eq_true rfl⟩ rfl rfl (Nat.le_of_ble_eq_true rfl) (jd D_Sh_numberOf 25 rfl) (fun v3 _ k3 => ?_)
      obtain ⟨r3_, rfl, k3⟩ := k3
      refine jv_fix [0, 1] [(h, .inr (0, [.ref b, .int (nI t.length)])), (b, .inl (dA 0, N, .inl f))] [.int r3_, .int (nI i)] 0 0 rfl rfl rfl (Nat.le_refl _) (Nat.le_refl _) ?_
      subst k3
      refine jv_icmp_ge (tgt := 71) C (jd D_Sh_numberOf 26 rfl) (by decide) (fun c45 => ?_) (fun c45 => ?_)
      · refine jv_iload_n C (jd D_Sh_numberOf 40 rfl) rfl 1 rfl ?_
        refine jv_if_eq (tgt := 80) C (jd D_Sh_numberOf 41 rfl) (by decide) (fun c72 => ?_) (fun c72 => absurd (rfl) c72)
        refine jv_lload_n C (jd D_Sh_numberOf 45 rfl) rfl 2 rfl ?_
        rw [hQ]
        exact jv_lret C hr () (by rw [js_nof, if_pos h3, if_neg h45, ← (show js_nf t (t.length - i) i a = js_nf t t.length 0 0 from he), show t.length - i = 0 from (by have := (nI_leI (a := t.length) (b := i) (by omega) (by omega)).mp c45; omega), js_nf]) [0, 1] rfl rfl (Nat.le_of_ble_eq_true rfl) (Nat.le_of_ble_eq_true rfl) (jd D_Sh_numberOf 46 rfl)
      · have hlt : i < t.length := by
          rcases Nat.lt_or_ge i t.length with y | y
          · exact y
          · exact absurd (nI_le y (by omega)) c45
        refine jv_lload_n C (jd D_Sh_numberOf 27 rfl) rfl 2 rfl ?_
        refine jv_ldc2_w (v := 10) C (jm3 (List.mem_of_getElem? (i := 195) rfl)) (jd D_Sh_numberOf 28 rfl) ?_
        refine jv_lmul C (jd D_Sh_numberOf 29 rfl) ?_
        refine jv_aload_n C (jd D_Sh_numberOf 30 rfl) rfl 0 rfl ?_
        refine jv_iload C (jd D_Sh_numberOf 31 rfl) 3 rfl ?_
        refine jv_callV (wr := []) C cl_Sh_126 (c_Tx_at h b N f t (nI i) hl (by omega) ht) [0, 1] [] rfl rfl rfl rfl (by decide) rfl rfl 0 rfl ⟨Nat.le_of_ble_eq_true rfl, Nat.le_of_ble_eq_true rfl⟩ ⟨Nat.le_of_ble_eq_true rfl, Nat.le_of_ble_eq_true rfl⟩ rfl rfl (Nat.le_of_ble_eq_true rfl) (jd D_Sh_numberOf 32 rfl) (fun v4 _ k4 => ?_)
        obtain ⟨r4_, rfl, k4⟩ := k4
        refine jv_fix [0, 1] [(h, .inr (0, [.ref b, .int (nI t.length)])), (b, .inl (dA 0, N, .inl f))] [.int r4_, .long (a * 10)] 0 0 rfl rfl rfl (Nat.le_refl _) (Nat.le_refl _) ?_
        rw [js_at_nat (by omega) (by omega)] at k4
        subst k4
        refine jv_bipush (v := 48) C (jd D_Sh_numberOf 33 rfl) (by decide) ?_
        refine jv_isub C (jd D_Sh_numberOf 34 rfl) ?_
        refine jv_i2l C (jd D_Sh_numberOf 35 rfl) ?_
        refine jv_ladd C (jd D_Sh_numberOf 36 rfl) ?_
        refine jv_lstore_n C [(2, .long ((a * 10) + (((js_b t i) - 48).toInt64))), (0, .ref h), (1, .int 0), (4, .int (nI i))] (jd D_Sh_numberOf 37 rfl) rfl (by decide) rfl ?_
        refine jv_iinc (v := nI (i + 1)) C [(4, .int (nI (i + 1))), (2, .long ((a * 10) + (((js_b t i) - 48).toInt64))), (0, .ref h), (1, .int 0)] (jd D_Sh_numberOf 38 rfl) 3 rfl (nI_1 i) (by decide) rfl ?_
        refine jv_goto (tgt := 39) C (jd D_Sh_numberOf 39 rfl) (by decide) ?_
        refine jv_lvsub [2, 3, 1, 0] rfl ?_
        exact ih (i + 1) (a * 10 + (js_b t i - 48).toInt64) (by omega) (by omega) (by rw [← he, show t.length - i = (t.length - (i + 1)) + 1 by omega, js_nf])
  refine jv_lvsub [3, 2, 1, 0] rfl ?_
  exact hL39 (t.length + 1) 0 0 (by omega) (by omega) rfl

set_option maxHeartbeats 4000000 in
set_option maxRecDepth 100000 in
/-- numberOf(value), no number -/
theorem c_Sh_numberOf_no {l : Launch} {D : va_G} {dA : Nat → ClassId} {zz : (Nat → Nat) × (Nat → Nat)} (h b N : Nat) (f : Nat → Int32) (t : List Nat) (hl : t.length ≤ N) (hN : N < 2 ^ 29) (ht : js_tx f t) (h3 : ¬ js_kd (js_b t 0) = 3) : jv_M l D dA zz y_Sh_numberOf b_Sh_numberOf 5 (some (FieldType.long)) 3 [.ref h] [(h, .inr (0, [.ref b, .int (nI t.length)])), (b, .inl (dA 0, N, .inl f))] (jv_pl fun r (_ : Unit) => r = js_nof t) (fun _ => [(h, .inr (0, [.ref b, .int (nI t.length)])), (b, .inl (dA 0, N, .inl f))]) 0 0 := by
  refine jv_M.of [(0, .ref h)] (by decide) (Nat.le_of_ble_eq_true rfl) rfl ?_
  intro pR eR sR mR belowR methR cR AR C hr hin
  refine jv_aload_n C (jd D_Sh_numberOf 0 rfl) rfl 0 rfl ?_
  refine jv_callS (wr := []) C cl_Sh_96 (c_Sh_kindOf h b N f t hl hN ht) [0, 1] [] rfl rfl rfl rfl (by decide) ⟨Nat.le_of_ble_eq_true rfl, Nat.le_of_ble_eq_true rfl⟩ ⟨Nat.le_of_ble_eq_true rfl, Nat.le_of_ble_eq_true rfl⟩ rfl rfl (Nat.le_of_ble_eq_true rfl) (jd D_Sh_numberOf 1 rfl) (fun v1 _ k1 => ?_)
  obtain ⟨rv1, rfl, k1⟩ := k1
  refine jv_fix [0, 1] [(h, .inr (0, [.ref b, .int (nI t.length)])), (b, .inl (dA 0, N, .inl f))] [.int rv1] 0 0 rfl rfl rfl (Nat.le_refl _) (Nat.le_refl _) ?_
  subst k1
  refine jv_iconst (v := 3) C (jd D_Sh_numberOf 2 rfl) (by decide) ?_
  refine jv_icmp_eq (tgt := 10) C (jd D_Sh_numberOf 3 rfl) (by decide) (fun c5 => absurd c5 (h3)) (fun c5 => ?_)
  refine jv_lconst (v := 0) C (jd D_Sh_numberOf 4 rfl) (by decide) ?_
  exact jv_lret C hr () (by rw [js_nof, if_neg h3]) [0, 1] rfl rfl (Nat.le_of_ble_eq_true rfl) (Nat.le_of_ble_eq_true rfl) (jd D_Sh_numberOf 5 rfl)
