set_option maxHeartbeats 4000000 in
set_option maxRecDepth 100000 in
theorem jl_take_x1 {l : Launch} {D : va_G} {dA : Nat → ClassId} {zz : (Nat → Nat) × (Nat → Nat)} {A : Nat → Nat} {t r : List Nat} {sl : Nat → Option (js_J 32)} {pl : Int32} {X : va_W} (oa : Nat) (fo : Nat → Int64) (hlt : l.stackTraces = false) (hS : js_SW t r sl) (hX : CW dA A t r sl pl X) (i j n : Int32) (hb : i < 0 ∨ 8 ≤ i) : jl_W l D dA zz y_La_take b_La_take 5 [(0, 7, 10, 19), (0, 7, 14, 29), (0, 7, 18, 43)] [.ref (A 0), .int i, .int j, .int n] oa fo X 1 (fun z => True) (CW dA A t r sl pl) ∧ X[0]? = some (A 0, .inr (5, [.ref (A 1), .ref (A 3), .ref (A 5), .ref (A 22), .ref (A 31), .ref (A 39), .int pl])) := by
  obtain ⟨H, N, c0, pr0, ft, fr, Fs, F, rfl, g1, g2, g3, g4, g5⟩ := hX
  obtain ⟨z1, z2, z3⟩ := hS
  have hM := (c_Sh_take_no1 (l := l) (D := D) (dA := dA) (zz := zz) (A 0) (A 1) (A 3) (A 5) (A 22) (A 31) (A 39) pl (jc_fs A) i j n hb hlt).put (cW dA A t r sl pl H N c0 pr0 ft fr Fs F) [0, 5] (jw_c rfl (jw_c rfl jw_n)) rfl (fun _ => rfl)
  refine ⟨⟨_, _, _, (Nat.le_of_ble_eq_true rfl), (Nat.le_of_ble_eq_true rfl), (Nat.le_of_ble_eq_true rfl), (c_La_take_x1 oa fo rfl hM).weak ?_⟩, rfl⟩
  rintro vR ⟨u, fo1⟩ ⟨rR, rfl, rfl, hv⟩
  refine ⟨(cW dA A t r sl pl H N c0 pr0 ft fr Fs F, fo1), ⟨_, rfl, rfl, fun z9 => absurd z9 (by decide), ⟨H, N, c0, pr0, ft, fr, Fs, F, rfl, g1, g2, g3, g4, g5⟩⟩, congrArg (List.cons _) ?_⟩
  exact (rfl).symm

set_option maxHeartbeats 4000000 in
set_option maxRecDepth 100000 in
theorem jl_take_x1b {l : Launch} {D : va_G} {dA : Nat → ClassId} {zz : (Nat → Nat) × (Nat → Nat)} {A : Nat → Nat} {t r : List Nat} {sl : Nat → Option (js_J 32)} {pl : Int32} {X : va_W} (oa : Nat) (fo : Nat → Int64) (hlt : l.stackTraces = false) (hS : js_SW t r sl) (hX : CW dA A t r sl pl X) (k : Nat) (j n : Int32) (hk : k < 8) (hb : j < 0 ∨ 8 ≤ j) : jl_W l D dA zz y_La_take b_La_take 5 [(0, 7, 10, 19), (0, 7, 14, 29), (0, 7, 18, 43)] [.ref (A 0), .int (nI k), .int j, .int n] oa fo X 1 (fun z => True) (CW dA A t r sl pl) ∧ X[0]? = some (A 0, .inr (5, [.ref (A 1), .ref (A 3), .ref (A 5), .ref (A 22), .ref (A 31), .ref (A 39), .int pl])) := by
  obtain ⟨H, N, c0, pr0, ft, fr, Fs, F, rfl, g1, g2, g3, g4, g5⟩ := hX
  obtain ⟨z1, z2, z3⟩ := hS
  have hM := (c_Sh_take_no1b (l := l) (D := D) (dA := dA) (zz := zz) (A 0) (A 1) (A 3) (A 5) (A 22) (A 31) (A 39) pl (jc_fs A) (A (6 + 2 * k)) k j n hk (jc_fs_at A hk) hb hlt).put (cW dA A t r sl pl H N c0 pr0 ft fr Fs F) [0, 5] (jw_c rfl (jw_c rfl jw_n)) rfl (fun _ => rfl)
  refine ⟨⟨_, _, _, (Nat.le_of_ble_eq_true rfl), (Nat.le_of_ble_eq_true rfl), (Nat.le_of_ble_eq_true rfl), (c_La_take_x1 oa fo rfl hM).weak ?_⟩, rfl⟩
  rintro vR ⟨u, fo1⟩ ⟨rR, rfl, rfl, hv⟩
  refine ⟨(cW dA A t r sl pl H N c0 pr0 ft fr Fs F, fo1), ⟨_, rfl, rfl, fun z9 => absurd z9 (by decide), ⟨H, N, c0, pr0, ft, fr, Fs, F, rfl, g1, g2, g3, g4, g5⟩⟩, congrArg (List.cons _) ?_⟩
  exact (rfl).symm

set_option maxHeartbeats 4000000 in
set_option maxRecDepth 100000 in
theorem jl_take_x2 {l : Launch} {D : va_G} {dA : Nat → ClassId} {zz : (Nat → Nat) × (Nat → Nat)} {A : Nat → Nat} {t r : List Nat} {sl : Nat → Option (js_J 32)} {pl : Int32} {X : va_W} (oa : Nat) (fo : Nat → Int64) (hlt : l.stackTraces = false) (hS : js_SW t r sl) (hX : CW dA A t r sl pl X) (k k2 : Nat) (n : Int32) (hk : k < 8) (hk2 : k2 < 8) (hsk : sl k = none) : jl_W l D dA zz y_La_take b_La_take 5 [(0, 7, 10, 19), (0, 7, 14, 29), (0, 7, 18, 43)] [.ref (A 0), .int (nI k2), .int (nI k), .int n] oa fo X 2 (fun z => True) (CW dA A t r sl pl) ∧ X[0]? = some (A 0, .inr (5, [.ref (A 1), .ref (A 3), .ref (A 5), .ref (A 22), .ref (A 31), .ref (A 39), .int pl])) := by
  obtain ⟨H, N, c0, pr0, ft, fr, Fs, F, rfl, g1, g2, g3, g4, g5⟩ := hX
  obtain ⟨z1, z2, z3⟩ := hS
  have hM := (c_Sh_take_no2 (l := l) (D := D) (dA := dA) (zz := zz) (A 0) (A 1) (A 3) (A 5) (A 22) (A 31) (A 39) pl (jc_fs A) (A (6 + 2 * k)) (A (7 + 2 * k)) k (A (6 + 2 * k2)) k2 (Fs k) n hk (jc_fs_at A hk) hk2 (jc_fs_at A hk2) hlt).put (cW dA A t r sl pl H N c0 pr0 ft fr Fs F) [0, 5, 6 + 2 * k, 7 + 2 * k] (jw_c rfl (jw_c rfl (jw_c (jc_h0 hk hsk) (jw_c (jc_b hk) jw_n)))) ((by decide +kernel : ∀ k, k < 8 → va_nd [0, 5, 6 + 2 * k, 7 + 2 * k] = true) k hk) (fun _ => rfl)
  refine ⟨⟨_, _, _, (Nat.le_of_ble_eq_true rfl), (Nat.le_of_ble_eq_true rfl), (Nat.le_of_ble_eq_true rfl), (c_La_take_x2 oa fo rfl hM).weak ?_⟩, rfl⟩
  rintro vR ⟨u, fo1⟩ ⟨rR, rfl, rfl, hv⟩
  refine ⟨(cW dA A t r sl pl H N c0 pr0 ft fr Fs F, fo1), ⟨_, rfl, rfl, fun z9 => absurd z9 (by decide), ⟨H, N, c0, pr0, ft, fr, Fs, F, rfl, g1, g2, g3, g4, g5⟩⟩, congrArg (List.cons _) ?_⟩
  exact ((jc_keep0 hk hsk)).symm

set_option maxHeartbeats 4000000 in
set_option maxRecDepth 100000 in
theorem jl_take_x3m {l : Launch} {D : va_G} {dA : Nat → ClassId} {zz : (Nat → Nat) × (Nat → Nat)} {A : Nat → Nat} {t r : List Nat} {sl : Nat → Option (js_J 32)} {pl : Int32} {X : va_W} (oa : Nat) (fo : Nat → Int64) (hlt : l.stackTraces = false) (hS : js_SW t r sl) (hX : CW dA A t r sl pl X) (k k2 : Nat) (v : js_J 32) (bb : Bool) (l0 : List (List Nat × js_J 31)) (i : Int32) (hk : k < 8) (hk2 : k2 < 8) (hs : sl k = some v) (hvm : v = Sum.inr (bb, l0)) (hb : i < 0 ∨ nI l0.length ≤ i) : jl_W l D dA zz y_La_take b_La_take 5 [(0, 7, 10, 19), (0, 7, 14, 29), (0, 7, 18, 43)] [.ref (A 0), .int (nI k2), .int (nI k), .int i] oa fo X 3 (fun z => True) (CW dA A t r sl pl) ∧ X[0]? = some (A 0, .inr (5, [.ref (A 1), .ref (A 3), .ref (A 5), .ref (A 22), .ref (A 31), .ref (A 39), .int pl])) := by
  obtain ⟨H, N, c0, pr0, ft, fr, Fs, F, rfl, g1, g2, g3, g4, g5⟩ := hX
  obtain ⟨z1, z2, z3⟩ := hS
  have ek : js_txt (sl k) = js_pr 32 v := by rw [hs]; rfl
  obtain ⟨ok1, ol1⟩ := z3 k v hs
  have op1 := js_pr_pos ok1
  have hl : (js_txt (sl k)).length ≤ 4096 := by rw [ek]; exact ol1
  have h0 : 0 < (js_txt (sl k)).length := by rw [ek]; exact op1
  obtain ⟨vs, hd, hOR, hvl⟩ := js_outline ok1 ol1
  have hv0 : 0 < vs.length := by rw [hvl]; exact js_cnt_pos 32 v
  rw [← ek] at hd hOR
  have hOR3 : js_OR (js_txt (sl k)) vs (31 + 1) (Sum.inr (bb, l0)) 0 := by rw [← hvm]; exact hOR
  have hen : (js_en vs 0).2.2.2.1 = l0.length := hOR3.2.1
  have hkd : ∀ j, j < l0.length → js_kid vs 0 j < vs.length := fun j hj => Nat.lt_of_lt_of_le (hOR3.2.2.2.2.2.2 j _ (List.getElem?_eq_getElem hj)).1 hOR3.2.2.2.1
  have hM := (c_Sh_take_no3 (l := l) (D := D) (dA := dA) (zz := zz) (A 0) (A 1) (A 3) (A 5) (A 22) (A 31) (A 39) pl (jc_fs A) (A (6 + 2 * k)) (A (7 + 2 * k)) (Fs k) (js_txt (sl k)) k (A (6 + 2 * k2)) k2 (A 32) (A 33) (A 34) (A 35) (A 36) (A 37) (A 38) (F 32) (F 33) (F 34) (F 35) (F 36) (F 37) (F 38) (N 5) (N 6) (N 7) (H 0) vs [] (js_dep 32 v) l0.length i hl (g3 k hk) hk (jc_fs_at A hk) hk2 (jc_fs_at A hk2) h0 hd hv0 hen hOR3.2.2.2.2.1 hkd hb hlt).put (cW dA A t r sl pl H N c0 pr0 ft fr Fs F) [0, 5, 31, 32, 33, 34, 35, 36, 37, 38, 6 + 2 * k, 7 + 2 * k] (jw_c rfl (jw_c rfl (jw_c rfl (jw_c rfl (jw_c rfl (jw_c rfl (jw_c rfl (jw_c rfl (jw_c rfl (jw_c rfl (jw_c (jc_h hk) (jw_c (jc_b hk) jw_n)))))))))))) ((by decide +kernel : ∀ k, k < 8 → va_nd [0, 5, 31, 32, 33, 34, 35, 36, 37, 38, 6 + 2 * k, 7 + 2 * k] = true) k hk) (fun _ => rfl)
  refine ⟨⟨_, _, _, (Nat.le_of_ble_eq_true rfl), (Nat.le_of_ble_eq_true rfl), (Nat.le_of_ble_eq_true rfl), (c_La_take_x3 oa fo rfl hM).weak ?_⟩, rfl⟩
  rintro vR ⟨u, fo1⟩ ⟨rR, rfl, rfl, hv⟩
  refine ⟨(cW dA A t r sl pl (jc_up H 0 (A (6 + 2 * k))) (jc_up (jc_up (jc_up N 5 (nI vs.length)) 6 (nI ([] : List Nat).length)) 7 (nI (js_dep 32 v))) c0 pr0 ft fr Fs (jc_up (jc_up (jc_up (jc_up (jc_up (jc_up (jc_up F 32 u.1) 33 u.2.1) 34 u.2.2.1) 35 u.2.2.2.1) 36 u.2.2.2.2.1) 37 u.2.2.2.2.2.1) 38 u.2.2.2.2.2.2), fo1), ⟨_, rfl, rfl, fun z9 => absurd z9 (by decide), ⟨(jc_up H 0 (A (6 + 2 * k))), (jc_up (jc_up (jc_up N 5 (nI vs.length)) 6 (nI ([] : List Nat).length)) 7 (nI (js_dep 32 v))), c0, pr0, ft, fr, Fs, (jc_up (jc_up (jc_up (jc_up (jc_up (jc_up (jc_up F 32 u.1) 33 u.2.1) 34 u.2.2.1) 35 u.2.2.2.1) 36 u.2.2.2.2.1) 37 u.2.2.2.2.2.1) 38 u.2.2.2.2.2.2), rfl, g1, g2, g3, g4, g5⟩⟩, congrArg (List.cons _) ?_⟩
  exact ((jc_keep hk)).symm

set_option maxHeartbeats 4000000 in
set_option maxRecDepth 100000 in
theorem jl_take_x3l {l : Launch} {D : va_G} {dA : Nat → ClassId} {zz : (Nat → Nat) × (Nat → Nat)} {A : Nat → Nat} {t r : List Nat} {sl : Nat → Option (js_J 32)} {pl : Int32} {X : va_W} (oa : Nat) (fo : Nat → Int64) (hlt : l.stackTraces = false) (hS : js_SW t r sl) (hX : CW dA A t r sl pl X) (k k2 : Nat) (v : js_J 32) (x : js_L) (i : Int32) (hk : k < 8) (hk2 : k2 < 8) (hs : sl k = some v) (hvm : v = Sum.inl x) : jl_W l D dA zz y_La_take b_La_take 5 [(0, 7, 10, 19), (0, 7, 14, 29), (0, 7, 18, 43)] [.ref (A 0), .int (nI k2), .int (nI k), .int i] oa fo X 3 (fun z => True) (CW dA A t r sl pl) ∧ X[0]? = some (A 0, .inr (5, [.ref (A 1), .ref (A 3), .ref (A 5), .ref (A 22), .ref (A 31), .ref (A 39), .int pl])) := by
  obtain ⟨H, N, c0, pr0, ft, fr, Fs, F, rfl, g1, g2, g3, g4, g5⟩ := hX
  obtain ⟨z1, z2, z3⟩ := hS
  have ek : js_txt (sl k) = js_pr 32 v := by rw [hs]; rfl
  obtain ⟨ok1, ol1⟩ := z3 k v hs
  have op1 := js_pr_pos ok1
  have hl : (js_txt (sl k)).length ≤ 4096 := by rw [ek]; exact ol1
  have h0 : 0 < (js_txt (sl k)).length := by rw [ek]; exact op1
  obtain ⟨vs, hd, hOR, hvl⟩ := js_outline ok1 ol1
  have hv0 : 0 < vs.length := by rw [hvl]; exact js_cnt_pos 32 v
  rw [← ek] at hd hOR
  have hen : (js_en vs 0).2.2.2.1 = 0 := by
    rw [hvm] at hOR
    exact hOR.2.1
  have hb : i < 0 ∨ nI 0 ≤ i := by
    rcases Int32.lt_or_le i 0 with h | h
    · exact Or.inl h
    · exact Or.inr h
  have hM := (c_Sh_take_no3 (l := l) (D := D) (dA := dA) (zz := zz) (A 0) (A 1) (A 3) (A 5) (A 22) (A 31) (A 39) pl (jc_fs A) (A (6 + 2 * k)) (A (7 + 2 * k)) (Fs k) (js_txt (sl k)) k (A (6 + 2 * k2)) k2 (A 32) (A 33) (A 34) (A 35) (A 36) (A 37) (A 38) (F 32) (F 33) (F 34) (F 35) (F 36) (F 37) (F 38) (N 5) (N 6) (N 7) (H 0) vs [] (js_dep 32 v) 0 i hl (g3 k hk) hk (jc_fs_at A hk) hk2 (jc_fs_at A hk2) h0 hd hv0 hen (by decide) (fun j hj => absurd hj (Nat.not_lt_zero j)) hb hlt).put (cW dA A t r sl pl H N c0 pr0 ft fr Fs F) [0, 5, 31, 32, 33, 34, 35, 36, 37, 38, 6 + 2 * k, 7 + 2 * k] (jw_c rfl (jw_c rfl (jw_c rfl (jw_c rfl (jw_c rfl (jw_c rfl (jw_c rfl (jw_c rfl (jw_c rfl (jw_c rfl (jw_c (jc_h hk) (jw_c (jc_b hk) jw_n)))))))))))) ((by decide +kernel : ∀ k, k < 8 → va_nd [0, 5, 31, 32, 33, 34, 35, 36, 37, 38, 6 + 2 * k, 7 + 2 * k] = true) k hk) (fun _ => rfl)
  refine ⟨⟨_, _, _, (Nat.le_of_ble_eq_true rfl), (Nat.le_of_ble_eq_true rfl), (Nat.le_of_ble_eq_true rfl), (c_La_take_x3 oa fo rfl hM).weak ?_⟩, rfl⟩
  rintro vR ⟨u, fo1⟩ ⟨rR, rfl, rfl, hv⟩
  refine ⟨(cW dA A t r sl pl (jc_up H 0 (A (6 + 2 * k))) (jc_up (jc_up (jc_up N 5 (nI vs.length)) 6 (nI ([] : List Nat).length)) 7 (nI (js_dep 32 v))) c0 pr0 ft fr Fs (jc_up (jc_up (jc_up (jc_up (jc_up (jc_up (jc_up F 32 u.1) 33 u.2.1) 34 u.2.2.1) 35 u.2.2.2.1) 36 u.2.2.2.2.1) 37 u.2.2.2.2.2.1) 38 u.2.2.2.2.2.2), fo1), ⟨_, rfl, rfl, fun z9 => absurd z9 (by decide), ⟨(jc_up H 0 (A (6 + 2 * k))), (jc_up (jc_up (jc_up N 5 (nI vs.length)) 6 (nI ([] : List Nat).length)) 7 (nI (js_dep 32 v))), c0, pr0, ft, fr, Fs, (jc_up (jc_up (jc_up (jc_up (jc_up (jc_up (jc_up F 32 u.1) 33 u.2.1) 34 u.2.2.1) 35 u.2.2.2.1) 36 u.2.2.2.2.1) 37 u.2.2.2.2.2.1) 38 u.2.2.2.2.2.2), rfl, g1, g2, g3, g4, g5⟩⟩, congrArg (List.cons _) ?_⟩
  exact ((jc_keep hk)).symm

set_option maxHeartbeats 4000000 in
set_option maxRecDepth 100000 in
theorem jl_take_ok {l : Launch} {D : va_G} {dA : Nat → ClassId} {zz : (Nat → Nat) × (Nat → Nat)} {A : Nat → Nat} {t r : List Nat} {sl : Nat → Option (js_J 32)} {pl : Int32} {X : va_W} (oa : Nat) (fo : Nat → Int64) (hlt : l.stackTraces = false) (hS : js_SW t r sl) (hX : CW dA A t r sl pl X) (k k2 : Nat) (v : js_J 32) (bb : Bool) (l0 : List (List Nat × js_J 31)) (j : Nat) (q9 : List Nat × js_J 31) (hk : k < 8) (hk2 : k2 < 8) (hs : sl k = some v) (hvm : v = Sum.inr (bb, l0)) (hq : l0[j]? = some q9) (hne : k ≠ k2) : jl_W l D dA zz y_La_take b_La_take 5 [(0, 7, 10, 19), (0, 7, 14, 29), (0, 7, 18, 43)] [.ref (A 0), .int (nI k2), .int (nI k), .int (nI j)] oa fo X 0 (fun z => True) (CW dA A t r (jc_up sl k2 (some (js_up 31 q9.2))) pl) ∧ X[0]? = some (A 0, .inr (5, [.ref (A 1), .ref (A 3), .ref (A 5), .ref (A 22), .ref (A 31), .ref (A 39), .int pl])) := by
  obtain ⟨H, N, c0, pr0, ft, fr, Fs, F, rfl, g1, g2, g3, g4, g5⟩ := hX
  obtain ⟨z1, z2, z3⟩ := hS
  have ek : js_txt (sl k) = js_pr 32 v := by rw [hs]; rfl
  obtain ⟨ok1, ol1⟩ := z3 k v hs
  have op1 := js_pr_pos ok1
  have hl : (js_txt (sl k)).length ≤ 4096 := by rw [ek]; exact ol1
  have h0 : 0 < (js_txt (sl k)).length := by rw [ek]; exact op1
  obtain ⟨vs, hd, hOR, hvl⟩ := js_outline ok1 ol1
  have hv0 : 0 < vs.length := by rw [hvl]; exact js_cnt_pos 32 v
  rw [← ek] at hd hOR
  have hOR3 : js_OR (js_txt (sl k)) vs (31 + 1) (Sum.inr (bb, l0)) 0 := by rw [← hvm]; exact hOR
  have hen : (js_en vs 0).2.2.2.1 = l0.length := hOR3.2.1
  have hkd : ∀ j, j < l0.length → js_kid vs 0 j < vs.length := fun j hj => Nat.lt_of_lt_of_le (hOR3.2.2.2.2.2.2 j _ (List.getElem?_eq_getElem hj)).1 hOR3.2.2.2.1
  have hj := (List.getElem?_eq_some_iff.mp hq).1
  have hy := js_ent_of (hOR3.2.2.2.2.2.2 j _ hq).2.1
  have hup := js_up_pr 31 q9.2
  have hl2 := js_txt_le (t := t) (r := r) z3 k2
  have hM := (c_Sh_take_ok (l := l) (D := D) (dA := dA) (zz := zz) (A 0) (A 1) (A 3) (A 5) (A 22) (A 31) (A 39) pl (jc_fs A) (A (6 + 2 * k)) (A (7 + 2 * k)) (Fs k) (js_txt (sl k)) k (A (6 + 2 * k2)) (A (7 + 2 * k2)) (Fs k2) (js_txt (sl k2)) k2 (A 32) (A 33) (A 34) (A 35) (A 36) (A 37) (A 38) (F 32) (F 33) (F 34) (F 35) (F 36) (F 37) (F 38) (N 5) (N 6) (N 7) (H 0) vs [] (js_dep 32 v) l0.length j (js_pr 31 q9.2) hl (g3 k hk) hk (jc_fs_at A hk) hl2 (g3 k2 hk2) hk2 (jc_fs_at A hk2) h0 hd hv0 hen hOR3.2.2.2.2.1 hkd hj hy).put (cW dA A t r sl pl H N c0 pr0 ft fr Fs F) [0, 5, 31, 32, 33, 34, 35, 36, 37, 38, 6 + 2 * k, 7 + 2 * k, 6 + 2 * k2, 7 + 2 * k2] (jw_c rfl (jw_c rfl (jw_c rfl (jw_c rfl (jw_c rfl (jw_c rfl (jw_c rfl (jw_c rfl (jw_c rfl (jw_c rfl (jw_c (jc_h hk) (jw_c (jc_b hk) (jw_c (jc_h hk2) (jw_c (jc_b hk2) jw_n)))))))))))))) ((by decide +kernel : ∀ k, k < 8 → ∀ k2, k2 < 8 → k ≠ k2 → va_nd [0, 5, 31, 32, 33, 34, 35, 36, 37, 38, 6 + 2 * k, 7 + 2 * k, 6 + 2 * k2, 7 + 2 * k2] = true) k hk k2 hk2 hne) (fun _ => rfl)
  refine ⟨⟨_, _, _, (Nat.le_of_ble_eq_true rfl), (Nat.le_of_ble_eq_true rfl), (Nat.le_of_ble_eq_true rfl), (c_La_take_ok oa fo rfl hM).weak ?_⟩, rfl⟩
  rintro vR ⟨u, fo1⟩ ⟨rR, rfl, rfl, hv⟩
  refine ⟨(cW dA A t r (jc_up sl k2 (some (js_up 31 q9.2))) pl (jc_up H 0 (A (6 + 2 * k))) (jc_up (jc_up (jc_up N 5 (nI vs.length)) 6 (nI ([] : List Nat).length)) 7 (nI (js_dep 32 v))) c0 pr0 ft fr (jc_up Fs k2 u.2) (jc_up (jc_up (jc_up (jc_up (jc_up (jc_up (jc_up F 32 u.1.1) 33 u.1.2.1) 34 u.1.2.2.1) 35 u.1.2.2.2.1) 36 u.1.2.2.2.2.1) 37 u.1.2.2.2.2.2.1) 38 u.1.2.2.2.2.2.2), fo1), ⟨_, rfl, rfl, fun z9 => trivial, ⟨(jc_up H 0 (A (6 + 2 * k))), (jc_up (jc_up (jc_up N 5 (nI vs.length)) 6 (nI ([] : List Nat).length)) 7 (nI (js_dep 32 v))), c0, pr0, ft, fr, (jc_up Fs k2 u.2), (jc_up (jc_up (jc_up (jc_up (jc_up (jc_up (jc_up F 32 u.1.1) 33 u.1.2.1) 34 u.1.2.2.1) 35 u.1.2.2.2.1) 36 u.1.2.2.2.2.1) 37 u.1.2.2.2.2.2.1) 38 u.1.2.2.2.2.2.2), rfl, g1, g2, jc_up_tx g3 (by rw [hup]; exact hv), g4, g5⟩⟩, congrArg (List.cons _) ?_⟩
  exact ((jc_keepnew hk hk2 (js_up_pr 31 q9.2).symm)).symm

set_option maxHeartbeats 4000000 in
set_option maxRecDepth 100000 in
theorem jl_take_oks {l : Launch} {D : va_G} {dA : Nat → ClassId} {zz : (Nat → Nat) × (Nat → Nat)} {A : Nat → Nat} {t r : List Nat} {sl : Nat → Option (js_J 32)} {pl : Int32} {X : va_W} (oa : Nat) (fo : Nat → Int64) (hlt : l.stackTraces = false) (hS : js_SW t r sl) (hX : CW dA A t r sl pl X) (k : Nat) (v : js_J 32) (bb : Bool) (l0 : List (List Nat × js_J 31)) (j : Nat) (q9 : List Nat × js_J 31) (hk : k < 8) (hs : sl k = some v) (hvm : v = Sum.inr (bb, l0)) (hq : l0[j]? = some q9) : jl_W l D dA zz y_La_take b_La_take 5 [(0, 7, 10, 19), (0, 7, 14, 29), (0, 7, 18, 43)] [.ref (A 0), .int (nI k), .int (nI k), .int (nI j)] oa fo X 0 (fun z => True) (CW dA A t r (jc_up sl k (some (js_up 31 q9.2))) pl) ∧ X[0]? = some (A 0, .inr (5, [.ref (A 1), .ref (A 3), .ref (A 5), .ref (A 22), .ref (A 31), .ref (A 39), .int pl])) := by
  obtain ⟨H, N, c0, pr0, ft, fr, Fs, F, rfl, g1, g2, g3, g4, g5⟩ := hX
  obtain ⟨z1, z2, z3⟩ := hS
  have ek : js_txt (sl k) = js_pr 32 v := by rw [hs]; rfl
  obtain ⟨ok1, ol1⟩ := z3 k v hs
  have op1 := js_pr_pos ok1
  have hl : (js_txt (sl k)).length ≤ 4096 := by rw [ek]; exact ol1
  have h0 : 0 < (js_txt (sl k)).length := by rw [ek]; exact op1
  obtain ⟨vs, hd, hOR, hvl⟩ := js_outline ok1 ol1
  have hv0 : 0 < vs.length := by rw [hvl]; exact js_cnt_pos 32 v
  rw [← ek] at hd hOR
  have hOR3 : js_OR (js_txt (sl k)) vs (31 + 1) (Sum.inr (bb, l0)) 0 := by rw [← hvm]; exact hOR
  have hen : (js_en vs 0).2.2.2.1 = l0.length := hOR3.2.1
  have hkd : ∀ j, j < l0.length → js_kid vs 0 j < vs.length := fun j hj => Nat.lt_of_lt_of_le (hOR3.2.2.2.2.2.2 j _ (List.getElem?_eq_getElem hj)).1 hOR3.2.2.2.1
  have hj := (List.getElem?_eq_some_iff.mp hq).1
  have hy := js_ent_of (hOR3.2.2.2.2.2.2 j _ hq).2.1
  have hup := js_up_pr 31 q9.2
  have hM := (c_Sh_take_oks (l := l) (D := D) (dA := dA) (zz := zz) (A 0) (A 1) (A 3) (A 5) (A 22) (A 31) (A 39) pl (jc_fs A) (A (6 + 2 * k)) (A (7 + 2 * k)) (Fs k) (js_txt (sl k)) k (A 32) (A 33) (A 34) (A 35) (A 36) (A 37) (A 38) (F 32) (F 33) (F 34) (F 35) (F 36) (F 37) (F 38) (N 5) (N 6) (N 7) (H 0) vs [] (js_dep 32 v) l0.length j (js_pr 31 q9.2) hl (g3 k hk) hk (jc_fs_at A hk) h0 hd hv0 hen hOR3.2.2.2.2.1 hkd hj hy).put (cW dA A t r sl pl H N c0 pr0 ft fr Fs F) [0, 5, 31, 32, 33, 34, 35, 36, 37, 38, 6 + 2 * k, 7 + 2 * k] (jw_c rfl (jw_c rfl (jw_c rfl (jw_c rfl (jw_c rfl (jw_c rfl (jw_c rfl (jw_c rfl (jw_c rfl (jw_c rfl (jw_c (jc_h hk) (jw_c (jc_b hk) jw_n)))))))))))) ((by decide +kernel : ∀ k, k < 8 → va_nd [0, 5, 31, 32, 33, 34, 35, 36, 37, 38, 6 + 2 * k, 7 + 2 * k] = true) k hk) (fun _ => rfl)
  refine ⟨⟨_, _, _, (Nat.le_of_ble_eq_true rfl), (Nat.le_of_ble_eq_true rfl), (Nat.le_of_ble_eq_true rfl), (c_La_take_ok oa fo rfl hM).weak ?_⟩, rfl⟩
  rintro vR ⟨u, fo1⟩ ⟨rR, rfl, rfl, hv⟩
  refine ⟨(cW dA A t r (jc_up sl k (some (js_up 31 q9.2))) pl (jc_up H 0 (A (6 + 2 * k))) (jc_up (jc_up (jc_up N 5 (nI vs.length)) 6 (nI ([] : List Nat).length)) 7 (nI (js_dep 32 v))) c0 pr0 ft fr (jc_up Fs k u.2) (jc_up (jc_up (jc_up (jc_up (jc_up (jc_up (jc_up F 32 u.1.1) 33 u.1.2.1) 34 u.1.2.2.1) 35 u.1.2.2.2.1) 36 u.1.2.2.2.2.1) 37 u.1.2.2.2.2.2.1) 38 u.1.2.2.2.2.2.2), fo1), ⟨_, rfl, rfl, fun z9 => trivial, ⟨(jc_up H 0 (A (6 + 2 * k))), (jc_up (jc_up (jc_up N 5 (nI vs.length)) 6 (nI ([] : List Nat).length)) 7 (nI (js_dep 32 v))), c0, pr0, ft, fr, (jc_up Fs k u.2), (jc_up (jc_up (jc_up (jc_up (jc_up (jc_up (jc_up F 32 u.1.1) 33 u.1.2.1) 34 u.1.2.2.1) 35 u.1.2.2.2.1) 36 u.1.2.2.2.2.1) 37 u.1.2.2.2.2.2.1) 38 u.1.2.2.2.2.2.2), rfl, g1, g2, jc_up_tx g3 (by rw [hup]; exact hv), g4, g5⟩⟩, congrArg (List.cons _) ?_⟩
  exact ((jc_new hk (js_up_pr 31 q9.2).symm)).symm

set_option maxHeartbeats 4000000 in
set_option maxRecDepth 100000 in
theorem jl_read_x1 {l : Launch} {D : va_G} {dA : Nat → ClassId} {zz : (Nat → Nat) × (Nat → Nat)} {A : Nat → Nat} {t r : List Nat} {sl : Nat → Option (js_J 32)} {pl : Int32} {X : va_W} (oa : Nat) (fo : Nat → Int64) (hlt : l.stackTraces = false) (hS : js_SW t r sl) (hX : CW dA A t r sl pl X) (i : Int32) (hb : i < 0 ∨ 8 ≤ i) : jl_W l D dA zz y_La_read b_La_read 4 [(0, 9, 12, 19), (0, 9, 15, 24)] [.ref (A 0), .int i, .ref oa] oa fo X 1 (fun z => True) (CW dA A t r sl pl) ∧ X[0]? = some (A 0, .inr (5, [.ref (A 1), .ref (A 3), .ref (A 5), .ref (A 22), .ref (A 31), .ref (A 39), .int pl])) := by
  obtain ⟨H, N, c0, pr0, ft, fr, Fs, F, rfl, g1, g2, g3, g4, g5⟩ := hX
  obtain ⟨z1, z2, z3⟩ := hS
  have hM := (c_Sh_read_no1 (l := l) (D := D) (dA := dA) (zz := zz) (A 0) (A 1) (A 3) (A 5) (A 22) (A 31) (A 39) pl (jc_fs A) i hb hlt).put (cW dA A t r sl pl H N c0 pr0 ft fr Fs F) [0, 5] (jw_c rfl (jw_c rfl jw_n)) rfl (fun _ => rfl)
  refine ⟨⟨_, _, _, (Nat.le_of_ble_eq_true rfl), (Nat.le_of_ble_eq_true rfl), (Nat.le_of_ble_eq_true rfl), (c_La_read_x1 oa fo rfl hM).weak ?_⟩, rfl⟩
  rintro vR ⟨u, fo1⟩ ⟨rR, rfl, rfl, hv⟩
  refine ⟨(cW dA A t r sl pl H N c0 pr0 ft fr Fs F, fo1), ⟨_, rfl, rfl, fun z9 => absurd z9 (by decide), ⟨H, N, c0, pr0, ft, fr, Fs, F, rfl, g1, g2, g3, g4, g5⟩⟩, congrArg (List.cons _) ?_⟩
  exact (rfl).symm

set_option maxHeartbeats 4000000 in
set_option maxRecDepth 100000 in
theorem jl_read_x2 {l : Launch} {D : va_G} {dA : Nat → ClassId} {zz : (Nat → Nat) × (Nat → Nat)} {A : Nat → Nat} {t r : List Nat} {sl : Nat → Option (js_J 32)} {pl : Int32} {X : va_W} (oa : Nat) (fo : Nat → Int64) (hlt : l.stackTraces = false) (hS : js_SW t r sl) (hX : CW dA A t r sl pl X) (k q : Nat) (hk : k < 8) (hrd : js_rd t = .inl q) : jl_W l D dA zz y_La_read b_La_read 4 [(0, 9, 12, 19), (0, 9, 15, 24)] [.ref (A 0), .int (nI k), .ref oa] oa fo X 2 (fun z => True) (CW dA A ([] : List Nat) r sl (nI q)) ∧ X[0]? = some (A 0, .inr (5, [.ref (A 1), .ref (A 3), .ref (A 5), .ref (A 22), .ref (A 31), .ref (A 39), .int pl])) := by
  obtain ⟨H, N, c0, pr0, ft, fr, Fs, F, rfl, g1, g2, g3, g4, g5⟩ := hX
  obtain ⟨z1, z2, z3⟩ := hS
  have hfin : js_run t 4097 0 0 [] [] [] = .inl q := by rw [js_run_rd g1.by z1, hrd]
  have hM := (c_Sh_read_no2 (l := l) (D := D) (dA := dA) (zz := zz) (A 0) (A 1) (A 3) (A 5) (A 22) (A 31) (A 39) pl (jc_fs A) (A 23) (A 25) (A 29) (A 30) (A 2) (A 24) (A 26) (A 27) (A 28) ft (F 24) (F 26) (F 27) (F 28) (F 29) (F 30) t pr0 c0 (N 1) (N 2) (N 3) (N 4) (A (6 + 2 * k)) k q g1 z1 g4 g5 hk (jc_fs_at A hk) hfin (Nat.le_trans (js_rd_pl g1.by hrd) z1) hlt).put (cW dA A t r sl pl H N c0 pr0 ft fr Fs F) [0, 5, 22, 1, 2, 23, 24, 25, 26, 27, 28, 29, 30] (jw_c rfl (jw_c rfl (jw_c rfl (jw_c rfl (jw_c rfl (jw_c rfl (jw_c rfl (jw_c rfl (jw_c rfl (jw_c rfl (jw_c rfl (jw_c rfl (jw_c rfl jw_n))))))))))))) rfl (fun _ => rfl)
  refine ⟨⟨_, _, _, (Nat.le_of_ble_eq_true rfl), (Nat.le_of_ble_eq_true rfl), (Nat.le_of_ble_eq_true rfl), (c_La_read_x2 oa fo rfl hM).weak ?_⟩, rfl⟩
  rintro vR ⟨u, fo1⟩ ⟨rR, rfl, rfl, hv⟩
  refine ⟨(cW dA A ([] : List Nat) r sl (nI q) H (jc_up (jc_up (jc_up (jc_up N 1 u.1) 2 u.2.1) 3 u.2.2.1) 4 (nI q)) u.2.2.2.2.1 u.2.2.2.1 ft fr Fs (jc_up (jc_up (jc_up (jc_up (jc_up (jc_up F 24 u.2.2.2.2.2.1) 26 u.2.2.2.2.2.2.1) 27 u.2.2.2.2.2.2.2.1) 28 u.2.2.2.2.2.2.2.2.1) 29 u.2.2.2.2.2.2.2.2.2.1) 30 u.2.2.2.2.2.2.2.2.2.2), fo1), ⟨_, rfl, rfl, fun z9 => absurd z9 (by decide), ⟨H, (jc_up (jc_up (jc_up (jc_up N 1 u.1) 2 u.2.1) 3 u.2.2.1) 4 (nI q)), u.2.2.2.2.1, u.2.2.2.1, ft, fr, Fs, (jc_up (jc_up (jc_up (jc_up (jc_up (jc_up F 24 u.2.2.2.2.2.1) 26 u.2.2.2.2.2.2.1) 27 u.2.2.2.2.2.2.2.1) 28 u.2.2.2.2.2.2.2.2.1) 29 u.2.2.2.2.2.2.2.2.2.1) 30 u.2.2.2.2.2.2.2.2.2.2), rfl, (fun j h => absurd h (Nat.not_lt_zero j)), g2, g3, hv.2.1, hv.2.2⟩⟩, congrArg (List.cons _) ?_⟩
  exact (rfl).symm

set_option maxHeartbeats 4000000 in
set_option maxRecDepth 100000 in
theorem jl_read_ok {l : Launch} {D : va_G} {dA : Nat → ClassId} {zz : (Nat → Nat) × (Nat → Nat)} {A : Nat → Nat} {t r : List Nat} {sl : Nat → Option (js_J 32)} {pl : Int32} {X : va_W} (oa : Nat) (fo : Nat → Int64) (hlt : l.stackTraces = false) (hS : js_SW t r sl) (hX : CW dA A t r sl pl X) (k : Nat) (v : js_J 32) (hk : k < 8) (hrd : js_rd t = .inr v) : jl_W l D dA zz y_La_read b_La_read 4 [(0, 9, 12, 19), (0, 9, 15, 24)] [.ref (A 0), .int (nI k), .ref oa] oa fo X 0 (fun z => z = (nI (js_pr 32 v).length).toInt64) (CW dA A ([] : List Nat) r (jc_up sl k (some v)) (-1)) ∧ X[0]? = some (A 0, .inr (5, [.ref (A 1), .ref (A 3), .ref (A 5), .ref (A 22), .ref (A 31), .ref (A 39), .int pl])) := by
  obtain ⟨H, N, c0, pr0, ft, fr, Fs, F, rfl, g1, g2, g3, g4, g5⟩ := hX
  obtain ⟨z1, z2, z3⟩ := hS
  have hfin : js_run t 4097 0 0 [] [] [] = .inr (js_pr 32 v) := by rw [js_run_rd g1.by z1, hrd]
  have hM := (c_Sh_read_ok (l := l) (D := D) (dA := dA) (zz := zz) (A 0) (A 1) (A 3) (A 5) (A 22) (A 31) (A 39) pl (jc_fs A) (A 23) (A 25) (A 29) (A 30) (A 2) (A 24) (A 26) (A 27) (A 28) ft (F 24) (F 26) (F 27) (F 28) (F 29) (F 30) t pr0 c0 (N 1) (N 2) (N 3) (N 4) (A (6 + 2 * k)) (A (7 + 2 * k)) k (Fs k) (js_txt (sl k)) (js_pr 32 v) g1 z1 g4 g5 hk (jc_fs_at A hk) (js_txt_le (t := t) (r := r) z3 k) (g3 k hk) hfin).put (cW dA A t r sl pl H N c0 pr0 ft fr Fs F) [0, 5, 22, 1, 2, 23, 24, 25, 26, 27, 28, 29, 30, 6 + 2 * k, 7 + 2 * k] (jw_c rfl (jw_c rfl (jw_c rfl (jw_c rfl (jw_c rfl (jw_c rfl (jw_c rfl (jw_c rfl (jw_c rfl (jw_c rfl (jw_c rfl (jw_c rfl (jw_c rfl (jw_c (jc_h hk) (jw_c (jc_b hk) jw_n))))))))))))))) ((by decide +kernel : ∀ k, k < 8 → va_nd [0, 5, 22, 1, 2, 23, 24, 25, 26, 27, 28, 29, 30, 6 + 2 * k, 7 + 2 * k] = true) k hk) (fun _ => rfl)
  refine ⟨⟨_, _, _, (Nat.le_of_ble_eq_true rfl), (Nat.le_of_ble_eq_true rfl), (Nat.le_of_ble_eq_true rfl), (c_La_read_ok oa fo rfl hM).weak ?_⟩, rfl⟩
  rintro vR ⟨u, fo1⟩ ⟨rR, rfl, rfl, vR2, hv, hfo⟩
  refine ⟨(cW dA A ([] : List Nat) r (jc_up sl k (some v)) (-1) H (jc_up (jc_up (jc_up (jc_up N 1 u.1.1) 2 u.1.2.1) 3 u.1.2.2.1) 4 (-1)) u.1.2.2.2.1 (js_pr 32 v) ft fr (jc_up Fs k u.2) (jc_up (jc_up (jc_up (jc_up (jc_up (jc_up F 24 u.1.2.2.2.2.1) 26 u.1.2.2.2.2.2.1) 27 u.1.2.2.2.2.2.2.1) 28 u.1.2.2.2.2.2.2.2.1) 29 u.1.2.2.2.2.2.2.2.2.1) 30 u.1.2.2.2.2.2.2.2.2.2), fo1), ⟨_, rfl, rfl, fun z9 => by rw [hfo, hv.1], ⟨H, (jc_up (jc_up (jc_up (jc_up N 1 u.1.1) 2 u.1.2.1) 3 u.1.2.2.1) 4 (-1)), u.1.2.2.2.1, (js_pr 32 v), ft, fr, (jc_up Fs k u.2), (jc_up (jc_up (jc_up (jc_up (jc_up (jc_up F 24 u.1.2.2.2.2.1) 26 u.1.2.2.2.2.2.1) 27 u.1.2.2.2.2.2.2.1) 28 u.1.2.2.2.2.2.2.2.1) 29 u.1.2.2.2.2.2.2.2.2.1) 30 u.1.2.2.2.2.2.2.2.2.2), rfl, (fun j h => absurd h (Nat.not_lt_zero j)), g2, jc_up_tx g3 hv.2.2.2.2, hv.2.2.1, hv.2.2.2.1⟩⟩, congrArg (List.cons _) ?_⟩
  exact ((jc_new hk rfl)).symm
