set_option maxHeartbeats 4000000 in
set_option maxRecDepth 100000 in
theorem jl_same_x1 {l : Launch} {D : va_G} {dA : Nat → ClassId} {zz : (Nat → Nat) × (Nat → Nat)} {A : Nat → Nat} {t r : List Nat} {sl : Nat → Option (js_J 32)} {pl : Int32} {X : va_W} (oa : Nat) (fo : Nat → Int64) (hlt : l.stackTraces = false) (hS : js_SW t r sl) (hX : CW dA A t r sl pl X) (i j : Int32) (hb : i < 0 ∨ 8 ≤ i) : jl_W l D dA zz y_La_same b_La_same 5 [(0, 17, 20, 19), (0, 17, 24, 29)] [.ref (A 0), .int i, .int j, .ref oa] oa fo X 1 (fun z => True) (CW dA A t r sl pl) ∧ X[0]? = some (A 0, .inr (5, [.ref (A 1), .ref (A 3), .ref (A 5), .ref (A 22), .ref (A 31), .ref (A 39), .int pl])) := by
  obtain ⟨H, N, c0, pr0, ft, fr, Fs, F, rfl, g1, g2, g3, g4, g5⟩ := hX
  obtain ⟨z1, z2, z3⟩ := hS
  have hM := (c_Sh_same_no1 (l := l) (D := D) (dA := dA) (zz := zz) (A 0) (A 1) (A 3) (A 5) (A 22) (A 31) (A 39) pl (jc_fs A) i j hb hlt).put (cW dA A t r sl pl H N c0 pr0 ft fr Fs F) [0, 5] (jw_c rfl (jw_c rfl jw_n)) rfl (fun _ => rfl)
  refine ⟨⟨_, _, _, (Nat.le_of_ble_eq_true rfl), (Nat.le_of_ble_eq_true rfl), (Nat.le_of_ble_eq_true rfl), (c_La_same_x1 oa fo rfl hM).weak ?_⟩, rfl⟩
  rintro vR ⟨u, fo1⟩ ⟨rR, rfl, rfl, hv⟩
  refine ⟨(cW dA A t r sl pl H N c0 pr0 ft fr Fs F, fo1), ⟨_, rfl, rfl, fun z9 => absurd z9 (by decide), ⟨H, N, c0, pr0, ft, fr, Fs, F, rfl, g1, g2, g3, g4, g5⟩⟩, congrArg (List.cons _) ?_⟩
  exact (rfl).symm

set_option maxHeartbeats 4000000 in
set_option maxRecDepth 100000 in
theorem jl_same_x1b {l : Launch} {D : va_G} {dA : Nat → ClassId} {zz : (Nat → Nat) × (Nat → Nat)} {A : Nat → Nat} {t r : List Nat} {sl : Nat → Option (js_J 32)} {pl : Int32} {X : va_W} (oa : Nat) (fo : Nat → Int64) (hlt : l.stackTraces = false) (hS : js_SW t r sl) (hX : CW dA A t r sl pl X) (k : Nat) (j : Int32) (hk : k < 8) (hb : j < 0 ∨ 8 ≤ j) : jl_W l D dA zz y_La_same b_La_same 5 [(0, 17, 20, 19), (0, 17, 24, 29)] [.ref (A 0), .int (nI k), .int j, .ref oa] oa fo X 1 (fun z => True) (CW dA A t r sl pl) ∧ X[0]? = some (A 0, .inr (5, [.ref (A 1), .ref (A 3), .ref (A 5), .ref (A 22), .ref (A 31), .ref (A 39), .int pl])) := by
  obtain ⟨H, N, c0, pr0, ft, fr, Fs, F, rfl, g1, g2, g3, g4, g5⟩ := hX
  obtain ⟨z1, z2, z3⟩ := hS
  have hM := (c_Sh_same_no1b (l := l) (D := D) (dA := dA) (zz := zz) (A 0) (A 1) (A 3) (A 5) (A 22) (A 31) (A 39) pl (jc_fs A) (A (6 + 2 * k)) k j hk (jc_fs_at A hk) hb hlt).put (cW dA A t r sl pl H N c0 pr0 ft fr Fs F) [0, 5] (jw_c rfl (jw_c rfl jw_n)) rfl (fun _ => rfl)
  refine ⟨⟨_, _, _, (Nat.le_of_ble_eq_true rfl), (Nat.le_of_ble_eq_true rfl), (Nat.le_of_ble_eq_true rfl), (c_La_same_x1 oa fo rfl hM).weak ?_⟩, rfl⟩
  rintro vR ⟨u, fo1⟩ ⟨rR, rfl, rfl, hv⟩
  refine ⟨(cW dA A t r sl pl H N c0 pr0 ft fr Fs F, fo1), ⟨_, rfl, rfl, fun z9 => absurd z9 (by decide), ⟨H, N, c0, pr0, ft, fr, Fs, F, rfl, g1, g2, g3, g4, g5⟩⟩, congrArg (List.cons _) ?_⟩
  exact (rfl).symm

set_option maxHeartbeats 4000000 in
set_option maxRecDepth 100000 in
theorem jl_same_x2 {l : Launch} {D : va_G} {dA : Nat → ClassId} {zz : (Nat → Nat) × (Nat → Nat)} {A : Nat → Nat} {t r : List Nat} {sl : Nat → Option (js_J 32)} {pl : Int32} {X : va_W} (oa : Nat) (fo : Nat → Int64) (hlt : l.stackTraces = false) (hS : js_SW t r sl) (hX : CW dA A t r sl pl X) (k k2 : Nat) (hk : k < 8) (hk2 : k2 < 8) (hsk : sl k = none) : jl_W l D dA zz y_La_same b_La_same 5 [(0, 17, 20, 19), (0, 17, 24, 29)] [.ref (A 0), .int (nI k), .int (nI k2), .ref oa] oa fo X 2 (fun z => True) (CW dA A t r sl pl) ∧ X[0]? = some (A 0, .inr (5, [.ref (A 1), .ref (A 3), .ref (A 5), .ref (A 22), .ref (A 31), .ref (A 39), .int pl])) := by
  obtain ⟨H, N, c0, pr0, ft, fr, Fs, F, rfl, g1, g2, g3, g4, g5⟩ := hX
  obtain ⟨z1, z2, z3⟩ := hS
  have hM := (c_Sh_same_no2 (l := l) (D := D) (dA := dA) (zz := zz) (A 0) (A 1) (A 3) (A 5) (A 22) (A 31) (A 39) pl (jc_fs A) (A (6 + 2 * k)) (A (7 + 2 * k)) k (A (6 + 2 * k2)) k2 (Fs k) hk (jc_fs_at A hk) hk2 (jc_fs_at A hk2) hlt).put (cW dA A t r sl pl H N c0 pr0 ft fr Fs F) [0, 5, 6 + 2 * k, 7 + 2 * k] (jw_c rfl (jw_c rfl (jw_c (jc_h0 hk hsk) (jw_c (jc_b hk) jw_n)))) ((by decide +kernel : ∀ k, k < 8 → va_nd [0, 5, 6 + 2 * k, 7 + 2 * k] = true) k hk) (fun _ => rfl)
  refine ⟨⟨_, _, _, (Nat.le_of_ble_eq_true rfl), (Nat.le_of_ble_eq_true rfl), (Nat.le_of_ble_eq_true rfl), (c_La_same_x2 oa fo rfl hM).weak ?_⟩, rfl⟩
  rintro vR ⟨u, fo1⟩ ⟨rR, rfl, rfl, hv⟩
  refine ⟨(cW dA A t r sl pl H N c0 pr0 ft fr Fs F, fo1), ⟨_, rfl, rfl, fun z9 => absurd z9 (by decide), ⟨H, N, c0, pr0, ft, fr, Fs, F, rfl, g1, g2, g3, g4, g5⟩⟩, congrArg (List.cons _) ?_⟩
  exact ((jc_keep0 hk hsk)).symm

set_option maxHeartbeats 4000000 in
set_option maxRecDepth 100000 in
theorem jl_same_x2b {l : Launch} {D : va_G} {dA : Nat → ClassId} {zz : (Nat → Nat) × (Nat → Nat)} {A : Nat → Nat} {t r : List Nat} {sl : Nat → Option (js_J 32)} {pl : Int32} {X : va_W} (oa : Nat) (fo : Nat → Int64) (hlt : l.stackTraces = false) (hS : js_SW t r sl) (hX : CW dA A t r sl pl X) (k k2 : Nat) (v : js_J 32) (hk : k < 8) (hk2 : k2 < 8) (hs : sl k = some v) (hsk2 : sl k2 = none) (hne : k ≠ k2) : jl_W l D dA zz y_La_same b_La_same 5 [(0, 17, 20, 19), (0, 17, 24, 29)] [.ref (A 0), .int (nI k), .int (nI k2), .ref oa] oa fo X 2 (fun z => True) (CW dA A t r sl pl) ∧ X[0]? = some (A 0, .inr (5, [.ref (A 1), .ref (A 3), .ref (A 5), .ref (A 22), .ref (A 31), .ref (A 39), .int pl])) := by
  obtain ⟨H, N, c0, pr0, ft, fr, Fs, F, rfl, g1, g2, g3, g4, g5⟩ := hX
  obtain ⟨z1, z2, z3⟩ := hS
  have ek : js_txt (sl k) = js_pr 32 v := by rw [hs]; rfl
  obtain ⟨ok1, ol1⟩ := z3 k v hs
  have op1 := js_pr_pos ok1
  have hl : (js_txt (sl k)).length ≤ 4096 := by rw [ek]; exact ol1
  have h0 : 0 < (js_txt (sl k)).length := by rw [ek]; exact op1
  have hM := (c_Sh_same_no2b (l := l) (D := D) (dA := dA) (zz := zz) (A 0) (A 1) (A 3) (A 5) (A 22) (A 31) (A 39) pl (jc_fs A) (A (6 + 2 * k)) (A (7 + 2 * k)) k (A (6 + 2 * k2)) (A (7 + 2 * k2)) k2 (Fs k) (Fs k2) (js_txt (sl k)) hk (jc_fs_at A hk) hk2 (jc_fs_at A hk2) h0 hl hlt).put (cW dA A t r sl pl H N c0 pr0 ft fr Fs F) [0, 5, 6 + 2 * k, 7 + 2 * k, 6 + 2 * k2, 7 + 2 * k2] (jw_c rfl (jw_c rfl (jw_c (jc_h hk) (jw_c (jc_b hk) (jw_c (jc_h0 hk2 hsk2) (jw_c (jc_b hk2) jw_n)))))) ((by decide +kernel : ∀ k, k < 8 → ∀ k2, k2 < 8 → k ≠ k2 → va_nd [0, 5, 6 + 2 * k, 7 + 2 * k, 6 + 2 * k2, 7 + 2 * k2] = true) k hk k2 hk2 hne) (fun _ => rfl)
  refine ⟨⟨_, _, _, (Nat.le_of_ble_eq_true rfl), (Nat.le_of_ble_eq_true rfl), (Nat.le_of_ble_eq_true rfl), (c_La_same_x2 oa fo rfl hM).weak ?_⟩, rfl⟩
  rintro vR ⟨u, fo1⟩ ⟨rR, rfl, rfl, hv⟩
  refine ⟨(cW dA A t r sl pl H N c0 pr0 ft fr Fs F, fo1), ⟨_, rfl, rfl, fun z9 => absurd z9 (by decide), ⟨H, N, c0, pr0, ft, fr, Fs, F, rfl, g1, g2, g3, g4, g5⟩⟩, congrArg (List.cons _) ?_⟩
  exact ((jc_keep20 hk hk2 hsk2)).symm

set_option maxHeartbeats 4000000 in
set_option maxRecDepth 100000 in
theorem jl_same_ok {l : Launch} {D : va_G} {dA : Nat → ClassId} {zz : (Nat → Nat) × (Nat → Nat)} {A : Nat → Nat} {t r : List Nat} {sl : Nat → Option (js_J 32)} {pl : Int32} {X : va_W} (oa : Nat) (fo : Nat → Int64) (hlt : l.stackTraces = false) (hS : js_SW t r sl) (hX : CW dA A t r sl pl X) (k k2 : Nat) (v w : js_J 32) (hk : k < 8) (hk2 : k2 < 8) (hs : sl k = some v) (hs2 : sl k2 = some w) (hne : k ≠ k2) : jl_W l D dA zz y_La_same b_La_same 5 [(0, 17, 20, 19), (0, 17, 24, 29)] [.ref (A 0), .int (nI k), .int (nI k2), .ref oa] oa fo X 0 (fun z => (js_same 32 v w ∧ z = 1) ∨ (¬ js_same 32 v w ∧ z = 0)) (CW dA A t r sl pl) ∧ X[0]? = some (A 0, .inr (5, [.ref (A 1), .ref (A 3), .ref (A 5), .ref (A 22), .ref (A 31), .ref (A 39), .int pl])) := by
  obtain ⟨H, N, c0, pr0, ft, fr, Fs, F, rfl, g1, g2, g3, g4, g5⟩ := hX
  obtain ⟨z1, z2, z3⟩ := hS
  have ek : js_txt (sl k) = js_pr 32 v := by rw [hs]; rfl
  obtain ⟨ok1, ol1⟩ := z3 k v hs
  have op1 := js_pr_pos ok1
  have hl : (js_txt (sl k)).length ≤ 4096 := by rw [ek]; exact ol1
  have h0 : 0 < (js_txt (sl k)).length := by rw [ek]; exact op1
  obtain ⟨vs, hd, hOR, hvl⟩ := js_outline ok1 ol1
  have hv0 : 0 < vs.length := by rw [hvl]; exact js_cnt_pos 32 v
  rw [← ek] at hd hOR
  have ek2 : js_txt (sl k2) = js_pr 32 w := by rw [hs2]; rfl
  obtain ⟨ok2, ol2⟩ := z3 k2 w hs2
  have op2 := js_pr_pos ok2
  have hl2 : (js_txt (sl k2)).length ≤ 4096 := by rw [ek2]; exact ol2
  have h02 : 0 < (js_txt (sl k2)).length := by rw [ek2]; exact op2
  obtain ⟨vt, hd2, hOR2, hvl2⟩ := js_outline ok2 ol2
  rw [← ek2] at hd2 hOR2
  have hM := (c_Sh_same_ok (l := l) (D := D) (dA := dA) (zz := zz) (A 0) (A 1) (A 3) (A 5) (A 22) (A 31) (A 39) pl (jc_fs A) (A (6 + 2 * k)) (A (7 + 2 * k)) (Fs k) (js_txt (sl k)) k (A (6 + 2 * k2)) (A (7 + 2 * k2)) (Fs k2) (js_txt (sl k2)) k2 (A 40) (A 32) (A 33) (A 34) (A 35) (A 36) (A 37) (A 38) (F 32) (F 33) (F 34) (F 35) (F 36) (F 37) (F 38) (N 5) (N 6) (N 7) (A 41) (A 42) (A 43) (A 44) (A 45) (A 46) (A 47) (F 41) (F 42) (F 43) (F 44) (F 45) (F 46) (F 47) (N 8) (N 9) (N 10) (H 0) (H 1) vs vt [] [] (js_dep 32 v) (js_dep 32 w) v w hl (g3 k hk) hk (jc_fs_at A hk) h0 hl2 (g3 k2 hk2) hk2 (jc_fs_at A hk2) h02 hd hd2 hOR hOR2 (js_dist_ok ok2)).put (cW dA A t r sl pl H N c0 pr0 ft fr Fs F) [0, 5, 39, 31, 32, 33, 34, 35, 36, 37, 38, 40, 41, 42, 43, 44, 45, 46, 47, 6 + 2 * k, 7 + 2 * k, 6 + 2 * k2, 7 + 2 * k2] (jw_c rfl (jw_c rfl (jw_c rfl (jw_c rfl (jw_c rfl (jw_c rfl (jw_c rfl (jw_c rfl (jw_c rfl (jw_c rfl (jw_c rfl (jw_c rfl (jw_c rfl (jw_c rfl (jw_c rfl (jw_c rfl (jw_c rfl (jw_c rfl (jw_c rfl (jw_c (jc_h hk) (jw_c (jc_b hk) (jw_c (jc_h hk2) (jw_c (jc_b hk2) jw_n))))))))))))))))))))))) ((by decide +kernel : ∀ k, k < 8 → ∀ k2, k2 < 8 → k ≠ k2 → va_nd [0, 5, 39, 31, 32, 33, 34, 35, 36, 37, 38, 40, 41, 42, 43, 44, 45, 46, 47, 6 + 2 * k, 7 + 2 * k, 6 + 2 * k2, 7 + 2 * k2] = true) k hk k2 hk2 hne) (fun _ => rfl)
  refine ⟨⟨_, _, _, (Nat.le_of_ble_eq_true rfl), (Nat.le_of_ble_eq_true rfl), (Nat.le_of_ble_eq_true rfl), (c_La_same_ok oa fo rfl hM).weak ?_⟩, rfl⟩
  rintro vR ⟨u, fo1⟩ ⟨rR, rfl, rfl, vR2, hv, hfo⟩
  refine ⟨(cW dA A t r sl pl (jc_up (jc_up H 0 (A (6 + 2 * k))) 1 (A (6 + 2 * k2))) (jc_up (jc_up (jc_up (jc_up (jc_up (jc_up N 5 (nI vs.length)) 6 (nI ([] : List Nat).length)) 7 (nI (js_dep 32 v))) 8 (nI vt.length)) 9 (nI ([] : List Nat).length)) 10 (nI (js_dep 32 w))) c0 pr0 ft fr Fs (jc_up (jc_up (jc_up (jc_up (jc_up (jc_up (jc_up (jc_up (jc_up (jc_up (jc_up (jc_up (jc_up (jc_up F 32 u.1.1) 33 u.1.2.1) 34 u.1.2.2.1) 35 u.1.2.2.2.1) 36 u.1.2.2.2.2.1) 37 u.1.2.2.2.2.2.1) 38 u.1.2.2.2.2.2.2) 41 u.2.1) 42 u.2.2.1) 43 u.2.2.2.1) 44 u.2.2.2.2.1) 45 u.2.2.2.2.2.1) 46 u.2.2.2.2.2.2.1) 47 u.2.2.2.2.2.2.2), fo1), ⟨_, rfl, rfl, fun z9 => (by
    rw [hfo]
    rcases js_bool_c hv with ⟨e, h⟩ | ⟨e, h⟩
    · exact Or.inl ⟨h, by rw [e]; rfl⟩
    · exact Or.inr ⟨h, by rw [e]; rfl⟩), ⟨(jc_up (jc_up H 0 (A (6 + 2 * k))) 1 (A (6 + 2 * k2))), (jc_up (jc_up (jc_up (jc_up (jc_up (jc_up N 5 (nI vs.length)) 6 (nI ([] : List Nat).length)) 7 (nI (js_dep 32 v))) 8 (nI vt.length)) 9 (nI ([] : List Nat).length)) 10 (nI (js_dep 32 w))), c0, pr0, ft, fr, Fs, (jc_up (jc_up (jc_up (jc_up (jc_up (jc_up (jc_up (jc_up (jc_up (jc_up (jc_up (jc_up (jc_up (jc_up F 32 u.1.1) 33 u.1.2.1) 34 u.1.2.2.1) 35 u.1.2.2.2.1) 36 u.1.2.2.2.2.1) 37 u.1.2.2.2.2.2.1) 38 u.1.2.2.2.2.2.2) 41 u.2.1) 42 u.2.2.1) 43 u.2.2.2.1) 44 u.2.2.2.2.1) 45 u.2.2.2.2.2.1) 46 u.2.2.2.2.2.2.1) 47 u.2.2.2.2.2.2.2), rfl, g1, g2, g3, g4, g5⟩⟩, congrArg (List.cons _) ?_⟩
  exact (jc_same2 hk hk2 _ _ _ _ _ _ _ _ _ _ _ _ _ _ _ _ _ _ _ _ _ _).symm

set_option maxHeartbeats 4000000 in
set_option maxRecDepth 100000 in
theorem jl_same_oks {l : Launch} {D : va_G} {dA : Nat → ClassId} {zz : (Nat → Nat) × (Nat → Nat)} {A : Nat → Nat} {t r : List Nat} {sl : Nat → Option (js_J 32)} {pl : Int32} {X : va_W} (oa : Nat) (fo : Nat → Int64) (hlt : l.stackTraces = false) (hS : js_SW t r sl) (hX : CW dA A t r sl pl X) (k : Nat) (v : js_J 32) (hk : k < 8) (hs : sl k = some v) : jl_W l D dA zz y_La_same b_La_same 5 [(0, 17, 20, 19), (0, 17, 24, 29)] [.ref (A 0), .int (nI k), .int (nI k), .ref oa] oa fo X 0 (fun z => (js_same 32 v v ∧ z = 1) ∨ (¬ js_same 32 v v ∧ z = 0)) (CW dA A t r sl pl) ∧ X[0]? = some (A 0, .inr (5, [.ref (A 1), .ref (A 3), .ref (A 5), .ref (A 22), .ref (A 31), .ref (A 39), .int pl])) := by
  obtain ⟨H, N, c0, pr0, ft, fr, Fs, F, rfl, g1, g2, g3, g4, g5⟩ := hX
  obtain ⟨z1, z2, z3⟩ := hS
  have ek : js_txt (sl k) = js_pr 32 v := by rw [hs]; rfl
  obtain ⟨ok1, ol1⟩ := z3 k v hs
  have op1 := js_pr_pos ok1
  have hl : (js_txt (sl k)).length ≤ 4096 := by rw [ek]; exact ol1
  have h0 : 0 < (js_txt (sl k)).length := by rw [ek]; exact op1
  obtain ⟨vs, hd, hOR, hvl⟩ := js_outline ok1 ol1
  have hv0 : 0 < vs.length := by rw [hvl]; exact js_cnt_pos 32 v
  rw [← ek] at hd hOR
  have hM := (c_Sh_same_oks (l := l) (D := D) (dA := dA) (zz := zz) (A 0) (A 1) (A 3) (A 5) (A 22) (A 31) (A 39) pl (jc_fs A) (A (6 + 2 * k)) (A (7 + 2 * k)) (Fs k) (js_txt (sl k)) k (A 40) (A 32) (A 33) (A 34) (A 35) (A 36) (A 37) (A 38) (F 32) (F 33) (F 34) (F 35) (F 36) (F 37) (F 38) (N 5) (N 6) (N 7) (A 41) (A 42) (A 43) (A 44) (A 45) (A 46) (A 47) (F 41) (F 42) (F 43) (F 44) (F 45) (F 46) (F 47) (N 8) (N 9) (N 10) (H 0) (H 1) vs vs [] [] (js_dep 32 v) (js_dep 32 v) v v hl (g3 k hk) hk (jc_fs_at A hk) h0 hd hd hOR hOR (js_dist_ok ok1)).put (cW dA A t r sl pl H N c0 pr0 ft fr Fs F) [0, 5, 39, 31, 32, 33, 34, 35, 36, 37, 38, 40, 41, 42, 43, 44, 45, 46, 47, 6 + 2 * k, 7 + 2 * k] (jw_c rfl (jw_c rfl (jw_c rfl (jw_c rfl (jw_c rfl (jw_c rfl (jw_c rfl (jw_c rfl (jw_c rfl (jw_c rfl (jw_c rfl (jw_c rfl (jw_c rfl (jw_c rfl (jw_c rfl (jw_c rfl (jw_c rfl (jw_c rfl (jw_c rfl (jw_c (jc_h hk) (jw_c (jc_b hk) jw_n))))))))))))))))))))) ((by decide +kernel : ∀ k, k < 8 → va_nd [0, 5, 39, 31, 32, 33, 34, 35, 36, 37, 38, 40, 41, 42, 43, 44, 45, 46, 47, 6 + 2 * k, 7 + 2 * k] = true) k hk) (fun _ => rfl)
  refine ⟨⟨_, _, _, (Nat.le_of_ble_eq_true rfl), (Nat.le_of_ble_eq_true rfl), (Nat.le_of_ble_eq_true rfl), (c_La_same_ok oa fo rfl hM).weak ?_⟩, rfl⟩
  rintro vR ⟨u, fo1⟩ ⟨rR, rfl, rfl, vR2, hv, hfo⟩
  refine ⟨(cW dA A t r sl pl (jc_up (jc_up H 0 (A (6 + 2 * k))) 1 (A (6 + 2 * k))) (jc_up (jc_up (jc_up (jc_up (jc_up (jc_up N 5 (nI vs.length)) 6 (nI ([] : List Nat).length)) 7 (nI (js_dep 32 v))) 8 (nI vs.length)) 9 (nI ([] : List Nat).length)) 10 (nI (js_dep 32 v))) c0 pr0 ft fr Fs (jc_up (jc_up (jc_up (jc_up (jc_up (jc_up (jc_up (jc_up (jc_up (jc_up (jc_up (jc_up (jc_up (jc_up F 32 u.1.1) 33 u.1.2.1) 34 u.1.2.2.1) 35 u.1.2.2.2.1) 36 u.1.2.2.2.2.1) 37 u.1.2.2.2.2.2.1) 38 u.1.2.2.2.2.2.2) 41 u.2.1) 42 u.2.2.1) 43 u.2.2.2.1) 44 u.2.2.2.2.1) 45 u.2.2.2.2.2.1) 46 u.2.2.2.2.2.2.1) 47 u.2.2.2.2.2.2.2), fo1), ⟨_, rfl, rfl, fun z9 => (by
    rw [hfo]
    rcases js_bool_c hv with ⟨e, h⟩ | ⟨e, h⟩
    · exact Or.inl ⟨h, by rw [e]; rfl⟩
    · exact Or.inr ⟨h, by rw [e]; rfl⟩), ⟨(jc_up (jc_up H 0 (A (6 + 2 * k))) 1 (A (6 + 2 * k))), (jc_up (jc_up (jc_up (jc_up (jc_up (jc_up N 5 (nI vs.length)) 6 (nI ([] : List Nat).length)) 7 (nI (js_dep 32 v))) 8 (nI vs.length)) 9 (nI ([] : List Nat).length)) 10 (nI (js_dep 32 v))), c0, pr0, ft, fr, Fs, (jc_up (jc_up (jc_up (jc_up (jc_up (jc_up (jc_up (jc_up (jc_up (jc_up (jc_up (jc_up (jc_up (jc_up F 32 u.1.1) 33 u.1.2.1) 34 u.1.2.2.1) 35 u.1.2.2.2.1) 36 u.1.2.2.2.2.1) 37 u.1.2.2.2.2.2.1) 38 u.1.2.2.2.2.2.2) 41 u.2.1) 42 u.2.2.1) 43 u.2.2.2.1) 44 u.2.2.2.2.1) 45 u.2.2.2.2.2.1) 46 u.2.2.2.2.2.2.1) 47 u.2.2.2.2.2.2.2), rfl, g1, g2, g3, g4, g5⟩⟩, congrArg (List.cons _) ?_⟩
  exact (jc_same1 hk _ _ _ _ _ _ _ _ _ _ _ _ _ _ _ _ _ _ _ _ _ _).symm
