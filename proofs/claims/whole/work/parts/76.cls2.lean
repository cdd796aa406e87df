theorem c_Sh_about_3 {l : Launch} {D : va_G} {dA : Nat → ClassId} {zz : (Nat → Nat) × (Nat → Nat)} (x tp rs sl rd ol cp : Nat) (pl : Int32) (fs : Nat → Option Nat) (h b : Nat) (f : Nat → Int32) (t : List Nat) (k : Nat) (hl : t.length ≤ 4096) (ht : js_tx f t) (hk : k < 8) (hh : fs k = some h) (h1 : 0 < t.length) : jv_M l D dA zz y_Sh_about b_Sh_about 5 (some (FieldType.long)) 5 [.ref x, .int (nI k), .int 3] [(x, .inr (5, [.ref tp, .ref rs, .ref sl, .ref rd, .ref ol, .ref cp, .int pl])), (sl, .inl (dA 5, 8, .inr (.inr (.inr (.inr fs))))), (h, .inr (0, [.ref b, .int (nI t.length)])), (b, .inl (dA 0, 4096, .inl f))] (jv_pl fun r (_ : Unit) => r = js_nof t) (fun _ => [(x, .inr (5, [.ref tp, .ref rs, .ref sl, .ref rd, .ref ol, .ref cp, .int pl])), (sl, .inl (dA 5, 8, .inr (.inr (.inr (.inr fs))))), (h, .inr (0, [.ref b, .int (nI t.length)])), (b, .inl (dA 0, 4096, .inl f))]) 0 0 := by
  by_cases h3 : js_kd (js_b t 0) = 3
  · by_cases h45 : js_b t 0 = 45
    · exact c_Sh_about_3neg x tp rs sl rd ol cp pl fs h b f t k hl ht hk hh h1 h3 h45
    · exact c_Sh_about_3pos x tp rs sl rd ol cp pl fs h b f t k hl ht hk hh h1 h3 h45
  · exact c_Sh_about_3no x tp rs sl rd ol cp pl fs h b f t k hl ht hk hh h1 h3
theorem js_b34 {v : js_J 32} (ok : js_ok 32 v) (h : ¬ js_kn 32 v = 4) (h7 : js_kn 32 v < 7) : ¬ js_b (js_pr 32 v) 0 = 34 := by
  intro z
  have h1 := js_kd_v ok []
  rw [List.append_nil, z] at h1
  have h2 : nI 4 = nI (js_kn 32 v) := (show js_kd 34 = nI 4 by decide) ▸ h1
  exact h ((nI_eq (by decide) (by omega)).mp h2).symm
theorem js_txt_le {t r : List Nat} {sl : Nat → Option (js_J 32)} (z3 : ∀ k v, sl k = some v → js_ok 32 v ∧ (js_pr 32 v).length ≤ 4096) (k : Nat) : (js_txt (sl k)).length ≤ 4096 := by
  cases h : sl k with
  | none => exact Nat.zero_le _
  | some v => exact (z3 k v h).2

set_option maxHeartbeats 4000000 in
set_option maxRecDepth 100000 in
theorem jl_about_x1 {l : Launch} {D : va_G} {dA : Nat → ClassId} {zz : (Nat → Nat) × (Nat → Nat)} {A : Nat → Nat} {t r : List Nat} {sl : Nat → Option (js_J 32)} {pl : Int32} {X : va_W} (oa : Nat) (fo : Nat → Int64) (hlt : l.stackTraces = false) (hS : js_SW t r sl) (hX : CW dA A t r sl pl X) (i w : Int32) (hb : i < 0 ∨ 8 ≤ i) : jl_W l D dA zz y_La_about b_La_about 5 [(0, 9, 12, 19), (0, 9, 16, 29)] [.ref (A 0), .int i, .int w, .ref oa] oa fo X 1 (fun z => True) (CW dA A t r sl pl) ∧ X[0]? = some (A 0, .inr (5, [.ref (A 1), .ref (A 3), .ref (A 5), .ref (A 22), .ref (A 31), .ref (A 39), .int pl])) := by
  obtain ⟨H, N, c0, pr0, ft, fr, Fs, F, rfl, g1, g2, g3, g4, g5⟩ := hX
  obtain ⟨z1, z2, z3⟩ := hS
  have hM := (c_Sh_about_no1 (l := l) (D := D) (dA := dA) (zz := zz) (A 0) (A 1) (A 3) (A 5) (A 22) (A 31) (A 39) pl (jc_fs A) i w hb hlt).put (cW dA A t r sl pl H N c0 pr0 ft fr Fs F) [0, 5] (jw_c rfl (jw_c rfl jw_n)) rfl (fun _ => rfl)
  refine ⟨⟨_, _, _, (Nat.le_of_ble_eq_true rfl), (Nat.le_of_ble_eq_true rfl), (Nat.le_of_ble_eq_true rfl), (c_La_about_x1 oa fo rfl hM).weak ?_⟩, rfl⟩
  rintro vR ⟨u, fo1⟩ ⟨rR, rfl, rfl, hv⟩
  refine ⟨(cW dA A t r sl pl H N c0 pr0 ft fr Fs F, fo1), ⟨_, rfl, rfl, fun z9 => absurd z9 (by decide), ⟨H, N, c0, pr0, ft, fr, Fs, F, rfl, g1, g2, g3, g4, g5⟩⟩, congrArg (List.cons _) ?_⟩
  exact (rfl).symm

set_option maxHeartbeats 4000000 in
set_option maxRecDepth 100000 in
theorem jl_about_x1b {l : Launch} {D : va_G} {dA : Nat → ClassId} {zz : (Nat → Nat) × (Nat → Nat)} {A : Nat → Nat} {t r : List Nat} {sl : Nat → Option (js_J 32)} {pl : Int32} {X : va_W} (oa : Nat) (fo : Nat → Int64) (hlt : l.stackTraces = false) (hS : js_SW t r sl) (hX : CW dA A t r sl pl X) (k : Nat) (w : Int32) (hk : k < 8) (hb : w < 0 ∨ 3 < w) : jl_W l D dA zz y_La_about b_La_about 5 [(0, 9, 12, 19), (0, 9, 16, 29)] [.ref (A 0), .int (nI k), .int w, .ref oa] oa fo X 1 (fun z => True) (CW dA A t r sl pl) ∧ X[0]? = some (A 0, .inr (5, [.ref (A 1), .ref (A 3), .ref (A 5), .ref (A 22), .ref (A 31), .ref (A 39), .int pl])) := by
  obtain ⟨H, N, c0, pr0, ft, fr, Fs, F, rfl, g1, g2, g3, g4, g5⟩ := hX
  obtain ⟨z1, z2, z3⟩ := hS
  have hM := (c_Sh_about_no1b (l := l) (D := D) (dA := dA) (zz := zz) (A 0) (A 1) (A 3) (A 5) (A 22) (A 31) (A 39) pl (jc_fs A) (A (6 + 2 * k)) k w hk (jc_fs_at A hk) hb hlt).put (cW dA A t r sl pl H N c0 pr0 ft fr Fs F) [0, 5] (jw_c rfl (jw_c rfl jw_n)) rfl (fun _ => rfl)
  refine ⟨⟨_, _, _, (Nat.le_of_ble_eq_true rfl), (Nat.le_of_ble_eq_true rfl), (Nat.le_of_ble_eq_true rfl), (c_La_about_x1 oa fo rfl hM).weak ?_⟩, rfl⟩
  rintro vR ⟨u, fo1⟩ ⟨rR, rfl, rfl, hv⟩
  refine ⟨(cW dA A t r sl pl H N c0 pr0 ft fr Fs F, fo1), ⟨_, rfl, rfl, fun z9 => absurd z9 (by decide), ⟨H, N, c0, pr0, ft, fr, Fs, F, rfl, g1, g2, g3, g4, g5⟩⟩, congrArg (List.cons _) ?_⟩
  exact (rfl).symm

set_option maxHeartbeats 4000000 in
set_option maxRecDepth 100000 in
theorem jl_about_x2 {l : Launch} {D : va_G} {dA : Nat → ClassId} {zz : (Nat → Nat) × (Nat → Nat)} {A : Nat → Nat} {t r : List Nat} {sl : Nat → Option (js_J 32)} {pl : Int32} {X : va_W} (oa : Nat) (fo : Nat → Int64) (hlt : l.stackTraces = false) (hS : js_SW t r sl) (hX : CW dA A t r sl pl X) (k : Nat) (w : Int32) (hk : k < 8) (hsk : sl k = none) (hw0 : ¬ w < 0) (hw3 : w ≤ 3) : jl_W l D dA zz y_La_about b_La_about 5 [(0, 9, 12, 19), (0, 9, 16, 29)] [.ref (A 0), .int (nI k), .int w, .ref oa] oa fo X 2 (fun z => True) (CW dA A t r sl pl) ∧ X[0]? = some (A 0, .inr (5, [.ref (A 1), .ref (A 3), .ref (A 5), .ref (A 22), .ref (A 31), .ref (A 39), .int pl])) := by
  obtain ⟨H, N, c0, pr0, ft, fr, Fs, F, rfl, g1, g2, g3, g4, g5⟩ := hX
  obtain ⟨z1, z2, z3⟩ := hS
  have hM := (c_Sh_about_no2 (l := l) (D := D) (dA := dA) (zz := zz) (A 0) (A 1) (A 3) (A 5) (A 22) (A 31) (A 39) pl (jc_fs A) (A (6 + 2 * k)) (A (7 + 2 * k)) k (Fs k) w hk (jc_fs_at A hk) hw0 hw3 hlt).put (cW dA A t r sl pl H N c0 pr0 ft fr Fs F) [0, 5, 6 + 2 * k, 7 + 2 * k] (jw_c rfl (jw_c rfl (jw_c (jc_h0 hk hsk) (jw_c (jc_b hk) jw_n)))) ((by decide +kernel : ∀ k, k < 8 → va_nd [0, 5, 6 + 2 * k, 7 + 2 * k] = true) k hk) (fun _ => rfl)
  refine ⟨⟨_, _, _, (Nat.le_of_ble_eq_true rfl), (Nat.le_of_ble_eq_true rfl), (Nat.le_of_ble_eq_true rfl), (c_La_about_x2 oa fo rfl hM).weak ?_⟩, rfl⟩
  rintro vR ⟨u, fo1⟩ ⟨rR, rfl, rfl, hv⟩
  refine ⟨(cW dA A t r sl pl H N c0 pr0 ft fr Fs F, fo1), ⟨_, rfl, rfl, fun z9 => absurd z9 (by decide), ⟨H, N, c0, pr0, ft, fr, Fs, F, rfl, g1, g2, g3, g4, g5⟩⟩, congrArg (List.cons _) ?_⟩
  exact ((jc_keep0 hk hsk)).symm

set_option maxHeartbeats 4000000 in
set_option maxRecDepth 100000 in
theorem jl_about_0 {l : Launch} {D : va_G} {dA : Nat → ClassId} {zz : (Nat → Nat) × (Nat → Nat)} {A : Nat → Nat} {t r : List Nat} {sl : Nat → Option (js_J 32)} {pl : Int32} {X : va_W} (oa : Nat) (fo : Nat → Int64) (hlt : l.stackTraces = false) (hS : js_SW t r sl) (hX : CW dA A t r sl pl X) (k : Nat) (v : js_J 32) (hk : k < 8) (hs : sl k = some v) : jl_W l D dA zz y_La_about b_La_about 5 [(0, 9, 12, 19), (0, 9, 16, 29)] [.ref (A 0), .int (nI k), .int 0, .ref oa] oa fo X 0 (fun z => z = (nI (js_kn 32 v)).toInt64) (CW dA A t r sl pl) ∧ X[0]? = some (A 0, .inr (5, [.ref (A 1), .ref (A 3), .ref (A 5), .ref (A 22), .ref (A 31), .ref (A 39), .int pl])) := by
  obtain ⟨H, N, c0, pr0, ft, fr, Fs, F, rfl, g1, g2, g3, g4, g5⟩ := hX
  obtain ⟨z1, z2, z3⟩ := hS
  have ek : js_txt (sl k) = js_pr 32 v := by rw [hs]; rfl
  obtain ⟨ok1, ol1⟩ := z3 k v hs
  have op1 := js_pr_pos ok1
  have hl : (js_txt (sl k)).length ≤ 4096 := by rw [ek]; exact ol1
  have h0 : 0 < (js_txt (sl k)).length := by rw [ek]; exact op1
  have hkd : js_kd (js_b (js_txt (sl k)) 0) = nI (js_kn 32 v) := by
    have h9 := js_kd_v ok1 []
    rw [List.append_nil] at h9
    rw [ek]
    exact h9
  have hM := (c_Sh_about_0 (l := l) (D := D) (dA := dA) (zz := zz) (A 0) (A 1) (A 3) (A 5) (A 22) (A 31) (A 39) pl (jc_fs A) (A (6 + 2 * k)) (A (7 + 2 * k)) (Fs k) (js_txt (sl k)) k hl (g3 k hk) hk (jc_fs_at A hk) h0).put (cW dA A t r sl pl H N c0 pr0 ft fr Fs F) [0, 5, 6 + 2 * k, 7 + 2 * k] (jw_c rfl (jw_c rfl (jw_c (jc_h hk) (jw_c (jc_b hk) jw_n)))) ((by decide +kernel : ∀ k, k < 8 → va_nd [0, 5, 6 + 2 * k, 7 + 2 * k] = true) k hk) (fun _ => rfl)
  refine ⟨⟨_, _, _, (Nat.le_of_ble_eq_true rfl), (Nat.le_of_ble_eq_true rfl), (Nat.le_of_ble_eq_true rfl), (c_La_about_ok oa fo rfl hM).weak ?_⟩, rfl⟩
  rintro vR ⟨u, fo1⟩ ⟨rR, rfl, rfl, vR2, hv, hfo⟩
  refine ⟨(cW dA A t r sl pl H N c0 pr0 ft fr Fs F, fo1), ⟨_, rfl, rfl, fun z9 => by rw [hfo, hv, hkd], ⟨H, N, c0, pr0, ft, fr, Fs, F, rfl, g1, g2, g3, g4, g5⟩⟩, congrArg (List.cons _) ?_⟩
  exact ((jc_keep hk)).symm

set_option maxHeartbeats 4000000 in
set_option maxRecDepth 100000 in
theorem jl_about_1s {l : Launch} {D : va_G} {dA : Nat → ClassId} {zz : (Nat → Nat) × (Nat → Nat)} {A : Nat → Nat} {t r : List Nat} {sl : Nat → Option (js_J 32)} {pl : Int32} {X : va_W} (oa : Nat) (fo : Nat → Int64) (hlt : l.stackTraces = false) (hS : js_SW t r sl) (hX : CW dA A t r sl pl X) (k : Nat) (us : List Nat) (hk : k < 8) (hs : sl k = some (Sum.inl (.inr (.inr us)))) : jl_W l D dA zz y_La_about b_La_about 5 [(0, 9, 12, 19), (0, 9, 16, 29)] [.ref (A 0), .int (nI k), .int 1, .ref oa] oa fo X 0 (fun z => z = (nI (js_chn us)).toInt64) (CW dA A t r sl pl) ∧ X[0]? = some (A 0, .inr (5, [.ref (A 1), .ref (A 3), .ref (A 5), .ref (A 22), .ref (A 31), .ref (A 39), .int pl])) := by
  obtain ⟨H, N, c0, pr0, ft, fr, Fs, F, rfl, g1, g2, g3, g4, g5⟩ := hX
  obtain ⟨z1, z2, z3⟩ := hS
  have ek : js_txt (sl k) = js_pr 32 (Sum.inl (.inr (.inr us))) := by rw [hs]; rfl
  obtain ⟨ok1, ol1⟩ := z3 k _ hs
  have op1 := js_pr_pos ok1
  have hl : (js_txt (sl k)).length ≤ 4096 := by rw [ek]; exact ol1
  have h0 : 0 < (js_txt (sl k)).length := by rw [ek]; exact op1
  have hcc : js_cc (js_txt (sl k)) ((js_txt (sl k)).length + 5) 1 0 = js_chn us := by rw [ek]; exact js_cc_pq (js_pa_un ok1)
  have hM := (c_Sh_about_1str (l := l) (D := D) (dA := dA) (zz := zz) (A 0) (A 1) (A 3) (A 5) (A 22) (A 31) (A 39) pl (jc_fs A) (A (6 + 2 * k)) (A (7 + 2 * k)) (Fs k) (js_txt (sl k)) k hl (g3 k hk) hk (jc_fs_at A hk) h0 (by rw [ek]; rfl)).put (cW dA A t r sl pl H N c0 pr0 ft fr Fs F) [0, 5, 6 + 2 * k, 7 + 2 * k] (jw_c rfl (jw_c rfl (jw_c (jc_h hk) (jw_c (jc_b hk) jw_n)))) ((by decide +kernel : ∀ k, k < 8 → va_nd [0, 5, 6 + 2 * k, 7 + 2 * k] = true) k hk) (fun _ => rfl)
  refine ⟨⟨_, _, _, (Nat.le_of_ble_eq_true rfl), (Nat.le_of_ble_eq_true rfl), (Nat.le_of_ble_eq_true rfl), (c_La_about_ok oa fo rfl hM).weak ?_⟩, rfl⟩
  rintro vR ⟨u, fo1⟩ ⟨rR, rfl, rfl, vR2, hv, hfo⟩
  refine ⟨(cW dA A t r sl pl H N c0 pr0 ft fr Fs F, fo1), ⟨_, rfl, rfl, fun z9 => by rw [hfo, hv, hcc], ⟨H, N, c0, pr0, ft, fr, Fs, F, rfl, g1, g2, g3, g4, g5⟩⟩, congrArg (List.cons _) ?_⟩
  exact ((jc_keep hk)).symm

set_option maxHeartbeats 4000000 in
set_option maxRecDepth 100000 in
theorem jl_about_2 {l : Launch} {D : va_G} {dA : Nat → ClassId} {zz : (Nat → Nat) × (Nat → Nat)} {A : Nat → Nat} {t r : List Nat} {sl : Nat → Option (js_J 32)} {pl : Int32} {X : va_W} (oa : Nat) (fo : Nat → Int64) (hlt : l.stackTraces = false) (hS : js_SW t r sl) (hX : CW dA A t r sl pl X) (k : Nat) (v : js_J 32) (hk : k < 8) (hs : sl k = some v) : jl_W l D dA zz y_La_about b_La_about 5 [(0, 9, 12, 19), (0, 9, 16, 29)] [.ref (A 0), .int (nI k), .int 2, .ref oa] oa fo X 0 (fun z => z = (nI (js_dep 32 v)).toInt64) (CW dA A t r sl pl) ∧ X[0]? = some (A 0, .inr (5, [.ref (A 1), .ref (A 3), .ref (A 5), .ref (A 22), .ref (A 31), .ref (A 39), .int pl])) := by
  obtain ⟨H, N, c0, pr0, ft, fr, Fs, F, rfl, g1, g2, g3, g4, g5⟩ := hX
  obtain ⟨z1, z2, z3⟩ := hS
  have ek : js_txt (sl k) = js_pr 32 v := by rw [hs]; rfl
  obtain ⟨ok1, ol1⟩ := z3 k v hs
  have op1 := js_pr_pos ok1
  have hl : (js_txt (sl k)).length ≤ 4096 := by rw [ek]; exact ol1
  have h0 : 0 < (js_txt (sl k)).length := by rw [ek]; exact op1
  obtain ⟨vs, hd, hOR, hvl⟩ := js_outline ok1 ol1
  have hv0 : 0 < vs.length := by rw [hvl]; exact js_cnt_pos 32 v
  rw [← ek] at hd hOR
  have hM := (c_Sh_about_2 (l := l) (D := D) (dA := dA) (zz := zz) (A 0) (A 1) (A 3) (A 5) (A 22) (A 31) (A 39) pl (jc_fs A) (A (6 + 2 * k)) (A (7 + 2 * k)) (Fs k) (js_txt (sl k)) k (A 32) (A 33) (A 34) (A 35) (A 36) (A 37) (A 38) (F 32) (F 33) (F 34) (F 35) (F 36) (F 37) (F 38) (N 5) (N 6) (N 7) (H 0) vs [] (js_dep 32 v) hl (g3 k hk) hk (jc_fs_at A hk) h0 hd).put (cW dA A t r sl pl H N c0 pr0 ft fr Fs F) [0, 5, 31, 32, 33, 34, 35, 36, 37, 38, 6 + 2 * k, 7 + 2 * k] (jw_c rfl (jw_c rfl (jw_c rfl (jw_c rfl (jw_c rfl (jw_c rfl (jw_c rfl (jw_c rfl (jw_c rfl (jw_c rfl (jw_c (jc_h hk) (jw_c (jc_b hk) jw_n)))))))))))) ((by decide +kernel : ∀ k, k < 8 → va_nd [0, 5, 31, 32, 33, 34, 35, 36, 37, 38, 6 + 2 * k, 7 + 2 * k] = true) k hk) (fun _ => rfl)
  refine ⟨⟨_, _, _, (Nat.le_of_ble_eq_true rfl), (Nat.le_of_ble_eq_true rfl), (Nat.le_of_ble_eq_true rfl), (c_La_about_ok oa fo rfl hM).weak ?_⟩, rfl⟩
  rintro vR ⟨u, fo1⟩ ⟨rR, rfl, rfl, vR2, hv, hfo⟩
  refine ⟨(cW dA A t r sl pl (jc_up H 0 (A (6 + 2 * k))) (jc_up (jc_up (jc_up N 5 (nI vs.length)) 6 (nI ([] : List Nat).length)) 7 (nI (js_dep 32 v))) c0 pr0 ft fr Fs (jc_up (jc_up (jc_up (jc_up (jc_up (jc_up (jc_up F 32 u.1) 33 u.2.1) 34 u.2.2.1) 35 u.2.2.2.1) 36 u.2.2.2.2.1) 37 u.2.2.2.2.2.1) 38 u.2.2.2.2.2.2), fo1), ⟨_, rfl, rfl, fun z9 => by rw [hfo, hv], ⟨(jc_up H 0 (A (6 + 2 * k))), (jc_up (jc_up (jc_up N 5 (nI vs.length)) 6 (nI ([] : List Nat).length)) 7 (nI (js_dep 32 v))), c0, pr0, ft, fr, Fs, (jc_up (jc_up (jc_up (jc_up (jc_up (jc_up (jc_up F 32 u.1) 33 u.2.1) 34 u.2.2.1) 35 u.2.2.2.1) 36 u.2.2.2.2.1) 37 u.2.2.2.2.2.1) 38 u.2.2.2.2.2.2), rfl, g1, g2, g3, g4, g5⟩⟩, congrArg (List.cons _) ?_⟩
  exact ((jc_keep hk)).symm

set_option maxHeartbeats 4000000 in
set_option maxRecDepth 100000 in
theorem jl_about_1m {l : Launch} {D : va_G} {dA : Nat → ClassId} {zz : (Nat → Nat) × (Nat → Nat)} {A : Nat → Nat} {t r : List Nat} {sl : Nat → Option (js_J 32)} {pl : Int32} {X : va_W} (oa : Nat) (fo : Nat → Int64) (hlt : l.stackTraces = false) (hS : js_SW t r sl) (hX : CW dA A t r sl pl X) (k : Nat) (v : js_J 32) (bb : Bool) (l0 : List (List Nat × js_J 31)) (hk : k < 8) (hs : sl k = some v) (hvm : v = Sum.inr (bb, l0)) : jl_W l D dA zz y_La_about b_La_about 5 [(0, 9, 12, 19), (0, 9, 16, 29)] [.ref (A 0), .int (nI k), .int 1, .ref oa] oa fo X 0 (fun z => z = (nI l0.length).toInt64) (CW dA A t r sl pl) ∧ X[0]? = some (A 0, .inr (5, [.ref (A 1), .ref (A 3), .ref (A 5), .ref (A 22), .ref (A 31), .ref (A 39), .int pl])) := by
  obtain ⟨H, N, c0, pr0, ft, fr, Fs, F, rfl, g1, g2, g3, g4, g5⟩ := hX
  obtain ⟨z1, z2, z3⟩ := hS
  have ek : js_txt (sl k) = js_pr 32 v := by rw [hs]; rfl
  obtain ⟨ok1, ol1⟩ := z3 k v hs
  have op1 := js_pr_pos ok1
  have hl : (js_txt (sl k)).length ≤ 4096 := by rw [ek]; exact ol1
  have h0 : 0 < (js_txt (sl k)).length := by rw [ek]; exact op1
  obtain ⟨vs, hd, hOR, hvl⟩ := js_outline ok1 ol1
  have hv0 : 0 < vs.length := by rw [hvl]; exact js_cnt_pos 32 v
  rw [← ek] at hd hOR
  have hkn : js_kn 32 v = (if bb = true then 6 else 5) := by rw [hvm]; rfl
  have hb : ¬ js_b (js_txt (sl k)) 0 = 34 := by
    rw [ek]
    exact js_b34 ok1 (by rw [hkn]; split <;> decide) (by rw [hkn]; split <;> decide)
  have hen : (js_en vs 0).2.2.2.1 = l0.length := by
    rw [hvm] at hOR
    exact hOR.2.1
  have hM := (c_Sh_about_1oth (l := l) (D := D) (dA := dA) (zz := zz) (A 0) (A 1) (A 3) (A 5) (A 22) (A 31) (A 39) pl (jc_fs A) (A (6 + 2 * k)) (A (7 + 2 * k)) (Fs k) (js_txt (sl k)) k (A 32) (A 33) (A 34) (A 35) (A 36) (A 37) (A 38) (F 32) (F 33) (F 34) (F 35) (F 36) (F 37) (F 38) (N 5) (N 6) (N 7) (H 0) vs [] (js_dep 32 v) hl (g3 k hk) hk (jc_fs_at A hk) h0 hd hv0 hb).put (cW dA A t r sl pl H N c0 pr0 ft fr Fs F) [0, 5, 31, 32, 33, 34, 35, 36, 37, 38, 6 + 2 * k, 7 + 2 * k] (jw_c rfl (jw_c rfl (jw_c rfl (jw_c rfl (jw_c rfl (jw_c rfl (jw_c rfl (jw_c rfl (jw_c rfl (jw_c rfl (jw_c (jc_h hk) (jw_c (jc_b hk) jw_n)))))))))))) ((by decide +kernel : ∀ k, k < 8 → va_nd [0, 5, 31, 32, 33, 34, 35, 36, 37, 38, 6 + 2 * k, 7 + 2 * k] = true) k hk) (fun _ => rfl)
  refine ⟨⟨_, _, _, (Nat.le_of_ble_eq_true rfl), (Nat.le_of_ble_eq_true rfl), (Nat.le_of_ble_eq_true rfl), (c_La_about_ok oa fo rfl hM).weak ?_⟩, rfl⟩
  rintro vR ⟨u, fo1⟩ ⟨rR, rfl, rfl, vR2, hv, hfo⟩
  refine ⟨(cW dA A t r sl pl (jc_up H 0 (A (6 + 2 * k))) (jc_up (jc_up (jc_up N 5 (nI vs.length)) 6 (nI ([] : List Nat).length)) 7 (nI (js_dep 32 v))) c0 pr0 ft fr Fs (jc_up (jc_up (jc_up (jc_up (jc_up (jc_up (jc_up F 32 u.1) 33 u.2.1) 34 u.2.2.1) 35 u.2.2.2.1) 36 u.2.2.2.2.1) 37 u.2.2.2.2.2.1) 38 u.2.2.2.2.2.2), fo1), ⟨_, rfl, rfl, fun z9 => by rw [hfo, hv, hen], ⟨(jc_up H 0 (A (6 + 2 * k))), (jc_up (jc_up (jc_up N 5 (nI vs.length)) 6 (nI ([] : List Nat).length)) 7 (nI (js_dep 32 v))), c0, pr0, ft, fr, Fs, (jc_up (jc_up (jc_up (jc_up (jc_up (jc_up (jc_up F 32 u.1) 33 u.2.1) 34 u.2.2.1) 35 u.2.2.2.1) 36 u.2.2.2.2.1) 37 u.2.2.2.2.2.1) 38 u.2.2.2.2.2.2), rfl, g1, g2, g3, g4, g5⟩⟩, congrArg (List.cons _) ?_⟩
  exact ((jc_keep hk)).symm

set_option maxHeartbeats 4000000 in
set_option maxRecDepth 100000 in
theorem jl_about_1o {l : Launch} {D : va_G} {dA : Nat → ClassId} {zz : (Nat → Nat) × (Nat → Nat)} {A : Nat → Nat} {t r : List Nat} {sl : Nat → Option (js_J 32)} {pl : Int32} {X : va_W} (oa : Nat) (fo : Nat → Int64) (hlt : l.stackTraces = false) (hS : js_SW t r sl) (hX : CW dA A t r sl pl X) (k : Nat) (v : js_J 32) (x : js_L) (hk : k < 8) (hs : sl k = some v) (hvm : v = Sum.inl x) (h4 : ¬ js_kl x = 4) : jl_W l D dA zz y_La_about b_La_about 5 [(0, 9, 12, 19), (0, 9, 16, 29)] [.ref (A 0), .int (nI k), .int 1, .ref oa] oa fo X 0 (fun z => z = 0) (CW dA A t r sl pl) ∧ X[0]? = some (A 0, .inr (5, [.ref (A 1), .ref (A 3), .ref (A 5), .ref (A 22), .ref (A 31), .ref (A 39), .int pl])) := by
  obtain ⟨H, N, c0, pr0, ft, fr, Fs, F, rfl, g1, g2, g3, g4, g5⟩ := hX
  obtain ⟨z1, z2, z3⟩ := hS
  have ek : js_txt (sl k) = js_pr 32 v := by rw [hs]; rfl
  obtain ⟨ok1, ol1⟩ := z3 k v hs
  have op1 := js_pr_pos ok1
  have hl : (js_txt (sl k)).length ≤ 4096 := by rw [ek]; exact ol1
  have h0 : 0 < (js_txt (sl k)).length := by rw [ek]; exact op1
  obtain ⟨vs, hd, hOR, hvl⟩ := js_outline ok1 ol1
  have hv0 : 0 < vs.length := by rw [hvl]; exact js_cnt_pos 32 v
  rw [← ek] at hd hOR
  have hkn : js_kn 32 v = js_kl x := by rw [hvm]; rfl
  have hxl : js_kl x < 5 := js_kl_lt (by rw [hvm] at ok1; exact ok1)
  have hb : ¬ js_b (js_txt (sl k)) 0 = 34 := by
    rw [ek]
    exact js_b34 ok1 (by rw [hkn]; exact h4) (by rw [hkn]; omega)
  have hen : (js_en vs 0).2.2.2.1 = 0 := by
    rw [hvm] at hOR
    exact hOR.2.1
  have hM := (c_Sh_about_1oth (l := l) (D := D) (dA := dA) (zz := zz) (A 0) (A 1) (A 3) (A 5) (A 22) (A 31) (A 39) pl (jc_fs A) (A (6 + 2 * k)) (A (7 + 2 * k)) (Fs k) (js_txt (sl k)) k (A 32) (A 33) (A 34) (A 35) (A 36) (A 37) (A 38) (F 32) (F 33) (F 34) (F 35) (F 36) (F 37) (F 38) (N 5) (N 6) (N 7) (H 0) vs [] (js_dep 32 v) hl (g3 k hk) hk (jc_fs_at A hk) h0 hd hv0 hb).put (cW dA A t r sl pl H N c0 pr0 ft fr Fs F) [0, 5, 31, 32, 33, 34, 35, 36, 37, 38, 6 + 2 * k, 7 + 2 * k] (jw_c rfl (jw_c rfl (jw_c rfl (jw_c rfl (jw_c rfl (jw_c rfl (jw_c rfl (jw_c rfl (jw_c rfl (jw_c rfl (jw_c (jc_h hk) (jw_c (jc_b hk) jw_n)))))))))))) ((by decide +kernel : ∀ k, k < 8 → va_nd [0, 5, 31, 32, 33, 34, 35, 36, 37, 38, 6 + 2 * k, 7 + 2 * k] = true) k hk) (fun _ => rfl)
  refine ⟨⟨_, _, _, (Nat.le_of_ble_eq_true rfl), (Nat.le_of_ble_eq_true rfl), (Nat.le_of_ble_eq_true rfl), (c_La_about_ok oa fo rfl hM).weak ?_⟩, rfl⟩
  rintro vR ⟨u, fo1⟩ ⟨rR, rfl, rfl, vR2, hv, hfo⟩
  refine ⟨(cW dA A t r sl pl (jc_up H 0 (A (6 + 2 * k))) (jc_up (jc_up (jc_up N 5 (nI vs.length)) 6 (nI ([] : List Nat).length)) 7 (nI (js_dep 32 v))) c0 pr0 ft fr Fs (jc_up (jc_up (jc_up (jc_up (jc_up (jc_up (jc_up F 32 u.1) 33 u.2.1) 34 u.2.2.1) 35 u.2.2.2.1) 36 u.2.2.2.2.1) 37 u.2.2.2.2.2.1) 38 u.2.2.2.2.2.2), fo1), ⟨_, rfl, rfl, fun z9 => by rw [hfo, hv, hen]; rfl, ⟨(jc_up H 0 (A (6 + 2 * k))), (jc_up (jc_up (jc_up N 5 (nI vs.length)) 6 (nI ([] : List Nat).length)) 7 (nI (js_dep 32 v))), c0, pr0, ft, fr, Fs, (jc_up (jc_up (jc_up (jc_up (jc_up (jc_up (jc_up F 32 u.1) 33 u.2.1) 34 u.2.2.1) 35 u.2.2.2.1) 36 u.2.2.2.2.1) 37 u.2.2.2.2.2.1) 38 u.2.2.2.2.2.2), rfl, g1, g2, g3, g4, g5⟩⟩, congrArg (List.cons _) ?_⟩
  exact ((jc_keep hk)).symm

set_option maxHeartbeats 4000000 in
set_option maxRecDepth 100000 in
theorem jl_about_3 {l : Launch} {D : va_G} {dA : Nat → ClassId} {zz : (Nat → Nat) × (Nat → Nat)} {A : Nat → Nat} {t r : List Nat} {sl : Nat → Option (js_J 32)} {pl : Int32} {X : va_W} (oa : Nat) (fo : Nat → Int64) (hlt : l.stackTraces = false) (hS : js_SW t r sl) (hX : CW dA A t r sl pl X) (k : Nat) (v : js_J 32) (hk : k < 8) (hs : sl k = some v) : jl_W l D dA zz y_La_about b_La_about 5 [(0, 9, 12, 19), (0, 9, 16, 29)] [.ref (A 0), .int (nI k), .int 3, .ref oa] oa fo X 0 (fun z => z = js_nof (js_pr 32 v)) (CW dA A t r sl pl) ∧ X[0]? = some (A 0, .inr (5, [.ref (A 1), .ref (A 3), .ref (A 5), .ref (A 22), .ref (A 31), .ref (A 39), .int pl])) := by
  obtain ⟨H, N, c0, pr0, ft, fr, Fs, F, rfl, g1, g2, g3, g4, g5⟩ := hX
  obtain ⟨z1, z2, z3⟩ := hS
  have ek : js_txt (sl k) = js_pr 32 v := by rw [hs]; rfl
  obtain ⟨ok1, ol1⟩ := z3 k v hs
  have op1 := js_pr_pos ok1
  have hl : (js_txt (sl k)).length ≤ 4096 := by rw [ek]; exact ol1
  have h0 : 0 < (js_txt (sl k)).length := by rw [ek]; exact op1
  have hM := (c_Sh_about_3 (l := l) (D := D) (dA := dA) (zz := zz) (A 0) (A 1) (A 3) (A 5) (A 22) (A 31) (A 39) pl (jc_fs A) (A (6 + 2 * k)) (A (7 + 2 * k)) (Fs k) (js_txt (sl k)) k hl (g3 k hk) hk (jc_fs_at A hk) h0).put (cW dA A t r sl pl H N c0 pr0 ft fr Fs F) [0, 5, 6 + 2 * k, 7 + 2 * k] (jw_c rfl (jw_c rfl (jw_c (jc_h hk) (jw_c (jc_b hk) jw_n)))) ((by decide +kernel : ∀ k, k < 8 → va_nd [0, 5, 6 + 2 * k, 7 + 2 * k] = true) k hk) (fun _ => rfl)
  refine ⟨⟨_, _, _, (Nat.le_of_ble_eq_true rfl), (Nat.le_of_ble_eq_true rfl), (Nat.le_of_ble_eq_true rfl), (c_La_about_ok oa fo rfl hM).weak ?_⟩, rfl⟩
  rintro vR ⟨u, fo1⟩ ⟨rR, rfl, rfl, vR2, hv, hfo⟩
  refine ⟨(cW dA A t r sl pl H N c0 pr0 ft fr Fs F, fo1), ⟨_, rfl, rfl, fun z9 => by rw [hfo, hv, ek], ⟨H, N, c0, pr0, ft, fr, Fs, F, rfl, g1, g2, g3, g4, g5⟩⟩, congrArg (List.cons _) ?_⟩
  exact ((jc_keep hk)).symm
