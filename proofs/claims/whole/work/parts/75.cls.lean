-- the class's world: the addresses A, the tape t, the result r, the slots sl, the place pl; the rest is hidden
def js_txt : Option (js_J 32) → List Nat
  | none => []
  | some v => js_pr 32 v
def jc_fs (A : Nat → Nat) : Nat → Option Nat := fun j => if j < 8 then some (A (6 + 2 * j)) else none
theorem jc_fs_at (A : Nat → Nat) {k : Nat} (hk : k < 8) : jc_fs A k = some (A (6 + 2 * k)) := if_pos hk
def cW (dA : Nat → ClassId) (A : Nat → Nat) (t r : List Nat) (sl : Nat → Option (js_J 32)) (pl : Int32) (H : Nat → Nat) (N : Nat → Int32) (c0 : Nat) (pr0 : List Nat) (ft fr : Nat → Int32) (Fs F : Nat → Nat → Int32) : va_W := [((A 0), .inr (5, [.ref (A 1), .ref (A 3), .ref (A 5), .ref (A 22), .ref (A 31), .ref (A 39), .int pl])), ((A 1), .inr (0, [.ref (A 2), .int (nI t.length)])), ((A 2), .inl (dA 0, 4096, .inl ft)), ((A 3), .inr (0, [.ref (A 4), .int (nI r.length)])), ((A 4), .inl (dA 0, 4096, .inl fr)), ((A 5), .inl (dA 5, 8, .inr (.inr (.inr (.inr (jc_fs A)))))), ((A 6), .inr (0, [.ref (A 7), .int (nI (js_txt (sl 0)).length)])), ((A 7), .inl (dA 0, 4096, .inl (Fs 0))), ((A 8), .inr (0, [.ref (A 9), .int (nI (js_txt (sl 1)).length)])), ((A 9), .inl (dA 0, 4096, .inl (Fs 1))), ((A 10), .inr (0, [.ref (A 11), .int (nI (js_txt (sl 2)).length)])), ((A 11), .inl (dA 0, 4096, .inl (Fs 2))), ((A 12), .inr (0, [.ref (A 13), .int (nI (js_txt (sl 3)).length)])), ((A 13), .inl (dA 0, 4096, .inl (Fs 3))), ((A 14), .inr (0, [.ref (A 15), .int (nI (js_txt (sl 4)).length)])), ((A 15), .inl (dA 0, 4096, .inl (Fs 4))), ((A 16), .inr (0, [.ref (A 17), .int (nI (js_txt (sl 5)).length)])), ((A 17), .inl (dA 0, 4096, .inl (Fs 5))), ((A 18), .inr (0, [.ref (A 19), .int (nI (js_txt (sl 6)).length)])), ((A 19), .inl (dA 0, 4096, .inl (Fs 6))), ((A 20), .inr (0, [.ref (A 21), .int (nI (js_txt (sl 7)).length)])), ((A 21), .inl (dA 0, 4096, .inl (Fs 7))), ((A 22), .inr (2, [.ref (A 1), .ref (A 23), .ref (A 25), .ref (A 29), .ref (A 30), .int (N 1), .int (N 2), .int (N 3), .int (N 4)])), ((A 23), .inr (0, [.ref (A 24), .int (nI pr0.length)])), ((A 24), .inl (dA 0, 4096, .inl (F 24))), ((A 25), .inr (1, [.ref (A 23), .ref (A 26), .ref (A 27), .ref (A 28), .int (nI c0)])), ((A 26), .inl (dA 1, 1024, .inl (F 26))), ((A 27), .inl (dA 1, 1024, .inl (F 27))), ((A 28), .inl (dA 1, 1024, .inl (F 28))), ((A 29), .inl (dA 0, 32, .inl (F 29))), ((A 30), .inl (dA 1, 32, .inl (F 30))), ((A 31), .inr (3, [.ref (A 32), .ref (A 33), .ref (A 34), .ref (A 35), .ref (A 36), .ref (A 37), .ref (A 38), .ref (H 0), .int (N 5), .int (N 6), .int (N 7)])), ((A 32), .inl (dA 1, 2048, .inl (F 32))), ((A 33), .inl (dA 1, 2048, .inl (F 33))), ((A 34), .inl (dA 1, 2048, .inl (F 34))), ((A 35), .inl (dA 1, 2048, .inl (F 35))), ((A 36), .inl (dA 1, 2048, .inl (F 36))), ((A 37), .inl (dA 1, 2048, .inl (F 37))), ((A 38), .inl (dA 1, 32, .inl (F 38))), ((A 39), .inr (4, [.ref (A 31), .ref (A 40)])), ((A 40), .inr (3, [.ref (A 41), .ref (A 42), .ref (A 43), .ref (A 44), .ref (A 45), .ref (A 46), .ref (A 47), .ref (H 1), .int (N 8), .int (N 9), .int (N 10)])), ((A 41), .inl (dA 1, 2048, .inl (F 41))), ((A 42), .inl (dA 1, 2048, .inl (F 42))), ((A 43), .inl (dA 1, 2048, .inl (F 43))), ((A 44), .inl (dA 1, 2048, .inl (F 44))), ((A 45), .inl (dA 1, 2048, .inl (F 45))), ((A 46), .inl (dA 1, 2048, .inl (F 46))), ((A 47), .inl (dA 1, 32, .inl (F 47)))]
def CW (dA : Nat → ClassId) (A : Nat → Nat) (t r : List Nat) (sl : Nat → Option (js_J 32)) (pl : Int32) (X : va_W) : Prop := ∃ (H : Nat → Nat) (N : Nat → Int32) (c0 : Nat) (pr0 : List Nat) (ft fr : Nat → Int32) (Fs F : Nat → Nat → Int32), X = cW dA A t r sl pl H N c0 pr0 ft fr Fs F ∧ js_tx ft t ∧ js_tx fr r ∧ (∀ k, k < 8 → js_tx (Fs k) (js_txt (sl k))) ∧ pr0.length ≤ 4096 ∧ c0 ≤ 1024
/-- a state of the shelf -/
def js_SW (t r : List Nat) (sl : Nat → Option (js_J 32)) : Prop := t.length ≤ 4096 ∧ r.length ≤ 4096 ∧ ∀ k v, sl k = some v → js_ok 32 v ∧ (js_pr 32 v).length ≤ 4096
section JC
variable {dA : Nat → ClassId} {A : Nat → Nat} {t r : List Nat} {sl : Nat → Option (js_J 32)} {pl : Int32} {H : Nat → Nat} {N : Nat → Int32} {c0 : Nat} {pr0 : List Nat} {ft fr : Nat → Int32} {Fs F : Nat → Nat → Int32}
theorem jc_h {k : Nat} (hk : k < 8) : (cW dA A t r sl pl H N c0 pr0 ft fr Fs F)[6 + 2 * k]? = some (A (6 + 2 * k), .inr (0, [.ref (A (7 + 2 * k)), .int (nI (js_txt (sl k)).length)])) := by
  match k, hk with
  | 0, _ => rfl
  | 1, _ => rfl
  | 2, _ => rfl
  | 3, _ => rfl
  | 4, _ => rfl
  | 5, _ => rfl
  | 6, _ => rfl
  | 7, _ => rfl
theorem jc_b {k : Nat} (hk : k < 8) : (cW dA A t r sl pl H N c0 pr0 ft fr Fs F)[7 + 2 * k]? = some (A (7 + 2 * k), .inl (dA 0, 4096, .inl (Fs k))) := by
  match k, hk with
  | 0, _ => rfl
  | 1, _ => rfl
  | 2, _ => rfl
  | 3, _ => rfl
  | 4, _ => rfl
  | 5, _ => rfl
  | 6, _ => rfl
  | 7, _ => rfl
theorem jc_h0 {k : Nat} (hk : k < 8) (hs : sl k = none) : (cW dA A t r sl pl H N c0 pr0 ft fr Fs F)[6 + 2 * k]? = some (A (6 + 2 * k), .inr (0, [.ref (A (7 + 2 * k)), .int (nI ([] : List Nat).length)])) := by
  rw [jc_h hk, hs]
  rfl
theorem jc_keep {k : Nat} (hk : k < 8) : ((cW dA A t r sl pl H N c0 pr0 ft fr Fs F).set (6 + 2 * k) (A (6 + 2 * k), .inr (0, [.ref (A (7 + 2 * k)), .int (nI (js_txt (sl k)).length)]))).set (7 + 2 * k) (A (7 + 2 * k), .inl (dA 0, 4096, .inl (Fs k))) = cW dA A t r sl pl H N c0 pr0 ft fr Fs F := by
  match k, hk with
  | 0, _ => rfl
  | 1, _ => rfl
  | 2, _ => rfl
  | 3, _ => rfl
  | 4, _ => rfl
  | 5, _ => rfl
  | 6, _ => rfl
  | 7, _ => rfl
theorem jc_keep0 {k : Nat} (hk : k < 8) (hs : sl k = none) : ((cW dA A t r sl pl H N c0 pr0 ft fr Fs F).set (6 + 2 * k) (A (6 + 2 * k), .inr (0, [.ref (A (7 + 2 * k)), .int (nI ([] : List Nat).length)]))).set (7 + 2 * k) (A (7 + 2 * k), .inl (dA 0, 4096, .inl (Fs k))) = cW dA A t r sl pl H N c0 pr0 ft fr Fs F := by
  have h := jc_keep (dA := dA) (A := A) (t := t) (r := r) (sl := sl) (pl := pl) (H := H) (N := N) (c0 := c0) (pr0 := pr0) (ft := ft) (fr := fr) (Fs := Fs) (F := F) hk
  rw [hs] at h
  exact h
theorem jc_new {k : Nat} (hk : k < 8) {v : js_J 32} {f : Nat → Int32} {y : List Nat} (hy : y = js_pr 32 v) : ((cW dA A t r sl pl H N c0 pr0 ft fr Fs F).set (6 + 2 * k) (A (6 + 2 * k), .inr (0, [.ref (A (7 + 2 * k)), .int (nI y.length)]))).set (7 + 2 * k) (A (7 + 2 * k), .inl (dA 0, 4096, .inl f)) = cW dA A t r (jc_up sl k (some v)) pl H N c0 pr0 ft fr (jc_up Fs k f) F := by
  subst hy
  exact (by
  match k, hk with
  | 0, _ => rfl
  | 1, _ => rfl
  | 2, _ => rfl
  | 3, _ => rfl
  | 4, _ => rfl
  | 5, _ => rfl
  | 6, _ => rfl
  | 7, _ => rfl)
theorem jc_keep2 {k k2 : Nat} (hk : k < 8) (hk2 : k2 < 8)  : ((((cW dA A t r sl pl H N c0 pr0 ft fr Fs F).set (6 + 2 * k) (A (6 + 2 * k), .inr (0, [.ref (A (7 + 2 * k)), .int (nI (js_txt (sl k)).length)]))).set (7 + 2 * k) (A (7 + 2 * k), .inl (dA 0, 4096, .inl (Fs k)))).set (6 + 2 * k2) (A (6 + 2 * k2), .inr (0, [.ref (A (7 + 2 * k2)), .int (nI (js_txt (sl k2)).length)]))).set (7 + 2 * k2) (A (7 + 2 * k2), .inl (dA 0, 4096, .inl (Fs k2))) = cW dA A t r sl pl H N c0 pr0 ft fr Fs F := by
  rw [jc_keep hk, jc_keep hk2]
theorem jc_keep20 {k k2 : Nat} (hk : k < 8) (hk2 : k2 < 8) (hs : sl k2 = none) : ((((cW dA A t r sl pl H N c0 pr0 ft fr Fs F).set (6 + 2 * k) (A (6 + 2 * k), .inr (0, [.ref (A (7 + 2 * k)), .int (nI (js_txt (sl k)).length)]))).set (7 + 2 * k) (A (7 + 2 * k), .inl (dA 0, 4096, .inl (Fs k)))).set (6 + 2 * k2) (A (6 + 2 * k2), .inr (0, [.ref (A (7 + 2 * k2)), .int (nI ([] : List Nat).length)]))).set (7 + 2 * k2) (A (7 + 2 * k2), .inl (dA 0, 4096, .inl (Fs k2))) = cW dA A t r sl pl H N c0 pr0 ft fr Fs F := by
  rw [jc_keep hk, jc_keep0 hk2 hs]
theorem jc_keepnew {k k2 : Nat} (hk : k < 8) (hk2 : k2 < 8) {v : js_J 32} {f : Nat → Int32} {y : List Nat} (hy : y = js_pr 32 v) : ((((cW dA A t r sl pl H N c0 pr0 ft fr Fs F).set (6 + 2 * k) (A (6 + 2 * k), .inr (0, [.ref (A (7 + 2 * k)), .int (nI (js_txt (sl k)).length)]))).set (7 + 2 * k) (A (7 + 2 * k), .inl (dA 0, 4096, .inl (Fs k)))).set (6 + 2 * k2) (A (6 + 2 * k2), .inr (0, [.ref (A (7 + 2 * k2)), .int (nI y.length)]))).set (7 + 2 * k2) (A (7 + 2 * k2), .inl (dA 0, 4096, .inl f)) = cW dA A t r (jc_up sl k2 (some v)) pl H N c0 pr0 ft fr (jc_up Fs k2 f) F := by
  rw [jc_keep hk, jc_new hk2 hy]
end JC
theorem jw_c {ws cs : va_W} {is : List Nat} {i : Nat} {c : Nat × va_E} (h : ws[i]? = some c) (t : is.map (fun i => ws[i]?) = cs.map some) : (i :: is).map (fun i => ws[i]?) = (c :: cs).map some := by
  rw [List.map_cons, List.map_cons, h, t]
theorem jw_n {ws : va_W} : ([] : List Nat).map (fun i => ws[i]?) = ([] : va_W).map some := rfl
theorem jc_up_s {α : Type} {f : Nat → α} {i : Nat} {x : α} : jc_up f i x i = x := if_pos rfl
theorem jc_up_n {α : Type} {f : Nat → α} {i j : Nat} {x : α} (h : j ≠ i) : jc_up f i x j = f j := if_neg h
theorem jc_up_tx {sl : Nat → Option (js_J 32)} {Fs : Nat → Nat → Int32} (h : ∀ k, k < 8 → js_tx (Fs k) (js_txt (sl k))) {k0 : Nat} {v : js_J 32} {f : Nat → Int32} (hf : js_tx f (js_pr 32 v)) : ∀ k, k < 8 → js_tx (jc_up Fs k0 f k) (js_txt (jc_up sl k0 (some v) k)) := by
  intro k hk
  by_cases e : k = k0
  · rw [e, jc_up_s, jc_up_s]; exact hf
  · rw [jc_up_n e, jc_up_n e]; exact h k hk
theorem jv_MW.weak {S S' : Type} {l : Launch} {D : va_G} {dA : Nat → ClassId} {zz : (Nat → Nat) × (Nat → Nat)} {y : MethodName} {b : ByteArray} {nL : Nat} {ret : Option FieldType} {hh : List (Nat × Nat × Nat × Nat)} {n : Nat} {av : List Value} {w0 : va_W} {post : Option Value → S → Prop} {post' : Option Value → S' → Prop} {w1 : S → va_W} {w1' : S' → va_W} {mc ms : Nat} (h : jv_MW l D dA zz y b nL ret hh n av w0 post w1 mc ms) (g : ∀ v u, post v u → ∃ u', post' v u' ∧ w1' u' = w1 u) : jv_MW l D dA zz y b nL ret hh n av w0 post' w1' mc ms := by
  intro sz
  refine MetFree.mono (h sz) (fun a s hp => hp) (fun _ _ _ _ _ z => z) ?_
  rintro a s o t hp ⟨⟨⟨v, u, ho, hpo, hP1, hD1⟩, hF⟩, L, hL, hLf⟩
  obtain ⟨u', hp', e⟩ := g v u hpo
  exact ⟨⟨⟨v, u', ho, hp', by rw [e]; exact hP1, by rw [e]; exact hD1⟩, hF⟩, L, hL, hLf⟩
/-- what the law sees of a call of the class -/
def jl_W (l : Launch) (D : va_G) (dA : Nat → ClassId) (zz : (Nat → Nat) × (Nat → Nat)) (y : MethodName) (b : ByteArray) (nL : Nat) (hh : List (Nat × Nat × Nat × Nat)) (av : List Value) (oa : Nat) (fo : Nat → Int64) (X : va_W) (code : Int32) (val : Int64 → Prop) (Z : va_W → Prop) : Prop :=
  ∃ kL mc ms : Nat, kL ≤ 80 ∧ mc ≤ 1 ∧ ms ≤ 6 ∧ jv_MW l D dA zz y b nL (some .int) hh kL av ((oa, .inl (dA 2, 1, .inr (.inl fo))) :: X) (jv_pi fun r (u : va_W × (Nat → Int64)) => r = code ∧ (code = 0 → val (u.2 0)) ∧ Z u.1) (fun u => (oa, .inl (dA 2, 1, .inr (.inl u.2))) :: u.1) mc ms
theorem js_pr_pos {v : js_J 32} (h : js_ok 32 v) : 0 < (js_pr 32 v).length := Nat.lt_of_lt_of_le (js_cnt_pos 32 v) (js_cnt_len h)

set_option maxHeartbeats 4000000 in
set_option maxRecDepth 100000 in
theorem jl_feed_ok {l : Launch} {D : va_G} {dA : Nat → ClassId} {zz : (Nat → Nat) × (Nat → Nat)} {A : Nat → Nat} {t r : List Nat} {sl : Nat → Option (js_J 32)} {pl : Int32} {X : va_W} (oa : Nat) (fo : Nat → Int64) (hlt : l.stackTraces = false) (hS : js_SW t r sl) (hX : CW dA A t r sl pl X) (a b c d e : Int32) (h20 : t.length + 20 ≤ 4096) : jl_W l D dA zz y_La_feed b_La_feed 8 [(0, 16, 19, 13)] [.ref (A 0), .int a, .int b, .int c, .int d, .int e, .ref oa] oa fo X 0 (fun z => z = (nI (t ++ js_i4 a ++ js_i4 b ++ js_i4 c ++ js_i4 d ++ js_i4 e).length).toInt64) (CW dA A (t ++ js_i4 a ++ js_i4 b ++ js_i4 c ++ js_i4 d ++ js_i4 e) r sl pl) ∧ X[0]? = some (A 0, .inr (5, [.ref (A 1), .ref (A 3), .ref (A 5), .ref (A 22), .ref (A 31), .ref (A 39), .int pl])) := by
  obtain ⟨H, N, c0, pr0, ft, fr, Fs, F, rfl, g1, g2, g3, g4, g5⟩ := hX
  obtain ⟨z1, z2, z3⟩ := hS
  have hM := (c_Sh_feed_ok (l := l) (D := D) (dA := dA) (zz := zz) (A 0) (A 1) (A 3) (A 5) (A 22) (A 31) (A 39) pl (A 2) ft t a b c d e h20 g1).put (cW dA A t r sl pl H N c0 pr0 ft fr Fs F) [0, 1, 2] (jw_c rfl (jw_c rfl (jw_c rfl jw_n))) rfl (fun _ => rfl)
  refine ⟨⟨_, _, _, (Nat.le_of_ble_eq_true rfl), (Nat.le_of_ble_eq_true rfl), (Nat.le_of_ble_eq_true rfl), (c_La_feed_ok oa fo rfl hM).weak ?_⟩, rfl⟩
  rintro vR ⟨u, fo1⟩ ⟨rR, rfl, rfl, vR2, hv, hfo⟩
  refine ⟨(cW dA A (t ++ js_i4 a ++ js_i4 b ++ js_i4 c ++ js_i4 d ++ js_i4 e) r sl pl H N c0 pr0 u fr Fs F, fo1), ⟨_, rfl, rfl, fun z9 => by rw [hfo, hv.1], ⟨H, N, c0, pr0, u, fr, Fs, F, rfl, hv.2, g2, g3, g4, g5⟩⟩, congrArg (List.cons _) ?_⟩
  exact (rfl).symm

set_option maxHeartbeats 4000000 in
set_option maxRecDepth 100000 in
theorem jl_feed_no {l : Launch} {D : va_G} {dA : Nat → ClassId} {zz : (Nat → Nat) × (Nat → Nat)} {A : Nat → Nat} {t r : List Nat} {sl : Nat → Option (js_J 32)} {pl : Int32} {X : va_W} (oa : Nat) (fo : Nat → Int64) (hlt : l.stackTraces = false) (hS : js_SW t r sl) (hX : CW dA A t r sl pl X) (a b c d e : Int32) (h20 : 4096 < t.length + 20) : jl_W l D dA zz y_La_feed b_La_feed 8 [(0, 16, 19, 13)] [.ref (A 0), .int a, .int b, .int c, .int d, .int e, .ref oa] oa fo X 1 (fun z => True) (CW dA A t r sl pl) ∧ X[0]? = some (A 0, .inr (5, [.ref (A 1), .ref (A 3), .ref (A 5), .ref (A 22), .ref (A 31), .ref (A 39), .int pl])) := by
  obtain ⟨H, N, c0, pr0, ft, fr, Fs, F, rfl, g1, g2, g3, g4, g5⟩ := hX
  obtain ⟨z1, z2, z3⟩ := hS
  have hM := (c_Sh_feed_no (l := l) (D := D) (dA := dA) (zz := zz) (A 0) (A 1) (A 3) (A 5) (A 22) (A 31) (A 39) pl (A 2) ft t a b c d e h20 z1 hlt).put (cW dA A t r sl pl H N c0 pr0 ft fr Fs F) [0, 1, 2] (jw_c rfl (jw_c rfl (jw_c rfl jw_n))) rfl (fun _ => rfl)
  refine ⟨⟨_, _, _, (Nat.le_of_ble_eq_true rfl), (Nat.le_of_ble_eq_true rfl), (Nat.le_of_ble_eq_true rfl), (c_La_feed_x1 oa fo rfl hM).weak ?_⟩, rfl⟩
  rintro vR ⟨u, fo1⟩ ⟨rR, rfl, rfl, hv⟩
  refine ⟨(cW dA A t r sl pl H N c0 pr0 ft fr Fs F, fo1), ⟨_, rfl, rfl, fun z9 => absurd z9 (by decide), ⟨H, N, c0, pr0, ft, fr, Fs, F, rfl, g1, g2, g3, g4, g5⟩⟩, congrArg (List.cons _) ?_⟩
  exact (rfl).symm

set_option maxHeartbeats 4000000 in
set_option maxRecDepth 100000 in
theorem jl_end_ok {l : Launch} {D : va_G} {dA : Nat → ClassId} {zz : (Nat → Nat) × (Nat → Nat)} {A : Nat → Nat} {t r : List Nat} {sl : Nat → Option (js_J 32)} {pl : Int32} {X : va_W} (oa : Nat) (fo : Nat → Int64) (hlt : l.stackTraces = false) (hS : js_SW t r sl) (hX : CW dA A t r sl pl X) (k : Nat) (hk : k ≤ t.length) : jl_W l D dA zz y_La_end b_La_end 4 [(0, 9, 12, 19)] [.ref (A 0), .int (nI k), .ref oa] oa fo X 0 (fun z => z = (nI k).toInt64) (CW dA A (t.take k) r sl pl) ∧ X[0]? = some (A 0, .inr (5, [.ref (A 1), .ref (A 3), .ref (A 5), .ref (A 22), .ref (A 31), .ref (A 39), .int pl])) := by
  obtain ⟨H, N, c0, pr0, ft, fr, Fs, F, rfl, g1, g2, g3, g4, g5⟩ := hX
  obtain ⟨z1, z2, z3⟩ := hS
  have hM := (c_Sh_end_ok (l := l) (D := D) (dA := dA) (zz := zz) (A 0) (A 1) (A 3) (A 5) (A 22) (A 31) (A 39) pl (A 2) ft t k hk z1).put (cW dA A t r sl pl H N c0 pr0 ft fr Fs F) [0, 1, 2] (jw_c rfl (jw_c rfl (jw_c rfl jw_n))) rfl (fun _ => rfl)
  refine ⟨⟨_, _, _, (Nat.le_of_ble_eq_true rfl), (Nat.le_of_ble_eq_true rfl), (Nat.le_of_ble_eq_true rfl), (c_La_end_ok oa fo rfl hM).weak ?_⟩, rfl⟩
  rintro vR ⟨u, fo1⟩ ⟨rR, rfl, rfl, vR2, hv, hfo⟩
  refine ⟨(cW dA A (t.take k) r sl pl H N c0 pr0 ft fr Fs F, fo1), ⟨_, rfl, rfl, fun z9 => by rw [hfo, hv], ⟨H, N, c0, pr0, ft, fr, Fs, F, rfl, js_tx_take g1 k, g2, g3, g4, g5⟩⟩, congrArg (List.cons _) ?_⟩
  exact (rfl).symm

set_option maxHeartbeats 4000000 in
set_option maxRecDepth 100000 in
theorem jl_end_no {l : Launch} {D : va_G} {dA : Nat → ClassId} {zz : (Nat → Nat) × (Nat → Nat)} {A : Nat → Nat} {t r : List Nat} {sl : Nat → Option (js_J 32)} {pl : Int32} {X : va_W} (oa : Nat) (fo : Nat → Int64) (hlt : l.stackTraces = false) (hS : js_SW t r sl) (hX : CW dA A t r sl pl X) (i : Int32) (hb : i < 0 ∨ nI t.length < i) : jl_W l D dA zz y_La_end b_La_end 4 [(0, 9, 12, 19)] [.ref (A 0), .int i, .ref oa] oa fo X 1 (fun z => True) (CW dA A t r sl pl) ∧ X[0]? = some (A 0, .inr (5, [.ref (A 1), .ref (A 3), .ref (A 5), .ref (A 22), .ref (A 31), .ref (A 39), .int pl])) := by
  obtain ⟨H, N, c0, pr0, ft, fr, Fs, F, rfl, g1, g2, g3, g4, g5⟩ := hX
  obtain ⟨z1, z2, z3⟩ := hS
  have hM := (c_Sh_end_no (l := l) (D := D) (dA := dA) (zz := zz) (A 0) (A 1) (A 3) (A 5) (A 22) (A 31) (A 39) pl (A 2) ft t i hb hlt).put (cW dA A t r sl pl H N c0 pr0 ft fr Fs F) [0, 1, 2] (jw_c rfl (jw_c rfl (jw_c rfl jw_n))) rfl (fun _ => rfl)
  refine ⟨⟨_, _, _, (Nat.le_of_ble_eq_true rfl), (Nat.le_of_ble_eq_true rfl), (Nat.le_of_ble_eq_true rfl), (c_La_end_x1 oa fo rfl hM).weak ?_⟩, rfl⟩
  rintro vR ⟨u, fo1⟩ ⟨rR, rfl, rfl, hv⟩
  refine ⟨(cW dA A t r sl pl H N c0 pr0 ft fr Fs F, fo1), ⟨_, rfl, rfl, fun z9 => absurd z9 (by decide), ⟨H, N, c0, pr0, ft, fr, Fs, F, rfl, g1, g2, g3, g4, g5⟩⟩, congrArg (List.cons _) ?_⟩
  exact (rfl).symm

set_option maxHeartbeats 4000000 in
set_option maxRecDepth 100000 in
theorem jl_print_ok {l : Launch} {D : va_G} {dA : Nat → ClassId} {zz : (Nat → Nat) × (Nat → Nat)} {A : Nat → Nat} {t r : List Nat} {sl : Nat → Option (js_J 32)} {pl : Int32} {X : va_W} (oa : Nat) (fo : Nat → Int64) (hlt : l.stackTraces = false) (hS : js_SW t r sl) (hX : CW dA A t r sl pl X) (k : Nat) (v : js_J 32) (hk : k < 8) (hs : sl k = some v) : jl_W l D dA zz y_La_print b_La_print 4 [(0, 9, 12, 19), (0, 9, 15, 29)] [.ref (A 0), .int (nI k), .ref oa] oa fo X 0 (fun z => z = (nI (js_pr 32 v).length).toInt64) (CW dA A t (js_pr 32 v) sl pl) ∧ X[0]? = some (A 0, .inr (5, [.ref (A 1), .ref (A 3), .ref (A 5), .ref (A 22), .ref (A 31), .ref (A 39), .int pl])) := by
  obtain ⟨H, N, c0, pr0, ft, fr, Fs, F, rfl, g1, g2, g3, g4, g5⟩ := hX
  obtain ⟨z1, z2, z3⟩ := hS
  have ek : js_txt (sl k) = js_pr 32 v := by rw [hs]; rfl
  obtain ⟨ok1, ol1⟩ := z3 k v hs
  have op1 := js_pr_pos ok1
  have hl : (js_txt (sl k)).length ≤ 4096 := by rw [ek]; exact ol1
  have h0 : 0 < (js_txt (sl k)).length := by rw [ek]; exact op1
  have hM := (c_Sh_print_ok (l := l) (D := D) (dA := dA) (zz := zz) (A 0) (A 1) (A 3) (A 5) (A 22) (A 31) (A 39) pl (A 4) (A (6 + 2 * k)) (A (7 + 2 * k)) k (jc_fs A) fr (Fs k) r (js_txt (sl k)) hk (jc_fs_at A hk) h0 hl (g3 k hk) z2 g2).put (cW dA A t r sl pl H N c0 pr0 ft fr Fs F) [0, 5, 3, 4, 6 + 2 * k, 7 + 2 * k] (jw_c rfl (jw_c rfl (jw_c rfl (jw_c rfl (jw_c (jc_h hk) (jw_c (jc_b hk) jw_n)))))) ((by decide +kernel : ∀ k, k < 8 → va_nd [0, 5, 3, 4, 6 + 2 * k, 7 + 2 * k] = true) k hk) (fun _ => rfl)
  refine ⟨⟨_, _, _, (Nat.le_of_ble_eq_true rfl), (Nat.le_of_ble_eq_true rfl), (Nat.le_of_ble_eq_true rfl), (c_La_print_ok oa fo rfl hM).weak ?_⟩, rfl⟩
  rintro vR ⟨u, fo1⟩ ⟨rR, rfl, rfl, vR2, hv, hfo⟩
  refine ⟨(cW dA A t (js_pr 32 v) sl pl H N c0 pr0 ft u Fs F, fo1), ⟨_, rfl, rfl, fun z9 => by rw [hfo, hv.1, ek], ⟨H, N, c0, pr0, ft, u, Fs, F, rfl, g1, by rw [← ek]; exact hv.2, g3, g4, g5⟩⟩, congrArg (List.cons _) ?_⟩
  rw [← ek]
  exact ((jc_keep hk)).symm

set_option maxHeartbeats 4000000 in
set_option maxRecDepth 100000 in
theorem jl_print_x1 {l : Launch} {D : va_G} {dA : Nat → ClassId} {zz : (Nat → Nat) × (Nat → Nat)} {A : Nat → Nat} {t r : List Nat} {sl : Nat → Option (js_J 32)} {pl : Int32} {X : va_W} (oa : Nat) (fo : Nat → Int64) (hlt : l.stackTraces = false) (hS : js_SW t r sl) (hX : CW dA A t r sl pl X) (i : Int32) (hb : i < 0 ∨ 8 ≤ i) : jl_W l D dA zz y_La_print b_La_print 4 [(0, 9, 12, 19), (0, 9, 15, 29)] [.ref (A 0), .int i, .ref oa] oa fo X 1 (fun z => True) (CW dA A t r sl pl) ∧ X[0]? = some (A 0, .inr (5, [.ref (A 1), .ref (A 3), .ref (A 5), .ref (A 22), .ref (A 31), .ref (A 39), .int pl])) := by
  obtain ⟨H, N, c0, pr0, ft, fr, Fs, F, rfl, g1, g2, g3, g4, g5⟩ := hX
  obtain ⟨z1, z2, z3⟩ := hS
  have hM := (c_Sh_print_no1 (l := l) (D := D) (dA := dA) (zz := zz) (A 0) (A 1) (A 3) (A 5) (A 22) (A 31) (A 39) pl (jc_fs A) i hb hlt).put (cW dA A t r sl pl H N c0 pr0 ft fr Fs F) [0, 5] (jw_c rfl (jw_c rfl jw_n)) rfl (fun _ => rfl)
  refine ⟨⟨_, _, _, (Nat.le_of_ble_eq_true rfl), (Nat.le_of_ble_eq_true rfl), (Nat.le_of_ble_eq_true rfl), (c_La_print_x1 oa fo rfl hM).weak ?_⟩, rfl⟩
  rintro vR ⟨u, fo1⟩ ⟨rR, rfl, rfl, hv⟩
  refine ⟨(cW dA A t r sl pl H N c0 pr0 ft fr Fs F, fo1), ⟨_, rfl, rfl, fun z9 => absurd z9 (by decide), ⟨H, N, c0, pr0, ft, fr, Fs, F, rfl, g1, g2, g3, g4, g5⟩⟩, congrArg (List.cons _) ?_⟩
  exact (rfl).symm

set_option maxHeartbeats 4000000 in
set_option maxRecDepth 100000 in
theorem jl_print_x2 {l : Launch} {D : va_G} {dA : Nat → ClassId} {zz : (Nat → Nat) × (Nat → Nat)} {A : Nat → Nat} {t r : List Nat} {sl : Nat → Option (js_J 32)} {pl : Int32} {X : va_W} (oa : Nat) (fo : Nat → Int64) (hlt : l.stackTraces = false) (hS : js_SW t r sl) (hX : CW dA A t r sl pl X) (k : Nat) (hk : k < 8) (hsk : sl k = none) : jl_W l D dA zz y_La_print b_La_print 4 [(0, 9, 12, 19), (0, 9, 15, 29)] [.ref (A 0), .int (nI k), .ref oa] oa fo X 2 (fun z => True) (CW dA A t r sl pl) ∧ X[0]? = some (A 0, .inr (5, [.ref (A 1), .ref (A 3), .ref (A 5), .ref (A 22), .ref (A 31), .ref (A 39), .int pl])) := by
  obtain ⟨H, N, c0, pr0, ft, fr, Fs, F, rfl, g1, g2, g3, g4, g5⟩ := hX
  obtain ⟨z1, z2, z3⟩ := hS
  have hM := (c_Sh_print_no2 (l := l) (D := D) (dA := dA) (zz := zz) (A 0) (A 1) (A 3) (A 5) (A 22) (A 31) (A 39) pl (A (6 + 2 * k)) (A (7 + 2 * k)) k (jc_fs A) (Fs k) hk (jc_fs_at A hk) hlt).put (cW dA A t r sl pl H N c0 pr0 ft fr Fs F) [0, 5, 6 + 2 * k, 7 + 2 * k] (jw_c rfl (jw_c rfl (jw_c (jc_h0 hk hsk) (jw_c (jc_b hk) jw_n)))) ((by decide +kernel : ∀ k, k < 8 → va_nd [0, 5, 6 + 2 * k, 7 + 2 * k] = true) k hk) (fun _ => rfl)
  refine ⟨⟨_, _, _, (Nat.le_of_ble_eq_true rfl), (Nat.le_of_ble_eq_true rfl), (Nat.le_of_ble_eq_true rfl), (c_La_print_x2 oa fo rfl hM).weak ?_⟩, rfl⟩
  rintro vR ⟨u, fo1⟩ ⟨rR, rfl, rfl, hv⟩
  refine ⟨(cW dA A t r sl pl H N c0 pr0 ft fr Fs F, fo1), ⟨_, rfl, rfl, fun z9 => absurd z9 (by decide), ⟨H, N, c0, pr0, ft, fr, Fs, F, rfl, g1, g2, g3, g4, g5⟩⟩, congrArg (List.cons _) ?_⟩
  exact ((jc_keep0 hk hsk)).symm

set_option maxHeartbeats 4000000 in
set_option maxRecDepth 100000 in
theorem jl_word_ok {l : Launch} {D : va_G} {dA : Nat → ClassId} {zz : (Nat → Nat) × (Nat → Nat)} {A : Nat → Nat} {t r : List Nat} {sl : Nat → Option (js_J 32)} {pl : Int32} {X : va_W} (oa : Nat) (fo : Nat → Int64) (hlt : l.stackTraces = false) (hS : js_SW t r sl) (hX : CW dA A t r sl pl X) (k : Nat) (hk : k < r.length) : jl_W l D dA zz y_La_word b_La_word 4 [(0, 8, 11, 13)] [.ref (A 0), .int (nI k), .ref oa] oa fo X 0 (fun z => z = js_w8 r k 8) (CW dA A t r sl pl) ∧ X[0]? = some (A 0, .inr (5, [.ref (A 1), .ref (A 3), .ref (A 5), .ref (A 22), .ref (A 31), .ref (A 39), .int pl])) := by
  obtain ⟨H, N, c0, pr0, ft, fr, Fs, F, rfl, g1, g2, g3, g4, g5⟩ := hX
  obtain ⟨z1, z2, z3⟩ := hS
  have hM := (c_Sh_word_ok (l := l) (D := D) (dA := dA) (zz := zz) (A 0) (A 1) (A 3) (A 5) (A 22) (A 31) (A 39) pl (A 4) fr r k hk z2 g2).put (cW dA A t r sl pl H N c0 pr0 ft fr Fs F) [0, 3, 4] (jw_c rfl (jw_c rfl (jw_c rfl jw_n))) rfl (fun _ => rfl)
  refine ⟨⟨_, _, _, (Nat.le_of_ble_eq_true rfl), (Nat.le_of_ble_eq_true rfl), (Nat.le_of_ble_eq_true rfl), (c_La_word_ok oa fo rfl hM).weak ?_⟩, rfl⟩
  rintro vR ⟨u, fo1⟩ ⟨rR, rfl, rfl, vR2, hv, hfo⟩
  refine ⟨(cW dA A t r sl pl H N c0 pr0 ft fr Fs F, fo1), ⟨_, rfl, rfl, fun z9 => by rw [hfo, hv], ⟨H, N, c0, pr0, ft, fr, Fs, F, rfl, g1, g2, g3, g4, g5⟩⟩, congrArg (List.cons _) ?_⟩
  exact (rfl).symm

set_option maxHeartbeats 4000000 in
set_option maxRecDepth 100000 in
theorem jl_word_no {l : Launch} {D : va_G} {dA : Nat → ClassId} {zz : (Nat → Nat) × (Nat → Nat)} {A : Nat → Nat} {t r : List Nat} {sl : Nat → Option (js_J 32)} {pl : Int32} {X : va_W} (oa : Nat) (fo : Nat → Int64) (hlt : l.stackTraces = false) (hS : js_SW t r sl) (hX : CW dA A t r sl pl X) (i : Int32) (hb : i < 0 ∨ nI r.length ≤ i) : jl_W l D dA zz y_La_word b_La_word 4 [(0, 8, 11, 13)] [.ref (A 0), .int i, .ref oa] oa fo X 1 (fun z => True) (CW dA A t r sl pl) ∧ X[0]? = some (A 0, .inr (5, [.ref (A 1), .ref (A 3), .ref (A 5), .ref (A 22), .ref (A 31), .ref (A 39), .int pl])) := by
  obtain ⟨H, N, c0, pr0, ft, fr, Fs, F, rfl, g1, g2, g3, g4, g5⟩ := hX
  obtain ⟨z1, z2, z3⟩ := hS
  have hM := (c_Sh_word_no (l := l) (D := D) (dA := dA) (zz := zz) (A 0) (A 1) (A 3) (A 5) (A 22) (A 31) (A 39) pl (A 4) fr r i hb hlt).put (cW dA A t r sl pl H N c0 pr0 ft fr Fs F) [0, 3, 4] (jw_c rfl (jw_c rfl (jw_c rfl jw_n))) rfl (fun _ => rfl)
  refine ⟨⟨_, _, _, (Nat.le_of_ble_eq_true rfl), (Nat.le_of_ble_eq_true rfl), (Nat.le_of_ble_eq_true rfl), (c_La_word_x1 oa fo rfl hM).weak ?_⟩, rfl⟩
  rintro vR ⟨u, fo1⟩ ⟨rR, rfl, rfl, hv⟩
  refine ⟨(cW dA A t r sl pl H N c0 pr0 ft fr Fs F, fo1), ⟨_, rfl, rfl, fun z9 => absurd z9 (by decide), ⟨H, N, c0, pr0, ft, fr, Fs, F, rfl, g1, g2, g3, g4, g5⟩⟩, congrArg (List.cons _) ?_⟩
  exact (rfl).symm

set_option maxHeartbeats 4000000 in
set_option maxRecDepth 100000 in
theorem jl_count_ok {l : Launch} {D : va_G} {dA : Nat → ClassId} {zz : (Nat → Nat) × (Nat → Nat)} {A : Nat → Nat} {t r : List Nat} {sl : Nat → Option (js_J 32)} {pl : Int32} {X : va_W} (oa : Nat) (fo : Nat → Int64) (hlt : l.stackTraces = false) (hS : js_SW t r sl) (hX : CW dA A t r sl pl X) (i : Int32) (hb : ¬ i = 0 → ¬ i = 1 → ¬ i = 2 → False) : jl_W l D dA zz y_La_count b_La_count 4 [(0, 9, 12, 19)] [.ref (A 0), .int i, .ref oa] oa fo X 0 (fun z => z = (if i = 0 then nI t.length else if i = 1 then nI r.length else pl).toInt64) (CW dA A t r sl pl) ∧ X[0]? = some (A 0, .inr (5, [.ref (A 1), .ref (A 3), .ref (A 5), .ref (A 22), .ref (A 31), .ref (A 39), .int pl])) := by
  obtain ⟨H, N, c0, pr0, ft, fr, Fs, F, rfl, g1, g2, g3, g4, g5⟩ := hX
  obtain ⟨z1, z2, z3⟩ := hS
  have hM := (c_Sh_count_ok (l := l) (D := D) (dA := dA) (zz := zz) (A 0) (A 1) (A 3) (A 5) (A 22) (A 31) (A 39) pl (A 2) (A 4) ft fr t r i hb).put (cW dA A t r sl pl H N c0 pr0 ft fr Fs F) [0, 1, 2, 3, 4] (jw_c rfl (jw_c rfl (jw_c rfl (jw_c rfl (jw_c rfl jw_n))))) rfl (fun _ => rfl)
  refine ⟨⟨_, _, _, (Nat.le_of_ble_eq_true rfl), (Nat.le_of_ble_eq_true rfl), (Nat.le_of_ble_eq_true rfl), (c_La_count_ok oa fo rfl hM).weak ?_⟩, rfl⟩
  rintro vR ⟨u, fo1⟩ ⟨rR, rfl, rfl, vR2, hv, hfo⟩
  refine ⟨(cW dA A t r sl pl H N c0 pr0 ft fr Fs F, fo1), ⟨_, rfl, rfl, fun z9 => by rw [hfo, hv], ⟨H, N, c0, pr0, ft, fr, Fs, F, rfl, g1, g2, g3, g4, g5⟩⟩, congrArg (List.cons _) ?_⟩
  exact (rfl).symm

set_option maxHeartbeats 4000000 in
set_option maxRecDepth 100000 in
theorem jl_count_no {l : Launch} {D : va_G} {dA : Nat → ClassId} {zz : (Nat → Nat) × (Nat → Nat)} {A : Nat → Nat} {t r : List Nat} {sl : Nat → Option (js_J 32)} {pl : Int32} {X : va_W} (oa : Nat) (fo : Nat → Int64) (hlt : l.stackTraces = false) (hS : js_SW t r sl) (hX : CW dA A t r sl pl X) (i : Int32) (h0 : ¬ i = 0) (h1 : ¬ i = 1) (h2 : ¬ i = 2) : jl_W l D dA zz y_La_count b_La_count 4 [(0, 9, 12, 19)] [.ref (A 0), .int i, .ref oa] oa fo X 1 (fun z => True) (CW dA A t r sl pl) ∧ X[0]? = some (A 0, .inr (5, [.ref (A 1), .ref (A 3), .ref (A 5), .ref (A 22), .ref (A 31), .ref (A 39), .int pl])) := by
  obtain ⟨H, N, c0, pr0, ft, fr, Fs, F, rfl, g1, g2, g3, g4, g5⟩ := hX
  obtain ⟨z1, z2, z3⟩ := hS
  have hM := (c_Sh_count_no (l := l) (D := D) (dA := dA) (zz := zz) (A 0) (A 1) (A 3) (A 5) (A 22) (A 31) (A 39) pl i h0 h1 h2 hlt).put (cW dA A t r sl pl H N c0 pr0 ft fr Fs F) [0] (jw_c rfl jw_n) rfl (fun _ => rfl)
  refine ⟨⟨_, _, _, (Nat.le_of_ble_eq_true rfl), (Nat.le_of_ble_eq_true rfl), (Nat.le_of_ble_eq_true rfl), (c_La_count_x1 oa fo rfl hM).weak ?_⟩, rfl⟩
  rintro vR ⟨u, fo1⟩ ⟨rR, rfl, rfl, hv⟩
  refine ⟨(cW dA A t r sl pl H N c0 pr0 ft fr Fs F, fo1), ⟨_, rfl, rfl, fun z9 => absurd z9 (by decide), ⟨H, N, c0, pr0, ft, fr, Fs, F, rfl, g1, g2, g3, g4, g5⟩⟩, congrArg (List.cons _) ?_⟩
  exact (rfl).symm
