-- the law's rows: the script; calls in the law's world
section JLW
variable {p : Program} {l : Launch} {e : Env} {R : Room} {s : State} {m : MethodId} {args : Array Value} {below : List Frame} {meth : Method} {c : Code} {cells slots : Nat} {Q : State → Prop} {cc : ByteArray} {own : String} {nL : Nat} {D : va_G} {dA : Nat → ClassId} {zz : (Nat → Nat) × (Nat → Nat)} {A : Nat → Prop} {ws : va_W} {lv : List (Nat × Value)} {pc : Nat} {rest : List Value}
theorem jv_sald (C : jv_C p s m args meth c cc own nL D dA zz A) {b L : Nat} {xs : Nat → Int32} (hX : va_X b L xs s s.heap) (hbl : b < s.heap.size) (hbA : ¬ A b) {i : Int32} (j : Nat) (hi : i = nI j) (hj : j < L) (hL : L < 2 ^ 31) (hdg : decode cc pc = .ok (.iaload, 1))
    (kk : jv_V p l e R s m args below meth c cells slots Q D A nL ws lv (pc + 1) (.int (xs j) :: rest)) : jv_V p l e R s m args below meth c cells slots Q D A nL ws lv pc (.int i :: .ref b :: rest) :=
  fun H locs ls hP hD hS h => va_sld C.1 C.2.1 hX hbl hbA hS (by rw [hi]; exact vp_in_nI hj hL) hdg (by rw [hi, nI_clamp (by omega)]; exact kk H locs ls hP hD hS h)
theorem jv_sclen (C : jv_C p s m args meth c cc own nL D dA zz A) {b L : Nat} {xs : Nat → Int32} (hX : va_X b L xs s s.heap) (hbl : b < s.heap.size) (hbA : ¬ A b) (hdg : decode cc pc = .ok (.arraylength, 1))
    (kk : jv_V p l e R s m args below meth c cells slots Q D A nL ws lv (pc + 1) (.int (nI L) :: rest)) : jv_V p l e R s m args below meth c cells slots Q D A nL ws lv pc (.ref b :: rest) :=
  fun H locs ls hP hD hS h => va_slen C.1 C.2.1 hX hbl hbA hS hdg (kk H locs ls hP hD hS h)
theorem jv_is {ws' : va_W} {st st' : List Value} (h1 : ws = ws') (h2 : st = st') (k : jv_V p l e R s m args below meth c cells slots Q D A nL ws' lv pc st') : jv_V p l e R s m args below meth c cells slots Q D A nL ws lv pc st := by
  subst h1
  subst h2
  exact k
theorem jw_range_Nd (n k : Nat) : ((List.range n).map (fun i => i + k)).Nodup := by
  rw [List.nodup_iff_pairwise_ne, List.pairwise_map]
  exact List.Pairwise.imp (fun h z => h (by omega)) (List.nodup_iff_pairwise_ne.mp List.nodup_range)
theorem jv_swap {P P2 : va_W} (k : jv_V p l e R s m args below meth c cells slots Q D A nL (P2 ++ P) lv pc rest) : jv_V p l e R s m args below meth c cells slots Q D A nL (P ++ P2) lv pc rest := by
  refine jv_perm ((List.range P2.length).map (fun i => i + P.length) ++ (List.range P.length).map (fun i => i + ([] : va_W).length)) ?_ ?_ k
  · apply jv_nd_of
    rw [List.nodup_append]
    refine ⟨jw_range_Nd _ _, jw_range_Nd _ _, fun a ha b hb e => ?_⟩
    have h1 := jw_range_mem ha
    have h2 := jw_range_mem hb
    have h3 : ([] : va_W).length = 0 := rfl
    omega
  · rw [List.map_append, List.map_append]
    have h1 := jw_range_at P P2 []
    have h2 := jw_range_at [] P P2
    rw [List.append_nil] at h1
    rw [h1]
    exact congrArg _ h2
theorem jv_lawW {S : Type} {post : Option Value → S → Prop} {w1 : S → va_W} {X Y : va_W} {oc : Nat × va_E} {mc ms n k index ml : Nat} {y : MethodName} {b : ByteArray} {ret : Option FieldType} {hh : List (Nat × Nat × Nat × Nat)} {As st : List Value} (C : jv_C p s m args meth c cc own nL D dA zz A) (L : jv_LW own index y b ml ret hh n) (hM : jv_MW l D dA zz y b ml ret hh k As (oc :: X) post w1 mc ms)
    (hR2 : k + 1 ≤ R.frames ∧ 8 + (ml + 11) + 64 * k ≤ R.locals) (hf : cells + mc ≤ R.cells ∧ slots + ms ≤ R.slots) (hnA : As.length = n) (hst : st = As.reverse ++ rest) (hcat : (rest.map fun v => v.category).sum ≤ 8) (hdg : decode cc pc = .ok (.invokestatic index, 3))
    (kk : ∀ (v : Option Value) (u : S), post v u → jv_V p l e R s m args below meth c (cells + mc) (slots + ms) Q D A nL (w1 u ++ Y) lv (pc + 3) (v.toList ++ rest)) : jv_V p l e R s m args below meth c cells slots Q D A nL (oc :: (X ++ Y)) lv pc st :=
  jv_callW (wr := Y) C L hM ((List.range (oc :: X).length).map (fun i => i + ([] : va_W).length)) ((List.range Y.length).map (fun i => i + (oc :: X).length)) (jw_range_at [] (oc :: X) Y) (by
    have h := jw_range_at (oc :: X) Y []
    rw [List.append_nil] at h
    exact h) (jw_range_nd _ _) (jw_range_nd _ _) (fun i hi z => by
    have h1 := jw_range_mem hi
    have h2 := jw_range_mem z
    have h3 : ([] : va_W).length = 0 := rfl
    omega) hR2 hf hnA hst hcat hdg (fun v u h => jv_swap (kk v u h))
theorem jv_lawV {S : Type} {post : Option Value → S → Prop} {w1 : S → va_W} {X Y : va_W} {oc : Nat × va_E} {mc ms n k index ml : Nat} {y : MethodName} {b : ByteArray} {ret : Option FieldType} {o ci : Nat} {As st : List Value} {fs : List Value} {q : vw_C} (C : jv_C p s m args meth c cc own nL D dA zz A) (L : jv_LV own index y b ml ret n) (hM : jv_M l D dA zz y b ml ret k (.ref o :: As) Y post w1 mc ms)
    (hc : jvCl[ci]? = some q) (hq : q.1 = y.cls) (he : Y[0]? = some (o, .inr (ci, fs)))
    (hR2 : k + 1 ≤ R.frames ∧ 8 + (ml + 11) + 64 * k ≤ R.locals) (hf : cells + mc ≤ R.cells ∧ slots + ms ≤ R.slots) (hnA : As.length = n) (hst : st = As.reverse ++ .ref o :: rest) (hcat : (rest.map fun v => v.category).sum ≤ 8) (hdg : decode cc pc = .ok (.invokevirtual index, 3))
    (kk : ∀ (v : Option Value) (u : S), post v u → jv_V p l e R s m args below meth c (cells + mc) (slots + ms) Q D A nL (oc :: (X ++ w1 u)) lv (pc + 3) (v.toList ++ rest)) : jv_V p l e R s m args below meth c cells slots Q D A nL (oc :: (X ++ Y)) lv pc st :=
  jv_callV (wr := oc :: X) C L hM ((List.range Y.length).map (fun i => i + (oc :: X).length)) ((List.range (oc :: X).length).map (fun i => i + ([] : va_W).length)) (by
    have h := jw_range_at (oc :: X) Y []
    rw [List.append_nil] at h
    exact h) (jw_range_at [] (oc :: X) Y) (jw_range_nd _ _) (jw_range_nd _ _) (fun i hi z => by
    have h1 := jw_range_mem hi
    have h2 := jw_range_mem z
    have h3 : ([] : va_W).length = 0 := rfl
    omega) hc hq 0 he hR2 hf hnA hst hcat hdg kk
theorem jv_lawI {S : Type} {post : Option Value → S → Prop} {w1 : S → va_W} {P Y : va_W} {mc ms n k index ml : Nat} {y : MethodName} {b : ByteArray} {o : Nat} {As st : List Value} (C : jv_C p s m args meth c cc own nL D dA zz A) (L : jv_LI own index y b ml n) (hM : jv_M l D dA zz y b ml none k (.ref o :: As) Y post w1 mc ms)
    (hR2 : k + 1 ≤ R.frames ∧ 8 + (ml + 11) + 64 * k ≤ R.locals) (hf : cells + mc ≤ R.cells ∧ slots + ms ≤ R.slots) (hnA : As.length = n) (hst : st = As.reverse ++ .ref o :: rest) (hcat : (rest.map fun v => v.category).sum ≤ 8) (hdg : decode cc pc = .ok (.invokespecial index, 3))
    (kk : ∀ (v : Option Value) (u : S), post v u → jv_V p l e R s m args below meth c (cells + mc) (slots + ms) Q D A nL (P ++ w1 u) lv (pc + 3) (v.toList ++ rest)) : jv_V p l e R s m args below meth c cells slots Q D A nL (P ++ Y) lv pc st :=
  jv_callI (wr := P) C L hM ((List.range Y.length).map (fun i => i + P.length)) ((List.range P.length).map (fun i => i + ([] : va_W).length)) (by
    have h := jw_range_at P Y []
    rw [List.append_nil] at h
    exact h) (jw_range_at [] P Y) (jw_range_nd _ _) (jw_range_nd _ _) (fun i hi z => by
    have h1 := jw_range_mem hi
    have h2 := jw_range_mem z
    have h3 : ([] : va_W).length = 0 := rfl
    omega) hR2 hf hnA hst hcat hdg kk
end JLW
/-- the loop's invariant: n calls were made -/
def jl_I (dA : Nat → ClassId) (Ac : Nat → Nat) (o : Nat) (Qm : Nat → Nat) (n cells slots : Nat) (X Y : va_W) : Prop := ∃ (t r : List Nat) (sl : Nat → Option (js_J 32)) (pl cd : Int32) (pc ps : Nat), CW dA Ac t r sl pl X ∧ MW dA o Qm t r sl pl cd pc ps Y ∧ js_SW t r sl ∧ cells + 4 * t.length ≤ 3000 + 101 * n + pc ∧ slots + 44 * t.length ≤ 300000 + 1006 * n + ps
theorem MW.room {dA : Nat → ClassId} {o : Nat} {Q : Nat → Nat} {t r : List Nat} {sl : Nat → Option (js_J 32)} {pl cd : Int32} {pc ps : Nat} {Y : va_W} (h : MW dA o Q t r sl pl cd pc ps Y) : pc ≤ 16384 ∧ ps ≤ 180224 := by
  obtain ⟨k7, k8, k9, k11, k12, vt, ft, fr, g, ln, th, f, A1, M1, Mu1, F1, G1, c1, u1, A2, M2, Mu2, F2, G2, c2, u2, -, -, -, -, -, -, rfl, rfl⟩ := h
  have h1 := js_cp_b M1
  have h2 := js_cu_b Mu1
  have h3 := js_cp_b M2
  have h4 := js_cu_b Mu2
  unfold jq_C jq_S
  constructor <;> omega
theorem lg_cmp_0 (x : Int64) : lg_cmp x x = 0 := by
  unfold lg_cmp
  simp
def jl_R (R : Room) : Prop := 100 ≤ R.frames ∧ 8000 ≤ R.locals ∧ 601024 ≤ R.cells ∧ 7293034 ≤ R.slots
section JLC
variable {p : Program} {l : Launch} {e : Env} {R : Room} {s : State} {m : MethodId} {args : Array Value} {below : List Frame} {meth : Method} {c : Code} {cells slots : Nat} {Q : State → Prop} {cc : ByteArray} {own : String} {nL : Nat} {D : va_G} {dA : Nat → ClassId} {zz : (Nat → Nat) × (Nat → Nat)} {A : Nat → Prop} {ws : va_W} {lv : List (Nat × Value)} {pc : Nat} {rest : List Value}
set_option maxHeartbeats 1000000 in
theorem lw_feed (C : jv_C p s m args meth c b_La_law R_La 8 D dA zz A) (hlt : l.stackTraces = false) {b L : Nat} {xs : Nat → Int32} (hX : va_X b L xs s s.heap) (hbl : b < s.heap.size) (hbA : ¬ A b) (hL : L ≤ 3072) (hR : jl_R R) {n : Nat} (h6 : 6 * n + 6 ≤ L) {oa o : Nat} {fo : Nat → Int64} {Ac Qm : Nat → Nat} {X Y : va_W} (hI : jl_I dA Ac o Qm n cells slots X Y)
    (K : ∀ (cells1 slots1 : Nat) (fo1 : Nat → Int64) (X1 Y1 : va_W), jl_I dA Ac o Qm (n + 1) cells1 slots1 X1 Y1 → jv_V p l e R s m args below meth c cells1 slots1 Q D A 8 ((oa, .inl (dA 2, 1, .inr (.inl fo1))) :: (X1 ++ Y1)) [(0, .ref b), (1, .ref (Ac 0)), (2, .ref o), (3, .ref oa), (4, .int (nI (6 * n)))] 677 []) : jv_V p l e R s m args below meth c cells slots Q D A 8 ((oa, .inl (dA 2, 1, .inr (.inl fo))) :: (X ++ Y)) [(0, .ref b), (1, .ref (Ac 0)), (2, .ref o), (3, .ref oa), (4, .int (nI (6 * n)))] 92 [] := by
  obtain ⟨t, r, sl, pl, cd, pc0, ps0, hCW, hMW, hS, hc, hs⟩ := hI
  obtain ⟨hR1, hR2, hR3, hR4⟩ := hR
  obtain ⟨code, val, vm, t1, r1, sl1, pl1, ⟨kL, mc, ms, hk, hmc, hms, hW⟩, ⟨kM, mcM, msM, hkM, hmcM, hmsM, hM⟩, hS1, hag⟩ := jp_feed oa fo hlt hS hCW hMW (xs (6 * n + 1)) (xs (6 * n + 2)) (xs (6 * n + 3)) (xs (6 * n + 4)) (xs (6 * n + 5))
  have hrm := hMW.room
  have hn : n ≤ 512 := by omega
  obtain ⟨fs, he⟩ := jq_0 hMW
  refine jv_aload_n C (jd D_La_law 25 rfl) rfl 1 rfl ?_
  refine jv_aload_n C (jd D_La_law 26 rfl) rfl 0 rfl ?_
  refine jv_iload C (jd D_La_law 27 rfl) 4 rfl ?_
  refine jv_iconst (v := 1) C (jd D_La_law 28 rfl) (by decide) ?_
  refine jv_iadd C (jd D_La_law 29 rfl) ?_
  refine jv_sald C hX hbl hbA (6 * n + 1) (nI_add (6 * n) 1) (by omega) (by omega) (jd D_La_law 30 rfl) ?_
  refine jv_aload_n C (jd D_La_law 31 rfl) rfl 0 rfl ?_
  refine jv_iload C (jd D_La_law 32 rfl) 4 rfl ?_
  refine jv_iconst (v := 2) C (jd D_La_law 33 rfl) (by decide) ?_
  refine jv_iadd C (jd D_La_law 34 rfl) ?_
  refine jv_sald C hX hbl hbA (6 * n + 2) (nI_add (6 * n) 2) (by omega) (by omega) (jd D_La_law 35 rfl) ?_
  refine jv_aload_n C (jd D_La_law 36 rfl) rfl 0 rfl ?_
  refine jv_iload C (jd D_La_law 37 rfl) 4 rfl ?_
  refine jv_iconst (v := 3) C (jd D_La_law 38 rfl) (by decide) ?_
  refine jv_iadd C (jd D_La_law 39 rfl) ?_
  refine jv_sald C hX hbl hbA (6 * n + 3) (nI_add (6 * n) 3) (by omega) (by omega) (jd D_La_law 40 rfl) ?_
  refine jv_aload_n C (jd D_La_law 41 rfl) rfl 0 rfl ?_
  refine jv_iload C (jd D_La_law 42 rfl) 4 rfl ?_
  refine jv_iconst (v := 4) C (jd D_La_law 43 rfl) (by decide) ?_
  refine jv_iadd C (jd D_La_law 44 rfl) ?_
  refine jv_sald C hX hbl hbA (6 * n + 4) (nI_add (6 * n) 4) (by omega) (by omega) (jd D_La_law 45 rfl) ?_
  refine jv_aload_n C (jd D_La_law 46 rfl) rfl 0 rfl ?_
  refine jv_iload C (jd D_La_law 47 rfl) 4 rfl ?_
  refine jv_iconst (v := 5) C (jd D_La_law 48 rfl) (by decide) ?_
  refine jv_iadd C (jd D_La_law 49 rfl) ?_
  refine jv_sald C hX hbl hbA (6 * n + 5) (nI_add (6 * n) 5) (by omega) (by omega) (jd D_La_law 50 rfl) ?_
  refine jv_aload_n C (jd D_La_law 51 rfl) rfl 3 rfl ?_
  refine jv_lawW C cw_La_56 hW ⟨by omega, by omega⟩ ⟨by omega, by omega⟩ rfl rfl (by decide) (jd D_La_law 52 rfl) ?_
  rintro v ⟨X1, fo1⟩ ⟨rr, rfl, hcode, hval, hCW1⟩
  refine jv_is (ws' := (oa, .inl (dA 2, 1, .inr (.inl fo1))) :: (X1 ++ Y)) (st' := [.int code]) rfl (by rw [hcode]; rfl) ?_
  refine jv_istore C [(5, .int code), (0, .ref b), (1, .ref (Ac 0)), (2, .ref o), (3, .ref oa), (4, .int (nI (6 * n)))] (jd D_La_law 53 rfl) (by decide) rfl ?_
  refine jv_aload_n C (jd D_La_law 54 rfl) rfl 3 rfl ?_
  refine jv_aload_n C (jd D_La_law 55 rfl) rfl 1 rfl ?_
  refine jv_iload C (jd D_La_law 56 rfl) 5 rfl ?_
  refine jv_iconst (v := 1) C (jd D_La_law 57 rfl) (by decide) ?_
  refine jv_iadd C (jd D_La_law 58 rfl) ?_
  refine jv_sald C hX hbl hbA (6 * n + 1) (nI_add (6 * n) 1) (by omega) (by omega) (jd D_La_law 59 rfl) ?_
  refine jv_aload_n C (jd D_La_law 60 rfl) rfl 1 rfl ?_
  refine jv_iload C (jd D_La_law 61 rfl) 5 rfl ?_
  refine jv_iconst (v := 2) C (jd D_La_law 62 rfl) (by decide) ?_
  refine jv_iadd C (jd D_La_law 63 rfl) ?_
  refine jv_sald C hX hbl hbA (6 * n + 2) (nI_add (6 * n) 2) (by omega) (by omega) (jd D_La_law 64 rfl) ?_
  refine jv_aload_n C (jd D_La_law 65 rfl) rfl 1 rfl ?_
  refine jv_iload C (jd D_La_law 66 rfl) 5 rfl ?_
  refine jv_iconst (v := 3) C (jd D_La_law 67 rfl) (by decide) ?_
  refine jv_iadd C (jd D_La_law 68 rfl) ?_
  refine jv_sald C hX hbl hbA (6 * n + 3) (nI_add (6 * n) 3) (by omega) (by omega) (jd D_La_law 69 rfl) ?_
  refine jv_aload_n C (jd D_La_law 70 rfl) rfl 1 rfl ?_
  refine jv_iload C (jd D_La_law 71 rfl) 5 rfl ?_
  refine jv_iconst (v := 4) C (jd D_La_law 72 rfl) (by decide) ?_
  refine jv_iadd C (jd D_La_law 73 rfl) ?_
  refine jv_sald C hX hbl hbA (6 * n + 4) (nI_add (6 * n) 4) (by omega) (by omega) (jd D_La_law 74 rfl) ?_
  refine jv_aload_n C (jd D_La_law 75 rfl) rfl 1 rfl ?_
  refine jv_iload C (jd D_La_law 76 rfl) 5 rfl ?_
  refine jv_iconst (v := 5) C (jd D_La_law 77 rfl) (by decide) ?_
  refine jv_iadd C (jd D_La_law 78 rfl) ?_
  refine jv_sald C hX hbl hbA (6 * n + 5) (nI_add (6 * n) 5) (by omega) (by omega) (jd D_La_law 79 rfl) ?_
  refine jv_lawV C cl_La_61 hM rfl rfl he ⟨by omega, by omega⟩ ⟨by omega, by omega⟩ rfl rfl (by decide) (jd D_La_law 80 rfl) ?_
  rintro v ⟨Y1, pc1, ps1⟩ ⟨hvm, hMW1, hc1, hs1⟩
  have hMW1 : MW dA o Qm t1 r1 sl1 pl1 code pc1 ps1 Y1 := hMW1
  have hc1 : mcM + pc0 + 4 * t1.length ≤ pc1 + 4 * t.length + 100 := hc1
  have hs1 : msM + ps0 + 44 * t1.length ≤ ps1 + 44 * t.length + 1000 := hs1
  obtain ⟨bv, rfl, hagr⟩ := hag (fo1 0) v hvm
  refine jv_is (ws' := (oa, .inl (dA 2, 1, .inr (.inl fo1))) :: (X1 ++ Y1)) (st' := [.int bv]) rfl rfl ?_
  refine jv_istore C [(6, .int bv), (5, .int code), (0, .ref b), (1, .ref (Ac 0)), (2, .ref o), (3, .ref oa), (4, .int (nI (6 * n)))] (jd D_La_law 81 rfl) (by decide) rfl ?_
  refine jv_aload_n C (jd D_La_law 82 rfl) rfl 4 rfl ?_
  obtain ⟨fs1, he1⟩ := jq_0 hMW1
  refine jv_lawV C cl_La_62 (jq_thrown hMW1) rfl rfl he1 ⟨by omega, by omega⟩ ⟨by omega, by omega⟩ rfl rfl (by decide) (jd D_La_law 83 rfl) ?_
  rintro v u ⟨z, rfl, hz⟩
  refine jv_is (ws' := (oa, .inl (dA 2, 1, .inr (.inl fo1))) :: (X1 ++ Y1)) (st' := [.int code]) rfl (by rw [hz]; rfl) ?_
  refine jv_iload C (jd D_La_law 84 rfl) 1 rfl ?_
  have E : jv_V p l e R s m args below meth c (cells + mc + mcM + 0) (slots + ms + msM + 0) Q D A 8 ((oa, .inl (dA 2, 1, .inr (.inl fo1))) :: (X1 ++ Y1)) [(6, .int bv), (5, .int code), (0, .ref b), (1, .ref (Ac 0)), (2, .ref o), (3, .ref oa), (4, .int (nI (6 * n)))] 193 [] := by
    refine jv_goto (tgt := 677) C (jd D_La_law 99 rfl) (by decide) ?_
    refine jv_lvsub [2, 3, 4, 5, 6] rfl ?_
    exact K _ _ fo1 X1 Y1 ⟨t1, r1, sl1, pl1, code, pc1, ps1, hCW1, hMW1, hS1, by omega, by omega⟩
  refine jv_icmp_eq (tgt := 176) C (jd D_La_law 85 rfl) (by decide) (fun _ => ?_) (fun h => absurd rfl h)
  refine jv_iload C (jd D_La_law 88 rfl) 1 rfl ?_
  refine jv_if_ne (tgt := 193) C (jd D_La_law 89 rfl) (by decide) (fun _ => E) (fun h0 => ?_)
  have hag := hagr ⟨h0, hval h0⟩
  refine jv_aload_n C (jd D_La_law 90 rfl) rfl 5 rfl ?_
  refine jv_iconst (v := 0) C (jd D_La_law 91 rfl) (by decide) ?_
  refine jv_lald C 0 rfl (show vp_in (nI 0) 1 from vp_in_nI (by decide) (by decide)) (jd D_La_law 92 rfl) ?_
  refine jv_is (ws' := (oa, .inl (dA 2, 1, .inr (.inl fo1))) :: (X1 ++ Y1)) (st' := [.long (fo1 0)]) rfl rfl ?_
  refine jv_iload C (jd D_La_law 93 rfl) 0 rfl ?_
  refine jv_i2l C (jd D_La_law 94 rfl) ?_
  refine jv_lcmp C (jd D_La_law 95 rfl) ?_
  exact jv_if_eq (tgt := 193) C (jd D_La_law 96 rfl) (by decide) (fun _ => E) (fun h => absurd (by rw [hag]; exact lg_cmp_0 _) h)

set_option maxHeartbeats 1000000 in
theorem lw_end (C : jv_C p s m args meth c b_La_law R_La 8 D dA zz A) (hlt : l.stackTraces = false) {b L : Nat} {xs : Nat → Int32} (hX : va_X b L xs s s.heap) (hbl : b < s.heap.size) (hbA : ¬ A b) (hL : L ≤ 3072) (hR : jl_R R) {n : Nat} (h6 : 6 * n + 6 ≤ L) {oa o : Nat} {fo : Nat → Int64} {Ac Qm : Nat → Nat} {X Y : va_W} (hI : jl_I dA Ac o Qm n cells slots X Y)
    (K : ∀ (cells1 slots1 : Nat) (fo1 : Nat → Int64) (X1 Y1 : va_W), jl_I dA Ac o Qm (n + 1) cells1 slots1 X1 Y1 → jv_V p l e R s m args below meth c cells1 slots1 Q D A 8 ((oa, .inl (dA 2, 1, .inr (.inl fo1))) :: (X1 ++ Y1)) [(0, .ref b), (1, .ref (Ac 0)), (2, .ref o), (3, .ref oa), (4, .int (nI (6 * n)))] 677 []) : jv_V p l e R s m args below meth c cells slots Q D A 8 ((oa, .inl (dA 2, 1, .inr (.inl fo))) :: (X ++ Y)) [(0, .ref b), (1, .ref (Ac 0)), (2, .ref o), (3, .ref oa), (4, .int (nI (6 * n)))] 196 [] := by
  obtain ⟨t, r, sl, pl, cd, pc0, ps0, hCW, hMW, hS, hc, hs⟩ := hI
  obtain ⟨hR1, hR2, hR3, hR4⟩ := hR
  obtain ⟨code, val, vm, t1, r1, sl1, pl1, ⟨kL, mc, ms, hk, hmc, hms, hW⟩, ⟨kM, mcM, msM, hkM, hmcM, hmsM, hM⟩, hS1, hag⟩ := jp_end oa fo hlt hS hCW hMW (xs (6 * n + 1))
  have hrm := hMW.room
  have hn : n ≤ 512 := by omega
  obtain ⟨fs, he⟩ := jq_0 hMW
  refine jv_aload_n C (jd D_La_law 100 rfl) rfl 1 rfl ?_
  refine jv_aload_n C (jd D_La_law 101 rfl) rfl 0 rfl ?_
  refine jv_iload C (jd D_La_law 102 rfl) 4 rfl ?_
  refine jv_iconst (v := 1) C (jd D_La_law 103 rfl) (by decide) ?_
  refine jv_iadd C (jd D_La_law 104 rfl) ?_
  refine jv_sald C hX hbl hbA (6 * n + 1) (nI_add (6 * n) 1) (by omega) (by omega) (jd D_La_law 105 rfl) ?_
  refine jv_aload_n C (jd D_La_law 106 rfl) rfl 3 rfl ?_
  refine jv_lawW C cw_La_66 hW ⟨by omega, by omega⟩ ⟨by omega, by omega⟩ rfl rfl (by decide) (jd D_La_law 107 rfl) ?_
  rintro v ⟨X1, fo1⟩ ⟨rr, rfl, hcode, hval, hCW1⟩
  refine jv_is (ws' := (oa, .inl (dA 2, 1, .inr (.inl fo1))) :: (X1 ++ Y)) (st' := [.int code]) rfl (by rw [hcode]; rfl) ?_
  refine jv_istore C [(5, .int code), (0, .ref b), (1, .ref (Ac 0)), (2, .ref o), (3, .ref oa), (4, .int (nI (6 * n)))] (jd D_La_law 108 rfl) (by decide) rfl ?_
  refine jv_aload_n C (jd D_La_law 109 rfl) rfl 3 rfl ?_
  refine jv_aload_n C (jd D_La_law 110 rfl) rfl 1 rfl ?_
  refine jv_iload C (jd D_La_law 111 rfl) 5 rfl ?_
  refine jv_iconst (v := 1) C (jd D_La_law 112 rfl) (by decide) ?_
  refine jv_iadd C (jd D_La_law 113 rfl) ?_
  refine jv_sald C hX hbl hbA (6 * n + 1) (nI_add (6 * n) 1) (by omega) (by omega) (jd D_La_law 114 rfl) ?_
  refine jv_lawV C cl_La_69 hM rfl rfl he ⟨by omega, by omega⟩ ⟨by omega, by omega⟩ rfl rfl (by decide) (jd D_La_law 115 rfl) ?_
  rintro v ⟨Y1, pc1, ps1⟩ ⟨hvm, hMW1, hc1, hs1⟩
  have hMW1 : MW dA o Qm t1 r1 sl1 pl1 code pc1 ps1 Y1 := hMW1
  have hc1 : mcM + pc0 + 4 * t1.length ≤ pc1 + 4 * t.length + 100 := hc1
  have hs1 : msM + ps0 + 44 * t1.length ≤ ps1 + 44 * t.length + 1000 := hs1
  obtain ⟨bv, rfl, hagr⟩ := hag (fo1 0) v hvm
  refine jv_is (ws' := (oa, .inl (dA 2, 1, .inr (.inl fo1))) :: (X1 ++ Y1)) (st' := [.int bv]) rfl rfl ?_
  refine jv_istore C [(6, .int bv), (5, .int code), (0, .ref b), (1, .ref (Ac 0)), (2, .ref o), (3, .ref oa), (4, .int (nI (6 * n)))] (jd D_La_law 116 rfl) (by decide) rfl ?_
  refine jv_aload_n C (jd D_La_law 117 rfl) rfl 4 rfl ?_
  obtain ⟨fs1, he1⟩ := jq_0 hMW1
  refine jv_lawV C cl_La_62 (jq_thrown hMW1) rfl rfl he1 ⟨by omega, by omega⟩ ⟨by omega, by omega⟩ rfl rfl (by decide) (jd D_La_law 118 rfl) ?_
  rintro v u ⟨z, rfl, hz⟩
  refine jv_is (ws' := (oa, .inl (dA 2, 1, .inr (.inl fo1))) :: (X1 ++ Y1)) (st' := [.int code]) rfl (by rw [hz]; rfl) ?_
  refine jv_iload C (jd D_La_law 119 rfl) 1 rfl ?_
  have E : jv_V p l e R s m args below meth c (cells + mc + mcM + 0) (slots + ms + msM + 0) Q D A 8 ((oa, .inl (dA 2, 1, .inr (.inl fo1))) :: (X1 ++ Y1)) [(6, .int bv), (5, .int code), (0, .ref b), (1, .ref (Ac 0)), (2, .ref o), (3, .ref oa), (4, .int (nI (6 * n)))] 249 [] := by
    refine jv_goto (tgt := 677) C (jd D_La_law 134 rfl) (by decide) ?_
    refine jv_lvsub [2, 3, 4, 5, 6] rfl ?_
    exact K _ _ fo1 X1 Y1 ⟨t1, r1, sl1, pl1, code, pc1, ps1, hCW1, hMW1, hS1, by omega, by omega⟩
  refine jv_icmp_eq (tgt := 232) C (jd D_La_law 120 rfl) (by decide) (fun _ => ?_) (fun h => absurd rfl h)
  refine jv_iload C (jd D_La_law 123 rfl) 1 rfl ?_
  refine jv_if_ne (tgt := 249) C (jd D_La_law 124 rfl) (by decide) (fun _ => E) (fun h0 => ?_)
  have hag := hagr ⟨h0, hval h0⟩
  refine jv_aload_n C (jd D_La_law 125 rfl) rfl 5 rfl ?_
  refine jv_iconst (v := 0) C (jd D_La_law 126 rfl) (by decide) ?_
  refine jv_lald C 0 rfl (show vp_in (nI 0) 1 from vp_in_nI (by decide) (by decide)) (jd D_La_law 127 rfl) ?_
  refine jv_is (ws' := (oa, .inl (dA 2, 1, .inr (.inl fo1))) :: (X1 ++ Y1)) (st' := [.long (fo1 0)]) rfl rfl ?_
  refine jv_iload C (jd D_La_law 128 rfl) 0 rfl ?_
  refine jv_i2l C (jd D_La_law 129 rfl) ?_
  refine jv_lcmp C (jd D_La_law 130 rfl) ?_
  exact jv_if_eq (tgt := 249) C (jd D_La_law 131 rfl) (by decide) (fun _ => E) (fun h => absurd (by rw [hag]; exact lg_cmp_0 _) h)

set_option maxHeartbeats 1000000 in
theorem lw_read (C : jv_C p s m args meth c b_La_law R_La 8 D dA zz A) (hlt : l.stackTraces = false) {b L : Nat} {xs : Nat → Int32} (hX : va_X b L xs s s.heap) (hbl : b < s.heap.size) (hbA : ¬ A b) (hL : L ≤ 3072) (hR : jl_R R) {n : Nat} (h6 : 6 * n + 6 ≤ L) {oa o : Nat} {fo : Nat → Int64} {Ac Qm : Nat → Nat} {X Y : va_W} (hI : jl_I dA Ac o Qm n cells slots X Y)
    (K : ∀ (cells1 slots1 : Nat) (fo1 : Nat → Int64) (X1 Y1 : va_W), jl_I dA Ac o Qm (n + 1) cells1 slots1 X1 Y1 → jv_V p l e R s m args below meth c cells1 slots1 Q D A 8 ((oa, .inl (dA 2, 1, .inr (.inl fo1))) :: (X1 ++ Y1)) [(0, .ref b), (1, .ref (Ac 0)), (2, .ref o), (3, .ref oa), (4, .int (nI (6 * n)))] 677 []) : jv_V p l e R s m args below meth c cells slots Q D A 8 ((oa, .inl (dA 2, 1, .inr (.inl fo))) :: (X ++ Y)) [(0, .ref b), (1, .ref (Ac 0)), (2, .ref o), (3, .ref oa), (4, .int (nI (6 * n)))] 252 [] := by
  obtain ⟨t, r, sl, pl, cd, pc0, ps0, hCW, hMW, hS, hc, hs⟩ := hI
  obtain ⟨hR1, hR2, hR3, hR4⟩ := hR
  obtain ⟨code, val, vm, t1, r1, sl1, pl1, ⟨kL, mc, ms, hk, hmc, hms, hW⟩, ⟨kM, mcM, msM, hkM, hmcM, hmsM, hM⟩, hS1, hag⟩ := jp_read oa fo hlt hS hCW hMW (xs (6 * n + 1))
  have hrm := hMW.room
  have hn : n ≤ 512 := by omega
  obtain ⟨fs, he⟩ := jq_0 hMW
  refine jv_aload_n C (jd D_La_law 135 rfl) rfl 1 rfl ?_
  refine jv_aload_n C (jd D_La_law 136 rfl) rfl 0 rfl ?_
  refine jv_iload C (jd D_La_law 137 rfl) 4 rfl ?_
  refine jv_iconst (v := 1) C (jd D_La_law 138 rfl) (by decide) ?_
  refine jv_iadd C (jd D_La_law 139 rfl) ?_
  refine jv_sald C hX hbl hbA (6 * n + 1) (nI_add (6 * n) 1) (by omega) (by omega) (jd D_La_law 140 rfl) ?_
  refine jv_aload_n C (jd D_La_law 141 rfl) rfl 3 rfl ?_
  refine jv_lawW C cw_La_70 hW ⟨by omega, by omega⟩ ⟨by omega, by omega⟩ rfl rfl (by decide) (jd D_La_law 142 rfl) ?_
  rintro v ⟨X1, fo1⟩ ⟨rr, rfl, hcode, hval, hCW1⟩
  refine jv_is (ws' := (oa, .inl (dA 2, 1, .inr (.inl fo1))) :: (X1 ++ Y)) (st' := [.int code]) rfl (by rw [hcode]; rfl) ?_
  refine jv_istore C [(5, .int code), (0, .ref b), (1, .ref (Ac 0)), (2, .ref o), (3, .ref oa), (4, .int (nI (6 * n)))] (jd D_La_law 143 rfl) (by decide) rfl ?_
  refine jv_aload_n C (jd D_La_law 144 rfl) rfl 3 rfl ?_
  refine jv_aload_n C (jd D_La_law 145 rfl) rfl 1 rfl ?_
  refine jv_iload C (jd D_La_law 146 rfl) 5 rfl ?_
  refine jv_iconst (v := 1) C (jd D_La_law 147 rfl) (by decide) ?_
  refine jv_iadd C (jd D_La_law 148 rfl) ?_
  refine jv_sald C hX hbl hbA (6 * n + 1) (nI_add (6 * n) 1) (by omega) (by omega) (jd D_La_law 149 rfl) ?_
  refine jv_lawV C cl_La_72 hM rfl rfl he ⟨by omega, by omega⟩ ⟨by omega, by omega⟩ rfl rfl (by decide) (jd D_La_law 150 rfl) ?_
  rintro v ⟨Y1, pc1, ps1⟩ ⟨hvm, hMW1, hc1, hs1⟩
  have hMW1 : MW dA o Qm t1 r1 sl1 pl1 code pc1 ps1 Y1 := hMW1
  have hc1 : mcM + pc0 + 4 * t1.length ≤ pc1 + 4 * t.length + 100 := hc1
  have hs1 : msM + ps0 + 44 * t1.length ≤ ps1 + 44 * t.length + 1000 := hs1
  obtain ⟨bv, rfl, hagr⟩ := hag (fo1 0) v hvm
  refine jv_is (ws' := (oa, .inl (dA 2, 1, .inr (.inl fo1))) :: (X1 ++ Y1)) (st' := [.int bv]) rfl rfl ?_
  refine jv_istore C [(6, .int bv), (5, .int code), (0, .ref b), (1, .ref (Ac 0)), (2, .ref o), (3, .ref oa), (4, .int (nI (6 * n)))] (jd D_La_law 151 rfl) (by decide) rfl ?_
  refine jv_aload_n C (jd D_La_law 152 rfl) rfl 4 rfl ?_
  obtain ⟨fs1, he1⟩ := jq_0 hMW1
  refine jv_lawV C cl_La_62 (jq_thrown hMW1) rfl rfl he1 ⟨by omega, by omega⟩ ⟨by omega, by omega⟩ rfl rfl (by decide) (jd D_La_law 153 rfl) ?_
  rintro v u ⟨z, rfl, hz⟩
  refine jv_is (ws' := (oa, .inl (dA 2, 1, .inr (.inl fo1))) :: (X1 ++ Y1)) (st' := [.int code]) rfl (by rw [hz]; rfl) ?_
  refine jv_iload C (jd D_La_law 154 rfl) 1 rfl ?_
  have E : jv_V p l e R s m args below meth c (cells + mc + mcM + 0) (slots + ms + msM + 0) Q D A 8 ((oa, .inl (dA 2, 1, .inr (.inl fo1))) :: (X1 ++ Y1)) [(6, .int bv), (5, .int code), (0, .ref b), (1, .ref (Ac 0)), (2, .ref o), (3, .ref oa), (4, .int (nI (6 * n)))] 305 [] := by
    refine jv_goto (tgt := 677) C (jd D_La_law 169 rfl) (by decide) ?_
    refine jv_lvsub [2, 3, 4, 5, 6] rfl ?_
    exact K _ _ fo1 X1 Y1 ⟨t1, r1, sl1, pl1, code, pc1, ps1, hCW1, hMW1, hS1, by omega, by omega⟩
  refine jv_icmp_eq (tgt := 288) C (jd D_La_law 155 rfl) (by decide) (fun _ => ?_) (fun h => absurd rfl h)
  refine jv_iload C (jd D_La_law 158 rfl) 1 rfl ?_
  refine jv_if_ne (tgt := 305) C (jd D_La_law 159 rfl) (by decide) (fun _ => E) (fun h0 => ?_)
  have hag := hagr ⟨h0, hval h0⟩
  refine jv_aload_n C (jd D_La_law 160 rfl) rfl 5 rfl ?_
  refine jv_iconst (v := 0) C (jd D_La_law 161 rfl) (by decide) ?_
  refine jv_lald C 0 rfl (show vp_in (nI 0) 1 from vp_in_nI (by decide) (by decide)) (jd D_La_law 162 rfl) ?_
  refine jv_is (ws' := (oa, .inl (dA 2, 1, .inr (.inl fo1))) :: (X1 ++ Y1)) (st' := [.long (fo1 0)]) rfl rfl ?_
  refine jv_iload C (jd D_La_law 163 rfl) 0 rfl ?_
  refine jv_i2l C (jd D_La_law 164 rfl) ?_
  refine jv_lcmp C (jd D_La_law 165 rfl) ?_
  exact jv_if_eq (tgt := 305) C (jd D_La_law 166 rfl) (by decide) (fun _ => E) (fun h => absurd (by rw [hag]; exact lg_cmp_0 _) h)

set_option maxHeartbeats 1000000 in
theorem lw_print (C : jv_C p s m args meth c b_La_law R_La 8 D dA zz A) (hlt : l.stackTraces = false) {b L : Nat} {xs : Nat → Int32} (hX : va_X b L xs s s.heap) (hbl : b < s.heap.size) (hbA : ¬ A b) (hL : L ≤ 3072) (hR : jl_R R) {n : Nat} (h6 : 6 * n + 6 ≤ L) {oa o : Nat} {fo : Nat → Int64} {Ac Qm : Nat → Nat} {X Y : va_W} (hI : jl_I dA Ac o Qm n cells slots X Y)
    (K : ∀ (cells1 slots1 : Nat) (fo1 : Nat → Int64) (X1 Y1 : va_W), jl_I dA Ac o Qm (n + 1) cells1 slots1 X1 Y1 → jv_V p l e R s m args below meth c cells1 slots1 Q D A 8 ((oa, .inl (dA 2, 1, .inr (.inl fo1))) :: (X1 ++ Y1)) [(0, .ref b), (1, .ref (Ac 0)), (2, .ref o), (3, .ref oa), (4, .int (nI (6 * n)))] 677 []) : jv_V p l e R s m args below meth c cells slots Q D A 8 ((oa, .inl (dA 2, 1, .inr (.inl fo))) :: (X ++ Y)) [(0, .ref b), (1, .ref (Ac 0)), (2, .ref o), (3, .ref oa), (4, .int (nI (6 * n)))] 308 [] := by
  obtain ⟨t, r, sl, pl, cd, pc0, ps0, hCW, hMW, hS, hc, hs⟩ := hI
  obtain ⟨hR1, hR2, hR3, hR4⟩ := hR
  obtain ⟨code, val, vm, t1, r1, sl1, pl1, ⟨kL, mc, ms, hk, hmc, hms, hW⟩, ⟨kM, mcM, msM, hkM, hmcM, hmsM, hM⟩, hS1, hag⟩ := jp_print oa fo hlt hS hCW hMW (xs (6 * n + 1))
  have hrm := hMW.room
  have hn : n ≤ 512 := by omega
  obtain ⟨fs, he⟩ := jq_0 hMW
  refine jv_aload_n C (jd D_La_law 170 rfl) rfl 1 rfl ?_
  refine jv_aload_n C (jd D_La_law 171 rfl) rfl 0 rfl ?_
  refine jv_iload C (jd D_La_law 172 rfl) 4 rfl ?_
  refine jv_iconst (v := 1) C (jd D_La_law 173 rfl) (by decide) ?_
  refine jv_iadd C (jd D_La_law 174 rfl) ?_
  refine jv_sald C hX hbl hbA (6 * n + 1) (nI_add (6 * n) 1) (by omega) (by omega) (jd D_La_law 175 rfl) ?_
  refine jv_aload_n C (jd D_La_law 176 rfl) rfl 3 rfl ?_
  refine jv_lawW C cw_La_73 hW ⟨by omega, by omega⟩ ⟨by omega, by omega⟩ rfl rfl (by decide) (jd D_La_law 177 rfl) ?_
  rintro v ⟨X1, fo1⟩ ⟨rr, rfl, hcode, hval, hCW1⟩
  refine jv_is (ws' := (oa, .inl (dA 2, 1, .inr (.inl fo1))) :: (X1 ++ Y)) (st' := [.int code]) rfl (by rw [hcode]; rfl) ?_
  refine jv_istore C [(5, .int code), (0, .ref b), (1, .ref (Ac 0)), (2, .ref o), (3, .ref oa), (4, .int (nI (6 * n)))] (jd D_La_law 178 rfl) (by decide) rfl ?_
  refine jv_aload_n C (jd D_La_law 179 rfl) rfl 3 rfl ?_
  refine jv_aload_n C (jd D_La_law 180 rfl) rfl 1 rfl ?_
  refine jv_iload C (jd D_La_law 181 rfl) 5 rfl ?_
  refine jv_iconst (v := 1) C (jd D_La_law 182 rfl) (by decide) ?_
  refine jv_iadd C (jd D_La_law 183 rfl) ?_
  refine jv_sald C hX hbl hbA (6 * n + 1) (nI_add (6 * n) 1) (by omega) (by omega) (jd D_La_law 184 rfl) ?_
  refine jv_lawV C cl_La_75 hM rfl rfl he ⟨by omega, by omega⟩ ⟨by omega, by omega⟩ rfl rfl (by decide) (jd D_La_law 185 rfl) ?_
  rintro v ⟨Y1, pc1, ps1⟩ ⟨hvm, hMW1, hc1, hs1⟩
  have hMW1 : MW dA o Qm t1 r1 sl1 pl1 code pc1 ps1 Y1 := hMW1
  have hc1 : mcM + pc0 + 4 * t1.length ≤ pc1 + 4 * t.length + 100 := hc1
  have hs1 : msM + ps0 + 44 * t1.length ≤ ps1 + 44 * t.length + 1000 := hs1
  obtain ⟨bv, rfl, hagr⟩ := hag (fo1 0) v hvm
  refine jv_is (ws' := (oa, .inl (dA 2, 1, .inr (.inl fo1))) :: (X1 ++ Y1)) (st' := [.int bv]) rfl rfl ?_
  refine jv_istore C [(6, .int bv), (5, .int code), (0, .ref b), (1, .ref (Ac 0)), (2, .ref o), (3, .ref oa), (4, .int (nI (6 * n)))] (jd D_La_law 186 rfl) (by decide) rfl ?_
  refine jv_aload_n C (jd D_La_law 187 rfl) rfl 4 rfl ?_
  obtain ⟨fs1, he1⟩ := jq_0 hMW1
  refine jv_lawV C cl_La_62 (jq_thrown hMW1) rfl rfl he1 ⟨by omega, by omega⟩ ⟨by omega, by omega⟩ rfl rfl (by decide) (jd D_La_law 188 rfl) ?_
  rintro v u ⟨z, rfl, hz⟩
  refine jv_is (ws' := (oa, .inl (dA 2, 1, .inr (.inl fo1))) :: (X1 ++ Y1)) (st' := [.int code]) rfl (by rw [hz]; rfl) ?_
  refine jv_iload C (jd D_La_law 189 rfl) 1 rfl ?_
  have E : jv_V p l e R s m args below meth c (cells + mc + mcM + 0) (slots + ms + msM + 0) Q D A 8 ((oa, .inl (dA 2, 1, .inr (.inl fo1))) :: (X1 ++ Y1)) [(6, .int bv), (5, .int code), (0, .ref b), (1, .ref (Ac 0)), (2, .ref o), (3, .ref oa), (4, .int (nI (6 * n)))] 361 [] := by
    refine jv_goto (tgt := 677) C (jd D_La_law 204 rfl) (by decide) ?_
    refine jv_lvsub [2, 3, 4, 5, 6] rfl ?_
    exact K _ _ fo1 X1 Y1 ⟨t1, r1, sl1, pl1, code, pc1, ps1, hCW1, hMW1, hS1, by omega, by omega⟩
  refine jv_icmp_eq (tgt := 344) C (jd D_La_law 190 rfl) (by decide) (fun _ => ?_) (fun h => absurd rfl h)
  refine jv_iload C (jd D_La_law 193 rfl) 1 rfl ?_
  refine jv_if_ne (tgt := 361) C (jd D_La_law 194 rfl) (by decide) (fun _ => E) (fun h0 => ?_)
  have hag := hagr ⟨h0, hval h0⟩
  refine jv_aload_n C (jd D_La_law 195 rfl) rfl 5 rfl ?_
  refine jv_iconst (v := 0) C (jd D_La_law 196 rfl) (by decide) ?_
  refine jv_lald C 0 rfl (show vp_in (nI 0) 1 from vp_in_nI (by decide) (by decide)) (jd D_La_law 197 rfl) ?_
  refine jv_is (ws' := (oa, .inl (dA 2, 1, .inr (.inl fo1))) :: (X1 ++ Y1)) (st' := [.long (fo1 0)]) rfl rfl ?_
  refine jv_iload C (jd D_La_law 198 rfl) 0 rfl ?_
  refine jv_i2l C (jd D_La_law 199 rfl) ?_
  refine jv_lcmp C (jd D_La_law 200 rfl) ?_
  exact jv_if_eq (tgt := 361) C (jd D_La_law 201 rfl) (by decide) (fun _ => E) (fun h => absurd (by rw [hag]; exact lg_cmp_0 _) h)

set_option maxHeartbeats 1000000 in
theorem lw_same (C : jv_C p s m args meth c b_La_law R_La 8 D dA zz A) (hlt : l.stackTraces = false) {b L : Nat} {xs : Nat → Int32} (hX : va_X b L xs s s.heap) (hbl : b < s.heap.size) (hbA : ¬ A b) (hL : L ≤ 3072) (hR : jl_R R) {n : Nat} (h6 : 6 * n + 6 ≤ L) {oa o : Nat} {fo : Nat → Int64} {Ac Qm : Nat → Nat} {X Y : va_W} (hI : jl_I dA Ac o Qm n cells slots X Y)
    (K : ∀ (cells1 slots1 : Nat) (fo1 : Nat → Int64) (X1 Y1 : va_W), jl_I dA Ac o Qm (n + 1) cells1 slots1 X1 Y1 → jv_V p l e R s m args below meth c cells1 slots1 Q D A 8 ((oa, .inl (dA 2, 1, .inr (.inl fo1))) :: (X1 ++ Y1)) [(0, .ref b), (1, .ref (Ac 0)), (2, .ref o), (3, .ref oa), (4, .int (nI (6 * n)))] 677 []) : jv_V p l e R s m args below meth c cells slots Q D A 8 ((oa, .inl (dA 2, 1, .inr (.inl fo))) :: (X ++ Y)) [(0, .ref b), (1, .ref (Ac 0)), (2, .ref o), (3, .ref oa), (4, .int (nI (6 * n)))] 364 [] := by
  obtain ⟨t, r, sl, pl, cd, pc0, ps0, hCW, hMW, hS, hc, hs⟩ := hI
  obtain ⟨hR1, hR2, hR3, hR4⟩ := hR
  obtain ⟨code, val, vm, t1, r1, sl1, pl1, ⟨kL, mc, ms, hk, hmc, hms, hW⟩, ⟨kM, mcM, msM, hkM, hmcM, hmsM, hM⟩, hS1, hag⟩ := jp_same oa fo hlt hS hCW hMW (xs (6 * n + 1)) (xs (6 * n + 2))
  have hrm := hMW.room
  have hn : n ≤ 512 := by omega
  obtain ⟨fs, he⟩ := jq_0 hMW
  refine jv_aload_n C (jd D_La_law 205 rfl) rfl 1 rfl ?_
  refine jv_aload_n C (jd D_La_law 206 rfl) rfl 0 rfl ?_
  refine jv_iload C (jd D_La_law 207 rfl) 4 rfl ?_
  refine jv_iconst (v := 1) C (jd D_La_law 208 rfl) (by decide) ?_
  refine jv_iadd C (jd D_La_law 209 rfl) ?_
  refine jv_sald C hX hbl hbA (6 * n + 1) (nI_add (6 * n) 1) (by omega) (by omega) (jd D_La_law 210 rfl) ?_
  refine jv_aload_n C (jd D_La_law 211 rfl) rfl 0 rfl ?_
  refine jv_iload C (jd D_La_law 212 rfl) 4 rfl ?_
  refine jv_iconst (v := 2) C (jd D_La_law 213 rfl) (by decide) ?_
  refine jv_iadd C (jd D_La_law 214 rfl) ?_
  refine jv_sald C hX hbl hbA (6 * n + 2) (nI_add (6 * n) 2) (by omega) (by omega) (jd D_La_law 215 rfl) ?_
  refine jv_aload_n C (jd D_La_law 216 rfl) rfl 3 rfl ?_
  refine jv_lawW C cw_La_76 hW ⟨by omega, by omega⟩ ⟨by omega, by omega⟩ rfl rfl (by decide) (jd D_La_law 217 rfl) ?_
  rintro v ⟨X1, fo1⟩ ⟨rr, rfl, hcode, hval, hCW1⟩
  refine jv_is (ws' := (oa, .inl (dA 2, 1, .inr (.inl fo1))) :: (X1 ++ Y)) (st' := [.int code]) rfl (by rw [hcode]; rfl) ?_
  refine jv_istore C [(5, .int code), (0, .ref b), (1, .ref (Ac 0)), (2, .ref o), (3, .ref oa), (4, .int (nI (6 * n)))] (jd D_La_law 218 rfl) (by decide) rfl ?_
  refine jv_aload_n C (jd D_La_law 219 rfl) rfl 3 rfl ?_
  refine jv_aload_n C (jd D_La_law 220 rfl) rfl 1 rfl ?_
  refine jv_iload C (jd D_La_law 221 rfl) 5 rfl ?_
  refine jv_iconst (v := 1) C (jd D_La_law 222 rfl) (by decide) ?_
  refine jv_iadd C (jd D_La_law 223 rfl) ?_
  refine jv_sald C hX hbl hbA (6 * n + 1) (nI_add (6 * n) 1) (by omega) (by omega) (jd D_La_law 224 rfl) ?_
  refine jv_aload_n C (jd D_La_law 225 rfl) rfl 1 rfl ?_
  refine jv_iload C (jd D_La_law 226 rfl) 5 rfl ?_
  refine jv_iconst (v := 2) C (jd D_La_law 227 rfl) (by decide) ?_
  refine jv_iadd C (jd D_La_law 228 rfl) ?_
  refine jv_sald C hX hbl hbA (6 * n + 2) (nI_add (6 * n) 2) (by omega) (by omega) (jd D_La_law 229 rfl) ?_
  refine jv_lawV C cl_La_79 hM rfl rfl he ⟨by omega, by omega⟩ ⟨by omega, by omega⟩ rfl rfl (by decide) (jd D_La_law 230 rfl) ?_
  rintro v ⟨Y1, pc1, ps1⟩ ⟨hvm, hMW1, hc1, hs1⟩
  have hMW1 : MW dA o Qm t1 r1 sl1 pl1 code pc1 ps1 Y1 := hMW1
  have hc1 : mcM + pc0 + 4 * t1.length ≤ pc1 + 4 * t.length + 100 := hc1
  have hs1 : msM + ps0 + 44 * t1.length ≤ ps1 + 44 * t.length + 1000 := hs1
  obtain ⟨bv, rfl, hagr⟩ := hag (fo1 0) v hvm
  refine jv_is (ws' := (oa, .inl (dA 2, 1, .inr (.inl fo1))) :: (X1 ++ Y1)) (st' := [.int bv]) rfl rfl ?_
  refine jv_istore C [(6, .int bv), (5, .int code), (0, .ref b), (1, .ref (Ac 0)), (2, .ref o), (3, .ref oa), (4, .int (nI (6 * n)))] (jd D_La_law 231 rfl) (by decide) rfl ?_
  refine jv_aload_n C (jd D_La_law 232 rfl) rfl 4 rfl ?_
  obtain ⟨fs1, he1⟩ := jq_0 hMW1
  refine jv_lawV C cl_La_62 (jq_thrown hMW1) rfl rfl he1 ⟨by omega, by omega⟩ ⟨by omega, by omega⟩ rfl rfl (by decide) (jd D_La_law 233 rfl) ?_
  rintro v u ⟨z, rfl, hz⟩
  refine jv_is (ws' := (oa, .inl (dA 2, 1, .inr (.inl fo1))) :: (X1 ++ Y1)) (st' := [.int code]) rfl (by rw [hz]; rfl) ?_
  refine jv_iload C (jd D_La_law 234 rfl) 1 rfl ?_
  have E : jv_V p l e R s m args below meth c (cells + mc + mcM + 0) (slots + ms + msM + 0) Q D A 8 ((oa, .inl (dA 2, 1, .inr (.inl fo1))) :: (X1 ++ Y1)) [(6, .int bv), (5, .int code), (0, .ref b), (1, .ref (Ac 0)), (2, .ref o), (3, .ref oa), (4, .int (nI (6 * n)))] 436 [] := by
    refine jv_goto (tgt := 677) C (jd D_La_law 252 rfl) (by decide) ?_
    refine jv_lvsub [2, 3, 4, 5, 6] rfl ?_
    exact K _ _ fo1 X1 Y1 ⟨t1, r1, sl1, pl1, code, pc1, ps1, hCW1, hMW1, hS1, by omega, by omega⟩
  refine jv_icmp_eq (tgt := 412) C (jd D_La_law 235 rfl) (by decide) (fun _ => ?_) (fun h => absurd rfl h)
  refine jv_iload C (jd D_La_law 238 rfl) 1 rfl ?_
  refine jv_if_ne (tgt := 436) C (jd D_La_law 239 rfl) (by decide) (fun _ => E) (fun h0 => ?_)
  have hag := hagr ⟨h0, hval h0⟩
  refine jv_aload_n C (jd D_La_law 240 rfl) rfl 5 rfl ?_
  refine jv_iconst (v := 0) C (jd D_La_law 241 rfl) (by decide) ?_
  refine jv_lald C 0 rfl (show vp_in (nI 0) 1 from vp_in_nI (by decide) (by decide)) (jd D_La_law 242 rfl) ?_
  refine jv_is (ws' := (oa, .inl (dA 2, 1, .inr (.inl fo1))) :: (X1 ++ Y1)) (st' := [.long (fo1 0)]) rfl rfl ?_
  refine jv_iload C (jd D_La_law 243 rfl) 0 rfl ?_
  refine jv_if_eq (tgt := 429) C (jd D_La_law 244 rfl) (by decide) (fun hb => ?_) (fun hb => ?_)
  · rcases hag with ⟨h1, h2⟩ | ⟨h1, h2⟩
    · rw [h1] at hb
      exact absurd hb (by decide)
    · refine jv_lconst (v := 0) C (jd D_La_law 247 rfl) rfl ?_
      refine jv_lcmp C (jd D_La_law 248 rfl) ?_
      exact jv_if_eq (tgt := 436) C (jd D_La_law 249 rfl) (by decide) (fun _ => E) (fun h => absurd (by rw [h2]; exact lg_cmp_0 _) h)
  · rcases hag with ⟨h1, h2⟩ | ⟨h1, h2⟩
    · refine jv_lconst (v := 1) C (jd D_La_law 245 rfl) rfl ?_
      refine jv_goto (tgt := 430) C (jd D_La_law 246 rfl) (by decide) ?_
      refine jv_lcmp C (jd D_La_law 248 rfl) ?_
      exact jv_if_eq (tgt := 436) C (jd D_La_law 249 rfl) (by decide) (fun _ => E) (fun h => absurd (by rw [h2]; exact lg_cmp_0 _) h)
    · exact absurd h1 hb

set_option maxHeartbeats 1000000 in
theorem lw_about (C : jv_C p s m args meth c b_La_law R_La 8 D dA zz A) (hlt : l.stackTraces = false) {b L : Nat} {xs : Nat → Int32} (hX : va_X b L xs s s.heap) (hbl : b < s.heap.size) (hbA : ¬ A b) (hL : L ≤ 3072) (hR : jl_R R) {n : Nat} (h6 : 6 * n + 6 ≤ L) {oa o : Nat} {fo : Nat → Int64} {Ac Qm : Nat → Nat} {X Y : va_W} (hI : jl_I dA Ac o Qm n cells slots X Y)
    (K : ∀ (cells1 slots1 : Nat) (fo1 : Nat → Int64) (X1 Y1 : va_W), jl_I dA Ac o Qm (n + 1) cells1 slots1 X1 Y1 → jv_V p l e R s m args below meth c cells1 slots1 Q D A 8 ((oa, .inl (dA 2, 1, .inr (.inl fo1))) :: (X1 ++ Y1)) [(0, .ref b), (1, .ref (Ac 0)), (2, .ref o), (3, .ref oa), (4, .int (nI (6 * n)))] 677 []) : jv_V p l e R s m args below meth c cells slots Q D A 8 ((oa, .inl (dA 2, 1, .inr (.inl fo))) :: (X ++ Y)) [(0, .ref b), (1, .ref (Ac 0)), (2, .ref o), (3, .ref oa), (4, .int (nI (6 * n)))] 439 [] := by
  obtain ⟨t, r, sl, pl, cd, pc0, ps0, hCW, hMW, hS, hc, hs⟩ := hI
  obtain ⟨hR1, hR2, hR3, hR4⟩ := hR
  obtain ⟨code, val, vm, t1, r1, sl1, pl1, ⟨kL, mc, ms, hk, hmc, hms, hW⟩, ⟨kM, mcM, msM, hkM, hmcM, hmsM, hM⟩, hS1, hag⟩ := jp_about oa fo hlt hS hCW hMW (xs (6 * n + 1)) (xs (6 * n + 2))
  have hrm := hMW.room
  have hn : n ≤ 512 := by omega
  obtain ⟨fs, he⟩ := jq_0 hMW
  refine jv_aload_n C (jd D_La_law 253 rfl) rfl 1 rfl ?_
  refine jv_aload_n C (jd D_La_law 254 rfl) rfl 0 rfl ?_
  refine jv_iload C (jd D_La_law 255 rfl) 4 rfl ?_
  refine jv_iconst (v := 1) C (jd D_La_law 256 rfl) (by decide) ?_
  refine jv_iadd C (jd D_La_law 257 rfl) ?_
  refine jv_sald C hX hbl hbA (6 * n + 1) (nI_add (6 * n) 1) (by omega) (by omega) (jd D_La_law 258 rfl) ?_
  refine jv_aload_n C (jd D_La_law 259 rfl) rfl 0 rfl ?_
  refine jv_iload C (jd D_La_law 260 rfl) 4 rfl ?_
  refine jv_iconst (v := 2) C (jd D_La_law 261 rfl) (by decide) ?_
  refine jv_iadd C (jd D_La_law 262 rfl) ?_
  refine jv_sald C hX hbl hbA (6 * n + 2) (nI_add (6 * n) 2) (by omega) (by omega) (jd D_La_law 263 rfl) ?_
  refine jv_aload_n C (jd D_La_law 264 rfl) rfl 3 rfl ?_
  refine jv_lawW C cw_La_80 hW ⟨by omega, by omega⟩ ⟨by omega, by omega⟩ rfl rfl (by decide) (jd D_La_law 265 rfl) ?_
  rintro v ⟨X1, fo1⟩ ⟨rr, rfl, hcode, hval, hCW1⟩
  refine jv_is (ws' := (oa, .inl (dA 2, 1, .inr (.inl fo1))) :: (X1 ++ Y)) (st' := [.int code]) rfl (by rw [hcode]; rfl) ?_
  refine jv_istore C [(5, .int code), (0, .ref b), (1, .ref (Ac 0)), (2, .ref o), (3, .ref oa), (4, .int (nI (6 * n)))] (jd D_La_law 266 rfl) (by decide) rfl ?_
  refine jv_aload_n C (jd D_La_law 267 rfl) rfl 3 rfl ?_
  refine jv_aload_n C (jd D_La_law 268 rfl) rfl 1 rfl ?_
  refine jv_iload C (jd D_La_law 269 rfl) 5 rfl ?_
  refine jv_iconst (v := 1) C (jd D_La_law 270 rfl) (by decide) ?_
  refine jv_iadd C (jd D_La_law 271 rfl) ?_
  refine jv_sald C hX hbl hbA (6 * n + 1) (nI_add (6 * n) 1) (by omega) (by omega) (jd D_La_law 272 rfl) ?_
  refine jv_aload_n C (jd D_La_law 273 rfl) rfl 1 rfl ?_
  refine jv_iload C (jd D_La_law 274 rfl) 5 rfl ?_
  refine jv_iconst (v := 2) C (jd D_La_law 275 rfl) (by decide) ?_
  refine jv_iadd C (jd D_La_law 276 rfl) ?_
  refine jv_sald C hX hbl hbA (6 * n + 2) (nI_add (6 * n) 2) (by omega) (by omega) (jd D_La_law 277 rfl) ?_
  refine jv_lawV C cl_La_82 hM rfl rfl he ⟨by omega, by omega⟩ ⟨by omega, by omega⟩ rfl rfl (by decide) (jd D_La_law 278 rfl) ?_
  rintro v ⟨Y1, pc1, ps1⟩ ⟨hvm, hMW1, hc1, hs1⟩
  have hMW1 : MW dA o Qm t1 r1 sl1 pl1 code pc1 ps1 Y1 := hMW1
  have hc1 : mcM + pc0 + 4 * t1.length ≤ pc1 + 4 * t.length + 100 := hc1
  have hs1 : msM + ps0 + 44 * t1.length ≤ ps1 + 44 * t.length + 1000 := hs1
  obtain ⟨bv, rfl, hagr⟩ := hag (fo1 0) v hvm
  refine jv_is (ws' := (oa, .inl (dA 2, 1, .inr (.inl fo1))) :: (X1 ++ Y1)) (st' := [.long bv]) rfl rfl ?_
  refine jv_lstore C [(6, .long bv), (5, .int code), (0, .ref b), (1, .ref (Ac 0)), (2, .ref o), (3, .ref oa), (4, .int (nI (6 * n)))] (jd D_La_law 279 rfl) (by decide) rfl ?_
  refine jv_aload_n C (jd D_La_law 280 rfl) rfl 4 rfl ?_
  obtain ⟨fs1, he1⟩ := jq_0 hMW1
  refine jv_lawV C cl_La_62 (jq_thrown hMW1) rfl rfl he1 ⟨by omega, by omega⟩ ⟨by omega, by omega⟩ rfl rfl (by decide) (jd D_La_law 281 rfl) ?_
  rintro v u ⟨z, rfl, hz⟩
  refine jv_is (ws' := (oa, .inl (dA 2, 1, .inr (.inl fo1))) :: (X1 ++ Y1)) (st' := [.int code]) rfl (by rw [hz]; rfl) ?_
  refine jv_iload C (jd D_La_law 282 rfl) 1 rfl ?_
  have E : jv_V p l e R s m args below meth c (cells + mc + mcM + 0) (slots + ms + msM + 0) Q D A 8 ((oa, .inl (dA 2, 1, .inr (.inl fo1))) :: (X1 ++ Y1)) [(6, .long bv), (5, .int code), (0, .ref b), (1, .ref (Ac 0)), (2, .ref o), (3, .ref oa), (4, .int (nI (6 * n)))] 503 [] := by
    refine jv_goto (tgt := 677) C (jd D_La_law 296 rfl) (by decide) ?_
    refine jv_lvsub [2, 3, 4, 5, 6] rfl ?_
    exact K _ _ fo1 X1 Y1 ⟨t1, r1, sl1, pl1, code, pc1, ps1, hCW1, hMW1, hS1, by omega, by omega⟩
  refine jv_icmp_eq (tgt := 487) C (jd D_La_law 283 rfl) (by decide) (fun _ => ?_) (fun h => absurd rfl h)
  refine jv_iload C (jd D_La_law 286 rfl) 1 rfl ?_
  refine jv_if_ne (tgt := 503) C (jd D_La_law 287 rfl) (by decide) (fun _ => E) (fun h0 => ?_)
  have hag := hagr ⟨h0, hval h0⟩
  refine jv_aload_n C (jd D_La_law 288 rfl) rfl 5 rfl ?_
  refine jv_iconst (v := 0) C (jd D_La_law 289 rfl) (by decide) ?_
  refine jv_lald C 0 rfl (show vp_in (nI 0) 1 from vp_in_nI (by decide) (by decide)) (jd D_La_law 290 rfl) ?_
  refine jv_is (ws' := (oa, .inl (dA 2, 1, .inr (.inl fo1))) :: (X1 ++ Y1)) (st' := [.long (fo1 0)]) rfl rfl ?_
  refine jv_lload C (jd D_La_law 291 rfl) 0 rfl ?_
  refine jv_lcmp C (jd D_La_law 292 rfl) ?_
  exact jv_if_eq (tgt := 503) C (jd D_La_law 293 rfl) (by decide) (fun _ => E) (fun h => absurd (by rw [hag]; exact lg_cmp_0 _) h)

set_option maxHeartbeats 1000000 in
theorem lw_take (C : jv_C p s m args meth c b_La_law R_La 8 D dA zz A) (hlt : l.stackTraces = false) {b L : Nat} {xs : Nat → Int32} (hX : va_X b L xs s s.heap) (hbl : b < s.heap.size) (hbA : ¬ A b) (hL : L ≤ 3072) (hR : jl_R R) {n : Nat} (h6 : 6 * n + 6 ≤ L) {oa o : Nat} {fo : Nat → Int64} {Ac Qm : Nat → Nat} {X Y : va_W} (hI : jl_I dA Ac o Qm n cells slots X Y)
    (K : ∀ (cells1 slots1 : Nat) (fo1 : Nat → Int64) (X1 Y1 : va_W), jl_I dA Ac o Qm (n + 1) cells1 slots1 X1 Y1 → jv_V p l e R s m args below meth c cells1 slots1 Q D A 8 ((oa, .inl (dA 2, 1, .inr (.inl fo1))) :: (X1 ++ Y1)) [(0, .ref b), (1, .ref (Ac 0)), (2, .ref o), (3, .ref oa), (4, .int (nI (6 * n)))] 677 []) : jv_V p l e R s m args below meth c cells slots Q D A 8 ((oa, .inl (dA 2, 1, .inr (.inl fo))) :: (X ++ Y)) [(0, .ref b), (1, .ref (Ac 0)), (2, .ref o), (3, .ref oa), (4, .int (nI (6 * n)))] 506 [] := by
  obtain ⟨t, r, sl, pl, cd, pc0, ps0, hCW, hMW, hS, hc, hs⟩ := hI
  obtain ⟨hR1, hR2, hR3, hR4⟩ := hR
  obtain ⟨code, val, vm, t1, r1, sl1, pl1, ⟨kL, mc, ms, hk, hmc, hms, hW⟩, ⟨kM, mcM, msM, hkM, hmcM, hmsM, hM⟩, hS1, hag⟩ := jp_take oa fo hlt hS hCW hMW (xs (6 * n + 1)) (xs (6 * n + 2)) (xs (6 * n + 3))
  have hrm := hMW.room
  have hn : n ≤ 512 := by omega
  obtain ⟨fs, he⟩ := jq_0 hMW
  refine jv_aload_n C (jd D_La_law 297 rfl) rfl 1 rfl ?_
  refine jv_aload_n C (jd D_La_law 298 rfl) rfl 0 rfl ?_
  refine jv_iload C (jd D_La_law 299 rfl) 4 rfl ?_
  refine jv_iconst (v := 1) C (jd D_La_law 300 rfl) (by decide) ?_
  refine jv_iadd C (jd D_La_law 301 rfl) ?_
  refine jv_sald C hX hbl hbA (6 * n + 1) (nI_add (6 * n) 1) (by omega) (by omega) (jd D_La_law 302 rfl) ?_
  refine jv_aload_n C (jd D_La_law 303 rfl) rfl 0 rfl ?_
  refine jv_iload C (jd D_La_law 304 rfl) 4 rfl ?_
  refine jv_iconst (v := 2) C (jd D_La_law 305 rfl) (by decide) ?_
  refine jv_iadd C (jd D_La_law 306 rfl) ?_
  refine jv_sald C hX hbl hbA (6 * n + 2) (nI_add (6 * n) 2) (by omega) (by omega) (jd D_La_law 307 rfl) ?_
  refine jv_aload_n C (jd D_La_law 308 rfl) rfl 0 rfl ?_
  refine jv_iload C (jd D_La_law 309 rfl) 4 rfl ?_
  refine jv_iconst (v := 3) C (jd D_La_law 310 rfl) (by decide) ?_
  refine jv_iadd C (jd D_La_law 311 rfl) ?_
  refine jv_sald C hX hbl hbA (6 * n + 3) (nI_add (6 * n) 3) (by omega) (by omega) (jd D_La_law 312 rfl) ?_
  refine jv_lawW C cw_La_83 hW ⟨by omega, by omega⟩ ⟨by omega, by omega⟩ rfl rfl (by decide) (jd D_La_law 313 rfl) ?_
  rintro v ⟨X1, fo1⟩ ⟨rr, rfl, hcode, hval, hCW1⟩
  refine jv_is (ws' := (oa, .inl (dA 2, 1, .inr (.inl fo1))) :: (X1 ++ Y)) (st' := [.int code]) rfl (by rw [hcode]; rfl) ?_
  refine jv_istore C [(5, .int code), (0, .ref b), (1, .ref (Ac 0)), (2, .ref o), (3, .ref oa), (4, .int (nI (6 * n)))] (jd D_La_law 314 rfl) (by decide) rfl ?_
  refine jv_aload_n C (jd D_La_law 315 rfl) rfl 3 rfl ?_
  refine jv_aload_n C (jd D_La_law 316 rfl) rfl 1 rfl ?_
  refine jv_iload C (jd D_La_law 317 rfl) 5 rfl ?_
  refine jv_iconst (v := 1) C (jd D_La_law 318 rfl) (by decide) ?_
  refine jv_iadd C (jd D_La_law 319 rfl) ?_
  refine jv_sald C hX hbl hbA (6 * n + 1) (nI_add (6 * n) 1) (by omega) (by omega) (jd D_La_law 320 rfl) ?_
  refine jv_aload_n C (jd D_La_law 321 rfl) rfl 1 rfl ?_
  refine jv_iload C (jd D_La_law 322 rfl) 5 rfl ?_
  refine jv_iconst (v := 2) C (jd D_La_law 323 rfl) (by decide) ?_
  refine jv_iadd C (jd D_La_law 324 rfl) ?_
  refine jv_sald C hX hbl hbA (6 * n + 2) (nI_add (6 * n) 2) (by omega) (by omega) (jd D_La_law 325 rfl) ?_
  refine jv_aload_n C (jd D_La_law 326 rfl) rfl 1 rfl ?_
  refine jv_iload C (jd D_La_law 327 rfl) 5 rfl ?_
  refine jv_iconst (v := 3) C (jd D_La_law 328 rfl) (by decide) ?_
  refine jv_iadd C (jd D_La_law 329 rfl) ?_
  refine jv_sald C hX hbl hbA (6 * n + 3) (nI_add (6 * n) 3) (by omega) (by omega) (jd D_La_law 330 rfl) ?_
  refine jv_lawV C cl_La_86 hM rfl rfl he ⟨by omega, by omega⟩ ⟨by omega, by omega⟩ rfl rfl (by decide) (jd D_La_law 331 rfl) ?_
  rintro v ⟨Y1, pc1, ps1⟩ ⟨hvm, hMW1, hc1, hs1⟩
  have hMW1 : MW dA o Qm t1 r1 sl1 pl1 code pc1 ps1 Y1 := hMW1
  have hc1 : mcM + pc0 + 4 * t1.length ≤ pc1 + 4 * t.length + 100 := hc1
  have hs1 : msM + ps0 + 44 * t1.length ≤ ps1 + 44 * t.length + 1000 := hs1
  have hv : v = none := hag (fo1 0) v hvm
  subst hv
  refine jv_is (ws' := (oa, .inl (dA 2, 1, .inr (.inl fo1))) :: (X1 ++ Y1)) (st' := []) rfl rfl ?_
  refine jv_aload_n C (jd D_La_law 332 rfl) rfl 3 rfl ?_
  obtain ⟨fs1, he1⟩ := jq_0 hMW1
  refine jv_lawV C cl_La_62 (jq_thrown hMW1) rfl rfl he1 ⟨by omega, by omega⟩ ⟨by omega, by omega⟩ rfl rfl (by decide) (jd D_La_law 333 rfl) ?_
  rintro v u ⟨z, rfl, hz⟩
  refine jv_is (ws' := (oa, .inl (dA 2, 1, .inr (.inl fo1))) :: (X1 ++ Y1)) (st' := [.int code]) rfl (by rw [hz]; rfl) ?_
  refine jv_iload C (jd D_La_law 334 rfl) 0 rfl ?_
  have E : jv_V p l e R s m args below meth c (cells + mc + mcM + 0) (slots + ms + msM + 0) Q D A 8 ((oa, .inl (dA 2, 1, .inr (.inl fo1))) :: (X1 ++ Y1)) [(5, .int code), (0, .ref b), (1, .ref (Ac 0)), (2, .ref o), (3, .ref oa), (4, .int (nI (6 * n)))] 563 [] := by
    refine jv_goto (tgt := 677) C (jd D_La_law 338 rfl) (by decide) ?_
    refine jv_lvsub [1, 2, 3, 4, 5] rfl ?_
    exact K _ _ fo1 X1 Y1 ⟨t1, r1, sl1, pl1, code, pc1, ps1, hCW1, hMW1, hS1, by omega, by omega⟩
  exact jv_icmp_eq (tgt := 563) C (jd D_La_law 335 rfl) (by decide) (fun _ => E) (fun h => absurd rfl h)

set_option maxHeartbeats 1000000 in
theorem lw_word (C : jv_C p s m args meth c b_La_law R_La 8 D dA zz A) (hlt : l.stackTraces = false) {b L : Nat} {xs : Nat → Int32} (hX : va_X b L xs s s.heap) (hbl : b < s.heap.size) (hbA : ¬ A b) (hL : L ≤ 3072) (hR : jl_R R) {n : Nat} (h6 : 6 * n + 6 ≤ L) {oa o : Nat} {fo : Nat → Int64} {Ac Qm : Nat → Nat} {X Y : va_W} (hI : jl_I dA Ac o Qm n cells slots X Y)
    (K : ∀ (cells1 slots1 : Nat) (fo1 : Nat → Int64) (X1 Y1 : va_W), jl_I dA Ac o Qm (n + 1) cells1 slots1 X1 Y1 → jv_V p l e R s m args below meth c cells1 slots1 Q D A 8 ((oa, .inl (dA 2, 1, .inr (.inl fo1))) :: (X1 ++ Y1)) [(0, .ref b), (1, .ref (Ac 0)), (2, .ref o), (3, .ref oa), (4, .int (nI (6 * n)))] 677 []) : jv_V p l e R s m args below meth c cells slots Q D A 8 ((oa, .inl (dA 2, 1, .inr (.inl fo))) :: (X ++ Y)) [(0, .ref b), (1, .ref (Ac 0)), (2, .ref o), (3, .ref oa), (4, .int (nI (6 * n)))] 566 [] := by
  obtain ⟨t, r, sl, pl, cd, pc0, ps0, hCW, hMW, hS, hc, hs⟩ := hI
  obtain ⟨hR1, hR2, hR3, hR4⟩ := hR
  obtain ⟨code, val, vm, t1, r1, sl1, pl1, ⟨kL, mc, ms, hk, hmc, hms, hW⟩, ⟨kM, mcM, msM, hkM, hmcM, hmsM, hM⟩, hS1, hag⟩ := jp_word oa fo hlt hS hCW hMW (xs (6 * n + 1))
  have hrm := hMW.room
  have hn : n ≤ 512 := by omega
  obtain ⟨fs, he⟩ := jq_0 hMW
  refine jv_aload_n C (jd D_La_law 339 rfl) rfl 1 rfl ?_
  refine jv_aload_n C (jd D_La_law 340 rfl) rfl 0 rfl ?_
  refine jv_iload C (jd D_La_law 341 rfl) 4 rfl ?_
  refine jv_iconst (v := 1) C (jd D_La_law 342 rfl) (by decide) ?_
  refine jv_iadd C (jd D_La_law 343 rfl) ?_
  refine jv_sald C hX hbl hbA (6 * n + 1) (nI_add (6 * n) 1) (by omega) (by omega) (jd D_La_law 344 rfl) ?_
  refine jv_aload_n C (jd D_La_law 345 rfl) rfl 3 rfl ?_
  refine jv_lawW C cw_La_87 hW ⟨by omega, by omega⟩ ⟨by omega, by omega⟩ rfl rfl (by decide) (jd D_La_law 346 rfl) ?_
  rintro v ⟨X1, fo1⟩ ⟨rr, rfl, hcode, hval, hCW1⟩
  refine jv_is (ws' := (oa, .inl (dA 2, 1, .inr (.inl fo1))) :: (X1 ++ Y)) (st' := [.int code]) rfl (by rw [hcode]; rfl) ?_
  refine jv_istore C [(5, .int code), (0, .ref b), (1, .ref (Ac 0)), (2, .ref o), (3, .ref oa), (4, .int (nI (6 * n)))] (jd D_La_law 347 rfl) (by decide) rfl ?_
  refine jv_aload_n C (jd D_La_law 348 rfl) rfl 3 rfl ?_
  refine jv_aload_n C (jd D_La_law 349 rfl) rfl 1 rfl ?_
  refine jv_iload C (jd D_La_law 350 rfl) 5 rfl ?_
  refine jv_iconst (v := 1) C (jd D_La_law 351 rfl) (by decide) ?_
  refine jv_iadd C (jd D_La_law 352 rfl) ?_
  refine jv_sald C hX hbl hbA (6 * n + 1) (nI_add (6 * n) 1) (by omega) (by omega) (jd D_La_law 353 rfl) ?_
  refine jv_lawV C cl_La_89 hM rfl rfl he ⟨by omega, by omega⟩ ⟨by omega, by omega⟩ rfl rfl (by decide) (jd D_La_law 354 rfl) ?_
  rintro v ⟨Y1, pc1, ps1⟩ ⟨hvm, hMW1, hc1, hs1⟩
  have hMW1 : MW dA o Qm t1 r1 sl1 pl1 code pc1 ps1 Y1 := hMW1
  have hc1 : mcM + pc0 + 4 * t1.length ≤ pc1 + 4 * t.length + 100 := hc1
  have hs1 : msM + ps0 + 44 * t1.length ≤ ps1 + 44 * t.length + 1000 := hs1
  obtain ⟨bv, rfl, hagr⟩ := hag (fo1 0) v hvm
  refine jv_is (ws' := (oa, .inl (dA 2, 1, .inr (.inl fo1))) :: (X1 ++ Y1)) (st' := [.long bv]) rfl rfl ?_
  refine jv_lstore C [(6, .long bv), (5, .int code), (0, .ref b), (1, .ref (Ac 0)), (2, .ref o), (3, .ref oa), (4, .int (nI (6 * n)))] (jd D_La_law 355 rfl) (by decide) rfl ?_
  refine jv_aload_n C (jd D_La_law 356 rfl) rfl 4 rfl ?_
  obtain ⟨fs1, he1⟩ := jq_0 hMW1
  refine jv_lawV C cl_La_62 (jq_thrown hMW1) rfl rfl he1 ⟨by omega, by omega⟩ ⟨by omega, by omega⟩ rfl rfl (by decide) (jd D_La_law 357 rfl) ?_
  rintro v u ⟨z, rfl, hz⟩
  refine jv_is (ws' := (oa, .inl (dA 2, 1, .inr (.inl fo1))) :: (X1 ++ Y1)) (st' := [.int code]) rfl (by rw [hz]; rfl) ?_
  refine jv_iload C (jd D_La_law 358 rfl) 1 rfl ?_
  have E : jv_V p l e R s m args below meth c (cells + mc + mcM + 0) (slots + ms + msM + 0) Q D A 8 ((oa, .inl (dA 2, 1, .inr (.inl fo1))) :: (X1 ++ Y1)) [(6, .long bv), (5, .int code), (0, .ref b), (1, .ref (Ac 0)), (2, .ref o), (3, .ref oa), (4, .int (nI (6 * n)))] 618 [] := by
    refine jv_goto (tgt := 677) C (jd D_La_law 372 rfl) (by decide) ?_
    refine jv_lvsub [2, 3, 4, 5, 6] rfl ?_
    exact K _ _ fo1 X1 Y1 ⟨t1, r1, sl1, pl1, code, pc1, ps1, hCW1, hMW1, hS1, by omega, by omega⟩
  refine jv_icmp_eq (tgt := 602) C (jd D_La_law 359 rfl) (by decide) (fun _ => ?_) (fun h => absurd rfl h)
  refine jv_iload C (jd D_La_law 362 rfl) 1 rfl ?_
  refine jv_if_ne (tgt := 618) C (jd D_La_law 363 rfl) (by decide) (fun _ => E) (fun h0 => ?_)
  have hag := hagr ⟨h0, hval h0⟩
  refine jv_aload_n C (jd D_La_law 364 rfl) rfl 5 rfl ?_
  refine jv_iconst (v := 0) C (jd D_La_law 365 rfl) (by decide) ?_
  refine jv_lald C 0 rfl (show vp_in (nI 0) 1 from vp_in_nI (by decide) (by decide)) (jd D_La_law 366 rfl) ?_
  refine jv_is (ws' := (oa, .inl (dA 2, 1, .inr (.inl fo1))) :: (X1 ++ Y1)) (st' := [.long (fo1 0)]) rfl rfl ?_
  refine jv_lload C (jd D_La_law 367 rfl) 0 rfl ?_
  refine jv_lcmp C (jd D_La_law 368 rfl) ?_
  exact jv_if_eq (tgt := 618) C (jd D_La_law 369 rfl) (by decide) (fun _ => E) (fun h => absurd (by rw [hag]; exact lg_cmp_0 _) h)

set_option maxHeartbeats 1000000 in
theorem lw_count (C : jv_C p s m args meth c b_La_law R_La 8 D dA zz A) (hlt : l.stackTraces = false) {b L : Nat} {xs : Nat → Int32} (hX : va_X b L xs s s.heap) (hbl : b < s.heap.size) (hbA : ¬ A b) (hL : L ≤ 3072) (hR : jl_R R) {n : Nat} (h6 : 6 * n + 6 ≤ L) {oa o : Nat} {fo : Nat → Int64} {Ac Qm : Nat → Nat} {X Y : va_W} (hI : jl_I dA Ac o Qm n cells slots X Y)
    (K : ∀ (cells1 slots1 : Nat) (fo1 : Nat → Int64) (X1 Y1 : va_W), jl_I dA Ac o Qm (n + 1) cells1 slots1 X1 Y1 → jv_V p l e R s m args below meth c cells1 slots1 Q D A 8 ((oa, .inl (dA 2, 1, .inr (.inl fo1))) :: (X1 ++ Y1)) [(0, .ref b), (1, .ref (Ac 0)), (2, .ref o), (3, .ref oa), (4, .int (nI (6 * n)))] 677 []) : jv_V p l e R s m args below meth c cells slots Q D A 8 ((oa, .inl (dA 2, 1, .inr (.inl fo))) :: (X ++ Y)) [(0, .ref b), (1, .ref (Ac 0)), (2, .ref o), (3, .ref oa), (4, .int (nI (6 * n)))] 621 [] := by
  obtain ⟨t, r, sl, pl, cd, pc0, ps0, hCW, hMW, hS, hc, hs⟩ := hI
  obtain ⟨hR1, hR2, hR3, hR4⟩ := hR
  obtain ⟨code, val, vm, t1, r1, sl1, pl1, ⟨kL, mc, ms, hk, hmc, hms, hW⟩, ⟨kM, mcM, msM, hkM, hmcM, hmsM, hM⟩, hS1, hag⟩ := jp_count oa fo hlt hS hCW hMW (xs (6 * n + 1))
  have hrm := hMW.room
  have hn : n ≤ 512 := by omega
  obtain ⟨fs, he⟩ := jq_0 hMW
  refine jv_aload_n C (jd D_La_law 373 rfl) rfl 1 rfl ?_
  refine jv_aload_n C (jd D_La_law 374 rfl) rfl 0 rfl ?_
  refine jv_iload C (jd D_La_law 375 rfl) 4 rfl ?_
  refine jv_iconst (v := 1) C (jd D_La_law 376 rfl) (by decide) ?_
  refine jv_iadd C (jd D_La_law 377 rfl) ?_
  refine jv_sald C hX hbl hbA (6 * n + 1) (nI_add (6 * n) 1) (by omega) (by omega) (jd D_La_law 378 rfl) ?_
  refine jv_aload_n C (jd D_La_law 379 rfl) rfl 3 rfl ?_
  refine jv_lawW C cw_La_90 hW ⟨by omega, by omega⟩ ⟨by omega, by omega⟩ rfl rfl (by decide) (jd D_La_law 380 rfl) ?_
  rintro v ⟨X1, fo1⟩ ⟨rr, rfl, hcode, hval, hCW1⟩
  refine jv_is (ws' := (oa, .inl (dA 2, 1, .inr (.inl fo1))) :: (X1 ++ Y)) (st' := [.int code]) rfl (by rw [hcode]; rfl) ?_
  refine jv_istore C [(5, .int code), (0, .ref b), (1, .ref (Ac 0)), (2, .ref o), (3, .ref oa), (4, .int (nI (6 * n)))] (jd D_La_law 381 rfl) (by decide) rfl ?_
  refine jv_aload_n C (jd D_La_law 382 rfl) rfl 3 rfl ?_
  refine jv_aload_n C (jd D_La_law 383 rfl) rfl 1 rfl ?_
  refine jv_iload C (jd D_La_law 384 rfl) 5 rfl ?_
  refine jv_iconst (v := 1) C (jd D_La_law 385 rfl) (by decide) ?_
  refine jv_iadd C (jd D_La_law 386 rfl) ?_
  refine jv_sald C hX hbl hbA (6 * n + 1) (nI_add (6 * n) 1) (by omega) (by omega) (jd D_La_law 387 rfl) ?_
  refine jv_lawV C cl_La_92 hM rfl rfl he ⟨by omega, by omega⟩ ⟨by omega, by omega⟩ rfl rfl (by decide) (jd D_La_law 388 rfl) ?_
  rintro v ⟨Y1, pc1, ps1⟩ ⟨hvm, hMW1, hc1, hs1⟩
  have hMW1 : MW dA o Qm t1 r1 sl1 pl1 code pc1 ps1 Y1 := hMW1
  have hc1 : mcM + pc0 + 4 * t1.length ≤ pc1 + 4 * t.length + 100 := hc1
  have hs1 : msM + ps0 + 44 * t1.length ≤ ps1 + 44 * t.length + 1000 := hs1
  obtain ⟨bv, rfl, hagr⟩ := hag (fo1 0) v hvm
  refine jv_is (ws' := (oa, .inl (dA 2, 1, .inr (.inl fo1))) :: (X1 ++ Y1)) (st' := [.int bv]) rfl rfl ?_
  refine jv_istore C [(6, .int bv), (5, .int code), (0, .ref b), (1, .ref (Ac 0)), (2, .ref o), (3, .ref oa), (4, .int (nI (6 * n)))] (jd D_La_law 389 rfl) (by decide) rfl ?_
  refine jv_aload_n C (jd D_La_law 390 rfl) rfl 4 rfl ?_
  obtain ⟨fs1, he1⟩ := jq_0 hMW1
  refine jv_lawV C cl_La_62 (jq_thrown hMW1) rfl rfl he1 ⟨by omega, by omega⟩ ⟨by omega, by omega⟩ rfl rfl (by decide) (jd D_La_law 391 rfl) ?_
  rintro v u ⟨z, rfl, hz⟩
  refine jv_is (ws' := (oa, .inl (dA 2, 1, .inr (.inl fo1))) :: (X1 ++ Y1)) (st' := [.int code]) rfl (by rw [hz]; rfl) ?_
  refine jv_iload C (jd D_La_law 392 rfl) 1 rfl ?_
  have E : jv_V p l e R s m args below meth c (cells + mc + mcM + 0) (slots + ms + msM + 0) Q D A 8 ((oa, .inl (dA 2, 1, .inr (.inl fo1))) :: (X1 ++ Y1)) [(6, .int bv), (5, .int code), (0, .ref b), (1, .ref (Ac 0)), (2, .ref o), (3, .ref oa), (4, .int (nI (6 * n)))] 674 [] := by
    refine jv_goto (tgt := 677) C (jd D_La_law 407 rfl) (by decide) ?_
    refine jv_lvsub [2, 3, 4, 5, 6] rfl ?_
    exact K _ _ fo1 X1 Y1 ⟨t1, r1, sl1, pl1, code, pc1, ps1, hCW1, hMW1, hS1, by omega, by omega⟩
  refine jv_icmp_eq (tgt := 657) C (jd D_La_law 393 rfl) (by decide) (fun _ => ?_) (fun h => absurd rfl h)
  refine jv_iload C (jd D_La_law 396 rfl) 1 rfl ?_
  refine jv_if_ne (tgt := 674) C (jd D_La_law 397 rfl) (by decide) (fun _ => E) (fun h0 => ?_)
  have hag := hagr ⟨h0, hval h0⟩
  refine jv_aload_n C (jd D_La_law 398 rfl) rfl 5 rfl ?_
  refine jv_iconst (v := 0) C (jd D_La_law 399 rfl) (by decide) ?_
  refine jv_lald C 0 rfl (show vp_in (nI 0) 1 from vp_in_nI (by decide) (by decide)) (jd D_La_law 400 rfl) ?_
  refine jv_is (ws' := (oa, .inl (dA 2, 1, .inr (.inl fo1))) :: (X1 ++ Y1)) (st' := [.long (fo1 0)]) rfl rfl ?_
  refine jv_iload C (jd D_La_law 401 rfl) 0 rfl ?_
  refine jv_i2l C (jd D_La_law 402 rfl) ?_
  refine jv_lcmp C (jd D_La_law 403 rfl) ?_
  exact jv_if_eq (tgt := 674) C (jd D_La_law 404 rfl) (by decide) (fun _ => E) (fun h => absurd (by rw [hag]; exact lg_cmp_0 _) h)
end JLC
theorem js_and15 (x : Int32) : ∃ j, j < 16 ∧ x &&& 15 = nI j := by
  refine ⟨x.toBitVec.toNat % 16, Nat.mod_lt _ (by decide), ?_⟩
  apply Int32.toBitVec_inj.mp
  rw [Int32.toBitVec_and]
  apply BitVec.eq_of_toNat_eq
  rw [BitVec.toNat_and]
  show x.toBitVec.toNat &&& 15 = _
  rw [show (15 : Nat) = 2 ^ 4 - 1 from rfl, Nat.and_two_pow_sub_one_eq_mod]
  show _ = (Int32.ofNat _).toBitVec.toNat
  rw [Int32.toBitVec_ofNat', BitVec.toNat_ofNat]
  omega
theorem js_far {L n : Nat} (hL : L ≤ 3072) (hn : n ≤ 600) (h : ¬ nI L - 6 < nI (6 * n)) : 6 * n + 6 ≤ L := by
  rcases Nat.lt_or_ge L 6 with q | q
  · exfalso
    apply h
    have h1 : nI L - 6 < 0 := (by decide : ∀ L, L < 6 → nI L - 6 < 0) L q
    exact Int32.lt_of_lt_of_le h1 (Int32.not_lt.mp (nI_pos (by omega)))
  · obtain ⟨k, rfl⟩ : ∃ k, L = k + 6 := ⟨L - 6, by omega⟩
    rw [← nI_add k 6] at h
    rw [show nI k + nI 6 - 6 = nI k from by rw [show (6 : Int32) = nI 6 from rfl]; exact Int32.add_sub_cancel _ _] at h
    rcases Nat.lt_or_ge k (6 * n) with z | z
    · exact absurd (nI_lt z (by omega)) h
    · omega
section JLL
variable {p : Program} {l : Launch} {e : Env} {R : Room} {s : State} {m : MethodId} {args : Array Value} {below : List Frame} {meth : Method} {c : Code} {cells slots : Nat} {Q : State → Prop} {cc : ByteArray} {own : String} {nL : Nat} {D : va_G} {dA : Nat → ClassId} {zz : (Nat → Nat) × (Nat → Nat)} {A : Nat → Prop} {ws : va_W} {lv : List (Nat × Value)} {pc : Nat} {rest : List Value}
set_option maxHeartbeats 4000000 in
theorem lw_loop (C : jv_C p s m args meth c b_La_law R_La 8 D dA zz A) (hlt : l.stackTraces = false) {b L : Nat} {xs : Nat → Int32} (hX : va_X b L xs s s.heap) (hbl : b < s.heap.size) (hbA : ¬ A b) (hL : L ≤ 3072) (hR : jl_R R) {oa o : Nat} {Ac Qm : Nat → Nat}
    (kend : ∀ (cells slots : Nat) (ws : va_W) (lv : List (Nat × Value)), cells ≤ 601024 → slots ≤ 7293034 → jv_V p l e R s m args below meth c cells slots Q D A 8 ws lv 683 []) :
    ∀ (f n cells slots : Nat) (fo : Nat → Int64) (X Y : va_W), n + f = 513 → 6 * n ≤ L → jl_I dA Ac o Qm n cells slots X Y → jv_V p l e R s m args below meth c cells slots Q D A 8 ((oa, .inl (dA 2, 1, .inr (.inl fo))) :: (X ++ Y)) [(0, .ref b), (1, .ref (Ac 0)), (2, .ref o), (3, .ref oa), (4, .int (nI (6 * n)))] 23 [] := by
  intro f
  induction f with
  | zero =>
    intro n cells slots fo X Y h1 h2
    omega
  | succ f ih =>
    intro n cells slots fo X Y h1 h2 hI
    refine jv_iload C (jd D_La_law 13 rfl) 4 rfl ?_
    refine jv_aload_n C (jd D_La_law 14 rfl) rfl 0 rfl ?_
    refine jv_sclen C hX hbl hbA (jd D_La_law 15 rfl) ?_
    refine jv_bipush (v := 6) C (jd D_La_law 16 rfl) (by decide) ?_
    refine jv_isub C (jd D_La_law 17 rfl) ?_
    refine jv_icmp_gt (tgt := 683) C (jd D_La_law 18 rfl) (by decide) (fun _ => ?_) (fun hlt6 => ?_)
    · obtain ⟨t, r, sl, pl, cd, pc0, ps0, hCW, hMW, hS, hc, hs⟩ := hI
      have hrm := hMW.room
      exact kend _ _ _ _ (by omega) (by omega)
    have h6 : 6 * n + 6 ≤ L := js_far hL (by omega) hlt6
    have K : ∀ (cells1 slots1 : Nat) (fo1 : Nat → Int64) (X1 Y1 : va_W), jl_I dA Ac o Qm (n + 1) cells1 slots1 X1 Y1 → jv_V p l e R s m args below meth c cells1 slots1 Q D A 8 ((oa, .inl (dA 2, 1, .inr (.inl fo1))) :: (X1 ++ Y1)) [(0, .ref b), (1, .ref (Ac 0)), (2, .ref o), (3, .ref oa), (4, .int (nI (6 * n)))] 677 [] := by
      intro cells1 slots1 fo1 X1 Y1 hI1
      refine jv_iinc (v := nI (6 * (n + 1))) C [(4, .int (nI (6 * (n + 1)))), (0, .ref b), (1, .ref (Ac 0)), (2, .ref o), (3, .ref oa)] (jd D_La_law 408 rfl) 4 rfl (nI_add (6 * n) 6) (by decide) rfl ?_
      refine jv_goto (tgt := 23) C (jd D_La_law 409 rfl) (by decide) ?_
      refine jv_lvsub [1, 2, 3, 4, 0] rfl ?_
      exact ih (n + 1) cells1 slots1 fo1 X1 Y1 (by omega) (by omega) hI1
    refine jv_aload_n C (jd D_La_law 19 rfl) rfl 0 rfl ?_
    refine jv_iload C (jd D_La_law 20 rfl) 4 rfl ?_
    refine jv_sald C hX hbl hbA (6 * n) rfl (by omega) (by omega) (jd D_La_law 21 rfl) ?_
    refine jv_bipush (v := 15) C (jd D_La_law 22 rfl) (by decide) ?_
    refine jv_iand C (jd D_La_law 23 rfl) ?_
    obtain ⟨j, hj, ej⟩ := js_and15 (xs (6 * n))
    refine jv_is (ws' := (oa, .inl (dA 2, 1, .inr (.inl fo))) :: (X ++ Y)) (st' := [.int (nI j)]) rfl (by rw [ej]) ?_
    match j, hj with
    | 0, _ =>
      refine jv_tableIn (tgt := 92) C (jd D_La_law 24 rfl) (by decide) (by decide) rfl (by decide) ?_
      exact lw_feed C hlt hX hbl hbA hL hR h6 hI K
    | 1, _ =>
      refine jv_tableIn (tgt := 196) C (jd D_La_law 24 rfl) (by decide) (by decide) rfl (by decide) ?_
      exact lw_end C hlt hX hbl hbA hL hR h6 hI K
    | 2, _ =>
      refine jv_tableIn (tgt := 252) C (jd D_La_law 24 rfl) (by decide) (by decide) rfl (by decide) ?_
      exact lw_read C hlt hX hbl hbA hL hR h6 hI K
    | 3, _ =>
      refine jv_tableIn (tgt := 308) C (jd D_La_law 24 rfl) (by decide) (by decide) rfl (by decide) ?_
      exact lw_print C hlt hX hbl hbA hL hR h6 hI K
    | 4, _ =>
      refine jv_tableIn (tgt := 364) C (jd D_La_law 24 rfl) (by decide) (by decide) rfl (by decide) ?_
      exact lw_same C hlt hX hbl hbA hL hR h6 hI K
    | 5, _ =>
      refine jv_tableIn (tgt := 439) C (jd D_La_law 24 rfl) (by decide) (by decide) rfl (by decide) ?_
      exact lw_about C hlt hX hbl hbA hL hR h6 hI K
    | 6, _ =>
      refine jv_tableIn (tgt := 506) C (jd D_La_law 24 rfl) (by decide) (by decide) rfl (by decide) ?_
      exact lw_take C hlt hX hbl hbA hL hR h6 hI K
    | 7, _ =>
      refine jv_tableIn (tgt := 566) C (jd D_La_law 24 rfl) (by decide) (by decide) rfl (by decide) ?_
      exact lw_word C hlt hX hbl hbA hL hR h6 hI K
    | 8, _ =>
      refine jv_tableIn (tgt := 621) C (jd D_La_law 24 rfl) (by decide) (by decide) rfl (by decide) ?_
      exact lw_count C hlt hX hbl hbA hL hR h6 hI K
    | j + 9, hj =>
      refine jv_tableOut (tgt := 677) C (jd D_La_law 24 rfl) (Or.inr ((by decide : ∀ j, j < 7 → (8 : Int) < (nI (j + 9)).toInt) j (by omega))) (by decide) ?_
      obtain ⟨t, r, sl, pl, cd, pc0, ps0, hCW, hMW, hS, hc, hs⟩ := hI
      exact K _ _ _ _ _ ⟨t, r, sl, pl, cd, pc0, ps0, hCW, hMW, hS, by omega, by omega⟩
end JLL
