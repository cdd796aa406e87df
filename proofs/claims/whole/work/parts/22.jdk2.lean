/-- the char at j of the constant k -/
def js_sc (k j : Nat) : Int32 := (jz_byt.getD k []).getD j 0
theorem js_sc_ok : ∀ k, k < 7 → ∀ j, j < jz_len.getD k 0 → ((js_sc k j &&& 255).toUInt32 % 65536).toInt32 = js_sc k j ∧ narrow .char (.int (js_sc k j)) = .int (js_sc k j) := by decide +kernel
theorem js_sl16 : ∀ k, k < 7 → jz_len.getD k 0 < 100 := by decide
/-- the first place of x among the n chars from j on -/
def js_iox (k : Nat) (x : Int32) : Nat → Nat → Int32
  | 0, _ => -1
  | n + 1, j => if js_sc k j = x then nI j else js_iox k x n (j + 1)

set_option maxHeartbeats 4000000 in
set_option maxRecDepth 100000 in
theorem c_Js_coder {l : Launch} {D : va_G} {dA : Nat → ClassId} {zz : (Nat → Nat) × (Nat → Nat)} (k : Nat) (hk : k < 7) : jv_M l D dA zz y_Js_coder b_Js_coder 1 (some (FieldType.byte)) 1 [.ref (zz.1 k)] [] (jv_pi fun r (_ : Unit) => r = 0) (fun _ => []) 0 0 := by
  refine jv_M.of [(0, .ref (zz.1 k))] (by decide) (Nat.le_of_ble_eq_true rfl) rfl ?_
  intro pR eR sR mR belowR methR cR AR C hr hin
  refine jv_gets1 C (jm2 (List.mem_of_getElem? (i := 109) rfl)) (jd D_Js_coder 0 rfl) ?_
  refine jv_if_eq (tgt := 13) C (jd D_Js_coder 1 rfl) (by decide) (fun c3 => absurd c3 (by decide)) (fun c3 => ?_)
  refine jv_aload_n C (jd D_Js_coder 2 rfl) rfl 0 rfl ?_
  refine jv_scod C hk (jm5 (List.mem_of_getElem? (i := 141) rfl)) (jd D_Js_coder 3 rfl) ?_
  refine jv_goto (tgt := 14) C (jd D_Js_coder 4 rfl) (by decide) ?_
  exact jv_iret C hr () (rfl) rfl [] rfl rfl (Nat.le_of_ble_eq_true rfl) (Nat.le_of_ble_eq_true rfl) (jd D_Js_coder 6 rfl)

set_option maxHeartbeats 4000000 in
set_option maxRecDepth 100000 in
theorem c_Js_isLatin1 {l : Launch} {D : va_G} {dA : Nat → ClassId} {zz : (Nat → Nat) × (Nat → Nat)} (k : Nat) (hk : k < 7) : jv_M l D dA zz y_Js_isLatin1 b_Js_isLatin1 1 (some (FieldType.boolean)) 1 [.ref (zz.1 k)] [] (jv_pi fun r (_ : Unit) => r = 1) (fun _ => []) 0 0 := by
  refine jv_M.of [(0, .ref (zz.1 k))] (by decide) (Nat.le_of_ble_eq_true rfl) rfl ?_
  intro pR eR sR mR belowR methR cR AR C hr hin
  refine jv_gets1 C (jm2 (List.mem_of_getElem? (i := 109) rfl)) (jd D_Js_isLatin1 0 rfl) ?_
  refine jv_if_eq (tgt := 17) C (jd D_Js_isLatin1 1 rfl) (by decide) (fun c3 => absurd c3 (by decide)) (fun c3 => ?_)
  refine jv_aload_n C (jd D_Js_isLatin1 2 rfl) rfl 0 rfl ?_
  refine jv_scod C hk (jm5 (List.mem_of_getElem? (i := 141) rfl)) (jd D_Js_isLatin1 3 rfl) ?_
  refine jv_if_ne (tgt := 17) C (jd D_Js_isLatin1 4 rfl) (by decide) (fun c10 => absurd c10 (fun y => y rfl)) (fun c10 => ?_)
  refine jv_iconst (v := 1) C (jd D_Js_isLatin1 5 rfl) (by decide) ?_
  refine jv_goto (tgt := 18) C (jd D_Js_isLatin1 6 rfl) (by decide) ?_
  exact jv_iret C hr () (rfl) rfl [] rfl rfl (Nat.le_of_ble_eq_true rfl) (Nat.le_of_ble_eq_true rfl) (jd D_Js_isLatin1 8 rfl)

set_option maxHeartbeats 4000000 in
set_option maxRecDepth 100000 in
theorem c_Js_length {l : Launch} {D : va_G} {dA : Nat → ClassId} {zz : (Nat → Nat) × (Nat → Nat)} (k : Nat) (hk : k < 7) : jv_M l D dA zz y_Js_length b_Js_length 1 (some (FieldType.int)) 2 [.ref (zz.1 k)] [] (jv_pi fun r (_ : Unit) => r = nI (jz_len.getD k 0)) (fun _ => []) 0 0 := by
  refine jv_M.of [(0, .ref (zz.1 k))] (by decide) (Nat.le_of_ble_eq_true rfl) rfl ?_
  intro pR eR sR mR belowR methR cR AR C hr hin
  refine jv_aload_n C (jd D_Js_length 0 rfl) rfl 0 rfl ?_
  refine jv_sval C hk (jm5 (List.mem_of_getElem? (i := 140) rfl)) (jd D_Js_length 1 rfl) ?_
  refine jv_slen C hk (jd D_Js_length 2 rfl) ?_
  refine jv_aload_n C (jd D_Js_length 3 rfl) rfl 0 rfl ?_
  refine jv_callVs (wr := []) C cl_Js_335 (c_Js_coder k hk) hk rfl [] [] rfl rfl rfl rfl (by decide) ⟨Nat.le_of_ble_eq_true rfl, Nat.le_of_ble_eq_true rfl⟩ ⟨Nat.le_of_ble_eq_true rfl, Nat.le_of_ble_eq_true rfl⟩ rfl rfl (Nat.le_of_ble_eq_true rfl) (jd D_Js_length 4 rfl) (fun v1 _ k1 => ?_)
  obtain ⟨r1, rfl, k1⟩ := k1
  refine jv_fix [] [] [.int r1, .int (nI (jz_len.getD k 0))] 0 0 rfl rfl rfl (Nat.le_refl _) (Nat.le_refl _) ?_
  subst k1
  refine jv_ishr C (jd D_Js_length 5 rfl) ?_
  refine jv_ati (y := nI (jz_len.getD k 0)) (sc_shr0 (by have := js_sl16 k hk; omega)) ?_
  exact jv_iret C hr () (rfl) rfl [] rfl rfl (Nat.le_of_ble_eq_true rfl) (Nat.le_of_ble_eq_true rfl) (jd D_Js_length 6 rfl)

set_option maxHeartbeats 4000000 in
set_option maxRecDepth 100000 in
theorem c_Jp_checkIndex_n {l : Launch} {D : va_G} {dA : Nat → ClassId} {zz : (Nat → Nat) × (Nat → Nat)} (j n : Nat) (hj : j < n) (hn : n < 2 ^ 31) : jv_M l D dA zz y_Jp_checkIndex b_Jp_checkIndex 3 (some (FieldType.int)) 1 [.int (nI j), .int (nI n), .null] [] (jv_pi fun r (_ : Unit) => r = nI j) (fun _ => []) 0 0 := by
  refine jv_M.of [(0, .int (nI j)), (1, .int (nI n)), (2, .null)] (by decide) (Nat.le_of_ble_eq_true rfl) rfl ?_
  intro pR eR sR mR belowR methR cR AR C hr hin
  refine jv_iload_n C (jd D_Jp_checkIndex 0 rfl) rfl 0 rfl ?_
  refine jv_if_lt (tgt := 9) C (jd D_Jp_checkIndex 1 rfl) (by decide) (fun c1 => absurd c1 (nI_pos (by omega))) (fun c1 => ?_)
  refine jv_iload_n C (jd D_Jp_checkIndex 2 rfl) rfl 0 rfl ?_
  refine jv_iload_n C (jd D_Jp_checkIndex 3 rfl) rfl 1 rfl ?_
  refine jv_icmp_lt (tgt := 16) C (jd D_Jp_checkIndex 4 rfl) (by decide) (fun c6 => ?_) (fun c6 => absurd (nI_lt hj hn) c6)
  refine jv_iload_n C (jd D_Jp_checkIndex 10 rfl) rfl 0 rfl ?_
  exact jv_iret C hr () (rfl) rfl [] rfl rfl (Nat.le_of_ble_eq_true rfl) (Nat.le_of_ble_eq_true rfl) (jd D_Jp_checkIndex 11 rfl)

set_option maxHeartbeats 4000000 in
set_option maxRecDepth 100000 in
theorem c_Jp_checkIndex_r {l : Launch} {D : va_G} {dA : Nat → ClassId} {zz : (Nat → Nat) × (Nat → Nat)} (j n : Nat) (a : Nat) (hj : j < n) (hn : n < 2 ^ 31) : jv_M l D dA zz y_Jp_checkIndex b_Jp_checkIndex 3 (some (FieldType.int)) 1 [.int (nI j), .int (nI n), .ref a] [] (jv_pi fun r (_ : Unit) => r = nI j) (fun _ => []) 0 0 := by
  refine jv_M.of [(0, .int (nI j)), (1, .int (nI n)), (2, .ref a)] (by decide) (Nat.le_of_ble_eq_true rfl) rfl ?_
  intro pR eR sR mR belowR methR cR AR C hr hin
  refine jv_iload_n C (jd D_Jp_checkIndex 0 rfl) rfl 0 rfl ?_
  refine jv_if_lt (tgt := 9) C (jd D_Jp_checkIndex 1 rfl) (by decide) (fun c1 => absurd c1 (nI_pos (by omega))) (fun c1 => ?_)
  refine jv_iload_n C (jd D_Jp_checkIndex 2 rfl) rfl 0 rfl ?_
  refine jv_iload_n C (jd D_Jp_checkIndex 3 rfl) rfl 1 rfl ?_
  refine jv_icmp_lt (tgt := 16) C (jd D_Jp_checkIndex 4 rfl) (by decide) (fun c6 => ?_) (fun c6 => absurd (nI_lt hj hn) c6)
  refine jv_iload_n C (jd D_Jp_checkIndex 10 rfl) rfl 0 rfl ?_
  exact jv_iret C hr () (rfl) rfl [] rfl rfl (Nat.le_of_ble_eq_true rfl) (Nat.le_of_ble_eq_true rfl) (jd D_Jp_checkIndex 11 rfl)

set_option maxHeartbeats 4000000 in
set_option maxRecDepth 100000 in
theorem c_Js_checkIndex {l : Launch} {D : va_G} {dA : Nat → ClassId} {zz : (Nat → Nat) × (Nat → Nat)} (j n : Nat) (hj : j < n) (hn : n < 2 ^ 31) : jv_M l D dA zz y_Js_checkIndex b_Js_checkIndex 2 none 2 [.int (nI j), .int (nI n)] [] (jv_pv fun (_ : Unit) => True) (fun _ => []) 0 0 := by
  refine jv_M.of [(0, .int (nI j)), (1, .int (nI n))] (by decide) (Nat.le_of_ble_eq_true rfl) rfl ?_
  intro pR eR sR mR belowR methR cR AR C hr hin
  refine jv_iload_n C (jd D_Js_checkIndex 0 rfl) rfl 0 rfl ?_
  refine jv_iload_n C (jd D_Js_checkIndex 1 rfl) rfl 1 rfl ?_
  refine jv_getsF C (jm2 (List.mem_of_getElem? (i := 125) rfl)) (jd D_Js_checkIndex 2 rfl) (fun vF hF => ?_)
  rcases hF with rfl | ⟨aF, rfl⟩
  · refine jv_callS (wr := []) C cl_Js_1059 (c_Jp_checkIndex_n j n hj hn) [] [] rfl rfl rfl rfl (by decide) ⟨Nat.le_of_ble_eq_true rfl, Nat.le_of_ble_eq_true rfl⟩ ⟨Nat.le_of_ble_eq_true rfl, Nat.le_of_ble_eq_true rfl⟩ rfl rfl (Nat.le_of_ble_eq_true rfl) (jd D_Js_checkIndex 3 rfl) (fun v1 _ k1 => ?_)
    obtain ⟨r1, rfl, k1⟩ := k1
    refine jv_fix [] [] [.int r1] 0 0 rfl rfl rfl (Nat.le_refl _) (Nat.le_refl _) ?_
    refine jv_pop C (jd D_Js_checkIndex 4 rfl) rfl ?_
    exact jv_vret C hr () (trivial) [] rfl rfl (Nat.le_of_ble_eq_true rfl) (Nat.le_of_ble_eq_true rfl) (jd D_Js_checkIndex 5 rfl)
  · refine jv_callS (wr := []) C cl_Js_1059 (c_Jp_checkIndex_r j n aF hj hn) [] [] rfl rfl rfl rfl (by decide) ⟨Nat.le_of_ble_eq_true rfl, Nat.le_of_ble_eq_true rfl⟩ ⟨Nat.le_of_ble_eq_true rfl, Nat.le_of_ble_eq_true rfl⟩ rfl rfl (Nat.le_of_ble_eq_true rfl) (jd D_Js_checkIndex 3 rfl) (fun v2 _ k1 => ?_)
    obtain ⟨r1, rfl, k1⟩ := k1
    refine jv_fix [] [] [.int r1] 0 0 rfl rfl rfl (Nat.le_refl _) (Nat.le_refl _) ?_
    refine jv_pop C (jd D_Js_checkIndex 4 rfl) rfl ?_
    exact jv_vret C hr () (trivial) [] rfl rfl (Nat.le_of_ble_eq_true rfl) (Nat.le_of_ble_eq_true rfl) (jd D_Js_checkIndex 5 rfl)

set_option maxHeartbeats 4000000 in
set_option maxRecDepth 100000 in
theorem c_Jl_charAt {l : Launch} {D : va_G} {dA : Nat → ClassId} {zz : (Nat → Nat) × (Nat → Nat)} (k j : Nat) (hk : k < 7) (hj : j < jz_len.getD k 0) : jv_M l D dA zz y_Jl_charAt b_Jl_charAt 2 (some (FieldType.char)) 3 [.ref (zz.2 k), .int (nI j)] [] (jv_pi fun r (_ : Unit) => r = js_sc k j) (fun _ => []) 0 0 := by
  refine jv_M.of [(0, .ref (zz.2 k)), (1, .int (nI j))] (by decide) (Nat.le_of_ble_eq_true rfl) rfl ?_
  intro pR eR sR mR belowR methR cR AR C hr hin
  refine jv_iload_n C (jd D_Jl_charAt 0 rfl) rfl 1 rfl ?_
  refine jv_aload_n C (jd D_Jl_charAt 1 rfl) rfl 0 rfl ?_
  refine jv_slen C hk (jd D_Jl_charAt 2 rfl) ?_
  refine jv_callS (wr := []) C cl_Jl_9 (c_Js_checkIndex j (jz_len.getD k 0) hj (by have := js_sl16 k hk; omega)) [] [] rfl rfl rfl rfl (by decide) ⟨Nat.le_of_ble_eq_true rfl, Nat.le_of_ble_eq_true rfl⟩ ⟨Nat.le_of_ble_eq_true rfl, Nat.le_of_ble_eq_true rfl⟩ rfl rfl (Nat.le_of_ble_eq_true rfl) (jd D_Jl_charAt 3 rfl) (fun v1 _ k1 => ?_)
  obtain ⟨rfl, k1⟩ := k1
  refine jv_fix [] [] [] 0 0 rfl rfl rfl (Nat.le_refl _) (Nat.le_refl _) ?_
  refine jv_aload_n C (jd D_Jl_charAt 4 rfl) rfl 0 rfl ?_
  refine jv_iload_n C (jd D_Jl_charAt 5 rfl) rfl 1 rfl ?_
  refine jv_sbal C hk (vp_in_nI hj (by have := js_sl16 k hk; omega)) (jd D_Jl_charAt 6 rfl) ?_
  refine jv_ati (y := js_sc k j) (by rw [nI_clamp (by have := js_sl16 k hk; omega)]; rfl) ?_
  refine jv_sipush (v := 255) C (jd D_Jl_charAt 7 rfl) (by decide) ?_
  refine jv_iand C (jd D_Jl_charAt 8 rfl) ?_
  refine jv_i2c C (jd D_Jl_charAt 9 rfl) ?_
  refine jv_ati (y := js_sc k j) ((js_sc_ok k hk j hj).1) ?_
  exact jv_iret C hr () (rfl) (js_sc_ok k hk j hj).2 [] rfl rfl (Nat.le_of_ble_eq_true rfl) (Nat.le_of_ble_eq_true rfl) (jd D_Jl_charAt 10 rfl)

set_option maxHeartbeats 4000000 in
set_option maxRecDepth 100000 in
theorem c_Js_charAt {l : Launch} {D : va_G} {dA : Nat → ClassId} {zz : (Nat → Nat) × (Nat → Nat)} (k j : Nat) (hk : k < 7) (hj : j < jz_len.getD k 0) : jv_M l D dA zz y_Js_charAt b_Js_charAt 2 (some (FieldType.char)) 4 [.ref (zz.1 k), .int (nI j)] [] (jv_pi fun r (_ : Unit) => r = js_sc k j) (fun _ => []) 0 0 := by
  refine jv_M.of [(0, .ref (zz.1 k)), (1, .int (nI j))] (by decide) (Nat.le_of_ble_eq_true rfl) rfl ?_
  intro pR eR sR mR belowR methR cR AR C hr hin
  refine jv_aload_n C (jd D_Js_charAt 0 rfl) rfl 0 rfl ?_
  refine jv_callVs (wr := []) C cl_Js_492 (c_Js_isLatin1 k hk) hk rfl [] [] rfl rfl rfl rfl (by decide) ⟨Nat.le_of_ble_eq_true rfl, Nat.le_of_ble_eq_true rfl⟩ ⟨Nat.le_of_ble_eq_true rfl, Nat.le_of_ble_eq_true rfl⟩ rfl rfl (Nat.le_of_ble_eq_true rfl) (jd D_Js_charAt 1 rfl) (fun v1 _ k1 => ?_)
  obtain ⟨r1, rfl, k1⟩ := k1
  refine jv_fix [] [] [.int r1] 0 0 rfl rfl rfl (Nat.le_refl _) (Nat.le_refl _) ?_
  subst k1
  refine jv_if_eq (tgt := 16) C (jd D_Js_charAt 2 rfl) (by decide) (fun c4 => absurd c4 (by decide)) (fun c4 => ?_)
  refine jv_aload_n C (jd D_Js_charAt 3 rfl) rfl 0 rfl ?_
  refine jv_sval C hk (jm5 (List.mem_of_getElem? (i := 140) rfl)) (jd D_Js_charAt 4 rfl) ?_
  refine jv_iload_n C (jd D_Js_charAt 5 rfl) rfl 1 rfl ?_
  refine jv_callS (wr := []) C cl_Js_495 (c_Jl_charAt k j hk hj) [] [] rfl rfl rfl rfl (by decide) ⟨Nat.le_of_ble_eq_true rfl, Nat.le_of_ble_eq_true rfl⟩ ⟨Nat.le_of_ble_eq_true rfl, Nat.le_of_ble_eq_true rfl⟩ rfl rfl (Nat.le_of_ble_eq_true rfl) (jd D_Js_charAt 6 rfl) (fun v2 _ k2 => ?_)
  obtain ⟨r2, rfl, k2⟩ := k2
  refine jv_fix [] [] [.int r2] 0 0 rfl rfl rfl (Nat.le_refl _) (Nat.le_refl _) ?_
  subst k2
  exact jv_iret C hr () (rfl) (js_sc_ok k hk j hj).2 [] rfl rfl (Nat.le_of_ble_eq_true rfl) (Nat.le_of_ble_eq_true rfl) (jd D_Js_charAt 7 rfl)

def fn_Jl_canEncode (x0 : Int32) : Int32 := (if x0 < 0 then 0 else (if 255 < x0 then 0 else 1))
set_option maxHeartbeats 4000000 in
set_option maxRecDepth 100000 in
theorem c_Jl_canEncode {l : Launch} {D : va_G} {dA : Nat → ClassId} {zz : (Nat → Nat) × (Nat → Nat)} (x0 : Int32)  : jv_M l D dA zz y_Jl_canEncode b_Jl_canEncode 1 (some (FieldType.boolean)) 1 [.int x0] [] (jv_pi fun r (_ : Unit) => r = fn_Jl_canEncode x0) (fun _ => []) 0 0 := by
  refine jv_M.of [(0, .int x0)] (by decide) (Nat.le_of_ble_eq_true rfl) rfl ?_
  intro pR eR sR mR belowR methR cR AR C hr hin
  refine jv_iload_n C (jd D_Jl_canEncode 0 rfl) rfl 0 rfl ?_
  refine jv_if_lt (tgt := 15) C (jd D_Jl_canEncode 1 rfl) (by decide) (fun c1 => ?_) (fun c1 => ?_)
  · refine jv_iconst (v := 0) C (jd D_Jl_canEncode 7 rfl) (by decide) ?_
    exact jv_iret C hr () (by rw [fn_Jl_canEncode, if_pos c1]) rfl [] rfl rfl (Nat.le_of_ble_eq_true rfl) (Nat.le_of_ble_eq_true rfl) (jd D_Jl_canEncode 8 rfl)
  · refine jv_iload_n C (jd D_Jl_canEncode 2 rfl) rfl 0 rfl ?_
    refine jv_sipush (v := 255) C (jd D_Jl_canEncode 3 rfl) (by decide) ?_
    refine jv_icmp_gt (tgt := 15) C (jd D_Jl_canEncode 4 rfl) (by decide) (fun c8 => ?_) (fun c8 => ?_)
    · refine jv_iconst (v := 0) C (jd D_Jl_canEncode 7 rfl) (by decide) ?_
      exact jv_iret C hr () (by rw [fn_Jl_canEncode, if_neg c1, if_pos c8]) rfl [] rfl rfl (Nat.le_of_ble_eq_true rfl) (Nat.le_of_ble_eq_true rfl) (jd D_Jl_canEncode 8 rfl)
    · refine jv_iconst (v := 1) C (jd D_Jl_canEncode 5 rfl) (by decide) ?_
      refine jv_goto (tgt := 16) C (jd D_Jl_canEncode 6 rfl) (by decide) ?_
      exact jv_iret C hr () (by rw [fn_Jl_canEncode, if_neg c1, if_neg c8]) rfl [] rfl rfl (Nat.le_of_ble_eq_true rfl) (Nat.le_of_ble_eq_true rfl) (jd D_Jl_canEncode 8 rfl)

set_option maxHeartbeats 4000000 in
set_option maxRecDepth 100000 in
theorem c_Jl_indexOfChar {l : Launch} {D : va_G} {dA : Nat → ClassId} {zz : (Nat → Nat) × (Nat → Nat)} (k c z : Nat) (hk : k < 7) (hz : z ≤ jz_len.getD k 0) : jv_M l D dA zz y_Jl_indexOfChar b_Jl_indexOfChar 6 (some (FieldType.int)) 1 [.ref (zz.2 k), .int (nI c), .int 0, .int (nI z)] [] (jv_pi fun r (_ : Unit) => r = js_iox k (nI c).toInt8.toInt32 z 0) (fun _ => []) 0 0 := by
  refine jv_M.of [(0, .ref (zz.2 k)), (1, .int (nI c)), (2, .int 0), (3, .int (nI z))] (by decide) (Nat.le_of_ble_eq_true rfl) rfl ?_
  intro pR eR sR mR belowR methR cR AR C hr hin
  obtain ⟨QR, hQ⟩ : ∃ QR, QR = jv_E D (jv_pi fun r (_ : Unit) => r = js_iox k (nI c).toInt8.toInt32 z 0) (fun _ => []) belowR ([.ref (zz.2 k), .int (nI c), .int 0, .int (nI z)] : List Value).toArray sR AR 0 0 := ⟨_, rfl⟩
  rw [← hQ]
  refine jv_iload_n C (jd D_Jl_indexOfChar 0 rfl) rfl 1 rfl ?_
  refine jv_i2b C (jd D_Jl_indexOfChar 1 rfl) ?_
  refine jv_istore C [(4, .int (nI c).toInt8.toInt32), (0, .ref (zz.2 k)), (1, .int (nI c)), (2, .int 0), (3, .int (nI z))] (jd D_Jl_indexOfChar 2 rfl) (by decide) rfl ?_
  refine jv_iload_n C (jd D_Jl_indexOfChar 3 rfl) rfl 3 rfl ?_
  refine jv_istore C [(5, .int 0), (4, .int (nI c).toInt8.toInt32), (0, .ref (zz.2 k)), (1, .int (nI c)), (2, .int 0), (3, .int (nI z))] (jd D_Jl_indexOfChar 4 rfl) (by decide) rfl ?_
  have hL7 : ∀ (n : Nat) (j : Nat), j ≤ z → z + 1 ≤ j + n → js_iox k (nI c).toInt8.toInt32 (z - j) j = js_iox k (nI c).toInt8.toInt32 z 0 → jv_V pR l eR (jv_rm 1 0 0) sR mR ([.ref (zz.2 k), .int (nI c), .int 0, .int (nI z)] : List Value).toArray belowR methR cR 0 0 QR D AR 6 [] [(0, .ref (zz.2 k)), (1, .int (nI c)), (2, .int 0), (3, .int (nI z)), (4, .int (nI c).toInt8.toInt32), (5, .int (nI j))] 7 [] := by
    intro n
    induction n with
    | zero =>
      intro j h1 h2
      exact absurd h2 (by omega)
    | succ n ih =>
      intro j hj hm he
      refine jv_iload C (jd D_Jl_indexOfChar 5 rfl) 5 rfl ?_
      refine jv_iload_n C (jd D_Jl_indexOfChar 6 rfl) rfl 3 rfl ?_
      refine jv_icmp_ge (tgt := 31) C (jd D_Jl_indexOfChar 7 rfl) (by decide) (fun c10 => ?_) (fun c10 => ?_)
      · refine jv_iconst (v := -1) C (jd D_Jl_indexOfChar 17 rfl) (by decide) ?_
        rw [hQ]
        exact jv_iret C hr () (by rw [← he, show z - j = 0 from (by have hs := js_sl16 k hk; have := (nI_leI (a := z) (b := j) (by omega) (by omega)).mp c10; omega), js_iox]) rfl [] rfl rfl (Nat.le_of_ble_eq_true rfl) (Nat.le_of_ble_eq_true rfl) (jd D_Jl_indexOfChar 18 rfl)
      · have hs := js_sl16 k hk
        have hlt : j < z := by
          rcases Nat.lt_or_ge j z with y | y
          · exact y
          · exact absurd (nI_le y (by omega)) c10
        refine jv_aload_n C (jd D_Jl_indexOfChar 8 rfl) rfl 0 rfl ?_
        refine jv_iload C (jd D_Jl_indexOfChar 9 rfl) 5 rfl ?_
        refine jv_sbal C hk (vp_in_nI (by omega) (by omega)) (jd D_Jl_indexOfChar 10 rfl) ?_
        refine jv_ati (y := js_sc k j) (by rw [nI_clamp (by omega)]; rfl) ?_
        refine jv_iload C (jd D_Jl_indexOfChar 11 rfl) 4 rfl ?_
        refine jv_icmp_ne (tgt := 25) C (jd D_Jl_indexOfChar 12 rfl) (by decide) (fun c19 => ?_) (fun c19 => ?_)
        · refine jv_iinc (v := nI (j + 1)) C [(5, .int (nI (j + 1))), (0, .ref (zz.2 k)), (1, .int (nI c)), (2, .int 0), (3, .int (nI z)), (4, .int (nI c).toInt8.toInt32)] (jd D_Jl_indexOfChar 15 rfl) 5 rfl (nI_1 j) (by decide) rfl ?_
          refine jv_goto (tgt := 7) C (jd D_Jl_indexOfChar 16 rfl) (by decide) ?_
          refine jv_lvsub [1, 2, 3, 4, 5, 0] rfl ?_
          exact ih (j + 1) (by omega) (by omega) (by rw [← he, show z - j = (z - (j + 1)) + 1 by omega, js_iox, if_neg c19])
        · refine jv_iload C (jd D_Jl_indexOfChar 13 rfl) 5 rfl ?_
          rw [hQ]
          exact jv_iret C hr () (by rw [← he, show z - j = (z - (j + 1)) + 1 by omega, js_iox, if_pos c19]) rfl [] rfl rfl (Nat.le_of_ble_eq_true rfl) (Nat.le_of_ble_eq_true rfl) (jd D_Jl_indexOfChar 14 rfl)
  refine jv_lvsub [2, 3, 4, 5, 1, 0] rfl ?_
  exact hL7 (z + 1) 0 (by omega) (by omega) rfl

set_option maxHeartbeats 4000000 in
set_option maxRecDepth 100000 in
theorem c_Jl_indexOf {l : Launch} {D : va_G} {dA : Nat → ClassId} {zz : (Nat → Nat) × (Nat → Nat)} (k c : Nat) (hk : k < 7) (h0 : 0 < jz_len.getD k 0) : jv_M l D dA zz y_Jl_indexOf b_Jl_indexOf 4 (some (FieldType.int)) 2 [.ref (zz.2 k), .int (nI c), .int 0, .int (nI (jz_len.getD k 0))] [] (jv_pi fun r (_ : Unit) => r = if fn_Jl_canEncode (nI c) = 0 then -1 else js_iox k (nI c).toInt8.toInt32 (jz_len.getD k 0) 0) (fun _ => []) 0 0 := by
  refine jv_M.of [(0, .ref (zz.2 k)), (1, .int (nI c)), (2, .int 0), (3, .int (nI (jz_len.getD k 0)))] (by decide) (Nat.le_of_ble_eq_true rfl) rfl ?_
  intro pR eR sR mR belowR methR cR AR C hr hin
  refine jv_iload_n C (jd D_Jl_indexOf 0 rfl) rfl 1 rfl ?_
  refine jv_callS (wr := []) C cl_Jl_88 (c_Jl_canEncode (nI c)) [] [] rfl rfl rfl rfl (by decide) ⟨Nat.le_of_ble_eq_true rfl, Nat.le_of_ble_eq_true rfl⟩ ⟨Nat.le_of_ble_eq_true rfl, Nat.le_of_ble_eq_true rfl⟩ rfl rfl (Nat.le_of_ble_eq_true rfl) (jd D_Jl_indexOf 1 rfl) (fun v1 _ k1 => ?_)
  obtain ⟨r1, rfl, k1⟩ := k1
  refine jv_fix [] [] [.int r1] 0 0 rfl rfl rfl (Nat.le_refl _) (Nat.le_refl _) ?_
  subst k1
  refine jv_if_ne (tgt := 9) C (jd D_Jl_indexOf 2 rfl) (by decide) (fun c4 => ?_) (fun c4 => ?_)
  · refine jv_iload_n C (jd D_Jl_indexOf 5 rfl) rfl 2 rfl ?_
    refine jv_iconst (v := 0) C (jd D_Jl_indexOf 6 rfl) (by decide) ?_
    refine jv_mmax C (jm4 (List.mem_of_getElem? (i := 235) rfl)) (jd D_Jl_indexOf 7 rfl) (Nat.le_of_ble_eq_true rfl) (Nat.le_of_ble_eq_true rfl) (Nat.le_of_ble_eq_true rfl) (Nat.le_of_ble_eq_true rfl) ?_
    refine jv_ati (y := 0) (by decide) ?_
    refine jv_istore_n C [(2, .int 0), (0, .ref (zz.2 k)), (1, .int (nI c)), (3, .int (nI (jz_len.getD k 0)))] (jd D_Jl_indexOf 8 rfl) rfl (by decide) rfl ?_
    refine jv_iload_n C (jd D_Jl_indexOf 9 rfl) rfl 3 rfl ?_
    refine jv_aload_n C (jd D_Jl_indexOf 10 rfl) rfl 1 rfl ?_
    refine jv_slen C hk (jd D_Jl_indexOf 11 rfl) ?_
    refine jv_mmin C (jm4 (List.mem_of_getElem? (i := 236) rfl)) (jd D_Jl_indexOf 12 rfl) (Nat.le_of_ble_eq_true rfl) (Nat.le_of_ble_eq_true rfl) (Nat.le_of_ble_eq_true rfl) (Nat.le_of_ble_eq_true rfl) ?_
    refine jv_ati (y := nI (jz_len.getD k 0)) (ite_self _) ?_
    refine jv_istore_n C [(3, .int (nI (jz_len.getD k 0))), (2, .int 0), (0, .ref (zz.2 k)), (1, .int (nI c))] (jd D_Jl_indexOf 13 rfl) rfl (by decide) rfl ?_
    refine jv_iload_n C (jd D_Jl_indexOf 14 rfl) rfl 1 rfl ?_
    refine jv_iload_n C (jd D_Jl_indexOf 15 rfl) rfl 0 rfl ?_
    refine jv_icmp_lt (tgt := 29) C (jd D_Jl_indexOf 16 rfl) (by decide) (fun c24 => ?_) (fun c24 => absurd (nI_lt (a := 0) h0 (by have := js_sl16 k hk; omega)) c24)
    refine jv_aload_n C (jd D_Jl_indexOf 19 rfl) rfl 2 rfl ?_
    refine jv_iload_n C (jd D_Jl_indexOf 20 rfl) rfl 3 rfl ?_
    refine jv_iload_n C (jd D_Jl_indexOf 21 rfl) rfl 1 rfl ?_
    refine jv_iload_n C (jd D_Jl_indexOf 22 rfl) rfl 0 rfl ?_
    refine jv_callS (wr := []) C cl_Jl_95 (c_Jl_indexOfChar k c (jz_len.getD k 0) hk (Nat.le_refl _)) [] [] rfl rfl rfl rfl (by decide) ⟨Nat.le_of_ble_eq_true rfl, Nat.le_of_ble_eq_true rfl⟩ ⟨Nat.le_of_ble_eq_true rfl, Nat.le_of_ble_eq_true rfl⟩ rfl rfl (Nat.le_of_ble_eq_true rfl) (jd D_Jl_indexOf 23 rfl) (fun v2 _ k2 => ?_)
    obtain ⟨r2, rfl, k2⟩ := k2
    refine jv_fix [] [] [.int r2] 0 0 rfl rfl rfl (Nat.le_refl _) (Nat.le_refl _) ?_
    subst k2
    exact jv_iret C hr () (by rw [if_neg c4]) rfl [] rfl rfl (Nat.le_of_ble_eq_true rfl) (Nat.le_of_ble_eq_true rfl) (jd D_Jl_indexOf 24 rfl)
  · refine jv_iconst (v := -1) C (jd D_Jl_indexOf 3 rfl) (by decide) ?_
    exact jv_iret C hr () (by rw [if_pos c4]) rfl [] rfl rfl (Nat.le_of_ble_eq_true rfl) (Nat.le_of_ble_eq_true rfl) (jd D_Jl_indexOf 4 rfl)

set_option maxHeartbeats 4000000 in
set_option maxRecDepth 100000 in
theorem c_Js_indexOf2 {l : Launch} {D : va_G} {dA : Nat → ClassId} {zz : (Nat → Nat) × (Nat → Nat)} (k c : Nat) (hk : k < 7) (h0 : 0 < jz_len.getD k 0) : jv_M l D dA zz y_Js_indexOf2 b_Js_indexOf2 3 (some (FieldType.int)) 3 [.ref (zz.1 k), .int (nI c), .int 0] [] (jv_pi fun r (_ : Unit) => r = if fn_Jl_canEncode (nI c) = 0 then -1 else js_iox k (nI c).toInt8.toInt32 (jz_len.getD k 0) 0) (fun _ => []) 0 0 := by
  refine jv_M.of [(0, .ref (zz.1 k)), (1, .int (nI c)), (2, .int 0)] (by decide) (Nat.le_of_ble_eq_true rfl) rfl ?_
  intro pR eR sR mR belowR methR cR AR C hr hin
  refine jv_aload_n C (jd D_Js_indexOf2 0 rfl) rfl 0 rfl ?_
  refine jv_callVs (wr := []) C cl_Js_492 (c_Js_isLatin1 k hk) hk rfl [] [] rfl rfl rfl rfl (by decide) ⟨Nat.le_of_ble_eq_true rfl, Nat.le_of_ble_eq_true rfl⟩ ⟨Nat.le_of_ble_eq_true rfl, Nat.le_of_ble_eq_true rfl⟩ rfl rfl (Nat.le_of_ble_eq_true rfl) (jd D_Js_indexOf2 1 rfl) (fun v1 _ k1 => ?_)
  obtain ⟨r1, rfl, k1⟩ := k1
  refine jv_fix [] [] [.int r1] 0 0 rfl rfl rfl (Nat.le_refl _) (Nat.le_refl _) ?_
  subst k1
  refine jv_if_eq (tgt := 23) C (jd D_Js_indexOf2 2 rfl) (by decide) (fun c4 => absurd c4 (by decide)) (fun c4 => ?_)
  refine jv_aload_n C (jd D_Js_indexOf2 3 rfl) rfl 0 rfl ?_
  refine jv_sval C hk (jm5 (List.mem_of_getElem? (i := 140) rfl)) (jd D_Js_indexOf2 4 rfl) ?_
  refine jv_iload_n C (jd D_Js_indexOf2 5 rfl) rfl 1 rfl ?_
  refine jv_iload_n C (jd D_Js_indexOf2 6 rfl) rfl 2 rfl ?_
  refine jv_aload_n C (jd D_Js_indexOf2 7 rfl) rfl 0 rfl ?_
  refine jv_callVs (wr := []) C cl_Js_505 (c_Js_length k hk) hk rfl [] [] rfl rfl rfl rfl (by decide) ⟨Nat.le_of_ble_eq_true rfl, Nat.le_of_ble_eq_true rfl⟩ ⟨Nat.le_of_ble_eq_true rfl, Nat.le_of_ble_eq_true rfl⟩ rfl rfl (Nat.le_of_ble_eq_true rfl) (jd D_Js_indexOf2 8 rfl) (fun v2 _ k2 => ?_)
  obtain ⟨r2, rfl, k2⟩ := k2
  refine jv_fix [] [] [.int r2, .int 0, .int (nI c), .ref (zz.2 k)] 0 0 rfl rfl rfl (Nat.le_refl _) (Nat.le_refl _) ?_
  subst k2
  refine jv_callS (wr := []) C cl_Js_637 (c_Jl_indexOf k c hk h0) [] [] rfl rfl rfl rfl (by decide) ⟨Nat.le_of_ble_eq_true rfl, Nat.le_of_ble_eq_true rfl⟩ ⟨Nat.le_of_ble_eq_true rfl, Nat.le_of_ble_eq_true rfl⟩ rfl rfl (Nat.le_of_ble_eq_true rfl) (jd D_Js_indexOf2 9 rfl) (fun v3 _ k3 => ?_)
  obtain ⟨r3, rfl, k3⟩ := k3
  refine jv_fix [] [] [.int r3] 0 0 rfl rfl rfl (Nat.le_refl _) (Nat.le_refl _) ?_
  subst k3
  refine jv_goto (tgt := 36) C (jd D_Js_indexOf2 10 rfl) (by decide) ?_
  exact jv_iret C hr () (rfl) rfl [] rfl rfl (Nat.le_of_ble_eq_true rfl) (Nat.le_of_ble_eq_true rfl) (jd D_Js_indexOf2 18 rfl)

set_option maxHeartbeats 4000000 in
set_option maxRecDepth 100000 in
theorem c_Js_indexOf {l : Launch} {D : va_G} {dA : Nat → ClassId} {zz : (Nat → Nat) × (Nat → Nat)} (k c : Nat) (hk : k < 7) (h0 : 0 < jz_len.getD k 0) : jv_M l D dA zz y_Js_indexOf b_Js_indexOf 2 (some (FieldType.int)) 4 [.ref (zz.1 k), .int (nI c)] [] (jv_pi fun r (_ : Unit) => r = if fn_Jl_canEncode (nI c) = 0 then -1 else js_iox k (nI c).toInt8.toInt32 (jz_len.getD k 0) 0) (fun _ => []) 0 0 := by
  refine jv_M.of [(0, .ref (zz.1 k)), (1, .int (nI c))] (by decide) (Nat.le_of_ble_eq_true rfl) rfl ?_
  intro pR eR sR mR belowR methR cR AR C hr hin
  refine jv_aload_n C (jd D_Js_indexOf 0 rfl) rfl 0 rfl ?_
  refine jv_iload_n C (jd D_Js_indexOf 1 rfl) rfl 1 rfl ?_
  refine jv_iconst (v := 0) C (jd D_Js_indexOf 2 rfl) (by decide) ?_
  refine jv_callVs (wr := []) C cl_Js_633 (c_Js_indexOf2 k c hk h0) hk rfl [] [] rfl rfl rfl rfl (by decide) ⟨Nat.le_of_ble_eq_true rfl, Nat.le_of_ble_eq_true rfl⟩ ⟨Nat.le_of_ble_eq_true rfl, Nat.le_of_ble_eq_true rfl⟩ rfl rfl (Nat.le_of_ble_eq_true rfl) (jd D_Js_indexOf 3 rfl) (fun v1 _ k1 => ?_)
  obtain ⟨r1, rfl, k1⟩ := k1
  refine jv_fix [] [] [.int r1] 0 0 rfl rfl rfl (Nat.le_refl _) (Nat.le_refl _) ?_
  subst k1
  exact jv_iret C hr () (rfl) rfl [] rfl rfl (Nat.le_of_ble_eq_true rfl) (Nat.le_of_ble_eq_true rfl) (jd D_Js_indexOf 4 rfl)
