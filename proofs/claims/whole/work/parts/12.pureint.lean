def fn_Rd_isBlank (x0 : Int32) : Int32 := (if x0 = 9 then 1 else (if x0 = 10 then 1 else (if x0 = 13 then 1 else (if ¬ x0 = 32 then 0 else 1))))
set_option maxHeartbeats 4000000 in
set_option maxRecDepth 100000 in
theorem c_Rd_isBlank {l : Launch} {D : va_G} {dA : Nat → ClassId} {zz : (Nat → Nat) × (Nat → Nat)} (x0 : Int32)  : jv_M l D dA zz y_Rd_isBlank b_Rd_isBlank 1 (some (FieldType.boolean)) 1 [.int x0] [] (jv_pi fun r (_ : Unit) => r = fn_Rd_isBlank x0) (fun _ => []) 0 0 := by
  refine jv_M.of [(0, .int x0)] (by decide) (Nat.le_of_ble_eq_true rfl) rfl ?_
  intro pR eR sR mR belowR methR cR AR C hr hin
  refine jv_iload_n C (jd D_Rd_isBlank 0 rfl) rfl 0 rfl ?_
  refine jv_bipush (v := 9) C (jd D_Rd_isBlank 1 rfl) (by decide) ?_
  refine jv_icmp_eq (tgt := 24) C (jd D_Rd_isBlank 2 rfl) (by decide) (fun c3 => ?_) (fun c3 => ?_)
  · refine jv_iconst (v := 1) C (jd D_Rd_isBlank 12 rfl) (by decide) ?_
    refine jv_goto (tgt := 29) C (jd D_Rd_isBlank 13 rfl) (by decide) ?_
    exact jv_iret C hr () (by rw [fn_Rd_isBlank, if_pos c3]) rfl [] rfl rfl (Nat.le_of_ble_eq_true rfl) (Nat.le_of_ble_eq_true rfl) (jd D_Rd_isBlank 15 rfl)
  · refine jv_iload_n C (jd D_Rd_isBlank 3 rfl) rfl 0 rfl ?_
    refine jv_bipush (v := 10) C (jd D_Rd_isBlank 4 rfl) (by decide) ?_
    refine jv_icmp_eq (tgt := 24) C (jd D_Rd_isBlank 5 rfl) (by decide) (fun c9 => ?_) (fun c9 => ?_)
    · refine jv_iconst (v := 1) C (jd D_Rd_isBlank 12 rfl) (by decide) ?_
      refine jv_goto (tgt := 29) C (jd D_Rd_isBlank 13 rfl) (by decide) ?_
      exact jv_iret C hr () (by rw [fn_Rd_isBlank, if_neg c3, if_pos c9]) rfl [] rfl rfl (Nat.le_of_ble_eq_true rfl) (Nat.le_of_ble_eq_true rfl) (jd D_Rd_isBlank 15 rfl)
    · refine jv_iload_n C (jd D_Rd_isBlank 6 rfl) rfl 0 rfl ?_
      refine jv_bipush (v := 13) C (jd D_Rd_isBlank 7 rfl) (by decide) ?_
      refine jv_icmp_eq (tgt := 24) C (jd D_Rd_isBlank 8 rfl) (by decide) (fun c15 => ?_) (fun c15 => ?_)
      · refine jv_iconst (v := 1) C (jd D_Rd_isBlank 12 rfl) (by decide) ?_
        refine jv_goto (tgt := 29) C (jd D_Rd_isBlank 13 rfl) (by decide) ?_
        exact jv_iret C hr () (by rw [fn_Rd_isBlank, if_neg c3, if_neg c9, if_pos c15]) rfl [] rfl rfl (Nat.le_of_ble_eq_true rfl) (Nat.le_of_ble_eq_true rfl) (jd D_Rd_isBlank 15 rfl)
      · refine jv_iload_n C (jd D_Rd_isBlank 9 rfl) rfl 0 rfl ?_
        refine jv_bipush (v := 32) C (jd D_Rd_isBlank 10 rfl) (by decide) ?_
        refine jv_icmp_ne (tgt := 28) C (jd D_Rd_isBlank 11 rfl) (by decide) (fun c21 => ?_) (fun c21 => ?_)
        · refine jv_iconst (v := 0) C (jd D_Rd_isBlank 14 rfl) (by decide) ?_
          exact jv_iret C hr () (by rw [fn_Rd_isBlank, if_neg c3, if_neg c9, if_neg c15, if_pos c21]) rfl [] rfl rfl (Nat.le_of_ble_eq_true rfl) (Nat.le_of_ble_eq_true rfl) (jd D_Rd_isBlank 15 rfl)
        · refine jv_iconst (v := 1) C (jd D_Rd_isBlank 12 rfl) (by decide) ?_
          refine jv_goto (tgt := 29) C (jd D_Rd_isBlank 13 rfl) (by decide) ?_
          exact jv_iret C hr () (by rw [fn_Rd_isBlank, if_neg c3, if_neg c9, if_neg c15, if_neg (fun q => q c21)]) rfl [] rfl rfl (Nat.le_of_ble_eq_true rfl) (Nat.le_of_ble_eq_true rfl) (jd D_Rd_isBlank 15 rfl)

def fn_Rd_isDigit (x0 : Int32) : Int32 := (if x0 < 48 then 0 else (if 57 < x0 then 0 else 1))
set_option maxHeartbeats 4000000 in
set_option maxRecDepth 100000 in
theorem c_Rd_isDigit {l : Launch} {D : va_G} {dA : Nat → ClassId} {zz : (Nat → Nat) × (Nat → Nat)} (x0 : Int32)  : jv_M l D dA zz y_Rd_isDigit b_Rd_isDigit 1 (some (FieldType.boolean)) 1 [.int x0] [] (jv_pi fun r (_ : Unit) => r = fn_Rd_isDigit x0) (fun _ => []) 0 0 := by
  refine jv_M.of [(0, .int x0)] (by decide) (Nat.le_of_ble_eq_true rfl) rfl ?_
  intro pR eR sR mR belowR methR cR AR C hr hin
  refine jv_iload_n C (jd D_Rd_isDigit 0 rfl) rfl 0 rfl ?_
  refine jv_bipush (v := 48) C (jd D_Rd_isDigit 1 rfl) (by decide) ?_
  refine jv_icmp_lt (tgt := 16) C (jd D_Rd_isDigit 2 rfl) (by decide) (fun c3 => ?_) (fun c3 => ?_)
  · refine jv_iconst (v := 0) C (jd D_Rd_isDigit 8 rfl) (by decide) ?_
    exact jv_iret C hr () (by rw [fn_Rd_isDigit, if_pos c3]) rfl [] rfl rfl (Nat.le_of_ble_eq_true rfl) (Nat.le_of_ble_eq_true rfl) (jd D_Rd_isDigit 9 rfl)
  · refine jv_iload_n C (jd D_Rd_isDigit 3 rfl) rfl 0 rfl ?_
    refine jv_bipush (v := 57) C (jd D_Rd_isDigit 4 rfl) (by decide) ?_
    refine jv_icmp_gt (tgt := 16) C (jd D_Rd_isDigit 5 rfl) (by decide) (fun c9 => ?_) (fun c9 => ?_)
    · refine jv_iconst (v := 0) C (jd D_Rd_isDigit 8 rfl) (by decide) ?_
      exact jv_iret C hr () (by rw [fn_Rd_isDigit, if_neg c3, if_pos c9]) rfl [] rfl rfl (Nat.le_of_ble_eq_true rfl) (Nat.le_of_ble_eq_true rfl) (jd D_Rd_isDigit 9 rfl)
    · refine jv_iconst (v := 1) C (jd D_Rd_isDigit 6 rfl) (by decide) ?_
      refine jv_goto (tgt := 17) C (jd D_Rd_isDigit 7 rfl) (by decide) ?_
      exact jv_iret C hr () (by rw [fn_Rd_isDigit, if_neg c3, if_neg c9]) rfl [] rfl rfl (Nat.le_of_ble_eq_true rfl) (Nat.le_of_ble_eq_true rfl) (jd D_Rd_isDigit 9 rfl)

def fn_Rd_isFraction (x0 : Int32) : Int32 := (if x0 = 46 then 1 else (if x0 = 101 then 1 else (if ¬ x0 = 69 then 0 else 1)))
set_option maxHeartbeats 4000000 in
set_option maxRecDepth 100000 in
theorem c_Rd_isFraction {l : Launch} {D : va_G} {dA : Nat → ClassId} {zz : (Nat → Nat) × (Nat → Nat)} (x0 : Int32)  : jv_M l D dA zz y_Rd_isFraction b_Rd_isFraction 1 (some (FieldType.boolean)) 1 [.int x0] [] (jv_pi fun r (_ : Unit) => r = fn_Rd_isFraction x0) (fun _ => []) 0 0 := by
  refine jv_M.of [(0, .int x0)] (by decide) (Nat.le_of_ble_eq_true rfl) rfl ?_
  intro pR eR sR mR belowR methR cR AR C hr hin
  refine jv_iload_n C (jd D_Rd_isFraction 0 rfl) rfl 0 rfl ?_
  refine jv_bipush (v := 46) C (jd D_Rd_isFraction 1 rfl) (by decide) ?_
  refine jv_icmp_eq (tgt := 18) C (jd D_Rd_isFraction 2 rfl) (by decide) (fun c3 => ?_) (fun c3 => ?_)
  · refine jv_iconst (v := 1) C (jd D_Rd_isFraction 9 rfl) (by decide) ?_
    refine jv_goto (tgt := 23) C (jd D_Rd_isFraction 10 rfl) (by decide) ?_
    exact jv_iret C hr () (by rw [fn_Rd_isFraction, if_pos c3]) rfl [] rfl rfl (Nat.le_of_ble_eq_true rfl) (Nat.le_of_ble_eq_true rfl) (jd D_Rd_isFraction 12 rfl)
  · refine jv_iload_n C (jd D_Rd_isFraction 3 rfl) rfl 0 rfl ?_
    refine jv_bipush (v := 101) C (jd D_Rd_isFraction 4 rfl) (by decide) ?_
    refine jv_icmp_eq (tgt := 18) C (jd D_Rd_isFraction 5 rfl) (by decide) (fun c9 => ?_) (fun c9 => ?_)
    · refine jv_iconst (v := 1) C (jd D_Rd_isFraction 9 rfl) (by decide) ?_
      refine jv_goto (tgt := 23) C (jd D_Rd_isFraction 10 rfl) (by decide) ?_
      exact jv_iret C hr () (by rw [fn_Rd_isFraction, if_neg c3, if_pos c9]) rfl [] rfl rfl (Nat.le_of_ble_eq_true rfl) (Nat.le_of_ble_eq_true rfl) (jd D_Rd_isFraction 12 rfl)
    · refine jv_iload_n C (jd D_Rd_isFraction 6 rfl) rfl 0 rfl ?_
      refine jv_bipush (v := 69) C (jd D_Rd_isFraction 7 rfl) (by decide) ?_
      refine jv_icmp_ne (tgt := 22) C (jd D_Rd_isFraction 8 rfl) (by decide) (fun c15 => ?_) (fun c15 => ?_)
      · refine jv_iconst (v := 0) C (jd D_Rd_isFraction 11 rfl) (by decide) ?_
        exact jv_iret C hr () (by rw [fn_Rd_isFraction, if_neg c3, if_neg c9, if_pos c15]) rfl [] rfl rfl (Nat.le_of_ble_eq_true rfl) (Nat.le_of_ble_eq_true rfl) (jd D_Rd_isFraction 12 rfl)
      · refine jv_iconst (v := 1) C (jd D_Rd_isFraction 9 rfl) (by decide) ?_
        refine jv_goto (tgt := 23) C (jd D_Rd_isFraction 10 rfl) (by decide) ?_
        exact jv_iret C hr () (by rw [fn_Rd_isFraction, if_neg c3, if_neg c9, if_neg (fun q => q c15)]) rfl [] rfl rfl (Nat.le_of_ble_eq_true rfl) (Nat.le_of_ble_eq_true rfl) (jd D_Rd_isFraction 12 rfl)

def fn_Rd_isFirstOfTwo (x0 : Int32) : Int32 := (if x0 < 55296 then 0 else (if 56319 < x0 then 0 else 1))
set_option maxHeartbeats 4000000 in
set_option maxRecDepth 100000 in
theorem c_Rd_isFirstOfTwo {l : Launch} {D : va_G} {dA : Nat → ClassId} {zz : (Nat → Nat) × (Nat → Nat)} (x0 : Int32)  : jv_M l D dA zz y_Rd_isFirstOfTwo b_Rd_isFirstOfTwo 1 (some (FieldType.boolean)) 1 [.int x0] [] (jv_pi fun r (_ : Unit) => r = fn_Rd_isFirstOfTwo x0) (fun _ => []) 0 0 := by
  refine jv_M.of [(0, .int x0)] (by decide) (Nat.le_of_ble_eq_true rfl) rfl ?_
  intro pR eR sR mR belowR methR cR AR C hr hin
  refine jv_iload_n C (jd D_Rd_isFirstOfTwo 0 rfl) rfl 0 rfl ?_
  refine jv_ldc (v := 55296) C (jm2 (List.mem_of_getElem? (i := 190) rfl)) (jd D_Rd_isFirstOfTwo 1 rfl) ?_
  refine jv_icmp_lt (tgt := 16) C (jd D_Rd_isFirstOfTwo 2 rfl) (by decide) (fun c3 => ?_) (fun c3 => ?_)
  · refine jv_iconst (v := 0) C (jd D_Rd_isFirstOfTwo 8 rfl) (by decide) ?_
    exact jv_iret C hr () (by rw [fn_Rd_isFirstOfTwo, if_pos c3]) rfl [] rfl rfl (Nat.le_of_ble_eq_true rfl) (Nat.le_of_ble_eq_true rfl) (jd D_Rd_isFirstOfTwo 9 rfl)
  · refine jv_iload_n C (jd D_Rd_isFirstOfTwo 3 rfl) rfl 0 rfl ?_
    refine jv_ldc (v := 56319) C (jm2 (List.mem_of_getElem? (i := 191) rfl)) (jd D_Rd_isFirstOfTwo 4 rfl) ?_
    refine jv_icmp_gt (tgt := 16) C (jd D_Rd_isFirstOfTwo 5 rfl) (by decide) (fun c9 => ?_) (fun c9 => ?_)
    · refine jv_iconst (v := 0) C (jd D_Rd_isFirstOfTwo 8 rfl) (by decide) ?_
      exact jv_iret C hr () (by rw [fn_Rd_isFirstOfTwo, if_neg c3, if_pos c9]) rfl [] rfl rfl (Nat.le_of_ble_eq_true rfl) (Nat.le_of_ble_eq_true rfl) (jd D_Rd_isFirstOfTwo 9 rfl)
    · refine jv_iconst (v := 1) C (jd D_Rd_isFirstOfTwo 6 rfl) (by decide) ?_
      refine jv_goto (tgt := 17) C (jd D_Rd_isFirstOfTwo 7 rfl) (by decide) ?_
      exact jv_iret C hr () (by rw [fn_Rd_isFirstOfTwo, if_neg c3, if_neg c9]) rfl [] rfl rfl (Nat.le_of_ble_eq_true rfl) (Nat.le_of_ble_eq_true rfl) (jd D_Rd_isFirstOfTwo 9 rfl)

def fn_Rd_isSecondOfTwo (x0 : Int32) : Int32 := (if x0 < 56320 then 0 else (if 57343 < x0 then 0 else 1))
set_option maxHeartbeats 4000000 in
set_option maxRecDepth 100000 in
theorem c_Rd_isSecondOfTwo {l : Launch} {D : va_G} {dA : Nat → ClassId} {zz : (Nat → Nat) × (Nat → Nat)} (x0 : Int32)  : jv_M l D dA zz y_Rd_isSecondOfTwo b_Rd_isSecondOfTwo 1 (some (FieldType.boolean)) 1 [.int x0] [] (jv_pi fun r (_ : Unit) => r = fn_Rd_isSecondOfTwo x0) (fun _ => []) 0 0 := by
  refine jv_M.of [(0, .int x0)] (by decide) (Nat.le_of_ble_eq_true rfl) rfl ?_
  intro pR eR sR mR belowR methR cR AR C hr hin
  refine jv_iload_n C (jd D_Rd_isSecondOfTwo 0 rfl) rfl 0 rfl ?_
  refine jv_ldc (v := 56320) C (jm2 (List.mem_of_getElem? (i := 185) rfl)) (jd D_Rd_isSecondOfTwo 1 rfl) ?_
  refine jv_icmp_lt (tgt := 16) C (jd D_Rd_isSecondOfTwo 2 rfl) (by decide) (fun c3 => ?_) (fun c3 => ?_)
  · refine jv_iconst (v := 0) C (jd D_Rd_isSecondOfTwo 8 rfl) (by decide) ?_
    exact jv_iret C hr () (by rw [fn_Rd_isSecondOfTwo, if_pos c3]) rfl [] rfl rfl (Nat.le_of_ble_eq_true rfl) (Nat.le_of_ble_eq_true rfl) (jd D_Rd_isSecondOfTwo 9 rfl)
  · refine jv_iload_n C (jd D_Rd_isSecondOfTwo 3 rfl) rfl 0 rfl ?_
    refine jv_ldc (v := 57343) C (jm2 (List.mem_of_getElem? (i := 186) rfl)) (jd D_Rd_isSecondOfTwo 4 rfl) ?_
    refine jv_icmp_gt (tgt := 16) C (jd D_Rd_isSecondOfTwo 5 rfl) (by decide) (fun c9 => ?_) (fun c9 => ?_)
    · refine jv_iconst (v := 0) C (jd D_Rd_isSecondOfTwo 8 rfl) (by decide) ?_
      exact jv_iret C hr () (by rw [fn_Rd_isSecondOfTwo, if_neg c3, if_pos c9]) rfl [] rfl rfl (Nat.le_of_ble_eq_true rfl) (Nat.le_of_ble_eq_true rfl) (jd D_Rd_isSecondOfTwo 9 rfl)
    · refine jv_iconst (v := 1) C (jd D_Rd_isSecondOfTwo 6 rfl) (by decide) ?_
      refine jv_goto (tgt := 17) C (jd D_Rd_isSecondOfTwo 7 rfl) (by decide) ?_
      exact jv_iret C hr () (by rw [fn_Rd_isSecondOfTwo, if_neg c3, if_neg c9]) rfl [] rfl rfl (Nat.le_of_ble_eq_true rfl) (Nat.le_of_ble_eq_true rfl) (jd D_Rd_isSecondOfTwo 9 rfl)

def fn_Rd_hexDigit (x0 : Int32) : Int32 := (if x0 < 48 then (if x0 < 97 then (if x0 < 65 then (-1) else (if 70 < x0 then (-1) else ((x0 - 65) + 10))) else (if 102 < x0 then (if x0 < 65 then (-1) else (if 70 < x0 then (-1) else ((x0 - 65) + 10))) else ((x0 - 97) + 10))) else (if 57 < x0 then (if x0 < 97 then (if x0 < 65 then (-1) else (if 70 < x0 then (-1) else ((x0 - 65) + 10))) else (if 102 < x0 then (if x0 < 65 then (-1) else (if 70 < x0 then (-1) else ((x0 - 65) + 10))) else ((x0 - 97) + 10))) else (x0 - 48)))
set_option maxHeartbeats 4000000 in
set_option maxRecDepth 100000 in
theorem c_Rd_hexDigit {l : Launch} {D : va_G} {dA : Nat → ClassId} {zz : (Nat → Nat) × (Nat → Nat)} (x0 : Int32)  : jv_M l D dA zz y_Rd_hexDigit b_Rd_hexDigit 1 (some (FieldType.int)) 1 [.int x0] [] (jv_pi fun r (_ : Unit) => r = fn_Rd_hexDigit x0) (fun _ => []) 0 0 := by
  refine jv_M.of [(0, .int x0)] (by decide) (Nat.le_of_ble_eq_true rfl) rfl ?_
  intro pR eR sR mR belowR methR cR AR C hr hin
  refine jv_iload_n C (jd D_Rd_hexDigit 0 rfl) rfl 0 rfl ?_
  refine jv_bipush (v := 48) C (jd D_Rd_hexDigit 1 rfl) (by decide) ?_
  refine jv_icmp_lt (tgt := 17) C (jd D_Rd_hexDigit 2 rfl) (by decide) (fun c3 => ?_) (fun c3 => ?_)
  · refine jv_iload_n C (jd D_Rd_hexDigit 10 rfl) rfl 0 rfl ?_
    refine jv_bipush (v := 97) C (jd D_Rd_hexDigit 11 rfl) (by decide) ?_
    refine jv_icmp_lt (tgt := 37) C (jd D_Rd_hexDigit 12 rfl) (by decide) (fun c20 => ?_) (fun c20 => ?_)
    · refine jv_iload_n C (jd D_Rd_hexDigit 22 rfl) rfl 0 rfl ?_
      refine jv_bipush (v := 65) C (jd D_Rd_hexDigit 23 rfl) (by decide) ?_
      refine jv_icmp_lt (tgt := 59) C (jd D_Rd_hexDigit 24 rfl) (by decide) (fun c40 => ?_) (fun c40 => ?_)
      · refine jv_iconst (v := -1) C (jd D_Rd_hexDigit 34 rfl) (by decide) ?_
        exact jv_iret C hr () (by rw [fn_Rd_hexDigit, if_pos c3, if_pos c20, if_pos c40]) rfl [] rfl rfl (Nat.le_of_ble_eq_true rfl) (Nat.le_of_ble_eq_true rfl) (jd D_Rd_hexDigit 35 rfl)
      · refine jv_iload_n C (jd D_Rd_hexDigit 25 rfl) rfl 0 rfl ?_
        refine jv_bipush (v := 70) C (jd D_Rd_hexDigit 26 rfl) (by decide) ?_
        refine jv_icmp_gt (tgt := 59) C (jd D_Rd_hexDigit 27 rfl) (by decide) (fun c46 => ?_) (fun c46 => ?_)
        · refine jv_iconst (v := -1) C (jd D_Rd_hexDigit 34 rfl) (by decide) ?_
          exact jv_iret C hr () (by rw [fn_Rd_hexDigit, if_pos c3, if_pos c20, if_neg c40, if_pos c46]) rfl [] rfl rfl (Nat.le_of_ble_eq_true rfl) (Nat.le_of_ble_eq_true rfl) (jd D_Rd_hexDigit 35 rfl)
        · refine jv_iload_n C (jd D_Rd_hexDigit 28 rfl) rfl 0 rfl ?_
          refine jv_bipush (v := 65) C (jd D_Rd_hexDigit 29 rfl) (by decide) ?_
          refine jv_isub C (jd D_Rd_hexDigit 30 rfl) ?_
          refine jv_bipush (v := 10) C (jd D_Rd_hexDigit 31 rfl) (by decide) ?_
          refine jv_iadd C (jd D_Rd_hexDigit 32 rfl) ?_
          refine jv_goto (tgt := 60) C (jd D_Rd_hexDigit 33 rfl) (by decide) ?_
          exact jv_iret C hr () (by rw [fn_Rd_hexDigit, if_pos c3, if_pos c20, if_neg c40, if_neg c46]) rfl [] rfl rfl (Nat.le_of_ble_eq_true rfl) (Nat.le_of_ble_eq_true rfl) (jd D_Rd_hexDigit 35 rfl)
    · refine jv_iload_n C (jd D_Rd_hexDigit 13 rfl) rfl 0 rfl ?_
      refine jv_bipush (v := 102) C (jd D_Rd_hexDigit 14 rfl) (by decide) ?_
      refine jv_icmp_gt (tgt := 37) C (jd D_Rd_hexDigit 15 rfl) (by decide) (fun c26 => ?_) (fun c26 => ?_)
      · refine jv_iload_n C (jd D_Rd_hexDigit 22 rfl) rfl 0 rfl ?_
        refine jv_bipush (v := 65) C (jd D_Rd_hexDigit 23 rfl) (by decide) ?_
        refine jv_icmp_lt (tgt := 59) C (jd D_Rd_hexDigit 24 rfl) (by decide) (fun c40 => ?_) (fun c40 => ?_)
        · refine jv_iconst (v := -1) C (jd D_Rd_hexDigit 34 rfl) (by decide) ?_
          exact jv_iret C hr () (by rw [fn_Rd_hexDigit, if_pos c3, if_neg c20, if_pos c26, if_pos c40]) rfl [] rfl rfl (Nat.le_of_ble_eq_true rfl) (Nat.le_of_ble_eq_true rfl) (jd D_Rd_hexDigit 35 rfl)
        · refine jv_iload_n C (jd D_Rd_hexDigit 25 rfl) rfl 0 rfl ?_
          refine jv_bipush (v := 70) C (jd D_Rd_hexDigit 26 rfl) (by decide) ?_
          refine jv_icmp_gt (tgt := 59) C (jd D_Rd_hexDigit 27 rfl) (by decide) (fun c46 => ?_) (fun c46 => ?_)
          · refine jv_iconst (v := -1) C (jd D_Rd_hexDigit 34 rfl) (by decide) ?_
            exact jv_iret C hr () (by rw [fn_Rd_hexDigit, if_pos c3, if_neg c20, if_pos c26, if_neg c40, if_pos c46]) rfl [] rfl rfl (Nat.le_of_ble_eq_true rfl) (Nat.le_of_ble_eq_true rfl) (jd D_Rd_hexDigit 35 rfl)
          · refine jv_iload_n C (jd D_Rd_hexDigit 28 rfl) rfl 0 rfl ?_
            refine jv_bipush (v := 65) C (jd D_Rd_hexDigit 29 rfl) (by decide) ?_
            refine jv_isub C (jd D_Rd_hexDigit 30 rfl) ?_
            refine jv_bipush (v := 10) C (jd D_Rd_hexDigit 31 rfl) (by decide) ?_
            refine jv_iadd C (jd D_Rd_hexDigit 32 rfl) ?_
            refine jv_goto (tgt := 60) C (jd D_Rd_hexDigit 33 rfl) (by decide) ?_
            exact jv_iret C hr () (by rw [fn_Rd_hexDigit, if_pos c3, if_neg c20, if_pos c26, if_neg c40, if_neg c46]) rfl [] rfl rfl (Nat.le_of_ble_eq_true rfl) (Nat.le_of_ble_eq_true rfl) (jd D_Rd_hexDigit 35 rfl)
      · refine jv_iload_n C (jd D_Rd_hexDigit 16 rfl) rfl 0 rfl ?_
        refine jv_bipush (v := 97) C (jd D_Rd_hexDigit 17 rfl) (by decide) ?_
        refine jv_isub C (jd D_Rd_hexDigit 18 rfl) ?_
        refine jv_bipush (v := 10) C (jd D_Rd_hexDigit 19 rfl) (by decide) ?_
        refine jv_iadd C (jd D_Rd_hexDigit 20 rfl) ?_
        exact jv_iret C hr () (by rw [fn_Rd_hexDigit, if_pos c3, if_neg c20, if_neg c26]) rfl [] rfl rfl (Nat.le_of_ble_eq_true rfl) (Nat.le_of_ble_eq_true rfl) (jd D_Rd_hexDigit 21 rfl)
  · refine jv_iload_n C (jd D_Rd_hexDigit 3 rfl) rfl 0 rfl ?_
    refine jv_bipush (v := 57) C (jd D_Rd_hexDigit 4 rfl) (by decide) ?_
    refine jv_icmp_gt (tgt := 17) C (jd D_Rd_hexDigit 5 rfl) (by decide) (fun c9 => ?_) (fun c9 => ?_)
    · refine jv_iload_n C (jd D_Rd_hexDigit 10 rfl) rfl 0 rfl ?_
      refine jv_bipush (v := 97) C (jd D_Rd_hexDigit 11 rfl) (by decide) ?_
      refine jv_icmp_lt (tgt := 37) C (jd D_Rd_hexDigit 12 rfl) (by decide) (fun c20 => ?_) (fun c20 => ?_)
      · refine jv_iload_n C (jd D_Rd_hexDigit 22 rfl) rfl 0 rfl ?_
        refine jv_bipush (v := 65) C (jd D_Rd_hexDigit 23 rfl) (by decide) ?_
        refine jv_icmp_lt (tgt := 59) C (jd D_Rd_hexDigit 24 rfl) (by decide) (fun c40 => ?_) (fun c40 => ?_)
        · refine jv_iconst (v := -1) C (jd D_Rd_hexDigit 34 rfl) (by decide) ?_
          exact jv_iret C hr () (by rw [fn_Rd_hexDigit, if_neg c3, if_pos c9, if_pos c20, if_pos c40]) rfl [] rfl rfl (Nat.le_of_ble_eq_true rfl) (Nat.le_of_ble_eq_true rfl) (jd D_Rd_hexDigit 35 rfl)
        · refine jv_iload_n C (jd D_Rd_hexDigit 25 rfl) rfl 0 rfl ?_
          refine jv_bipush (v := 70) C (jd D_Rd_hexDigit 26 rfl) (by decide) ?_
          refine jv_icmp_gt (tgt := 59) C (jd D_Rd_hexDigit 27 rfl) (by decide) (fun c46 => ?_) (fun c46 => ?_)
          · refine jv_iconst (v := -1) C (jd D_Rd_hexDigit 34 rfl) (by decide) ?_
            exact jv_iret C hr () (by rw [fn_Rd_hexDigit, if_neg c3, if_pos c9, if_pos c20, if_neg c40, if_pos c46]) rfl [] rfl rfl (Nat.le_of_ble_eq_true rfl) (Nat.le_of_ble_eq_true rfl) (jd D_Rd_hexDigit 35 rfl)
          · refine jv_iload_n C (jd D_Rd_hexDigit 28 rfl) rfl 0 rfl ?_
            refine jv_bipush (v := 65) C (jd D_Rd_hexDigit 29 rfl) (by decide) ?_
            refine jv_isub C (jd D_Rd_hexDigit 30 rfl) ?_
            refine jv_bipush (v := 10) C (jd D_Rd_hexDigit 31 rfl) (by decide) ?_
            refine jv_iadd C (jd D_Rd_hexDigit 32 rfl) ?_
            refine jv_goto (tgt := 60) C (jd D_Rd_hexDigit 33 rfl) (by decide) ?_
            exact jv_iret C hr () (by rw [fn_Rd_hexDigit, if_neg c3, if_pos c9, if_pos c20, if_neg c40, if_neg c46]) rfl [] rfl rfl (Nat.le_of_ble_eq_true rfl) (Nat.le_of_ble_eq_true rfl) (jd D_Rd_hexDigit 35 rfl)
      · refine jv_iload_n C (jd D_Rd_hexDigit 13 rfl) rfl 0 rfl ?_
        refine jv_bipush (v := 102) C (jd D_Rd_hexDigit 14 rfl) (by decide) ?_
        refine jv_icmp_gt (tgt := 37) C (jd D_Rd_hexDigit 15 rfl) (by decide) (fun c26 => ?_) (fun c26 => ?_)
        · refine jv_iload_n C (jd D_Rd_hexDigit 22 rfl) rfl 0 rfl ?_
          refine jv_bipush (v := 65) C (jd D_Rd_hexDigit 23 rfl) (by decide) ?_
          refine jv_icmp_lt (tgt := 59) C (jd D_Rd_hexDigit 24 rfl) (by decide) (fun c40 => ?_) (fun c40 => ?_)
          · refine jv_iconst (v := -1) C (jd D_Rd_hexDigit 34 rfl) (by decide) ?_
            exact jv_iret C hr () (by rw [fn_Rd_hexDigit, if_neg c3, if_pos c9, if_neg c20, if_pos c26, if_pos c40]) rfl [] rfl rfl (Nat.le_of_ble_eq_true rfl) (Nat.le_of_ble_eq_true rfl) (jd D_Rd_hexDigit 35 rfl)
          · refine jv_iload_n C (jd D_Rd_hexDigit 25 rfl) rfl 0 rfl ?_
            refine jv_bipush (v := 70) C (jd D_Rd_hexDigit 26 rfl) (by decide) ?_
            refine jv_icmp_gt (tgt := 59) C (jd D_Rd_hexDigit 27 rfl) (by decide) (fun c46 => ?_) (fun c46 => ?_)
            · refine jv_iconst (v := -1) C (jd D_Rd_hexDigit 34 rfl) (by decide) ?_
              exact jv_iret C hr () (by rw [fn_Rd_hexDigit, if_neg c3, if_pos c9, if_neg c20, if_pos c26, if_neg c40, if_pos c46]) rfl [] rfl rfl (Nat.le_of_ble_eq_true rfl) (Nat.le_of_ble_eq_true rfl) (jd D_Rd_hexDigit 35 rfl)
            · refine jv_iload_n C (jd D_Rd_hexDigit 28 rfl) rfl 0 rfl ?_
              refine jv_bipush (v := 65) C (jd D_Rd_hexDigit 29 rfl) (by decide) ?_
              refine jv_isub C (jd D_Rd_hexDigit 30 rfl) ?_
              refine jv_bipush (v := 10) C (jd D_Rd_hexDigit 31 rfl) (by decide) ?_
              refine jv_iadd C (jd D_Rd_hexDigit 32 rfl) ?_
              refine jv_goto (tgt := 60) C (jd D_Rd_hexDigit 33 rfl) (by decide) ?_
              exact jv_iret C hr () (by rw [fn_Rd_hexDigit, if_neg c3, if_pos c9, if_neg c20, if_pos c26, if_neg c40, if_neg c46]) rfl [] rfl rfl (Nat.le_of_ble_eq_true rfl) (Nat.le_of_ble_eq_true rfl) (jd D_Rd_hexDigit 35 rfl)
        · refine jv_iload_n C (jd D_Rd_hexDigit 16 rfl) rfl 0 rfl ?_
          refine jv_bipush (v := 97) C (jd D_Rd_hexDigit 17 rfl) (by decide) ?_
          refine jv_isub C (jd D_Rd_hexDigit 18 rfl) ?_
          refine jv_bipush (v := 10) C (jd D_Rd_hexDigit 19 rfl) (by decide) ?_
          refine jv_iadd C (jd D_Rd_hexDigit 20 rfl) ?_
          exact jv_iret C hr () (by rw [fn_Rd_hexDigit, if_neg c3, if_pos c9, if_neg c20, if_neg c26]) rfl [] rfl rfl (Nat.le_of_ble_eq_true rfl) (Nat.le_of_ble_eq_true rfl) (jd D_Rd_hexDigit 21 rfl)
    · refine jv_iload_n C (jd D_Rd_hexDigit 6 rfl) rfl 0 rfl ?_
      refine jv_bipush (v := 48) C (jd D_Rd_hexDigit 7 rfl) (by decide) ?_
      refine jv_isub C (jd D_Rd_hexDigit 8 rfl) ?_
      exact jv_iret C hr () (by rw [fn_Rd_hexDigit, if_neg c3, if_neg c9]) rfl [] rfl rfl (Nat.le_of_ble_eq_true rfl) (Nat.le_of_ble_eq_true rfl) (jd D_Rd_hexDigit 9 rfl)

def fn_Rd_unitOfSign (x0 : Int32) : Int32 := (if x0 = 34 then x0 else (if x0 = 47 then x0 else (if x0 = 92 then x0 else (if x0 = 98 then 8 else (if x0 = 102 then 12 else (if x0 = 110 then 10 else (if x0 = 114 then 13 else (if x0 = 116 then 9 else (-2)))))))))
set_option maxHeartbeats 4000000 in
set_option maxRecDepth 100000 in
theorem c_Rd_unitOfSign {l : Launch} {D : va_G} {dA : Nat → ClassId} {zz : (Nat → Nat) × (Nat → Nat)} (x0 : Int32)  : jv_M l D dA zz y_Rd_unitOfSign b_Rd_unitOfSign 1 (some (FieldType.int)) 1 [.int x0] [] (jv_pi fun r (_ : Unit) => r = fn_Rd_unitOfSign x0) (fun _ => []) 0 0 := by
  refine jv_M.of [(0, .int x0)] (by decide) (Nat.le_of_ble_eq_true rfl) rfl ?_
  intro pR eR sR mR belowR methR cR AR C hr hin
  refine jv_iload_n C (jd D_Rd_unitOfSign 0 rfl) rfl 0 rfl ?_
  by_cases s1_34 : x0 = 34
  · refine jv_lookup (tgt := 76) (off := 75) C (jd D_Rd_unitOfSign 1 rfl) (by decide) (by rw [s1_34] <;> rfl) (by decide) ?_
    refine jv_iload_n C (jd D_Rd_unitOfSign 2 rfl) rfl 0 rfl ?_
    exact jv_iret C hr () (by rw [fn_Rd_unitOfSign, if_pos s1_34]) rfl [] rfl rfl (Nat.le_of_ble_eq_true rfl) (Nat.le_of_ble_eq_true rfl) (jd D_Rd_unitOfSign 3 rfl)
  by_cases s1_47 : x0 = 47
  · refine jv_lookup (tgt := 76) (off := 75) C (jd D_Rd_unitOfSign 1 rfl) (by decide) (by rw [s1_47] <;> rfl) (by decide) ?_
    refine jv_iload_n C (jd D_Rd_unitOfSign 2 rfl) rfl 0 rfl ?_
    exact jv_iret C hr () (by rw [fn_Rd_unitOfSign, if_neg s1_34, if_pos s1_47]) rfl [] rfl rfl (Nat.le_of_ble_eq_true rfl) (Nat.le_of_ble_eq_true rfl) (jd D_Rd_unitOfSign 3 rfl)
  by_cases s1_92 : x0 = 92
  · refine jv_lookup (tgt := 76) (off := 75) C (jd D_Rd_unitOfSign 1 rfl) (by decide) (by rw [s1_92] <;> rfl) (by decide) ?_
    refine jv_iload_n C (jd D_Rd_unitOfSign 2 rfl) rfl 0 rfl ?_
    exact jv_iret C hr () (by rw [fn_Rd_unitOfSign, if_neg s1_34, if_neg s1_47, if_pos s1_92]) rfl [] rfl rfl (Nat.le_of_ble_eq_true rfl) (Nat.le_of_ble_eq_true rfl) (jd D_Rd_unitOfSign 3 rfl)
  by_cases s1_98 : x0 = 98
  · refine jv_lookup (tgt := 78) (off := 77) C (jd D_Rd_unitOfSign 1 rfl) (by decide) (by rw [s1_98] <;> rfl) (by decide) ?_
    refine jv_bipush (v := 8) C (jd D_Rd_unitOfSign 4 rfl) (by decide) ?_
    exact jv_iret C hr () (by rw [fn_Rd_unitOfSign, if_neg s1_34, if_neg s1_47, if_neg s1_92, if_pos s1_98]) rfl [] rfl rfl (Nat.le_of_ble_eq_true rfl) (Nat.le_of_ble_eq_true rfl) (jd D_Rd_unitOfSign 5 rfl)
  by_cases s1_102 : x0 = 102
  · refine jv_lookup (tgt := 87) (off := 86) C (jd D_Rd_unitOfSign 1 rfl) (by decide) (by rw [s1_102] <;> rfl) (by decide) ?_
    refine jv_bipush (v := 12) C (jd D_Rd_unitOfSign 10 rfl) (by decide) ?_
    exact jv_iret C hr () (by rw [fn_Rd_unitOfSign, if_neg s1_34, if_neg s1_47, if_neg s1_92, if_neg s1_98, if_pos s1_102]) rfl [] rfl rfl (Nat.le_of_ble_eq_true rfl) (Nat.le_of_ble_eq_true rfl) (jd D_Rd_unitOfSign 11 rfl)
  by_cases s1_110 : x0 = 110
  · refine jv_lookup (tgt := 84) (off := 83) C (jd D_Rd_unitOfSign 1 rfl) (by decide) (by rw [s1_110] <;> rfl) (by decide) ?_
    refine jv_bipush (v := 10) C (jd D_Rd_unitOfSign 8 rfl) (by decide) ?_
    exact jv_iret C hr () (by rw [fn_Rd_unitOfSign, if_neg s1_34, if_neg s1_47, if_neg s1_92, if_neg s1_98, if_neg s1_102, if_pos s1_110]) rfl [] rfl rfl (Nat.le_of_ble_eq_true rfl) (Nat.le_of_ble_eq_true rfl) (jd D_Rd_unitOfSign 9 rfl)
  by_cases s1_114 : x0 = 114
  · refine jv_lookup (tgt := 90) (off := 89) C (jd D_Rd_unitOfSign 1 rfl) (by decide) (by rw [s1_114] <;> rfl) (by decide) ?_
    refine jv_bipush (v := 13) C (jd D_Rd_unitOfSign 12 rfl) (by decide) ?_
    exact jv_iret C hr () (by rw [fn_Rd_unitOfSign, if_neg s1_34, if_neg s1_47, if_neg s1_92, if_neg s1_98, if_neg s1_102, if_neg s1_110, if_pos s1_114]) rfl [] rfl rfl (Nat.le_of_ble_eq_true rfl) (Nat.le_of_ble_eq_true rfl) (jd D_Rd_unitOfSign 13 rfl)
  by_cases s1_116 : x0 = 116
  · refine jv_lookup (tgt := 81) (off := 80) C (jd D_Rd_unitOfSign 1 rfl) (by decide) (by rw [s1_116] <;> rfl) (by decide) ?_
    refine jv_bipush (v := 9) C (jd D_Rd_unitOfSign 6 rfl) (by decide) ?_
    exact jv_iret C hr () (by rw [fn_Rd_unitOfSign, if_neg s1_34, if_neg s1_47, if_neg s1_92, if_neg s1_98, if_neg s1_102, if_neg s1_110, if_neg s1_114, if_pos s1_116]) rfl [] rfl rfl (Nat.le_of_ble_eq_true rfl) (Nat.le_of_ble_eq_true rfl) (jd D_Rd_unitOfSign 7 rfl)
  refine jv_lookup (tgt := 93) (off := 92) C (jd D_Rd_unitOfSign 1 rfl) (by decide) (by rw [lv_osw s1_34 (by decide), lv_osw s1_47 (by decide), lv_osw s1_92 (by decide), lv_osw s1_98 (by decide), lv_osw s1_102 (by decide), lv_osw s1_110 (by decide), lv_osw s1_114 (by decide), lv_osw s1_116 (by decide)] <;> rfl) (by decide) ?_
  refine jv_bipush (v := -2) C (jd D_Rd_unitOfSign 14 rfl) (by decide) ?_
  exact jv_iret C hr () (by rw [fn_Rd_unitOfSign, if_neg s1_34, if_neg s1_47, if_neg s1_92, if_neg s1_98, if_neg s1_102, if_neg s1_110, if_neg s1_114, if_neg s1_116]) rfl [] rfl rfl (Nat.le_of_ble_eq_true rfl) (Nat.le_of_ble_eq_true rfl) (jd D_Rd_unitOfSign 15 rfl)

def fn_Rd_signOfUnit (x0 : Int32) : Int32 := (if x0 = 8 then 98 else (if x0 = 9 then 116 else (if x0 = 10 then 110 else (if x0 = 12 then 102 else (if x0 = 13 then 114 else (if x0 = 34 then x0 else (if x0 = 92 then x0 else (-1))))))))
set_option maxHeartbeats 4000000 in
set_option maxRecDepth 100000 in
theorem c_Rd_signOfUnit {l : Launch} {D : va_G} {dA : Nat → ClassId} {zz : (Nat → Nat) × (Nat → Nat)} (x0 : Int32)  : jv_M l D dA zz y_Rd_signOfUnit b_Rd_signOfUnit 1 (some (FieldType.int)) 1 [.int x0] [] (jv_pi fun r (_ : Unit) => r = fn_Rd_signOfUnit x0) (fun _ => []) 0 0 := by
  refine jv_M.of [(0, .int x0)] (by decide) (Nat.le_of_ble_eq_true rfl) rfl ?_
  intro pR eR sR mR belowR methR cR AR C hr hin
  refine jv_iload_n C (jd D_Rd_signOfUnit 0 rfl) rfl 0 rfl ?_
  by_cases s1_8 : x0 = 8
  · refine jv_lookup (tgt := 70) (off := 69) C (jd D_Rd_signOfUnit 1 rfl) (by decide) (by rw [s1_8] <;> rfl) (by decide) ?_
    refine jv_bipush (v := 98) C (jd D_Rd_signOfUnit 4 rfl) (by decide) ?_
    exact jv_iret C hr () (by rw [fn_Rd_signOfUnit, if_pos s1_8]) rfl [] rfl rfl (Nat.le_of_ble_eq_true rfl) (Nat.le_of_ble_eq_true rfl) (jd D_Rd_signOfUnit 5 rfl)
  by_cases s1_9 : x0 = 9
  · refine jv_lookup (tgt := 73) (off := 72) C (jd D_Rd_signOfUnit 1 rfl) (by decide) (by rw [s1_9] <;> rfl) (by decide) ?_
    refine jv_bipush (v := 116) C (jd D_Rd_signOfUnit 6 rfl) (by decide) ?_
    exact jv_iret C hr () (by rw [fn_Rd_signOfUnit, if_neg s1_8, if_pos s1_9]) rfl [] rfl rfl (Nat.le_of_ble_eq_true rfl) (Nat.le_of_ble_eq_true rfl) (jd D_Rd_signOfUnit 7 rfl)
  by_cases s1_10 : x0 = 10
  · refine jv_lookup (tgt := 76) (off := 75) C (jd D_Rd_signOfUnit 1 rfl) (by decide) (by rw [s1_10] <;> rfl) (by decide) ?_
    refine jv_bipush (v := 110) C (jd D_Rd_signOfUnit 8 rfl) (by decide) ?_
    exact jv_iret C hr () (by rw [fn_Rd_signOfUnit, if_neg s1_8, if_neg s1_9, if_pos s1_10]) rfl [] rfl rfl (Nat.le_of_ble_eq_true rfl) (Nat.le_of_ble_eq_true rfl) (jd D_Rd_signOfUnit 9 rfl)
  by_cases s1_12 : x0 = 12
  · refine jv_lookup (tgt := 79) (off := 78) C (jd D_Rd_signOfUnit 1 rfl) (by decide) (by rw [s1_12] <;> rfl) (by decide) ?_
    refine jv_bipush (v := 102) C (jd D_Rd_signOfUnit 10 rfl) (by decide) ?_
    exact jv_iret C hr () (by rw [fn_Rd_signOfUnit, if_neg s1_8, if_neg s1_9, if_neg s1_10, if_pos s1_12]) rfl [] rfl rfl (Nat.le_of_ble_eq_true rfl) (Nat.le_of_ble_eq_true rfl) (jd D_Rd_signOfUnit 11 rfl)
  by_cases s1_13 : x0 = 13
  · refine jv_lookup (tgt := 82) (off := 81) C (jd D_Rd_signOfUnit 1 rfl) (by decide) (by rw [s1_13] <;> rfl) (by decide) ?_
    refine jv_bipush (v := 114) C (jd D_Rd_signOfUnit 12 rfl) (by decide) ?_
    exact jv_iret C hr () (by rw [fn_Rd_signOfUnit, if_neg s1_8, if_neg s1_9, if_neg s1_10, if_neg s1_12, if_pos s1_13]) rfl [] rfl rfl (Nat.le_of_ble_eq_true rfl) (Nat.le_of_ble_eq_true rfl) (jd D_Rd_signOfUnit 13 rfl)
  by_cases s1_34 : x0 = 34
  · refine jv_lookup (tgt := 68) (off := 67) C (jd D_Rd_signOfUnit 1 rfl) (by decide) (by rw [s1_34] <;> rfl) (by decide) ?_
    refine jv_iload_n C (jd D_Rd_signOfUnit 2 rfl) rfl 0 rfl ?_
    exact jv_iret C hr () (by rw [fn_Rd_signOfUnit, if_neg s1_8, if_neg s1_9, if_neg s1_10, if_neg s1_12, if_neg s1_13, if_pos s1_34]) rfl [] rfl rfl (Nat.le_of_ble_eq_true rfl) (Nat.le_of_ble_eq_true rfl) (jd D_Rd_signOfUnit 3 rfl)
  by_cases s1_92 : x0 = 92
  · refine jv_lookup (tgt := 68) (off := 67) C (jd D_Rd_signOfUnit 1 rfl) (by decide) (by rw [s1_92] <;> rfl) (by decide) ?_
    refine jv_iload_n C (jd D_Rd_signOfUnit 2 rfl) rfl 0 rfl ?_
    exact jv_iret C hr () (by rw [fn_Rd_signOfUnit, if_neg s1_8, if_neg s1_9, if_neg s1_10, if_neg s1_12, if_neg s1_13, if_neg s1_34, if_pos s1_92]) rfl [] rfl rfl (Nat.le_of_ble_eq_true rfl) (Nat.le_of_ble_eq_true rfl) (jd D_Rd_signOfUnit 3 rfl)
  refine jv_lookup (tgt := 85) (off := 84) C (jd D_Rd_signOfUnit 1 rfl) (by decide) (by rw [lv_osw s1_8 (by decide), lv_osw s1_9 (by decide), lv_osw s1_10 (by decide), lv_osw s1_12 (by decide), lv_osw s1_13 (by decide), lv_osw s1_34 (by decide), lv_osw s1_92 (by decide)] <;> rfl) (by decide) ?_
  refine jv_iconst (v := -1) C (jd D_Rd_signOfUnit 14 rfl) (by decide) ?_
  exact jv_iret C hr () (by rw [fn_Rd_signOfUnit, if_neg s1_8, if_neg s1_9, if_neg s1_10, if_neg s1_12, if_neg s1_13, if_neg s1_34, if_neg s1_92]) rfl [] rfl rfl (Nat.le_of_ble_eq_true rfl) (Nat.le_of_ble_eq_true rfl) (jd D_Rd_signOfUnit 15 rfl)

def fn_Ol_isMark (x0 : Int32) : Int32 := (if x0 = 91 then 1 else (if x0 = 93 then 1 else (if x0 = 123 then 1 else (if x0 = 125 then 1 else (if x0 = 44 then 1 else (if ¬ x0 = 58 then 0 else 1))))))
set_option maxHeartbeats 4000000 in
set_option maxRecDepth 100000 in
theorem c_Ol_isMark {l : Launch} {D : va_G} {dA : Nat → ClassId} {zz : (Nat → Nat) × (Nat → Nat)} (x0 : Int32)  : jv_M l D dA zz y_Ol_isMark b_Ol_isMark 1 (some (FieldType.boolean)) 1 [.int x0] [] (jv_pi fun r (_ : Unit) => r = fn_Ol_isMark x0) (fun _ => []) 0 0 := by
  refine jv_M.of [(0, .int x0)] (by decide) (Nat.le_of_ble_eq_true rfl) rfl ?_
  intro pR eR sR mR belowR methR cR AR C hr hin
  refine jv_iload_n C (jd D_Ol_isMark 0 rfl) rfl 0 rfl ?_
  refine jv_bipush (v := 91) C (jd D_Ol_isMark 1 rfl) (by decide) ?_
  refine jv_icmp_eq (tgt := 36) C (jd D_Ol_isMark 2 rfl) (by decide) (fun c3 => ?_) (fun c3 => ?_)
  · refine jv_iconst (v := 1) C (jd D_Ol_isMark 18 rfl) (by decide) ?_
    refine jv_goto (tgt := 41) C (jd D_Ol_isMark 19 rfl) (by decide) ?_
    exact jv_iret C hr () (by rw [fn_Ol_isMark, if_pos c3]) rfl [] rfl rfl (Nat.le_of_ble_eq_true rfl) (Nat.le_of_ble_eq_true rfl) (jd D_Ol_isMark 21 rfl)
  · refine jv_iload_n C (jd D_Ol_isMark 3 rfl) rfl 0 rfl ?_
    refine jv_bipush (v := 93) C (jd D_Ol_isMark 4 rfl) (by decide) ?_
    refine jv_icmp_eq (tgt := 36) C (jd D_Ol_isMark 5 rfl) (by decide) (fun c9 => ?_) (fun c9 => ?_)
    · refine jv_iconst (v := 1) C (jd D_Ol_isMark 18 rfl) (by decide) ?_
      refine jv_goto (tgt := 41) C (jd D_Ol_isMark 19 rfl) (by decide) ?_
      exact jv_iret C hr () (by rw [fn_Ol_isMark, if_neg c3, if_pos c9]) rfl [] rfl rfl (Nat.le_of_ble_eq_true rfl) (Nat.le_of_ble_eq_true rfl) (jd D_Ol_isMark 21 rfl)
    · refine jv_iload_n C (jd D_Ol_isMark 6 rfl) rfl 0 rfl ?_
      refine jv_bipush (v := 123) C (jd D_Ol_isMark 7 rfl) (by decide) ?_
      refine jv_icmp_eq (tgt := 36) C (jd D_Ol_isMark 8 rfl) (by decide) (fun c15 => ?_) (fun c15 => ?_)
      · refine jv_iconst (v := 1) C (jd D_Ol_isMark 18 rfl) (by decide) ?_
        refine jv_goto (tgt := 41) C (jd D_Ol_isMark 19 rfl) (by decide) ?_
        exact jv_iret C hr () (by rw [fn_Ol_isMark, if_neg c3, if_neg c9, if_pos c15]) rfl [] rfl rfl (Nat.le_of_ble_eq_true rfl) (Nat.le_of_ble_eq_true rfl) (jd D_Ol_isMark 21 rfl)
      · refine jv_iload_n C (jd D_Ol_isMark 9 rfl) rfl 0 rfl ?_
        refine jv_bipush (v := 125) C (jd D_Ol_isMark 10 rfl) (by decide) ?_
        refine jv_icmp_eq (tgt := 36) C (jd D_Ol_isMark 11 rfl) (by decide) (fun c21 => ?_) (fun c21 => ?_)
        · refine jv_iconst (v := 1) C (jd D_Ol_isMark 18 rfl) (by decide) ?_
          refine jv_goto (tgt := 41) C (jd D_Ol_isMark 19 rfl) (by decide) ?_
          exact jv_iret C hr () (by rw [fn_Ol_isMark, if_neg c3, if_neg c9, if_neg c15, if_pos c21]) rfl [] rfl rfl (Nat.le_of_ble_eq_true rfl) (Nat.le_of_ble_eq_true rfl) (jd D_Ol_isMark 21 rfl)
        · refine jv_iload_n C (jd D_Ol_isMark 12 rfl) rfl 0 rfl ?_
          refine jv_bipush (v := 44) C (jd D_Ol_isMark 13 rfl) (by decide) ?_
          refine jv_icmp_eq (tgt := 36) C (jd D_Ol_isMark 14 rfl) (by decide) (fun c27 => ?_) (fun c27 => ?_)
          · refine jv_iconst (v := 1) C (jd D_Ol_isMark 18 rfl) (by decide) ?_
            refine jv_goto (tgt := 41) C (jd D_Ol_isMark 19 rfl) (by decide) ?_
            exact jv_iret C hr () (by rw [fn_Ol_isMark, if_neg c3, if_neg c9, if_neg c15, if_neg c21, if_pos c27]) rfl [] rfl rfl (Nat.le_of_ble_eq_true rfl) (Nat.le_of_ble_eq_true rfl) (jd D_Ol_isMark 21 rfl)
          · refine jv_iload_n C (jd D_Ol_isMark 15 rfl) rfl 0 rfl ?_
            refine jv_bipush (v := 58) C (jd D_Ol_isMark 16 rfl) (by decide) ?_
            refine jv_icmp_ne (tgt := 40) C (jd D_Ol_isMark 17 rfl) (by decide) (fun c33 => ?_) (fun c33 => ?_)
            · refine jv_iconst (v := 0) C (jd D_Ol_isMark 20 rfl) (by decide) ?_
              exact jv_iret C hr () (by rw [fn_Ol_isMark, if_neg c3, if_neg c9, if_neg c15, if_neg c21, if_neg c27, if_pos c33]) rfl [] rfl rfl (Nat.le_of_ble_eq_true rfl) (Nat.le_of_ble_eq_true rfl) (jd D_Ol_isMark 21 rfl)
            · refine jv_iconst (v := 1) C (jd D_Ol_isMark 18 rfl) (by decide) ?_
              refine jv_goto (tgt := 41) C (jd D_Ol_isMark 19 rfl) (by decide) ?_
              exact jv_iret C hr () (by rw [fn_Ol_isMark, if_neg c3, if_neg c9, if_neg c15, if_neg c21, if_neg c27, if_neg (fun q => q c33)]) rfl [] rfl rfl (Nat.le_of_ble_eq_true rfl) (Nat.le_of_ble_eq_true rfl) (jd D_Ol_isMark 21 rfl)

def fn_Md_digit (x0 : Int32) : Int32 := (if x0 < 48 then 0 else (if 57 < x0 then 0 else 1))
set_option maxHeartbeats 4000000 in
set_option maxRecDepth 100000 in
theorem c_Md_digit {l : Launch} {D : va_G} {dA : Nat → ClassId} {zz : (Nat → Nat) × (Nat → Nat)} (x0 : Int32)  : jv_M l D dA zz y_Md_digit b_Md_digit 1 (some (FieldType.boolean)) 1 [.int x0] [] (jv_pi fun r (_ : Unit) => r = fn_Md_digit x0) (fun _ => []) 0 0 := by
  refine jv_M.of [(0, .int x0)] (by decide) (Nat.le_of_ble_eq_true rfl) rfl ?_
  intro pR eR sR mR belowR methR cR AR C hr hin
  refine jv_iload_n C (jd D_Md_digit 0 rfl) rfl 0 rfl ?_
  refine jv_bipush (v := 48) C (jd D_Md_digit 1 rfl) (by decide) ?_
  refine jv_icmp_lt (tgt := 16) C (jd D_Md_digit 2 rfl) (by decide) (fun c3 => ?_) (fun c3 => ?_)
  · refine jv_iconst (v := 0) C (jd D_Md_digit 8 rfl) (by decide) ?_
    exact jv_iret C hr () (by rw [fn_Md_digit, if_pos c3]) rfl [] rfl rfl (Nat.le_of_ble_eq_true rfl) (Nat.le_of_ble_eq_true rfl) (jd D_Md_digit 9 rfl)
  · refine jv_iload_n C (jd D_Md_digit 3 rfl) rfl 0 rfl ?_
    refine jv_bipush (v := 57) C (jd D_Md_digit 4 rfl) (by decide) ?_
    refine jv_icmp_gt (tgt := 16) C (jd D_Md_digit 5 rfl) (by decide) (fun c9 => ?_) (fun c9 => ?_)
    · refine jv_iconst (v := 0) C (jd D_Md_digit 8 rfl) (by decide) ?_
      exact jv_iret C hr () (by rw [fn_Md_digit, if_neg c3, if_pos c9]) rfl [] rfl rfl (Nat.le_of_ble_eq_true rfl) (Nat.le_of_ble_eq_true rfl) (jd D_Md_digit 9 rfl)
    · refine jv_iconst (v := 1) C (jd D_Md_digit 6 rfl) (by decide) ?_
      refine jv_goto (tgt := 17) C (jd D_Md_digit 7 rfl) (by decide) ?_
      exact jv_iret C hr () (by rw [fn_Md_digit, if_neg c3, if_neg c9]) rfl [] rfl rfl (Nat.le_of_ble_eq_true rfl) (Nat.le_of_ble_eq_true rfl) (jd D_Md_digit 9 rfl)

def fn_Md_isSlot (x0 : Int32) : Int32 := (if x0 < 0 then 0 else (if 8 ≤ x0 then 0 else 1))
set_option maxHeartbeats 4000000 in
set_option maxRecDepth 100000 in
theorem c_Md_isSlot {l : Launch} {D : va_G} {dA : Nat → ClassId} {zz : (Nat → Nat) × (Nat → Nat)} (x0 : Int32)  : jv_M l D dA zz y_Md_isSlot b_Md_isSlot 1 (some (FieldType.boolean)) 1 [.int x0] [] (jv_pi fun r (_ : Unit) => r = fn_Md_isSlot x0) (fun _ => []) 0 0 := by
  refine jv_M.of [(0, .int x0)] (by decide) (Nat.le_of_ble_eq_true rfl) rfl ?_
  intro pR eR sR mR belowR methR cR AR C hr hin
  refine jv_iload_n C (jd D_Md_isSlot 0 rfl) rfl 0 rfl ?_
  refine jv_if_lt (tgt := 14) C (jd D_Md_isSlot 1 rfl) (by decide) (fun c1 => ?_) (fun c1 => ?_)
  · refine jv_iconst (v := 0) C (jd D_Md_isSlot 7 rfl) (by decide) ?_
    exact jv_iret C hr () (by rw [fn_Md_isSlot, if_pos c1]) rfl [] rfl rfl (Nat.le_of_ble_eq_true rfl) (Nat.le_of_ble_eq_true rfl) (jd D_Md_isSlot 8 rfl)
  · refine jv_iload_n C (jd D_Md_isSlot 2 rfl) rfl 0 rfl ?_
    refine jv_bipush (v := 8) C (jd D_Md_isSlot 3 rfl) (by decide) ?_
    refine jv_icmp_ge (tgt := 14) C (jd D_Md_isSlot 4 rfl) (by decide) (fun c7 => ?_) (fun c7 => ?_)
    · refine jv_iconst (v := 0) C (jd D_Md_isSlot 7 rfl) (by decide) ?_
      exact jv_iret C hr () (by rw [fn_Md_isSlot, if_neg c1, if_pos c7]) rfl [] rfl rfl (Nat.le_of_ble_eq_true rfl) (Nat.le_of_ble_eq_true rfl) (jd D_Md_isSlot 8 rfl)
    · refine jv_iconst (v := 1) C (jd D_Md_isSlot 5 rfl) (by decide) ?_
      refine jv_goto (tgt := 15) C (jd D_Md_isSlot 6 rfl) (by decide) ?_
      exact jv_iret C hr () (by rw [fn_Md_isSlot, if_neg c1, if_neg c7]) rfl [] rfl rfl (Nat.le_of_ble_eq_true rfl) (Nat.le_of_ble_eq_true rfl) (jd D_Md_isSlot 8 rfl)

def fn_Md_hex (x0 : Int32) : Int32 := (if (fn_Md_digit x0) = 0 then (if x0 < 97 then (if x0 < 65 then (-1) else (if 70 < x0 then (-1) else ((x0 - 65) + 10))) else (if 102 < x0 then (if x0 < 65 then (-1) else (if 70 < x0 then (-1) else ((x0 - 65) + 10))) else ((x0 - 97) + 10))) else (x0 - 48))
set_option maxHeartbeats 4000000 in
set_option maxRecDepth 100000 in
theorem c_Md_hex {l : Launch} {D : va_G} {dA : Nat → ClassId} {zz : (Nat → Nat) × (Nat → Nat)} (x0 : Int32)  : jv_M l D dA zz y_Md_hex b_Md_hex 1 (some (FieldType.int)) 2 [.int x0] [] (jv_pi fun r (_ : Unit) => r = fn_Md_hex x0) (fun _ => []) 0 0 := by
  refine jv_M.of [(0, .int x0)] (by decide) (Nat.le_of_ble_eq_true rfl) rfl ?_
  intro pR eR sR mR belowR methR cR AR C hr hin
  refine jv_iload_n C (jd D_Md_hex 0 rfl) rfl 0 rfl ?_
  refine jv_callS (wr := []) C cl_Md_148 (c_Md_digit x0) [] [] rfl rfl rfl rfl (by decide) ⟨Nat.le_of_ble_eq_true rfl, Nat.le_of_ble_eq_true rfl⟩ ⟨Nat.le_of_ble_eq_true rfl, Nat.le_of_ble_eq_true rfl⟩ rfl rfl (Nat.le_of_ble_eq_true rfl) (jd D_Md_hex 1 rfl) (fun v1 _ k1 => ?_)
  obtain ⟨r1, rfl, k1⟩ := k1
  refine jv_fix [] [] [.int r1] 0 0 rfl rfl rfl (Nat.le_refl _) (Nat.le_refl _) ?_
  subst k1
  refine jv_if_eq (tgt := 14) C (jd D_Md_hex 2 rfl) (by decide) (fun c4 => ?_) (fun c4 => ?_)
  · refine jv_iload_n C (jd D_Md_hex 7 rfl) rfl 0 rfl ?_
    refine jv_bipush (v := 97) C (jd D_Md_hex 8 rfl) (by decide) ?_
    refine jv_icmp_lt (tgt := 36) C (jd D_Md_hex 9 rfl) (by decide) (fun c17 => ?_) (fun c17 => ?_)
    · refine jv_iload_n C (jd D_Md_hex 19 rfl) rfl 0 rfl ?_
      refine jv_bipush (v := 65) C (jd D_Md_hex 20 rfl) (by decide) ?_
      refine jv_icmp_lt (tgt := 58) C (jd D_Md_hex 21 rfl) (by decide) (fun c39 => ?_) (fun c39 => ?_)
      · refine jv_iconst (v := -1) C (jd D_Md_hex 31 rfl) (by decide) ?_
        exact jv_iret C hr () (by rw [fn_Md_hex, if_pos c4, if_pos c17, if_pos c39]) rfl [] rfl rfl (Nat.le_of_ble_eq_true rfl) (Nat.le_of_ble_eq_true rfl) (jd D_Md_hex 32 rfl)
      · refine jv_iload_n C (jd D_Md_hex 22 rfl) rfl 0 rfl ?_
        refine jv_bipush (v := 70) C (jd D_Md_hex 23 rfl) (by decide) ?_
        refine jv_icmp_gt (tgt := 58) C (jd D_Md_hex 24 rfl) (by decide) (fun c45 => ?_) (fun c45 => ?_)
        · refine jv_iconst (v := -1) C (jd D_Md_hex 31 rfl) (by decide) ?_
          exact jv_iret C hr () (by rw [fn_Md_hex, if_pos c4, if_pos c17, if_neg c39, if_pos c45]) rfl [] rfl rfl (Nat.le_of_ble_eq_true rfl) (Nat.le_of_ble_eq_true rfl) (jd D_Md_hex 32 rfl)
        · refine jv_iload_n C (jd D_Md_hex 25 rfl) rfl 0 rfl ?_
          refine jv_bipush (v := 65) C (jd D_Md_hex 26 rfl) (by decide) ?_
          refine jv_isub C (jd D_Md_hex 27 rfl) ?_
          refine jv_bipush (v := 10) C (jd D_Md_hex 28 rfl) (by decide) ?_
          refine jv_iadd C (jd D_Md_hex 29 rfl) ?_
          refine jv_goto (tgt := 59) C (jd D_Md_hex 30 rfl) (by decide) ?_
          exact jv_iret C hr () (by rw [fn_Md_hex, if_pos c4, if_pos c17, if_neg c39, if_neg c45]) rfl [] rfl rfl (Nat.le_of_ble_eq_true rfl) (Nat.le_of_ble_eq_true rfl) (jd D_Md_hex 32 rfl)
    · refine jv_iload_n C (jd D_Md_hex 10 rfl) rfl 0 rfl ?_
      refine jv_bipush (v := 102) C (jd D_Md_hex 11 rfl) (by decide) ?_
      refine jv_icmp_gt (tgt := 36) C (jd D_Md_hex 12 rfl) (by decide) (fun c23 => ?_) (fun c23 => ?_)
      · refine jv_iload_n C (jd D_Md_hex 19 rfl) rfl 0 rfl ?_
        refine jv_bipush (v := 65) C (jd D_Md_hex 20 rfl) (by decide) ?_
        refine jv_icmp_lt (tgt := 58) C (jd D_Md_hex 21 rfl) (by decide) (fun c39 => ?_) (fun c39 => ?_)
        · refine jv_iconst (v := -1) C (jd D_Md_hex 31 rfl) (by decide) ?_
          exact jv_iret C hr () (by rw [fn_Md_hex, if_pos c4, if_neg c17, if_pos c23, if_pos c39]) rfl [] rfl rfl (Nat.le_of_ble_eq_true rfl) (Nat.le_of_ble_eq_true rfl) (jd D_Md_hex 32 rfl)
        · refine jv_iload_n C (jd D_Md_hex 22 rfl) rfl 0 rfl ?_
          refine jv_bipush (v := 70) C (jd D_Md_hex 23 rfl) (by decide) ?_
          refine jv_icmp_gt (tgt := 58) C (jd D_Md_hex 24 rfl) (by decide) (fun c45 => ?_) (fun c45 => ?_)
          · refine jv_iconst (v := -1) C (jd D_Md_hex 31 rfl) (by decide) ?_
            exact jv_iret C hr () (by rw [fn_Md_hex, if_pos c4, if_neg c17, if_pos c23, if_neg c39, if_pos c45]) rfl [] rfl rfl (Nat.le_of_ble_eq_true rfl) (Nat.le_of_ble_eq_true rfl) (jd D_Md_hex 32 rfl)
          · refine jv_iload_n C (jd D_Md_hex 25 rfl) rfl 0 rfl ?_
            refine jv_bipush (v := 65) C (jd D_Md_hex 26 rfl) (by decide) ?_
            refine jv_isub C (jd D_Md_hex 27 rfl) ?_
            refine jv_bipush (v := 10) C (jd D_Md_hex 28 rfl) (by decide) ?_
            refine jv_iadd C (jd D_Md_hex 29 rfl) ?_
            refine jv_goto (tgt := 59) C (jd D_Md_hex 30 rfl) (by decide) ?_
            exact jv_iret C hr () (by rw [fn_Md_hex, if_pos c4, if_neg c17, if_pos c23, if_neg c39, if_neg c45]) rfl [] rfl rfl (Nat.le_of_ble_eq_true rfl) (Nat.le_of_ble_eq_true rfl) (jd D_Md_hex 32 rfl)
      · refine jv_iload_n C (jd D_Md_hex 13 rfl) rfl 0 rfl ?_
        refine jv_bipush (v := 97) C (jd D_Md_hex 14 rfl) (by decide) ?_
        refine jv_isub C (jd D_Md_hex 15 rfl) ?_
        refine jv_bipush (v := 10) C (jd D_Md_hex 16 rfl) (by decide) ?_
        refine jv_iadd C (jd D_Md_hex 17 rfl) ?_
        refine jv_goto (tgt := 59) C (jd D_Md_hex 18 rfl) (by decide) ?_
        exact jv_iret C hr () (by rw [fn_Md_hex, if_pos c4, if_neg c17, if_neg c23]) rfl [] rfl rfl (Nat.le_of_ble_eq_true rfl) (Nat.le_of_ble_eq_true rfl) (jd D_Md_hex 32 rfl)
  · refine jv_iload_n C (jd D_Md_hex 3 rfl) rfl 0 rfl ?_
    refine jv_bipush (v := 48) C (jd D_Md_hex 4 rfl) (by decide) ?_
    refine jv_isub C (jd D_Md_hex 5 rfl) ?_
    refine jv_goto (tgt := 59) C (jd D_Md_hex 6 rfl) (by decide) ?_
    exact jv_iret C hr () (by rw [fn_Md_hex, if_neg c4]) rfl [] rfl rfl (Nat.le_of_ble_eq_true rfl) (Nat.le_of_ble_eq_true rfl) (jd D_Md_hex 32 rfl)
