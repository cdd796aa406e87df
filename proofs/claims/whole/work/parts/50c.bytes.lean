-- ===== bytes of an int by shifts that keep the sign =====
theorem js_tn_int (x : Int32) : x.toBitVec.toNat % 256 = (x.toInt % 256).toNat := by
  have h : x.toInt = if 2 * x.toBitVec.toNat < 2 ^ 32 then (x.toBitVec.toNat : Int) else (x.toBitVec.toNat : Int) - (2 ^ 32 : Nat) := BitVec.toInt_eq_toNat_cond x.toBitVec
  have hb : x.toBitVec.toNat < 2 ^ 32 := x.toBitVec.isLt
  rw [h]
  split <;> omega
theorem js_sar (x s : Int32) (k : Nat) (hs : (s.toBitVec.smod 32).toNat = k) (hk : k = 24 ∨ k = 16 ∨ k = 8 ∨ k = 0) : (x >>> s).toBitVec.toNat % 256 = x.toBitVec.toNat / 2 ^ k % 256 := by
  have h : x.toInt = if 2 * x.toBitVec.toNat < 2 ^ 32 then (x.toBitVec.toNat : Int) else (x.toBitVec.toNat : Int) - (2 ^ 32 : Nat) := BitVec.toInt_eq_toNat_cond x.toBitVec
  have hb : x.toBitVec.toNat < 2 ^ 32 := x.toBitVec.isLt
  rw [js_tn_int, pk_shr x s k hs, Int.shiftRight_eq_div_pow, h]
  rcases hk with e | e | e | e <;> subst e <;> split <;> omega
theorem js_w1 {f : Nat → Int32} {t : List Nat} (ht : js_tx f t) {j : Nat} (hj : j < t.length) : (f j).toInt64 &&& 255 = (if js_b t j = -1 then 0 else js_b t j).toInt64 := by
  have h := ht j hj
  have e : js_b t j = nI t[j] := by rw [js_b, List.getElem?_eq_getElem hj]
  rw [h.2, e, if_neg (js_nm1 (by omega))]
  have k : ∀ b, b < 256 → (sb_b b).toInt64 &&& 255 = (nI b).toInt64 := by decide +kernel
  exact k _ h.1
theorem js_tx_b8 {f : Nat → Int32} {t : List Nat} (ht : js_tx f t) {j : Nat} (hj : j < t.length) : (f j).toInt8.toInt32 = f j := by
  rw [(ht j hj).2]
  unfold sb_b
  simp
theorem js_tx_same {f g : Nat → Int32} {t : List Nat} (ht : js_tx f t) (h : ∀ j, j < t.length → g j = f j) : js_tx g t := fun j hj => ⟨(ht j hj).1, by rw [h j hj]; exact (ht j hj).2⟩
