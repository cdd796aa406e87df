-- texts: a row of bytes, as the Java arrays hold them, and as numbers 0 .. 255
def js_tx (f : Nat → Int32) (t : List Nat) : Prop := ∀ (j : Nat) (h : j < t.length), t[j] < 256 ∧ f j = sb_b t[j]
def js_at (t : List Nat) (i : Int32) : Int32 := if i < 0 then -1 else if nI t.length ≤ i then -1 else nI (t.getD i.toNatClampNeg 0)
def js_b (t : List Nat) (i : Nat) : Int32 := match t[i]? with
  | some b => nI b
  | none => -1
theorem js_at_neg {t : List Nat} {i : Int32} (h : i < 0) : (-1 : Int32) = js_at t i := by rw [js_at, if_pos h]
theorem js_at_ge {t : List Nat} {i : Int32} (h0 : ¬ i < 0) (h : nI t.length ≤ i) : (-1 : Int32) = js_at t i := by rw [js_at, if_neg h0, if_pos h]
theorem js_ix {n N : Nat} {i : Int32} (h0 : ¬ i < 0) (h : ¬ nI n ≤ i) (hn : n ≤ N) (hN : N < 2 ^ 31) : ∃ j : Nat, j < n ∧ i = nI j := by
  obtain ⟨j, hj, rfl⟩ := nI_of h0
  refine ⟨j, ?_, rfl⟩
  rcases Nat.lt_or_ge j n with q | q
  · exact q
  · exact absurd (nI_le q hj) h
theorem js_vin {n N : Nat} {i : Int32} (h0 : ¬ i < 0) (h : ¬ nI n ≤ i) (hn : n ≤ N) (hN : N < 2 ^ 31) : vp_in i N := by
  obtain ⟨j, hj, rfl⟩ := js_ix h0 h hn hN
  exact vp_in_nI (by omega) hN
theorem js_byte {f : Nat → Int32} {t : List Nat} (ht : js_tx f t) {j : Nat} (hj : j < t.length) : f j &&& 255 = nI (t.getD j 0) := by
  obtain ⟨h1, h2⟩ := ht j hj
  rw [h2, List.getD_eq_getElem?_getD, List.getElem?_eq_getElem hj]
  exact (sb_byte _ h1).1
theorem js_at_in {f : Nat → Int32} {t : List Nat} {N : Nat} {i : Int32} (ht : js_tx f t) (h0 : ¬ i < 0) (h : ¬ nI t.length ≤ i) (hn : t.length ≤ N) (hN : N < 2 ^ 31) : f i.toNatClampNeg &&& 255 = js_at t i := by
  rw [js_at, if_neg h0, if_neg h]
  obtain ⟨j, hj, rfl⟩ := js_ix h0 h hn hN
  rw [nI_clamp (by omega)]
  exact js_byte ht hj
theorem js_at_nat {t : List Nat} {i : Nat} (hi : i < 2 ^ 31) (ht : t.length < 2 ^ 31) : js_at t (nI i) = js_b t i := by
  rw [js_at, if_neg (nI_pos hi), js_b]
  rcases Nat.lt_or_ge i t.length with q | q
  · rw [if_neg (nI_ge q ht), nI_clamp hi, List.getD_eq_getElem?_getD, List.getElem?_eq_getElem q]
    rfl
  · rw [if_pos (nI_le q hi), List.getElem?_eq_none q]
/-- adding a byte at the end -/
theorem js_tx_push {f : Nat → Int32} {t : List Nat} {x : Int32} (ht : js_tx f t) : js_tx (upd f t.length x.toInt8.toInt32) (t ++ [x.toBitVec.toNat % 256]) := by
  intro j hj
  rcases Nat.lt_or_ge j t.length with q | q
  · rw [List.getElem_append_left q]
    refine ⟨(ht j q).1, ?_⟩
    rw [pk_un (by omega)]
    exact (ht j q).2
  · have e : j = t.length := by
      rw [List.length_append] at hj
      have : [x.toBitVec.toNat % 256].length = 1 := rfl
      omega
    subst e
    rw [List.getElem_append_right (Nat.le_refl _)]
    simp only [Nat.sub_self, List.getElem_cons_zero]
    refine ⟨Nat.mod_lt _ (by decide), ?_⟩
    rw [pk_us]
    unfold sb_b
    congr 1
    apply Int8.toBitVec_inj.mp
    show x.toBitVec.signExtend 8 = (nI (x.toBitVec.toNat % 256)).toBitVec.signExtend 8
    rw [BitVec.signExtend_eq_setWidth_of_le _ (by decide), BitVec.signExtend_eq_setWidth_of_le _ (by decide)]
    apply BitVec.eq_of_toNat_eq
    rw [BitVec.toNat_setWidth, BitVec.toNat_setWidth, pk_tn (by omega)]
    omega
theorem js_tx_take {f : Nat → Int32} {t : List Nat} (ht : js_tx f t) (n : Nat) : js_tx f (t.take n) := by
  intro j hj
  rw [List.length_take] at hj
  rw [List.getElem_take]
  exact ht j (by omega)
/-- the four bytes of an int, the highest first -/
def js_i4 (v : Int32) : List Nat := [v.toBitVec.toNat / 2 ^ 24 % 256, v.toBitVec.toNat / 2 ^ 16 % 256, v.toBitVec.toNat / 2 ^ 8 % 256, v.toBitVec.toNat % 256]
theorem js_i4_eq (t : List Nat) (v : Int32) : t ++ [(v.toUInt32 >>> ((24 : Int32).toUInt32 &&& Int32.toUInt32 31)).toInt32.toBitVec.toNat % 256] ++ [(v.toUInt32 >>> ((16 : Int32).toUInt32 &&& Int32.toUInt32 31)).toInt32.toBitVec.toNat % 256] ++ [(v.toUInt32 >>> ((8 : Int32).toUInt32 &&& Int32.toUInt32 31)).toInt32.toBitVec.toNat % 256] ++ [v.toBitVec.toNat % 256] = t ++ js_i4 v := by
  rw [pk_ushr v 24 24 (by decide), pk_ushr v 16 16 (by decide), pk_ushr v 8 8 (by decide)]
  simp [js_i4]
theorem js_len1 (t : List Nat) (a : Nat) : nI t.length + 1 = nI (t ++ [a]).length := by rw [List.length_append]; exact nI_1 _
theorem js_b8 (x : Int32) : x.toInt8.toInt32.toInt8.toInt32 = x.toInt8.toInt32 := by rw [← vp_nar_byte]; exact pk_vb x
/-- the hash of the n bytes from a on -/
def js_hash (t : List Nat) (a : Nat) : Nat → Int32
  | 0 => 0
  | n + 1 => js_hash t a n * 31 + js_b t (a + n)
/-- the bytes from a on, so many, are the other's from c on -/
def js_eqb (t : List Nat) (a : Nat) (t2 : List Nat) (c n : Nat) : Prop := ∀ i, i < n → js_b t (a + i) = js_b t2 (c + i)
def js_sm (t : List Nat) (a z : Nat) (t2 : List Nat) (c d : Nat) (r : Int32) : Prop := (r = 1 ∧ z - a = d - c ∧ js_eqb t a t2 c (z - a)) ∨ (r = 0 ∧ ¬ (z - a = d - c ∧ js_eqb t a t2 c (z - a)))
theorem js_eqb_0 {t t2 : List Nat} {a c : Nat} : js_eqb t a t2 c 0 := fun i h => absurd h (Nat.not_lt_zero i)
theorem js_eqb_s {t t2 : List Nat} {a c k : Nat} (h : js_eqb t a t2 c k) (h2 : js_b t (a + k) = js_b t2 (c + k)) : js_eqb t a t2 c (k + 1) := fun i hi => by
  rcases Nat.lt_or_ge i k with q | q
  · exact h i q
  · have : i = k := by omega
    rw [this]; exact h2
theorem js_tx_fit {f : Nat → Int32} {t : List Nat} (ht : js_tx f t) {j : Nat} (hj : j < t.length) : fits .byte (.int (f j)) = true := by
  rw [(ht j hj).2]
  exact sb_fitB _
theorem js_tx_cpy {f g : Nat → Int32} {t : List Nat} {a z : Nat} (ht : js_tx f t) (hz : z ≤ t.length) : js_tx (va_cpy f g a 0 (z - a)) ((t.drop a).take (z - a)) := by
  intro j hj
  have h1 : j < z - a := by rw [List.length_take] at hj; omega
  rw [List.getElem_take, List.getElem_drop, pk_cpy_in (Nat.zero_le _) (by omega)]
  have := ht (a + j) (by omega)
  simpa using this
theorem js_dt_len {t : List Nat} {a z : Nat} (hz : z ≤ t.length) (ha : a ≤ z) : ((t.drop a).take (z - a)).length = z - a := by rw [List.length_take, List.length_drop]; omega
def js_bool (P : Prop) (r : Int32) : Prop := (r = 1 ∧ P) ∨ (r = 0 ∧ ¬ P)
theorem js_hash_eq {t t2 : List Nat} {a c : Nat} : ∀ {n : Nat}, js_eqb t a t2 c n → js_hash t a n = js_hash t2 c n
  | 0, _ => rfl
  | n + 1, h => by
    rw [js_hash, js_hash, h n (Nat.lt_succ_self n), js_hash_eq (n := n) (fun i hi => h i (by omega))]
theorem js_sm.b {t t2 : List Nat} {a z c d : Nat} {r : Int32} (h : js_sm t a z t2 c d r) : js_bool (z - a = d - c ∧ js_eqb t a t2 c (z - a)) r := h
