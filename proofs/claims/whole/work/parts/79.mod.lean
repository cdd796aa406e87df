-- the reference's world
def jq_hs (Q : Nat → Nat) : Nat → Option Nat := fun j => if j < 8 then some (Q (18 + j)) else none
theorem jq_hs_at (Q : Nat → Nat) {k : Nat} (hk : k < 8) : jq_hs Q k = some (Q (18 + k)) := if_pos hk
def jq_K (k1 k3 k4 k5 k7 k8 k9 k11 k12 : Int32) : Nat → Int32
  | 1 => k1
  | 3 => k3
  | 4 => k4
  | 5 => k5
  | 7 => k7
  | 8 => k8
  | 9 => k9
  | 11 => k11
  | 12 => k12
  | _ => 0
def js_th : Option (js_J 32) → Int32
  | none => 0
  | some _ => 1
def mW (dA : Nat → ClassId) (o : Nat) (Q : Nat → Nat) (k1 k3 k4 k5 k7 k8 k9 k11 k12 : Int32) (vt : Value) (ft fr g ln th : Nat → Int32) (f : Nat → Nat → Int32) (A1 : Nat → Nat) (M1 Mu1 : Nat) (F1 : Nat → Nat → Int32) (G1 : Nat → Int64) (c1 u1 : Nat) (A2 : Nat → Nat) (M2 Mu2 : Nat) (F2 : Nat → Nat → Int32) (G2 : Nat → Int64) (c2 u2 : Nat) : va_W := [(o, .inr (7, [.ref (Q 0), .int k1, .ref (Q 2), .int k3, .int k4, .int k5, vt, .int k7, .int k8, .int k9, .ref (Q 10), .int k11, .int k12, .ref (Q 13), .ref (Q 14), .ref (Q 15), .ref (Q 16), .ref (Q 17)])), ((Q 0), .inl (dA 0, 4096, .inl ft)), ((Q 2), .inl (dA 0, 16384, .inl fr)), ((Q 10), .inl (dA 0, 16392, .inl g)), ((Q 13), .inl (dA 6, 8, .inr (.inr (.inr (.inr (jq_hs Q)))))), ((Q 14), .inl (dA 1, 8, .inl ln)), ((Q 15), .inl (dA 4, 8, .inl th)), ((Q 18), .inl (dA 0, 4096, .inl (f 0))), ((Q 19), .inl (dA 0, 4096, .inl (f 1))), ((Q 20), .inl (dA 0, 4096, .inl (f 2))), ((Q 21), .inl (dA 0, 4096, .inl (f 3))), ((Q 22), .inl (dA 0, 4096, .inl (f 4))), ((Q 23), .inl (dA 0, 4096, .inl (f 5))), ((Q 24), .inl (dA 0, 4096, .inl (f 6))), ((Q 25), .inl (dA 0, 4096, .inl (f 7))), ((Q 16), .inr (6, [.ref (A1 0), .ref (A1 1), .ref (A1 2), .ref (A1 3), .ref (A1 4), .ref (A1 5), .ref (A1 6), .ref (A1 7), .ref (A1 8), .ref (A1 9), .int (nI c1), .ref (A1 10), .int (nI u1)])), ((A1 0), .inl (dA 1, (js_cp M1), .inl (F1 0))), ((A1 1), .inl (dA 2, (js_cp M1), .inr (.inl G1))), ((A1 2), .inl (dA 1, (js_cp M1), .inl (F1 2))), ((A1 3), .inl (dA 1, (js_cp M1), .inl (F1 3))), ((A1 4), .inl (dA 1, (js_cp M1), .inl (F1 4))), ((A1 5), .inl (dA 1, (js_cp M1), .inl (F1 5))), ((A1 6), .inl (dA 1, (js_cp M1), .inl (F1 6))), ((A1 7), .inl (dA 1, (js_cp M1), .inl (F1 7))), ((A1 8), .inl (dA 1, (js_cp M1), .inl (F1 8))), ((A1 9), .inl (dA 1, (js_cp M1), .inl (F1 9))), ((A1 10), .inl (dA 3, (js_cu Mu1), .inl (F1 10))), ((Q 17), .inr (6, [.ref (A2 0), .ref (A2 1), .ref (A2 2), .ref (A2 3), .ref (A2 4), .ref (A2 5), .ref (A2 6), .ref (A2 7), .ref (A2 8), .ref (A2 9), .int (nI c2), .ref (A2 10), .int (nI u2)])), ((A2 0), .inl (dA 1, (js_cp M2), .inl (F2 0))), ((A2 1), .inl (dA 2, (js_cp M2), .inr (.inl G2))), ((A2 2), .inl (dA 1, (js_cp M2), .inl (F2 2))), ((A2 3), .inl (dA 1, (js_cp M2), .inl (F2 3))), ((A2 4), .inl (dA 1, (js_cp M2), .inl (F2 4))), ((A2 5), .inl (dA 1, (js_cp M2), .inl (F2 5))), ((A2 6), .inl (dA 1, (js_cp M2), .inl (F2 6))), ((A2 7), .inl (dA 1, (js_cp M2), .inl (F2 7))), ((A2 8), .inl (dA 1, (js_cp M2), .inl (F2 8))), ((A2 9), .inl (dA 1, (js_cp M2), .inl (F2 9))), ((A2 10), .inl (dA 3, (js_cu Mu2), .inl (F2 10)))]
def jq_C (M1 Mu1 M2 Mu2 : Nat) : Nat := js_cp M1 + js_cu Mu1 + (js_cp M2 + js_cu Mu2)
def jq_S (M1 Mu1 M2 Mu2 : Nat) : Nat := (20 * js_cp M1 + 2 * js_cu Mu1) + (20 * js_cp M2 + 2 * js_cu Mu2)
def jq_ok (sl : Nat → Option (js_J 32)) (ln th : Nat → Int32) (f : Nat → Nat → Int32) : Prop := (∀ k, k < 8 → th k = js_th (sl k)) ∧ ∀ k v, k < 8 → sl k = some v → ln k = nI (js_pr 32 v).length ∧ js_tx (f k) (js_pr 32 v)
def MW (dA : Nat → ClassId) (o : Nat) (Q : Nat → Nat) (t r : List Nat) (sl : Nat → Option (js_J 32)) (pl cd : Int32) (pc ps : Nat) (Y : va_W) : Prop := ∃ (k7 k8 k9 k11 k12 : Int32) (vt : Value) (ft fr g ln th : Nat → Int32) (f : Nat → Nat → Int32) (A1 : Nat → Nat) (M1 Mu1 : Nat) (F1 : Nat → Nat → Int32) (G1 : Nat → Int64) (c1 u1 : Nat) (A2 : Nat → Nat) (M2 Mu2 : Nat) (F2 : Nat → Nat → Int32) (G2 : Nat → Int64) (c2 u2 : Nat), Y = mW dA o Q (nI t.length) (nI r.length) cd pl k7 k8 k9 k11 k12 vt ft fr g ln th f A1 M1 Mu1 F1 G1 c1 u1 A2 M2 Mu2 F2 G2 c2 u2 ∧ js_tx ft t ∧ js_tx fr r ∧ jq_ok sl ln th f ∧ (M1 ≤ 4096 ∧ Mu1 ≤ 4096) ∧ (M2 ≤ 4096 ∧ Mu2 ≤ 4096) ∧ pc = jq_C M1 Mu1 M2 Mu2 ∧ ps = jq_S M1 Mu1 M2 Mu2
section JQ
variable {dA : Nat → ClassId} {o : Nat} {Q : Nat → Nat} {k1 k3 k4 k5 k7 k8 k9 k11 k12 : Int32} {vt : Value} {ft fr g ln th : Nat → Int32} {f : Nat → Nat → Int32} {A1 : Nat → Nat} {M1 Mu1 : Nat} {F1 : Nat → Nat → Int32} {G1 : Nat → Int64} {c1 u1 : Nat} {A2 : Nat → Nat} {M2 Mu2 : Nat} {F2 : Nat → Nat → Int32} {G2 : Nat → Int64} {c2 u2 : Nat}
theorem jq_h {k : Nat} (hk : k < 8) : (mW dA o Q k1 k3 k4 k5 k7 k8 k9 k11 k12 vt ft fr g ln th f A1 M1 Mu1 F1 G1 c1 u1 A2 M2 Mu2 F2 G2 c2 u2)[7 + k]? = some (Q (18 + k), .inl (dA 0, 4096, .inl (f k))) := by
  match k, hk with
  | 0, _ => rfl
  | 1, _ => rfl
  | 2, _ => rfl
  | 3, _ => rfl
  | 4, _ => rfl
  | 5, _ => rfl
  | 6, _ => rfl
  | 7, _ => rfl
theorem jq_keep {k : Nat} (hk : k < 8) : (mW dA o Q k1 k3 k4 k5 k7 k8 k9 k11 k12 vt ft fr g ln th f A1 M1 Mu1 F1 G1 c1 u1 A2 M2 Mu2 F2 G2 c2 u2).set (7 + k) (Q (18 + k), .inl (dA 0, 4096, .inl (f k))) = mW dA o Q k1 k3 k4 k5 k7 k8 k9 k11 k12 vt ft fr g ln th f A1 M1 Mu1 F1 G1 c1 u1 A2 M2 Mu2 F2 G2 c2 u2 := by
  match k, hk with
  | 0, _ => rfl
  | 1, _ => rfl
  | 2, _ => rfl
  | 3, _ => rfl
  | 4, _ => rfl
  | 5, _ => rfl
  | 6, _ => rfl
  | 7, _ => rfl
theorem jq_new {k : Nat} (hk : k < 8) {f0 : Nat → Int32} : (mW dA o Q k1 k3 k4 k5 k7 k8 k9 k11 k12 vt ft fr g ln th f A1 M1 Mu1 F1 G1 c1 u1 A2 M2 Mu2 F2 G2 c2 u2).set (7 + k) (Q (18 + k), .inl (dA 0, 4096, .inl f0)) = mW dA o Q k1 k3 k4 k5 k7 k8 k9 k11 k12 vt ft fr g ln th (jc_up f k f0) A1 M1 Mu1 F1 G1 c1 u1 A2 M2 Mu2 F2 G2 c2 u2 := by
  match k, hk with
  | 0, _ => rfl
  | 1, _ => rfl
  | 2, _ => rfl
  | 3, _ => rfl
  | 4, _ => rfl
  | 5, _ => rfl
  | 6, _ => rfl
  | 7, _ => rfl
theorem jq_p1 {k : Nat} (hk : k < 8) : jw_put (mW dA o Q k1 k3 k4 k5 k7 k8 k9 k11 k12 vt ft fr g ln th f A1 M1 Mu1 F1 G1 c1 u1 A2 M2 Mu2 F2 G2 c2 u2) [7 + k] [(Q (18 + k), .inl (dA 0, 4096, .inl (f k)))] = mW dA o Q k1 k3 k4 k5 k7 k8 k9 k11 k12 vt ft fr g ln th f A1 M1 Mu1 F1 G1 c1 u1 A2 M2 Mu2 F2 G2 c2 u2 := jq_keep hk
theorem jq_p1n {k : Nat} (hk : k < 8) {f0 : Nat → Int32} : jw_put (mW dA o Q k1 k3 k4 k5 k7 k8 k9 k11 k12 vt ft fr g ln th f A1 M1 Mu1 F1 G1 c1 u1 A2 M2 Mu2 F2 G2 c2 u2) [7 + k] [(Q (18 + k), .inl (dA 0, 4096, .inl f0))] = mW dA o Q k1 k3 k4 k5 k7 k8 k9 k11 k12 vt ft fr g ln th (jc_up f k f0) A1 M1 Mu1 F1 G1 c1 u1 A2 M2 Mu2 F2 G2 c2 u2 := jq_new hk
theorem jq_p2 {k k2 : Nat} (hk : k < 8) (hk2 : k2 < 8) : jw_put (mW dA o Q k1 k3 k4 k5 k7 k8 k9 k11 k12 vt ft fr g ln th f A1 M1 Mu1 F1 G1 c1 u1 A2 M2 Mu2 F2 G2 c2 u2) [7 + k, 7 + k2] [(Q (18 + k), .inl (dA 0, 4096, .inl (f k))), (Q (18 + k2), .inl (dA 0, 4096, .inl (f k2)))] = mW dA o Q k1 k3 k4 k5 k7 k8 k9 k11 k12 vt ft fr g ln th f A1 M1 Mu1 F1 G1 c1 u1 A2 M2 Mu2 F2 G2 c2 u2 := by
  show ((mW dA o Q k1 k3 k4 k5 k7 k8 k9 k11 k12 vt ft fr g ln th f A1 M1 Mu1 F1 G1 c1 u1 A2 M2 Mu2 F2 G2 c2 u2).set (7 + k) _).set (7 + k2) _ = _
  rw [jq_keep hk]
  exact jq_keep hk2
theorem jq_p2n {k k2 : Nat} (hk : k < 8) (hk2 : k2 < 8) {f0 : Nat → Int32} : jw_put (mW dA o Q k1 k3 k4 k5 k7 k8 k9 k11 k12 vt ft fr g ln th f A1 M1 Mu1 F1 G1 c1 u1 A2 M2 Mu2 F2 G2 c2 u2) [7 + k, 7 + k2] [(Q (18 + k), .inl (dA 0, 4096, .inl (f k))), (Q (18 + k2), .inl (dA 0, 4096, .inl f0))] = mW dA o Q k1 k3 k4 k5 k7 k8 k9 k11 k12 vt ft fr g ln th (jc_up f k2 f0) A1 M1 Mu1 F1 G1 c1 u1 A2 M2 Mu2 F2 G2 c2 u2 := by
  show ((mW dA o Q k1 k3 k4 k5 k7 k8 k9 k11 k12 vt ft fr g ln th f A1 M1 Mu1 F1 G1 c1 u1 A2 M2 Mu2 F2 G2 c2 u2).set (7 + k) _).set (7 + k2) _ = _
  rw [jq_keep hk]
  exact jq_new hk2
end JQ
theorem jq_hd {dA : Nat → ClassId} {o : Nat} {Q : Nat → Nat} {k1 k3 k4 k5 k7 k8 k9 k11 k12 : Int32} {vt : Value} {ft fr g ln th : Nat → Int32} {f : Nat → Nat → Int32} {A1 : Nat → Nat} {M1 Mu1 : Nat} {F1 : Nat → Nat → Int32} {G1 : Nat → Int64} {c1 u1 : Nat} {A2 : Nat → Nat} {M2 Mu2 : Nat} {F2 : Nat → Nat → Int32} {G2 : Nat → Int64} {c2 u2 : Nat} (i1 i3 i4 i5 i7 i8 i9 i11 i12 : Int32) (wt : Value) (ln1 th1 : Nat → Int32) : jw_put (mW dA o Q k1 k3 k4 k5 k7 k8 k9 k11 k12 vt ft fr g ln th f A1 M1 Mu1 F1 G1 c1 u1 A2 M2 Mu2 F2 G2 c2 u2) [0, 4, 5, 6] [(o, .inr (7, [.ref (Q 0), .int i1, .ref (Q 2), .int i3, .int i4, .int i5, wt, .int i7, .int i8, .int i9, .ref (Q 10), .int i11, .int i12, .ref (Q 13), .ref (Q 14), .ref (Q 15), .ref (Q 16), .ref (Q 17)])), ((Q 13), .inl (dA 6, 8, .inr (.inr (.inr (.inr (jq_hs Q)))))), ((Q 14), .inl (dA 1, 8, .inl ln1)), ((Q 15), .inl (dA 4, 8, .inl th1))] = mW dA o Q i1 i3 i4 i5 i7 i8 i9 i11 i12 wt ft fr g ln1 th1 f A1 M1 Mu1 F1 G1 c1 u1 A2 M2 Mu2 F2 G2 c2 u2 := rfl
theorem jq_t1 {dA : Nat → ClassId} {o : Nat} {Q : Nat → Nat} {k1 k3 k4 k5 k7 k8 k9 k11 k12 : Int32} {vt : Value} {ft fr g ln th : Nat → Int32} {f : Nat → Nat → Int32} {A1 : Nat → Nat} {M1 Mu1 : Nat} {F1 : Nat → Nat → Int32} {G1 : Nat → Int64} {c1 u1 : Nat} {A2 : Nat → Nat} {M2 Mu2 : Nat} {F2 : Nat → Nat → Int32} {G2 : Nat → Int64} {c2 u2 : Nat} (A0 : Nat → Nat) (M0 Mu0 : Nat) (F0 : Nat → Nat → Int32) (G0 : Nat → Int64) (c0 u0 : Nat) : jw_put (mW dA o Q k1 k3 k4 k5 k7 k8 k9 k11 k12 vt ft fr g ln th f A1 M1 Mu1 F1 G1 c1 u1 A2 M2 Mu2 F2 G2 c2 u2) [15, 16, 17, 18, 19, 20, 21, 22, 23, 24, 25, 26] [((Q 16), .inr (6, [.ref (A0 0), .ref (A0 1), .ref (A0 2), .ref (A0 3), .ref (A0 4), .ref (A0 5), .ref (A0 6), .ref (A0 7), .ref (A0 8), .ref (A0 9), .int (nI c0), .ref (A0 10), .int (nI u0)])), ((A0 0), .inl (dA 1, (js_cp M0), .inl (F0 0))), ((A0 1), .inl (dA 2, (js_cp M0), .inr (.inl G0))), ((A0 2), .inl (dA 1, (js_cp M0), .inl (F0 2))), ((A0 3), .inl (dA 1, (js_cp M0), .inl (F0 3))), ((A0 4), .inl (dA 1, (js_cp M0), .inl (F0 4))), ((A0 5), .inl (dA 1, (js_cp M0), .inl (F0 5))), ((A0 6), .inl (dA 1, (js_cp M0), .inl (F0 6))), ((A0 7), .inl (dA 1, (js_cp M0), .inl (F0 7))), ((A0 8), .inl (dA 1, (js_cp M0), .inl (F0 8))), ((A0 9), .inl (dA 1, (js_cp M0), .inl (F0 9))), ((A0 10), .inl (dA 3, (js_cu Mu0), .inl (F0 10)))] = mW dA o Q k1 k3 k4 k5 k7 k8 k9 k11 k12 vt ft fr g ln th f A0 M0 Mu0 F0 G0 c0 u0 A2 M2 Mu2 F2 G2 c2 u2 := rfl
theorem jq_t2 {dA : Nat → ClassId} {o : Nat} {Q : Nat → Nat} {k1 k3 k4 k5 k7 k8 k9 k11 k12 : Int32} {vt : Value} {ft fr g ln th : Nat → Int32} {f : Nat → Nat → Int32} {A1 : Nat → Nat} {M1 Mu1 : Nat} {F1 : Nat → Nat → Int32} {G1 : Nat → Int64} {c1 u1 : Nat} {A2 : Nat → Nat} {M2 Mu2 : Nat} {F2 : Nat → Nat → Int32} {G2 : Nat → Int64} {c2 u2 : Nat} (A0 : Nat → Nat) (M0 Mu0 : Nat) (F0 : Nat → Nat → Int32) (G0 : Nat → Int64) (c0 u0 : Nat) : jw_put (mW dA o Q k1 k3 k4 k5 k7 k8 k9 k11 k12 vt ft fr g ln th f A1 M1 Mu1 F1 G1 c1 u1 A2 M2 Mu2 F2 G2 c2 u2) [27, 28, 29, 30, 31, 32, 33, 34, 35, 36, 37, 38] [((Q 17), .inr (6, [.ref (A0 0), .ref (A0 1), .ref (A0 2), .ref (A0 3), .ref (A0 4), .ref (A0 5), .ref (A0 6), .ref (A0 7), .ref (A0 8), .ref (A0 9), .int (nI c0), .ref (A0 10), .int (nI u0)])), ((A0 0), .inl (dA 1, (js_cp M0), .inl (F0 0))), ((A0 1), .inl (dA 2, (js_cp M0), .inr (.inl G0))), ((A0 2), .inl (dA 1, (js_cp M0), .inl (F0 2))), ((A0 3), .inl (dA 1, (js_cp M0), .inl (F0 3))), ((A0 4), .inl (dA 1, (js_cp M0), .inl (F0 4))), ((A0 5), .inl (dA 1, (js_cp M0), .inl (F0 5))), ((A0 6), .inl (dA 1, (js_cp M0), .inl (F0 6))), ((A0 7), .inl (dA 1, (js_cp M0), .inl (F0 7))), ((A0 8), .inl (dA 1, (js_cp M0), .inl (F0 8))), ((A0 9), .inl (dA 1, (js_cp M0), .inl (F0 9))), ((A0 10), .inl (dA 3, (js_cu Mu0), .inl (F0 10)))] = mW dA o Q k1 k3 k4 k5 k7 k8 k9 k11 k12 vt ft fr g ln th f A1 M1 Mu1 F1 G1 c1 u1 A0 M0 Mu0 F0 G0 c0 u0 := rfl
theorem jq_out {dA : Nat → ClassId} {o : Nat} {Q : Nat → Nat} {k1 k3 k4 k5 k7 k8 k9 k11 k12 : Int32} {vt : Value} {ft fr g ln th : Nat → Int32} {f : Nat → Nat → Int32} {A1 : Nat → Nat} {M1 Mu1 : Nat} {F1 : Nat → Nat → Int32} {G1 : Nat → Int64} {c1 u1 : Nat} {A2 : Nat → Nat} {M2 Mu2 : Nat} {F2 : Nat → Nat → Int32} {G2 : Nat → Int64} {c2 u2 : Nat} (g0 : Nat → Int32) : jw_put (mW dA o Q k1 k3 k4 k5 k7 k8 k9 k11 k12 vt ft fr g ln th f A1 M1 Mu1 F1 G1 c1 u1 A2 M2 Mu2 F2 G2 c2 u2) [3] [((Q 10), .inl (dA 0, 16392, .inl g0))] = mW dA o Q k1 k3 k4 k5 k7 k8 k9 k11 k12 vt ft fr g0 ln th f A1 M1 Mu1 F1 G1 c1 u1 A2 M2 Mu2 F2 G2 c2 u2 := rfl
theorem jq_t1o {dA : Nat → ClassId} {o : Nat} {Q : Nat → Nat} {k1 k3 k4 k5 k7 k8 k9 k11 k12 : Int32} {vt : Value} {ft fr g ln th : Nat → Int32} {f : Nat → Nat → Int32} {A1 : Nat → Nat} {M1 Mu1 : Nat} {F1 : Nat → Nat → Int32} {G1 : Nat → Int64} {c1 u1 : Nat} {A2 : Nat → Nat} {M2 Mu2 : Nat} {F2 : Nat → Nat → Int32} {G2 : Nat → Int64} {c2 u2 : Nat} (A0 : Nat → Nat) (M0 Mu0 : Nat) (F0 : Nat → Nat → Int32) (G0 : Nat → Int64) (c0 u0 : Nat) (g0 : Nat → Int32) : jw_put (mW dA o Q k1 k3 k4 k5 k7 k8 k9 k11 k12 vt ft fr g ln th f A1 M1 Mu1 F1 G1 c1 u1 A2 M2 Mu2 F2 G2 c2 u2) [15, 16, 17, 18, 19, 20, 21, 22, 23, 24, 25, 26, 3] [((Q 16), .inr (6, [.ref (A0 0), .ref (A0 1), .ref (A0 2), .ref (A0 3), .ref (A0 4), .ref (A0 5), .ref (A0 6), .ref (A0 7), .ref (A0 8), .ref (A0 9), .int (nI c0), .ref (A0 10), .int (nI u0)])), ((A0 0), .inl (dA 1, (js_cp M0), .inl (F0 0))), ((A0 1), .inl (dA 2, (js_cp M0), .inr (.inl G0))), ((A0 2), .inl (dA 1, (js_cp M0), .inl (F0 2))), ((A0 3), .inl (dA 1, (js_cp M0), .inl (F0 3))), ((A0 4), .inl (dA 1, (js_cp M0), .inl (F0 4))), ((A0 5), .inl (dA 1, (js_cp M0), .inl (F0 5))), ((A0 6), .inl (dA 1, (js_cp M0), .inl (F0 6))), ((A0 7), .inl (dA 1, (js_cp M0), .inl (F0 7))), ((A0 8), .inl (dA 1, (js_cp M0), .inl (F0 8))), ((A0 9), .inl (dA 1, (js_cp M0), .inl (F0 9))), ((A0 10), .inl (dA 3, (js_cu Mu0), .inl (F0 10))), ((Q 10), .inl (dA 0, 16392, .inl g0))] = mW dA o Q k1 k3 k4 k5 k7 k8 k9 k11 k12 vt ft fr g0 ln th f A0 M0 Mu0 F0 G0 c0 u0 A2 M2 Mu2 F2 G2 c2 u2 := rfl

theorem jq_up {sl : Nat → Option (js_J 32)} {ln th : Nat → Int32} {f : Nat → Nat → Int32} (h : jq_ok sl ln th f) {k0 : Nat} {v : js_J 32} {f0 : Nat → Int32} (hf : js_tx f0 (js_pr 32 v)) : jq_ok (jc_up sl k0 (some v)) (upd ln k0 (nI (js_pr 32 v).length)) (upd th k0 1) (jc_up f k0 f0) := by
  refine ⟨fun k hk => ?_, fun k w hk hw => ?_⟩
  · by_cases e : k = k0
    · rw [e, jc_up_s]; exact if_pos rfl
    · rw [jc_up_n e, ← h.1 k hk]; exact if_neg e
  · by_cases e : k = k0
    · rw [e, jc_up_s] at hw
      cases hw
      rw [e, jc_up_s]
      exact ⟨if_pos rfl, hf⟩
    · rw [jc_up_n e] at hw
      rw [jc_up_n e]
      have := h.2 k w hk hw
      exact ⟨(if_neg e).trans this.1, this.2⟩
/-- what the law sees of a call of the reference -/
def jl_M (l : Launch) (D : va_G) (dA : Nat → ClassId) (zz : (Nat → Nat) × (Nat → Nat)) (y : MethodName) (b : ByteArray) (nL : Nat) (ret : Option FieldType) (av : List Value) (Y : va_W) (pc ps n n1 : Nat) (val : Option Value → Prop) (Z : Nat → Nat → va_W → Prop) : Prop :=
  ∃ kL mc ms : Nat, kL ≤ 73 ∧ mc ≤ 16384 ∧ ms ≤ 180224 ∧ jv_M l D dA zz y b nL ret kL av Y (fun v (u : va_W × Nat × Nat) => val v ∧ Z u.2.1 u.2.2 u.1 ∧ mc + pc + 4 * n1 ≤ u.2.1 + 4 * n + 100 ∧ ms + ps + 44 * n1 ≤ u.2.2 + 44 * n + 1000) (fun u => u.1) mc ms
theorem jq_bC {a b c d : Nat} : (js_cp a - js_cp b) + (js_cu c - js_cu d) ≤ 16384 := by
  have h1 := js_cp_b a
  have h2 := js_cu_b c
  omega
theorem jq_bS {a b c d : Nat} : 20 * (js_cp a - js_cp b) + 2 * (js_cu c - js_cu d) ≤ 180224 := by
  have h1 := js_cp_b a
  have h2 := js_cu_b c
  omega
theorem jq_bC2 {a b c d a2 b2 c2 d2 : Nat} : ((js_cp a - js_cp b) + (js_cu c - js_cu d)) + ((js_cp a2 - js_cp b2) + (js_cu c2 - js_cu d2)) ≤ 16384 := by
  have h1 := js_cp_b a
  have h2 := js_cu_b c
  have h3 := js_cp_b a2
  have h4 := js_cu_b c2
  omega
theorem jq_bS2 {a b c d a2 b2 c2 d2 : Nat} : (20 * (js_cp a - js_cp b) + 2 * (js_cu c - js_cu d)) + (20 * (js_cp a2 - js_cp b2) + 2 * (js_cu c2 - js_cu d2)) ≤ 180224 := by
  have h1 := js_cp_b a
  have h2 := js_cu_b c
  have h3 := js_cp_b a2
  have h4 := js_cu_b c2
  omega
theorem jq_nC {n n1 M1 Mu1 M2 Mu2 : Nat} (h : n1 ≤ n + 20) : 0 + jq_C M1 Mu1 M2 Mu2 + 4 * n1 ≤ jq_C M1 Mu1 M2 Mu2 + 4 * n + 100 := by omega
theorem jq_nS {n n1 M1 Mu1 M2 Mu2 : Nat} (h : n1 ≤ n + 20) : 0 + jq_S M1 Mu1 M2 Mu2 + 44 * n1 ≤ jq_S M1 Mu1 M2 Mu2 + 44 * n + 1000 := by omega
theorem jq_1C {n n1 M1 Mu1 M2 Mu2 a b : Nat} (h : n1 ≤ n) : (js_cp (max M1 a) - js_cp M1) + (js_cu (max Mu1 b) - js_cu Mu1) + jq_C M1 Mu1 M2 Mu2 + 4 * n1 ≤ jq_C (max M1 a) (max Mu1 b) M2 Mu2 + 4 * n + 100 := by
  have h1 := js_cp_mono (Nat.le_max_left M1 a)
  have h2 := js_cu_mono (Nat.le_max_left Mu1 b)
  unfold jq_C
  omega
theorem jq_1S {n n1 M1 Mu1 M2 Mu2 a b : Nat} (h : n1 ≤ n) : (20 * (js_cp (max M1 a) - js_cp M1) + 2 * (js_cu (max Mu1 b) - js_cu Mu1)) + jq_S M1 Mu1 M2 Mu2 + 44 * n1 ≤ jq_S (max M1 a) (max Mu1 b) M2 Mu2 + 44 * n + 1000 := by
  have h1 := js_cp_mono (Nat.le_max_left M1 a)
  have h2 := js_cu_mono (Nat.le_max_left Mu1 b)
  unfold jq_S
  omega
theorem jq_2C {n n1 M1 Mu1 M2 Mu2 a b a2 b2 : Nat} (h : n1 ≤ n) : (((js_cp (max M1 a) - js_cp M1) + (js_cu (max Mu1 b) - js_cu Mu1)) + ((js_cp (max M2 a2) - js_cp M2) + (js_cu (max Mu2 b2) - js_cu Mu2))) + jq_C M1 Mu1 M2 Mu2 + 4 * n1 ≤ jq_C (max M1 a) (max Mu1 b) (max M2 a2) (max Mu2 b2) + 4 * n + 100 := by
  have h1 := js_cp_mono (Nat.le_max_left M1 a)
  have h2 := js_cu_mono (Nat.le_max_left Mu1 b)
  have h3 := js_cp_mono (Nat.le_max_left M2 a2)
  have h4 := js_cu_mono (Nat.le_max_left Mu2 b2)
  unfold jq_C
  omega
theorem jq_2S {n n1 M1 Mu1 M2 Mu2 a b a2 b2 : Nat} (h : n1 ≤ n) : ((20 * (js_cp (max M1 a) - js_cp M1) + 2 * (js_cu (max Mu1 b) - js_cu Mu1)) + (20 * (js_cp (max M2 a2) - js_cp M2) + 2 * (js_cu (max Mu2 b2) - js_cu Mu2))) + jq_S M1 Mu1 M2 Mu2 + 44 * n1 ≤ jq_S (max M1 a) (max Mu1 b) (max M2 a2) (max Mu2 b2) + 44 * n + 1000 := by
  have h1 := js_cp_mono (Nat.le_max_left M1 a)
  have h2 := js_cu_mono (Nat.le_max_left Mu1 b)
  have h3 := js_cp_mono (Nat.le_max_left M2 a2)
  have h4 := js_cu_mono (Nat.le_max_left Mu2 b2)
  unfold jq_S
  omega
theorem js_cp_2 (m : Nat) : js_cp m ≤ 256 + 2 * m ∧ js_cu m ≤ 512 + 2 * m := by
  unfold js_cp js_cu
  constructor <;> (repeat' split) <;> omega
theorem jq_fC {n M1 Mu1 M2 Mu2 : Nat} {w : Nat × Nat × Nat × Nat} (h : js_FB M1 Mu1 n w) : (js_cp (max M1 n) - js_cp M1) + (js_cu (max Mu1 n) - js_cu Mu1) + jq_C M1 Mu1 M2 Mu2 + 4 * ([] : List Nat).length ≤ jq_C w.1 w.2.1 M2 Mu2 + 4 * n + 100 := by
  have h1 := js_cp_mono h.1
  have h2 := js_cu_mono h.2.2.1
  have h3 : js_cp (max M1 n) - js_cp M1 ≤ 2 * n := by
    have a := js_cp_2 n
    have b := js_cp_b M1
    rcases Nat.le_total M1 n with q | q
    · rw [Nat.max_eq_right q]; omega
    · rw [Nat.max_eq_left q]; omega
  have h4 : js_cu (max Mu1 n) - js_cu Mu1 ≤ 2 * n := by
    have a := js_cp_2 n
    have b := js_cu_b Mu1
    rcases Nat.le_total Mu1 n with q | q
    · rw [Nat.max_eq_right q]; omega
    · rw [Nat.max_eq_left q]; omega
  unfold jq_C
  simp only [List.length_nil]
  omega
theorem jq_fS {n M1 Mu1 M2 Mu2 : Nat} {w : Nat × Nat × Nat × Nat} (h : js_FB M1 Mu1 n w) : (20 * (js_cp (max M1 n) - js_cp M1) + 2 * (js_cu (max Mu1 n) - js_cu Mu1)) + jq_S M1 Mu1 M2 Mu2 + 44 * ([] : List Nat).length ≤ jq_S w.1 w.2.1 M2 Mu2 + 44 * n + 1000 := by
  have h1 := js_cp_mono h.1
  have h2 := js_cu_mono h.2.2.1
  have h3 : js_cp (max M1 n) - js_cp M1 ≤ 2 * n := by
    have a := js_cp_2 n
    have b := js_cp_b M1
    rcases Nat.le_total M1 n with q | q
    · rw [Nat.max_eq_right q]; omega
    · rw [Nat.max_eq_left q]; omega
  have h4 : js_cu (max Mu1 n) - js_cu Mu1 ≤ 2 * n := by
    have a := js_cp_2 n
    have b := js_cu_b Mu1
    rcases Nat.le_total Mu1 n with q | q
    · rw [Nat.max_eq_right q]; omega
    · rw [Nat.max_eq_left q]; omega
  unfold jq_S
  simp only [List.length_nil]
  omega
theorem jq_FB4 {n M1 Mu1 : Nat} {w : Nat × Nat × Nat × Nat} (h : js_FB M1 Mu1 n w) (hn : n ≤ 4096) (m1 : M1 ≤ 4096 ∧ Mu1 ≤ 4096) : w.1 ≤ 4096 ∧ w.2.1 ≤ 4096 := by
  obtain ⟨a, b, c, d⟩ := h
  omega
theorem jq_m4 {M1 Mu1 : Nat} {v : js_J 32} (m1 : M1 ≤ 4096 ∧ Mu1 ≤ 4096) (ok : js_ok 32 v) (hl : (js_pr 32 v).length ≤ 4096) : max M1 (js_cnt 32 v) ≤ 4096 ∧ max Mu1 (js_uu 32 v) ≤ 4096 := by
  have h1 := js_cnt_len ok
  have h2 := js_uu_le 32 v ok
  omega

set_option maxHeartbeats 4000000 in
set_option maxRecDepth 100000 in
theorem jq_feed_ok {l : Launch} {D : va_G} {dA : Nat → ClassId} {zz : (Nat → Nat) × (Nat → Nat)} {o : Nat} {Q : Nat → Nat} {t r : List Nat} {sl : Nat → Option (js_J 32)} {pl cd : Int32} {pc ps : Nat} {Y : va_W} (hS : js_SW t r sl) (hY : MW dA o Q t r sl pl cd pc ps Y) (a b c d e : Int32) (h20 : t.length + 20 ≤ 4096) : jl_M l D dA zz y_Md_feed b_Md_feed 6 (some (FieldType.int)) [.ref o, .int a, .int b, .int c, .int d, .int e] Y pc ps t.length (t ++ js_i4 a ++ js_i4 b ++ js_i4 c ++ js_i4 d ++ js_i4 e).length (fun v9 => ∃ z : Int32, v9 = some (.int z) ∧ (z = nI (t ++ js_i4 a ++ js_i4 b ++ js_i4 c ++ js_i4 d ++ js_i4 e).length)) (MW dA o Q (t ++ js_i4 a ++ js_i4 b ++ js_i4 c ++ js_i4 d ++ js_i4 e) r sl pl 0) := by
  obtain ⟨k7, k8, k9, k11, k12, vt, ft, fr, g, ln, th, f, A1, M1, Mu1, F1, G1, c1, u1, A2, M2, Mu2, F2, G2, c2, u2, rfl, g1, g2, g3, m1, m2, rfl, rfl⟩ := hY
  obtain ⟨z1, z2, z3⟩ := hS
  have h5 : (t ++ js_i4 a ++ js_i4 b ++ js_i4 c ++ js_i4 d ++ js_i4 e).length = t.length + 20 := by simp only [List.length_append, js_i4_len]
  have hM := (c_Md_feed_ok (l := l) (D := D) (dA := dA) (zz := zz) o Q (jq_K (nI t.length) (nI r.length) cd pl k7 k8 k9 k11 k12) vt ft t a b c d e g1 h20).put (mW dA o Q (nI t.length) (nI r.length) cd pl k7 k8 k9 k11 k12 vt ft fr g ln th f A1 M1 Mu1 F1 G1 c1 u1 A2 M2 Mu2 F2 G2 c2 u2) [0, 1] (jw_c rfl (jw_c rfl jw_n)) rfl (fun _ => rfl)
  refine ⟨_, _, _, (Nat.le_of_ble_eq_true rfl), Nat.zero_le _, Nat.zero_le _, hM.weak ?_⟩
  rintro vR u ⟨z, rfl, hv⟩
  refine ⟨(mW dA o Q (nI (t ++ js_i4 a ++ js_i4 b ++ js_i4 c ++ js_i4 d ++ js_i4 e).length) (nI r.length) 0 pl k7 k8 k9 k11 k12 vt u fr g ln th f A1 M1 Mu1 F1 G1 c1 u1 A2 M2 Mu2 F2 G2 c2 u2, jq_C M1 Mu1 M2 Mu2, jq_S M1 Mu1 M2 Mu2), ⟨⟨z, rfl, hv.1⟩, ⟨k7, k8, k9, k11, k12, vt, u, fr, g, ln, th, f, A1, M1, Mu1, F1, G1, c1, u1, A2, M2, Mu2, F2, G2, c2, u2, rfl, hv.2, g2, g3, m1, m2, rfl, rfl⟩, jq_nC (Nat.le_of_eq h5), jq_nS (Nat.le_of_eq h5)⟩, ?_⟩
  exact rfl

set_option maxHeartbeats 4000000 in
set_option maxRecDepth 100000 in
theorem jq_feed_no {l : Launch} {D : va_G} {dA : Nat → ClassId} {zz : (Nat → Nat) × (Nat → Nat)} {o : Nat} {Q : Nat → Nat} {t r : List Nat} {sl : Nat → Option (js_J 32)} {pl cd : Int32} {pc ps : Nat} {Y : va_W} (hS : js_SW t r sl) (hY : MW dA o Q t r sl pl cd pc ps Y) (a b c d e : Int32) (h20 : 4096 < t.length + 20) : jl_M l D dA zz y_Md_feed b_Md_feed 6 (some (FieldType.int)) [.ref o, .int a, .int b, .int c, .int d, .int e] Y pc ps t.length t.length (fun v9 => ∃ z : Int32, v9 = some (.int z) ∧ (True)) (MW dA o Q t r sl pl 1) := by
  obtain ⟨k7, k8, k9, k11, k12, vt, ft, fr, g, ln, th, f, A1, M1, Mu1, F1, G1, c1, u1, A2, M2, Mu2, F2, G2, c2, u2, rfl, g1, g2, g3, m1, m2, rfl, rfl⟩ := hY
  obtain ⟨z1, z2, z3⟩ := hS
  have hM := (c_Md_feed_no (l := l) (D := D) (dA := dA) (zz := zz) o Q (jq_K (nI t.length) (nI r.length) cd pl k7 k8 k9 k11 k12) vt t a b c d e h20 z1).put (mW dA o Q (nI t.length) (nI r.length) cd pl k7 k8 k9 k11 k12 vt ft fr g ln th f A1 M1 Mu1 F1 G1 c1 u1 A2 M2 Mu2 F2 G2 c2 u2) [0] (jw_c rfl jw_n) rfl (fun _ => rfl)
  refine ⟨_, _, _, (Nat.le_of_ble_eq_true rfl), Nat.zero_le _, Nat.zero_le _, hM.weak ?_⟩
  rintro vR u ⟨z, rfl, hv⟩
  refine ⟨(mW dA o Q (nI t.length) (nI r.length) 1 pl k7 k8 k9 k11 k12 vt ft fr g ln th f A1 M1 Mu1 F1 G1 c1 u1 A2 M2 Mu2 F2 G2 c2 u2, jq_C M1 Mu1 M2 Mu2, jq_S M1 Mu1 M2 Mu2), ⟨⟨z, rfl, trivial⟩, ⟨k7, k8, k9, k11, k12, vt, ft, fr, g, ln, th, f, A1, M1, Mu1, F1, G1, c1, u1, A2, M2, Mu2, F2, G2, c2, u2, rfl, g1, g2, g3, m1, m2, rfl, rfl⟩, jq_nC (Nat.le_add_right _ _), jq_nS (Nat.le_add_right _ _)⟩, ?_⟩
  exact rfl

set_option maxHeartbeats 4000000 in
set_option maxRecDepth 100000 in
theorem jq_end_ok {l : Launch} {D : va_G} {dA : Nat → ClassId} {zz : (Nat → Nat) × (Nat → Nat)} {o : Nat} {Q : Nat → Nat} {t r : List Nat} {sl : Nat → Option (js_J 32)} {pl cd : Int32} {pc ps : Nat} {Y : va_W} (hS : js_SW t r sl) (hY : MW dA o Q t r sl pl cd pc ps Y) (k : Nat) (hk : k ≤ t.length) : jl_M l D dA zz y_Md_end b_Md_end 2 (some (FieldType.int)) [.ref o, .int (nI k)] Y pc ps t.length (t.take k).length (fun v9 => ∃ z : Int32, v9 = some (.int z) ∧ (z = nI k)) (MW dA o Q (t.take k) r sl pl 0) := by
  obtain ⟨k7, k8, k9, k11, k12, vt, ft, fr, g, ln, th, f, A1, M1, Mu1, F1, G1, c1, u1, A2, M2, Mu2, F2, G2, c2, u2, rfl, g1, g2, g3, m1, m2, rfl, rfl⟩ := hY
  obtain ⟨z1, z2, z3⟩ := hS
  have hkl : (t.take k).length = k := by rw [List.length_take]; exact Nat.min_eq_left hk
  have hkn : (t.take k).length ≤ t.length + 20 := by omega
  have hM := (c_Md_end_ok (l := l) (D := D) (dA := dA) (zz := zz) o Q (jq_K (nI t.length) (nI r.length) cd pl k7 k8 k9 k11 k12) vt t k hk z1).put (mW dA o Q (nI t.length) (nI r.length) cd pl k7 k8 k9 k11 k12 vt ft fr g ln th f A1 M1 Mu1 F1 G1 c1 u1 A2 M2 Mu2 F2 G2 c2 u2) [0] (jw_c rfl jw_n) rfl (fun _ => rfl)
  refine ⟨_, _, _, (Nat.le_of_ble_eq_true rfl), Nat.zero_le _, Nat.zero_le _, hM.weak ?_⟩
  rintro vR u ⟨z, rfl, hv⟩
  refine ⟨(mW dA o Q (nI (t.take k).length) (nI r.length) 0 pl k7 k8 k9 k11 k12 vt ft fr g ln th f A1 M1 Mu1 F1 G1 c1 u1 A2 M2 Mu2 F2 G2 c2 u2, jq_C M1 Mu1 M2 Mu2, jq_S M1 Mu1 M2 Mu2), ⟨⟨z, rfl, hv⟩, ⟨k7, k8, k9, k11, k12, vt, ft, fr, g, ln, th, f, A1, M1, Mu1, F1, G1, c1, u1, A2, M2, Mu2, F2, G2, c2, u2, rfl, js_tx_take g1 k, g2, g3, m1, m2, rfl, rfl⟩, jq_nC hkn, jq_nS hkn⟩, ?_⟩
  exact (congrArg (fun n => mW dA o Q (nI n) (nI r.length) 0 pl k7 k8 k9 k11 k12 vt ft fr g ln th f A1 M1 Mu1 F1 G1 c1 u1 A2 M2 Mu2 F2 G2 c2 u2) hkl)

set_option maxHeartbeats 4000000 in
set_option maxRecDepth 100000 in
theorem jq_end_no {l : Launch} {D : va_G} {dA : Nat → ClassId} {zz : (Nat → Nat) × (Nat → Nat)} {o : Nat} {Q : Nat → Nat} {t r : List Nat} {sl : Nat → Option (js_J 32)} {pl cd : Int32} {pc ps : Nat} {Y : va_W} (hS : js_SW t r sl) (hY : MW dA o Q t r sl pl cd pc ps Y) (i : Int32) (hb : i < 0 ∨ nI t.length < i) : jl_M l D dA zz y_Md_end b_Md_end 2 (some (FieldType.int)) [.ref o, .int i] Y pc ps t.length t.length (fun v9 => ∃ z : Int32, v9 = some (.int z) ∧ (True)) (MW dA o Q t r sl pl 1) := by
  obtain ⟨k7, k8, k9, k11, k12, vt, ft, fr, g, ln, th, f, A1, M1, Mu1, F1, G1, c1, u1, A2, M2, Mu2, F2, G2, c2, u2, rfl, g1, g2, g3, m1, m2, rfl, rfl⟩ := hY
  obtain ⟨z1, z2, z3⟩ := hS
  have hM := (c_Md_end_no (l := l) (D := D) (dA := dA) (zz := zz) o Q (jq_K (nI t.length) (nI r.length) cd pl k7 k8 k9 k11 k12) vt t i hb).put (mW dA o Q (nI t.length) (nI r.length) cd pl k7 k8 k9 k11 k12 vt ft fr g ln th f A1 M1 Mu1 F1 G1 c1 u1 A2 M2 Mu2 F2 G2 c2 u2) [0] (jw_c rfl jw_n) rfl (fun _ => rfl)
  refine ⟨_, _, _, (Nat.le_of_ble_eq_true rfl), Nat.zero_le _, Nat.zero_le _, hM.weak ?_⟩
  rintro vR u ⟨z, rfl, hv⟩
  refine ⟨(mW dA o Q (nI t.length) (nI r.length) 1 pl k7 k8 k9 k11 k12 vt ft fr g ln th f A1 M1 Mu1 F1 G1 c1 u1 A2 M2 Mu2 F2 G2 c2 u2, jq_C M1 Mu1 M2 Mu2, jq_S M1 Mu1 M2 Mu2), ⟨⟨z, rfl, trivial⟩, ⟨k7, k8, k9, k11, k12, vt, ft, fr, g, ln, th, f, A1, M1, Mu1, F1, G1, c1, u1, A2, M2, Mu2, F2, G2, c2, u2, rfl, g1, g2, g3, m1, m2, rfl, rfl⟩, jq_nC (Nat.le_add_right _ _), jq_nS (Nat.le_add_right _ _)⟩, ?_⟩
  exact rfl

set_option maxHeartbeats 4000000 in
set_option maxRecDepth 100000 in
theorem jq_word_ok {l : Launch} {D : va_G} {dA : Nat → ClassId} {zz : (Nat → Nat) × (Nat → Nat)} {o : Nat} {Q : Nat → Nat} {t r : List Nat} {sl : Nat → Option (js_J 32)} {pl cd : Int32} {pc ps : Nat} {Y : va_W} (hS : js_SW t r sl) (hY : MW dA o Q t r sl pl cd pc ps Y) (k : Nat) (hk : k < r.length) : jl_M l D dA zz y_Md_word b_Md_word 5 (some (FieldType.long)) [.ref o, .int (nI k)] Y pc ps t.length t.length (fun v9 => ∃ z : Int64, v9 = some (.long z) ∧ (z = js_w8 r k 8)) (MW dA o Q t r sl pl 0) := by
  obtain ⟨k7, k8, k9, k11, k12, vt, ft, fr, g, ln, th, f, A1, M1, Mu1, F1, G1, c1, u1, A2, M2, Mu2, F2, G2, c2, u2, rfl, g1, g2, g3, m1, m2, rfl, rfl⟩ := hY
  obtain ⟨z1, z2, z3⟩ := hS
  have hM := (c_Md_word_ok (l := l) (D := D) (dA := dA) (zz := zz) o Q (jq_K (nI t.length) (nI r.length) cd pl k7 k8 k9 k11 k12) vt fr r k g2 z2 hk).put (mW dA o Q (nI t.length) (nI r.length) cd pl k7 k8 k9 k11 k12 vt ft fr g ln th f A1 M1 Mu1 F1 G1 c1 u1 A2 M2 Mu2 F2 G2 c2 u2) [0, 2] (jw_c rfl (jw_c rfl jw_n)) rfl (fun _ => rfl)
  refine ⟨_, _, _, (Nat.le_of_ble_eq_true rfl), Nat.zero_le _, Nat.zero_le _, hM.weak ?_⟩
  rintro vR u ⟨z, rfl, hv⟩
  refine ⟨(mW dA o Q (nI t.length) (nI r.length) 0 pl k7 k8 k9 k11 k12 vt ft fr g ln th f A1 M1 Mu1 F1 G1 c1 u1 A2 M2 Mu2 F2 G2 c2 u2, jq_C M1 Mu1 M2 Mu2, jq_S M1 Mu1 M2 Mu2), ⟨⟨z, rfl, hv⟩, ⟨k7, k8, k9, k11, k12, vt, ft, fr, g, ln, th, f, A1, M1, Mu1, F1, G1, c1, u1, A2, M2, Mu2, F2, G2, c2, u2, rfl, g1, g2, g3, m1, m2, rfl, rfl⟩, jq_nC (Nat.le_add_right _ _), jq_nS (Nat.le_add_right _ _)⟩, ?_⟩
  exact rfl

set_option maxHeartbeats 4000000 in
set_option maxRecDepth 100000 in
theorem jq_word_no {l : Launch} {D : va_G} {dA : Nat → ClassId} {zz : (Nat → Nat) × (Nat → Nat)} {o : Nat} {Q : Nat → Nat} {t r : List Nat} {sl : Nat → Option (js_J 32)} {pl cd : Int32} {pc ps : Nat} {Y : va_W} (hS : js_SW t r sl) (hY : MW dA o Q t r sl pl cd pc ps Y) (i : Int32) (hb : i < 0 ∨ nI r.length ≤ i) : jl_M l D dA zz y_Md_word b_Md_word 5 (some (FieldType.long)) [.ref o, .int i] Y pc ps t.length t.length (fun v9 => ∃ z : Int64, v9 = some (.long z) ∧ (True)) (MW dA o Q t r sl pl 1) := by
  obtain ⟨k7, k8, k9, k11, k12, vt, ft, fr, g, ln, th, f, A1, M1, Mu1, F1, G1, c1, u1, A2, M2, Mu2, F2, G2, c2, u2, rfl, g1, g2, g3, m1, m2, rfl, rfl⟩ := hY
  obtain ⟨z1, z2, z3⟩ := hS
  have hM := (c_Md_word_no (l := l) (D := D) (dA := dA) (zz := zz) o Q (jq_K (nI t.length) (nI r.length) cd pl k7 k8 k9 k11 k12) vt r i hb).put (mW dA o Q (nI t.length) (nI r.length) cd pl k7 k8 k9 k11 k12 vt ft fr g ln th f A1 M1 Mu1 F1 G1 c1 u1 A2 M2 Mu2 F2 G2 c2 u2) [0] (jw_c rfl jw_n) rfl (fun _ => rfl)
  refine ⟨_, _, _, (Nat.le_of_ble_eq_true rfl), Nat.zero_le _, Nat.zero_le _, hM.weak ?_⟩
  rintro vR u ⟨z, rfl, hv⟩
  refine ⟨(mW dA o Q (nI t.length) (nI r.length) 1 pl k7 k8 k9 k11 k12 vt ft fr g ln th f A1 M1 Mu1 F1 G1 c1 u1 A2 M2 Mu2 F2 G2 c2 u2, jq_C M1 Mu1 M2 Mu2, jq_S M1 Mu1 M2 Mu2), ⟨⟨z, rfl, trivial⟩, ⟨k7, k8, k9, k11, k12, vt, ft, fr, g, ln, th, f, A1, M1, Mu1, F1, G1, c1, u1, A2, M2, Mu2, F2, G2, c2, u2, rfl, g1, g2, g3, m1, m2, rfl, rfl⟩, jq_nC (Nat.le_add_right _ _), jq_nS (Nat.le_add_right _ _)⟩, ?_⟩
  exact rfl

set_option maxHeartbeats 4000000 in
set_option maxRecDepth 100000 in
theorem jq_count_ok {l : Launch} {D : va_G} {dA : Nat → ClassId} {zz : (Nat → Nat) × (Nat → Nat)} {o : Nat} {Q : Nat → Nat} {t r : List Nat} {sl : Nat → Option (js_J 32)} {pl cd : Int32} {pc ps : Nat} {Y : va_W} (hS : js_SW t r sl) (hY : MW dA o Q t r sl pl cd pc ps Y) (i : Int32) (h0 : ¬ i < 0) (h2 : i ≤ 2) : jl_M l D dA zz y_Md_count b_Md_count 2 (some (FieldType.int)) [.ref o, .int i] Y pc ps t.length t.length (fun v9 => ∃ z : Int32, v9 = some (.int z) ∧ (z = (if i = 0 then nI t.length else if i = 1 then nI r.length else pl))) (MW dA o Q t r sl pl 0) := by
  obtain ⟨k7, k8, k9, k11, k12, vt, ft, fr, g, ln, th, f, A1, M1, Mu1, F1, G1, c1, u1, A2, M2, Mu2, F2, G2, c2, u2, rfl, g1, g2, g3, m1, m2, rfl, rfl⟩ := hY
  obtain ⟨z1, z2, z3⟩ := hS
  have hM := (c_Md_count_ok (l := l) (D := D) (dA := dA) (zz := zz) o Q (jq_K (nI t.length) (nI r.length) cd pl k7 k8 k9 k11 k12) vt i h0 h2).put (mW dA o Q (nI t.length) (nI r.length) cd pl k7 k8 k9 k11 k12 vt ft fr g ln th f A1 M1 Mu1 F1 G1 c1 u1 A2 M2 Mu2 F2 G2 c2 u2) [0] (jw_c rfl jw_n) rfl (fun _ => rfl)
  refine ⟨_, _, _, (Nat.le_of_ble_eq_true rfl), Nat.zero_le _, Nat.zero_le _, hM.weak ?_⟩
  rintro vR u ⟨z, rfl, hv⟩
  refine ⟨(mW dA o Q (nI t.length) (nI r.length) 0 pl k7 k8 k9 k11 k12 vt ft fr g ln th f A1 M1 Mu1 F1 G1 c1 u1 A2 M2 Mu2 F2 G2 c2 u2, jq_C M1 Mu1 M2 Mu2, jq_S M1 Mu1 M2 Mu2), ⟨⟨z, rfl, hv⟩, ⟨k7, k8, k9, k11, k12, vt, ft, fr, g, ln, th, f, A1, M1, Mu1, F1, G1, c1, u1, A2, M2, Mu2, F2, G2, c2, u2, rfl, g1, g2, g3, m1, m2, rfl, rfl⟩, jq_nC (Nat.le_add_right _ _), jq_nS (Nat.le_add_right _ _)⟩, ?_⟩
  exact rfl

set_option maxHeartbeats 4000000 in
set_option maxRecDepth 100000 in
theorem jq_count_no {l : Launch} {D : va_G} {dA : Nat → ClassId} {zz : (Nat → Nat) × (Nat → Nat)} {o : Nat} {Q : Nat → Nat} {t r : List Nat} {sl : Nat → Option (js_J 32)} {pl cd : Int32} {pc ps : Nat} {Y : va_W} (hS : js_SW t r sl) (hY : MW dA o Q t r sl pl cd pc ps Y) (i : Int32) (hb : i < 0 ∨ 2 < i) : jl_M l D dA zz y_Md_count b_Md_count 2 (some (FieldType.int)) [.ref o, .int i] Y pc ps t.length t.length (fun v9 => ∃ z : Int32, v9 = some (.int z) ∧ (True)) (MW dA o Q t r sl pl 1) := by
  obtain ⟨k7, k8, k9, k11, k12, vt, ft, fr, g, ln, th, f, A1, M1, Mu1, F1, G1, c1, u1, A2, M2, Mu2, F2, G2, c2, u2, rfl, g1, g2, g3, m1, m2, rfl, rfl⟩ := hY
  obtain ⟨z1, z2, z3⟩ := hS
  have hM := (c_Md_count_no (l := l) (D := D) (dA := dA) (zz := zz) o Q (jq_K (nI t.length) (nI r.length) cd pl k7 k8 k9 k11 k12) vt i hb).put (mW dA o Q (nI t.length) (nI r.length) cd pl k7 k8 k9 k11 k12 vt ft fr g ln th f A1 M1 Mu1 F1 G1 c1 u1 A2 M2 Mu2 F2 G2 c2 u2) [0] (jw_c rfl jw_n) rfl (fun _ => rfl)
  refine ⟨_, _, _, (Nat.le_of_ble_eq_true rfl), Nat.zero_le _, Nat.zero_le _, hM.weak ?_⟩
  rintro vR u ⟨z, rfl, hv⟩
  refine ⟨(mW dA o Q (nI t.length) (nI r.length) 1 pl k7 k8 k9 k11 k12 vt ft fr g ln th f A1 M1 Mu1 F1 G1 c1 u1 A2 M2 Mu2 F2 G2 c2 u2, jq_C M1 Mu1 M2 Mu2, jq_S M1 Mu1 M2 Mu2), ⟨⟨z, rfl, trivial⟩, ⟨k7, k8, k9, k11, k12, vt, ft, fr, g, ln, th, f, A1, M1, Mu1, F1, G1, c1, u1, A2, M2, Mu2, F2, G2, c2, u2, rfl, g1, g2, g3, m1, m2, rfl, rfl⟩, jq_nC (Nat.le_add_right _ _), jq_nS (Nat.le_add_right _ _)⟩, ?_⟩
  exact rfl

set_option maxHeartbeats 4000000 in
set_option maxRecDepth 100000 in
theorem jq_print_x1 {l : Launch} {D : va_G} {dA : Nat → ClassId} {zz : (Nat → Nat) × (Nat → Nat)} {o : Nat} {Q : Nat → Nat} {t r : List Nat} {sl : Nat → Option (js_J 32)} {pl cd : Int32} {pc ps : Nat} {Y : va_W} (hS : js_SW t r sl) (hY : MW dA o Q t r sl pl cd pc ps Y) (i : Int32) (hb : i < 0 ∨ 8 ≤ i) : jl_M l D dA zz y_Md_print b_Md_print 3 (some (FieldType.int)) [.ref o, .int i] Y pc ps t.length t.length (fun v9 => ∃ z : Int32, v9 = some (.int z) ∧ (True)) (MW dA o Q t r sl pl 1) := by
  obtain ⟨k7, k8, k9, k11, k12, vt, ft, fr, g, ln, th, f, A1, M1, Mu1, F1, G1, c1, u1, A2, M2, Mu2, F2, G2, c2, u2, rfl, g1, g2, g3, m1, m2, rfl, rfl⟩ := hY
  obtain ⟨z1, z2, z3⟩ := hS
  have hM := (c_Md_print_no1 (l := l) (D := D) (dA := dA) (zz := zz) o Q (jq_K (nI t.length) (nI r.length) cd pl k7 k8 k9 k11 k12) vt i hb).put (mW dA o Q (nI t.length) (nI r.length) cd pl k7 k8 k9 k11 k12 vt ft fr g ln th f A1 M1 Mu1 F1 G1 c1 u1 A2 M2 Mu2 F2 G2 c2 u2) [0] (jw_c rfl jw_n) rfl (fun _ => rfl)
  refine ⟨_, _, _, (Nat.le_of_ble_eq_true rfl), Nat.zero_le _, Nat.zero_le _, hM.weak ?_⟩
  rintro vR u ⟨z, rfl, hv⟩
  refine ⟨(mW dA o Q (nI t.length) (nI r.length) 1 pl k7 k8 k9 k11 k12 vt ft fr g ln th f A1 M1 Mu1 F1 G1 c1 u1 A2 M2 Mu2 F2 G2 c2 u2, jq_C M1 Mu1 M2 Mu2, jq_S M1 Mu1 M2 Mu2), ⟨⟨z, rfl, trivial⟩, ⟨k7, k8, k9, k11, k12, vt, ft, fr, g, ln, th, f, A1, M1, Mu1, F1, G1, c1, u1, A2, M2, Mu2, F2, G2, c2, u2, rfl, g1, g2, g3, m1, m2, rfl, rfl⟩, jq_nC (Nat.le_add_right _ _), jq_nS (Nat.le_add_right _ _)⟩, ?_⟩
  exact rfl

set_option maxHeartbeats 4000000 in
set_option maxRecDepth 100000 in
theorem jq_print_x2 {l : Launch} {D : va_G} {dA : Nat → ClassId} {zz : (Nat → Nat) × (Nat → Nat)} {o : Nat} {Q : Nat → Nat} {t r : List Nat} {sl : Nat → Option (js_J 32)} {pl cd : Int32} {pc ps : Nat} {Y : va_W} (hS : js_SW t r sl) (hY : MW dA o Q t r sl pl cd pc ps Y) (k : Nat) (hk : k < 8) (hs : sl k = none) : jl_M l D dA zz y_Md_print b_Md_print 3 (some (FieldType.int)) [.ref o, .int (nI k)] Y pc ps t.length t.length (fun v9 => ∃ z : Int32, v9 = some (.int z) ∧ (True)) (MW dA o Q t r sl pl 2) := by
  obtain ⟨k7, k8, k9, k11, k12, vt, ft, fr, g, ln, th, f, A1, M1, Mu1, F1, G1, c1, u1, A2, M2, Mu2, F2, G2, c2, u2, rfl, g1, g2, g3, m1, m2, rfl, rfl⟩ := hY
  obtain ⟨z1, z2, z3⟩ := hS
  have hth : th k = 0 := by rw [g3.1 k hk, hs]; rfl
  have hM := (c_Md_print_no2 (l := l) (D := D) (dA := dA) (zz := zz) o Q (jq_K (nI t.length) (nI r.length) cd pl k7 k8 k9 k11 k12) vt th k hk hth).put (mW dA o Q (nI t.length) (nI r.length) cd pl k7 k8 k9 k11 k12 vt ft fr g ln th f A1 M1 Mu1 F1 G1 c1 u1 A2 M2 Mu2 F2 G2 c2 u2) [0, 6] (jw_c rfl (jw_c rfl jw_n)) rfl (fun _ => rfl)
  refine ⟨_, _, _, (Nat.le_of_ble_eq_true rfl), Nat.zero_le _, Nat.zero_le _, hM.weak ?_⟩
  rintro vR u ⟨z, rfl, hv⟩
  refine ⟨(mW dA o Q (nI t.length) (nI r.length) 2 pl k7 k8 k9 k11 k12 vt ft fr g ln th f A1 M1 Mu1 F1 G1 c1 u1 A2 M2 Mu2 F2 G2 c2 u2, jq_C M1 Mu1 M2 Mu2, jq_S M1 Mu1 M2 Mu2), ⟨⟨z, rfl, trivial⟩, ⟨k7, k8, k9, k11, k12, vt, ft, fr, g, ln, th, f, A1, M1, Mu1, F1, G1, c1, u1, A2, M2, Mu2, F2, G2, c2, u2, rfl, g1, g2, g3, m1, m2, rfl, rfl⟩, jq_nC (Nat.le_add_right _ _), jq_nS (Nat.le_add_right _ _)⟩, ?_⟩
  exact rfl

set_option maxHeartbeats 4000000 in
set_option maxRecDepth 100000 in
theorem jq_print_ok {l : Launch} {D : va_G} {dA : Nat → ClassId} {zz : (Nat → Nat) × (Nat → Nat)} {o : Nat} {Q : Nat → Nat} {t r : List Nat} {sl : Nat → Option (js_J 32)} {pl cd : Int32} {pc ps : Nat} {Y : va_W} (hS : js_SW t r sl) (hY : MW dA o Q t r sl pl cd pc ps Y) (k : Nat) (v : js_J 32) (hk : k < 8) (hs : sl k = some v) : jl_M l D dA zz y_Md_print b_Md_print 3 (some (FieldType.int)) [.ref o, .int (nI k)] Y pc ps t.length t.length (fun v9 => ∃ z : Int32, v9 = some (.int z) ∧ (z = nI (js_pr 32 v).length)) (MW dA o Q t (js_pr 32 v) sl pl 0) := by
  obtain ⟨k7, k8, k9, k11, k12, vt, ft, fr, g, ln, th, f, A1, M1, Mu1, F1, G1, c1, u1, A2, M2, Mu2, F2, G2, c2, u2, rfl, g1, g2, g3, m1, m2, rfl, rfl⟩ := hY
  obtain ⟨z1, z2, z3⟩ := hS
  obtain ⟨ok1, ol1⟩ := z3 k v hs
  have hsb := jq_hs_at Q hk
  have hth : th k = 1 := by rw [g3.1 k hk, hs]; rfl
  obtain ⟨hln, htx⟩ := g3.2 k v hk hs
  have hrd := js_rd_rt ok1 ol1
  have hM := (c_Md_print_ok (l := l) (D := D) (dA := dA) (zz := zz) o Q (jq_K (nI t.length) (nI r.length) cd pl k7 k8 k9 k11 k12) vt fr (jq_hs Q) ln th (Q (18 + k)) (f k) (js_pr 32 v) k htx ol1 hk hsb hth hln).put (mW dA o Q (nI t.length) (nI r.length) cd pl k7 k8 k9 k11 k12 vt ft fr g ln th f A1 M1 Mu1 F1 G1 c1 u1 A2 M2 Mu2 F2 G2 c2 u2) [0, 2, 4, 5, 6, 7 + k] (jw_c rfl (jw_c rfl (jw_c rfl (jw_c rfl (jw_c rfl (jw_c (jq_h hk) jw_n)))))) ((by decide +kernel : ∀ k, k < 8 → va_nd [0, 2, 4, 5, 6, 7 + k] = true) k hk) (fun _ => rfl)
  refine ⟨_, _, _, (Nat.le_of_ble_eq_true rfl), Nat.zero_le _, Nat.zero_le _, hM.weak ?_⟩
  rintro vR u ⟨z, rfl, hv⟩
  refine ⟨(mW dA o Q (nI t.length) (nI (js_pr 32 v).length) 0 pl k7 k8 k9 k11 k12 vt ft u g ln th f A1 M1 Mu1 F1 G1 c1 u1 A2 M2 Mu2 F2 G2 c2 u2, jq_C M1 Mu1 M2 Mu2, jq_S M1 Mu1 M2 Mu2), ⟨⟨z, rfl, hv.1⟩, ⟨k7, k8, k9, k11, k12, vt, ft, u, g, ln, th, f, A1, M1, Mu1, F1, G1, c1, u1, A2, M2, Mu2, F2, G2, c2, u2, rfl, g1, hv.2, g3, m1, m2, rfl, rfl⟩, jq_nC (Nat.le_add_right _ _), jq_nS (Nat.le_add_right _ _)⟩, ?_⟩
  exact (jq_keep hk).symm

set_option maxHeartbeats 4000000 in
set_option maxRecDepth 100000 in
theorem jq_read_x1 {l : Launch} {D : va_G} {dA : Nat → ClassId} {zz : (Nat → Nat) × (Nat → Nat)} {o : Nat} {Q : Nat → Nat} {t r : List Nat} {sl : Nat → Option (js_J 32)} {pl cd : Int32} {pc ps : Nat} {Y : va_W} (hS : js_SW t r sl) (hY : MW dA o Q t r sl pl cd pc ps Y) (i : Int32) (hb : i < 0 ∨ 8 ≤ i) : jl_M l D dA zz y_Md_read b_Md_read 4 (some (FieldType.int)) [.ref o, .int i] Y pc ps t.length t.length (fun v9 => ∃ z : Int32, v9 = some (.int z) ∧ (True)) (MW dA o Q t r sl pl 1) := by
  obtain ⟨k7, k8, k9, k11, k12, vt, ft, fr, g, ln, th, f, A1, M1, Mu1, F1, G1, c1, u1, A2, M2, Mu2, F2, G2, c2, u2, rfl, g1, g2, g3, m1, m2, rfl, rfl⟩ := hY
  obtain ⟨z1, z2, z3⟩ := hS
  have hM := (c_Md_read_no1 (l := l) (D := D) (dA := dA) (zz := zz) o Q (jq_K (nI t.length) (nI r.length) cd pl k7 k8 k9 k11 k12) vt i hb).put (mW dA o Q (nI t.length) (nI r.length) cd pl k7 k8 k9 k11 k12 vt ft fr g ln th f A1 M1 Mu1 F1 G1 c1 u1 A2 M2 Mu2 F2 G2 c2 u2) [0] (jw_c rfl jw_n) rfl (fun _ => rfl)
  refine ⟨_, _, _, (Nat.le_of_ble_eq_true rfl), Nat.zero_le _, Nat.zero_le _, hM.weak ?_⟩
  rintro vR u ⟨z, rfl, hv⟩
  refine ⟨(mW dA o Q (nI t.length) (nI r.length) 1 pl k7 k8 k9 k11 k12 vt ft fr g ln th f A1 M1 Mu1 F1 G1 c1 u1 A2 M2 Mu2 F2 G2 c2 u2, jq_C M1 Mu1 M2 Mu2, jq_S M1 Mu1 M2 Mu2), ⟨⟨z, rfl, trivial⟩, ⟨k7, k8, k9, k11, k12, vt, ft, fr, g, ln, th, f, A1, M1, Mu1, F1, G1, c1, u1, A2, M2, Mu2, F2, G2, c2, u2, rfl, g1, g2, g3, m1, m2, rfl, rfl⟩, jq_nC (Nat.le_add_right _ _), jq_nS (Nat.le_add_right _ _)⟩, ?_⟩
  exact rfl

set_option maxHeartbeats 4000000 in
set_option maxRecDepth 100000 in
theorem jq_read_x2 {l : Launch} {D : va_G} {dA : Nat → ClassId} {zz : (Nat → Nat) × (Nat → Nat)} {o : Nat} {Q : Nat → Nat} {t r : List Nat} {sl : Nat → Option (js_J 32)} {pl cd : Int32} {pc ps : Nat} {Y : va_W} (hS : js_SW t r sl) (hY : MW dA o Q t r sl pl cd pc ps Y) (k q : Nat) (hk : k < 8) (hrd : js_rd t = .inl q) : jl_M l D dA zz y_Md_read b_Md_read 4 (some (FieldType.int)) [.ref o, .int (nI k)] Y pc ps t.length ([] : List Nat).length (fun v9 => ∃ z : Int32, v9 = some (.int z) ∧ (True)) (MW dA o Q ([] : List Nat) r sl (nI q) 2) := by
  obtain ⟨k7, k8, k9, k11, k12, vt, ft, fr, g, ln, th, f, A1, M1, Mu1, F1, G1, c1, u1, A2, M2, Mu2, F2, G2, c2, u2, rfl, g1, g2, g3, m1, m2, rfl, rfl⟩ := hY
  obtain ⟨z1, z2, z3⟩ := hS
  have hM := (c_Md_read_no2 (l := l) (D := D) (dA := dA) (zz := zz) o Q (jq_K (nI t.length) (nI r.length) cd pl k7 k8 k9 k11 k12) vt ft t A1 M1 Mu1 F1 G1 c1 u1 k q g1 z1 m1.1 m1.2 hk hrd).put (mW dA o Q (nI t.length) (nI r.length) cd pl k7 k8 k9 k11 k12 vt ft fr g ln th f A1 M1 Mu1 F1 G1 c1 u1 A2 M2 Mu2 F2 G2 c2 u2) [0, 1, 15, 16, 17, 18, 19, 20, 21, 22, 23, 24, 25, 26] (jw_c rfl (jw_c rfl (jw_c rfl (jw_c rfl (jw_c rfl (jw_c rfl (jw_c rfl (jw_c rfl (jw_c rfl (jw_c rfl (jw_c rfl (jw_c rfl (jw_c rfl (jw_c rfl jw_n)))))))))))))) rfl (fun _ => rfl)
  refine ⟨_, _, _, (Nat.le_of_ble_eq_true rfl), jq_bC, jq_bS, hM.weak ?_⟩
  rintro vR u ⟨z, rfl, hv⟩
  refine ⟨(mW dA o Q (nI ([] : List Nat).length) (nI r.length) 2 (nI q) u.2.2.2.2 (nI t.length) (nI q) k11 k12 (.ref (Q 0)) ft fr g ln th f u.1 u.2.2.2.1.1 u.2.2.2.1.2.1 u.2.1 u.2.2.1 u.2.2.2.1.2.2.1 u.2.2.2.1.2.2.2 A2 M2 Mu2 F2 G2 c2 u2, jq_C u.2.2.2.1.1 u.2.2.2.1.2.1 M2 Mu2, jq_S u.2.2.2.1.1 u.2.2.2.1.2.1 M2 Mu2), ⟨⟨z, rfl, trivial⟩, ⟨u.2.2.2.2, (nI t.length), (nI q), k11, k12, (.ref (Q 0)), ft, fr, g, ln, th, f, u.1, u.2.2.2.1.1, u.2.2.2.1.2.1, u.2.1, u.2.2.1, u.2.2.2.1.2.2.1, u.2.2.2.1.2.2.2, A2, M2, Mu2, F2, G2, c2, u2, rfl, (fun j h => absurd h (Nat.not_lt_zero j)), g2, g3, jq_FB4 hv.2 z1 m1, m2, rfl, rfl⟩, jq_fC hv.2, jq_fS hv.2⟩, ?_⟩
  exact rfl

set_option maxHeartbeats 4000000 in
set_option maxRecDepth 100000 in
theorem jq_read_ok {l : Launch} {D : va_G} {dA : Nat → ClassId} {zz : (Nat → Nat) × (Nat → Nat)} {o : Nat} {Q : Nat → Nat} {t r : List Nat} {sl : Nat → Option (js_J 32)} {pl cd : Int32} {pc ps : Nat} {Y : va_W} (hS : js_SW t r sl) (hY : MW dA o Q t r sl pl cd pc ps Y) (k : Nat) (v : js_J 32) (hk : k < 8) (hrd : js_rd t = .inr v) : jl_M l D dA zz y_Md_read b_Md_read 4 (some (FieldType.int)) [.ref o, .int (nI k)] Y pc ps t.length ([] : List Nat).length (fun v9 => ∃ z : Int32, v9 = some (.int z) ∧ (z = nI (js_pr 32 v).length)) (MW dA o Q ([] : List Nat) r (jc_up sl k (some v)) (-1) 0) := by
  obtain ⟨k7, k8, k9, k11, k12, vt, ft, fr, g, ln, th, f, A1, M1, Mu1, F1, G1, c1, u1, A2, M2, Mu2, F2, G2, c2, u2, rfl, g1, g2, g3, m1, m2, rfl, rfl⟩ := hY
  obtain ⟨z1, z2, z3⟩ := hS
  obtain ⟨ok1, ol1⟩ := js_rd_ok g1.by hrd
  have ol2 := Nat.le_trans ol1 z1
  have hM := (c_Md_read_ok (l := l) (D := D) (dA := dA) (zz := zz) o Q (jq_K (nI t.length) (nI r.length) cd pl k7 k8 k9 k11 k12) vt ft t A1 M1 Mu1 F1 G1 c1 u1 g (jq_hs Q) ln th (Q (18 + k)) (f k) k v g1 z1 m1.1 m1.2 hk (jq_hs_at Q hk) hrd).put (mW dA o Q (nI t.length) (nI r.length) cd pl k7 k8 k9 k11 k12 vt ft fr g ln th f A1 M1 Mu1 F1 G1 c1 u1 A2 M2 Mu2 F2 G2 c2 u2) [0, 1, 15, 16, 17, 18, 19, 20, 21, 22, 23, 24, 25, 26, 3, 4, 5, 6, 7 + k] (jw_c rfl (jw_c rfl (jw_c rfl (jw_c rfl (jw_c rfl (jw_c rfl (jw_c rfl (jw_c rfl (jw_c rfl (jw_c rfl (jw_c rfl (jw_c rfl (jw_c rfl (jw_c rfl (jw_c rfl (jw_c rfl (jw_c rfl (jw_c rfl (jw_c (jq_h hk) jw_n))))))))))))))))))) ((by decide +kernel : ∀ k, k < 8 → va_nd [0, 1, 15, 16, 17, 18, 19, 20, 21, 22, 23, 24, 25, 26, 3, 4, 5, 6, 7 + k] = true) k hk) (fun _ => rfl)
  refine ⟨_, _, _, (Nat.le_of_ble_eq_true rfl), jq_bC, jq_bS, hM.weak ?_⟩
  rintro vR u ⟨z, rfl, hv⟩
  refine ⟨(mW dA o Q (nI ([] : List Nat).length) (nI r.length) 0 (-1) u.1.2.2.2 (nI t.length) (-1) (nI (js_pr 32 v).length) 0 (.ref (Q 0)) ft fr u.2.1 (upd ln k (nI (js_pr 32 v).length)) (upd th k 1) (jc_up f k u.2.2) u.1.1 (max M1 (js_cnt 32 v)) (max Mu1 (js_uu 32 v)) u.1.2.1 u.1.2.2.1 (js_cnt 32 v) (js_uu 32 v) A2 M2 Mu2 F2 G2 c2 u2, jq_C (max M1 (js_cnt 32 v)) (max Mu1 (js_uu 32 v)) M2 Mu2, jq_S (max M1 (js_cnt 32 v)) (max Mu1 (js_uu 32 v)) M2 Mu2), ⟨⟨z, rfl, hv.1⟩, ⟨u.1.2.2.2, (nI t.length), (-1), (nI (js_pr 32 v).length), 0, (.ref (Q 0)), ft, fr, u.2.1, (upd ln k (nI (js_pr 32 v).length)), (upd th k 1), (jc_up f k u.2.2), u.1.1, (max M1 (js_cnt 32 v)), (max Mu1 (js_uu 32 v)), u.1.2.1, u.1.2.2.1, (js_cnt 32 v), (js_uu 32 v), A2, M2, Mu2, F2, G2, c2, u2, rfl, (fun j h => absurd h (Nat.not_lt_zero j)), g2, jq_up g3 hv.2.2, jq_m4 m1 ok1 ol2, m2, rfl, rfl⟩, jq_1C (Nat.zero_le _), jq_1S (Nat.zero_le _)⟩, ?_⟩
  exact (jq_new hk).symm
