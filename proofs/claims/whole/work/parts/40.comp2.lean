/-- no two members of an object have one name -/
def js_dist : (n : Nat) → js_J n → Prop
  | 0, _ => True
  | _ + 1, Sum.inl _ => True
  | n + 1, Sum.inr (b, l) => (b = true → ∀ (i j : Nat) (q q2 : List Nat × js_J n), l[i]? = some q → l[j]? = some q2 → js_pq q.1 = js_pq q2.1 → i = j) ∧ ∀ q ∈ l, js_dist n q.2
theorem js_bool_no {P : Prop} (h : ¬ P) : (fun (r : Int32) (_ : Unit) => js_bool P r) = fun r _ => r = 0 := by
  funext r _
  exact propext ⟨fun z => z.elim (fun q => absurd q.2 h) (fun q => q.1), fun z => Or.inr ⟨z, h⟩⟩
theorem js_ent_fb {t t2 : List Nat} {vs vt : List js_E} {k k2 : Nat} {x x2 : List Nat} (hb : js_by t) (hb2 : js_by t2) (h : js_ent t vs k x) (h2 : js_ent t2 vt k2 x2) (e : x = x2) : js_b t (js_en vs k).1 = js_b t2 (js_en vt k2).1 := by
  obtain ⟨-, a2, a3, a4⟩ := h
  obtain ⟨-, b2, b3, b4⟩ := h2
  rw [← a4, ← b4] at e
  have q := ((js_eqb_sl hb hb2 (by omega) (by omega)).mpr e).2 0 (by omega)
  exact q
theorem js_opn_eq {b b2 : Bool} (h : nI (js_opn b) = nI (js_opn b2)) : b = b2 := by
  cases b <;> cases b2 <;> first | rfl | exact absurd h (by decide)
/-- entries that are containers have the leaf's bytes nowhere -/
theorem js_opn_ne (b : Bool) : nI (js_opn b) = 91 ∨ nI (js_opn b) = 123 := by cases b <;> decide
theorem js_nmD {α : Type} {l : List (List Nat × α)} {j : Nat} {q : List Nat × α} (h : l[j]? = some q) : (l.map (fun q => q.1) |>.getD j []) = q.1 := by rw [List.getD_eq_getElem?_getD, List.getElem?_map, h]; rfl
def js_at2 {α : Type} (P : α → α → Prop) (l l2 : List α) (i j : Nat) : Prop := ∃ q q2, l[i]? = some q ∧ l2[j]? = some q2 ∧ P q q2
theorem js_at2_of {α : Type} {P : α → α → Prop} {l l2 : List α} {i j : Nat} {q q2 : α} (h : l[i]? = some q) (h2 : l2[j]? = some q2) : js_at2 P l l2 i j = P q q2 := propext ⟨fun ⟨a, b, ha, hb, z⟩ => by rw [h] at ha; rw [h2] at hb; cases ha; cases hb; exact z, fun z => ⟨q, q2, h, h2, z⟩⟩
theorem js_some {α : Type} {l : List α} {i : Nat} (h : i < l.length) : ∃ q, l[i]? = some q ∧ q ∈ l := ⟨l[i], List.getElem?_eq_getElem h, List.getElem_mem h⟩

set_option maxHeartbeats 4000000 in
theorem c_Cp_leaf {l : Launch} {D : va_G} {dA : Nat → ClassId} {zz : (Nat → Nat) × (Nat → Nat)} (q : Nat) (o s1 s2 s3 s4 s5 s6 s7 th b N : Nat) (fS fE fF fC fN fH fO f : Nat → Int32) (t : List Nat) (cc cd ce : Int32) (vs : List js_E) (ob : List Nat) (p r1 r2 r3 r4 r5 r6 r7 th2 b2 N2 : Nat) (gS gE gF gC gN gH gO f2 : Nat → Int32) (t2 : List Nat) (dc dd de : Int32) (vt : List js_E) (oc : List Nat) (k k2 d m : Nat) (x y : js_L) (hl : t.length ≤ N) (hN : N < 2 ^ 29) (ht : js_tx f t) (hl2 : t2.length ≤ N2) (hN2 : N2 < 2 ^ 29) (ht2 : js_tx f2 t2) (hO : js_OL vs ob fS fE fF fC fN fH fO) (hO2 : js_OL vt oc gS gE gF gC gN gH gO) (h1 : js_ORl t vs k x) (h2 : js_ORl t2 vt k2 y) (hd : d ≤ 32) : jv_M l D dA zz y_Cp_equal b_Cp_equal 5 (some (FieldType.boolean)) (m + 4) [.ref q, .int (nI (k)), .int (nI (k2)), .int (nI (d))] [(q, .inr (4, [.ref o, .ref p])), (o, .inr (3, [.ref s1, .ref s2, .ref s3, .ref s4, .ref s5, .ref s6, .ref s7, .ref th, .int cc, .int cd, .int ce])), (s1, .inl (dA 1, 2048, .inl fS)), (s2, .inl (dA 1, 2048, .inl fE)), (s3, .inl (dA 1, 2048, .inl fF)), (s4, .inl (dA 1, 2048, .inl fC)), (s5, .inl (dA 1, 2048, .inl fN)), (s6, .inl (dA 1, 2048, .inl fH)), (s7, .inl (dA 1, 32, .inl fO)), (p, .inr (3, [.ref r1, .ref r2, .ref r3, .ref r4, .ref r5, .ref r6, .ref r7, .ref th2, .int dc, .int dd, .int de])), (r1, .inl (dA 1, 2048, .inl gS)), (r2, .inl (dA 1, 2048, .inl gE)), (r3, .inl (dA 1, 2048, .inl gF)), (r4, .inl (dA 1, 2048, .inl gC)), (r5, .inl (dA 1, 2048, .inl gN)), (r6, .inl (dA 1, 2048, .inl gH)), (r7, .inl (dA 1, 32, .inl gO)), (th, .inr (0, [.ref b, .int (nI t.length)])), (b, .inl (dA 0, N, .inl f)), (th2, .inr (0, [.ref b2, .int (nI t2.length)])), (b2, .inl (dA 0, N2, .inl f2))] (jv_pi fun r (_ : Unit) => js_bool (js_pl x = js_pl y) r) (fun _ => [(q, .inr (4, [.ref o, .ref p])), (o, .inr (3, [.ref s1, .ref s2, .ref s3, .ref s4, .ref s5, .ref s6, .ref s7, .ref th, .int cc, .int cd, .int ce])), (s1, .inl (dA 1, 2048, .inl fS)), (s2, .inl (dA 1, 2048, .inl fE)), (s3, .inl (dA 1, 2048, .inl fF)), (s4, .inl (dA 1, 2048, .inl fC)), (s5, .inl (dA 1, 2048, .inl fN)), (s6, .inl (dA 1, 2048, .inl fH)), (s7, .inl (dA 1, 32, .inl fO)), (p, .inr (3, [.ref r1, .ref r2, .ref r3, .ref r4, .ref r5, .ref r6, .ref r7, .ref th2, .int dc, .int dd, .int de])), (r1, .inl (dA 1, 2048, .inl gS)), (r2, .inl (dA 1, 2048, .inl gE)), (r3, .inl (dA 1, 2048, .inl gF)), (r4, .inl (dA 1, 2048, .inl gC)), (r5, .inl (dA 1, 2048, .inl gN)), (r6, .inl (dA 1, 2048, .inl gH)), (r7, .inl (dA 1, 32, .inl gO)), (th, .inr (0, [.ref b, .int (nI t.length)])), (b, .inl (dA 0, N, .inl f)), (th2, .inr (0, [.ref b2, .int (nI t2.length)])), (b2, .inl (dA 0, N2, .inl f2))]) 0 0 := by
  obtain ⟨e1, e2, e3, e4⟩ := h1
  obtain ⟨g1, g2, g3, g4⟩ := h2
  by_cases hb : js_b t (js_en vs k).1 = js_b t2 (js_en vt k2).1
  · exact c_Cp_equal_leaf q o s1 s2 s3 s4 s5 s6 s7 th b N fS fE fF fC fN fH fO f t cc cd ce vs ob p r1 r2 r3 r4 r5 r6 r7 th2 b2 N2 gS gE gF gC gN gH gO f2 t2 dc dd de vt oc k k2 d m _ _ hl hN ht hl2 hN2 ht2 hO hO2 e1 g1 hd hb (by rw [e2, g2]) e3 e4
  · rw [js_bool_no (fun e => hb (js_ent_fb ht.by ht2.by e1 g1 e))]
    exact c_Cp_equal_ne q o s1 s2 s3 s4 s5 s6 s7 th b N fS fE fF fC fN fH fO f t cc cd ce vs ob p r1 r2 r3 r4 r5 r6 r7 th2 b2 N2 gS gE gF gC gN gH gO f2 t2 dc dd de vt oc k k2 d m _ _ hl hN ht hl2 hN2 ht2 hO hO2 e1 g1 hd (fun z => hb z.1) (by omega) (by omega)

set_option maxHeartbeats 4000000 in
/-- Comparison.equal: are the two values the same -/
theorem c_Cp_eq {l : Launch} {D : va_G} {dA : Nat → ClassId} {zz : (Nat → Nat) × (Nat → Nat)} (q : Nat) (o s1 s2 s3 s4 s5 s6 s7 th b N : Nat) (fS fE fF fC fN fH fO f : Nat → Int32) (t : List Nat) (cc cd ce : Int32) (vs : List js_E) (ob : List Nat) (p r1 r2 r3 r4 r5 r6 r7 th2 b2 N2 : Nat) (gS gE gF gC gN gH gO f2 : Nat → Int32) (t2 : List Nat) (dc dd de : Int32) (vt : List js_E) (oc : List Nat) (hl : t.length ≤ N) (hN : N < 2 ^ 29) (ht : js_tx f t) (hl2 : t2.length ≤ N2) (hN2 : N2 < 2 ^ 29) (ht2 : js_tx f2 t2) (hO : js_OL vs ob fS fE fF fC fN fH fO) (hO2 : js_OL vt oc gS gE gF gC gN gH gO) : ∀ (n : Nat) (v w : js_J n) (k k2 d : Nat), js_OR t vs n v k → js_OR t2 vt n w k2 → js_dist n w → d + n = 32 → jv_M l D dA zz y_Cp_equal b_Cp_equal 5 (some (FieldType.boolean)) (2 * n + 2 + 4) [.ref q, .int (nI (k)), .int (nI (k2)), .int (nI (d))] [(q, .inr (4, [.ref o, .ref p])), (o, .inr (3, [.ref s1, .ref s2, .ref s3, .ref s4, .ref s5, .ref s6, .ref s7, .ref th, .int cc, .int cd, .int ce])), (s1, .inl (dA 1, 2048, .inl fS)), (s2, .inl (dA 1, 2048, .inl fE)), (s3, .inl (dA 1, 2048, .inl fF)), (s4, .inl (dA 1, 2048, .inl fC)), (s5, .inl (dA 1, 2048, .inl fN)), (s6, .inl (dA 1, 2048, .inl fH)), (s7, .inl (dA 1, 32, .inl fO)), (p, .inr (3, [.ref r1, .ref r2, .ref r3, .ref r4, .ref r5, .ref r6, .ref r7, .ref th2, .int dc, .int dd, .int de])), (r1, .inl (dA 1, 2048, .inl gS)), (r2, .inl (dA 1, 2048, .inl gE)), (r3, .inl (dA 1, 2048, .inl gF)), (r4, .inl (dA 1, 2048, .inl gC)), (r5, .inl (dA 1, 2048, .inl gN)), (r6, .inl (dA 1, 2048, .inl gH)), (r7, .inl (dA 1, 32, .inl gO)), (th, .inr (0, [.ref b, .int (nI t.length)])), (b, .inl (dA 0, N, .inl f)), (th2, .inr (0, [.ref b2, .int (nI t2.length)])), (b2, .inl (dA 0, N2, .inl f2))] (jv_pi fun r (_ : Unit) => js_bool (js_same n v w) r) (fun _ => [(q, .inr (4, [.ref o, .ref p])), (o, .inr (3, [.ref s1, .ref s2, .ref s3, .ref s4, .ref s5, .ref s6, .ref s7, .ref th, .int cc, .int cd, .int ce])), (s1, .inl (dA 1, 2048, .inl fS)), (s2, .inl (dA 1, 2048, .inl fE)), (s3, .inl (dA 1, 2048, .inl fF)), (s4, .inl (dA 1, 2048, .inl fC)), (s5, .inl (dA 1, 2048, .inl fN)), (s6, .inl (dA 1, 2048, .inl fH)), (s7, .inl (dA 1, 32, .inl fO)), (p, .inr (3, [.ref r1, .ref r2, .ref r3, .ref r4, .ref r5, .ref r6, .ref r7, .ref th2, .int dc, .int dd, .int de])), (r1, .inl (dA 1, 2048, .inl gS)), (r2, .inl (dA 1, 2048, .inl gE)), (r3, .inl (dA 1, 2048, .inl gF)), (r4, .inl (dA 1, 2048, .inl gC)), (r5, .inl (dA 1, 2048, .inl gN)), (r6, .inl (dA 1, 2048, .inl gH)), (r7, .inl (dA 1, 32, .inl gO)), (th, .inr (0, [.ref b, .int (nI t.length)])), (b, .inl (dA 0, N, .inl f)), (th2, .inr (0, [.ref b2, .int (nI t2.length)])), (b2, .inl (dA 0, N2, .inl f2))]) 0 0
  | 0, v, w, k, k2, d, h1, h2, _, hd => c_Cp_leaf q o s1 s2 s3 s4 s5 s6 s7 th b N fS fE fF fC fN fH fO f t cc cd ce vs ob p r1 r2 r3 r4 r5 r6 r7 th2 b2 N2 gS gE gF gC gN gH gO f2 t2 dc dd de vt oc k k2 d 2 v w hl hN ht hl2 hN2 ht2 hO hO2 h1 h2 (by omega)
  | n + 1, Sum.inl x, Sum.inl y, k, k2, d, h1, h2, _, hd => c_Cp_leaf q o s1 s2 s3 s4 s5 s6 s7 th b N fS fE fF fC fN fH fO f t cc cd ce vs ob p r1 r2 r3 r4 r5 r6 r7 th2 b2 N2 gS gE gF gC gN gH gO f2 t2 dc dd de vt oc k k2 d (2 * (n + 1) + 2) x y hl hN ht hl2 hN2 ht2 hO hO2 h1 h2 (by omega)
  | n + 1, Sum.inl x, Sum.inr (bo, l2), k, k2, d, h1, h2, _, hd => by
    obtain ⟨e1, e2, e3, e4⟩ := h1
    obtain ⟨g1, g2, g3, g4, g5, g6, g7⟩ := h2
    rw [js_bool_no (show ¬ js_same (n + 1) (Sum.inl x) (Sum.inr (bo, l2)) from id)]
    exact c_Cp_equal_ne q o s1 s2 s3 s4 s5 s6 s7 th b N fS fE fF fC fN fH fO f t cc cd ce vs ob p r1 r2 r3 r4 r5 r6 r7 th2 b2 N2 gS gE gF gC gN gH gO f2 t2 dc dd de vt oc k k2 d (2 * (n + 1) + 2) _ _ hl hN ht hl2 hN2 ht2 hO hO2 e1 g1 (by omega) (fun z => by
      rw [g3] at z
      rcases js_opn_ne bo with q | q
      · exact e3 (z.1.trans q)
      · exact e4 (z.1.trans q)) (by omega) (by omega)
  | n + 1, Sum.inr (bo, l1), Sum.inl y, k, k2, d, h1, h2, _, hd => by
    obtain ⟨e1, e2, e3, e4, e5, e6, e7⟩ := h1
    obtain ⟨g1, g2, g3, g4⟩ := h2
    rw [js_bool_no (show ¬ js_same (n + 1) (Sum.inr (bo, l1)) (Sum.inl y) from id)]
    exact c_Cp_equal_ne q o s1 s2 s3 s4 s5 s6 s7 th b N fS fE fF fC fN fH fO f t cc cd ce vs ob p r1 r2 r3 r4 r5 r6 r7 th2 b2 N2 gS gE gF gC gN gH gO f2 t2 dc dd de vt oc k k2 d (2 * (n + 1) + 2) _ _ hl hN ht hl2 hN2 ht2 hO hO2 e1 g1 (by omega) (fun z => by
      rw [e3] at z
      rcases js_opn_ne bo with q | q
      · exact g3 (z.1.symm.trans q)
      · exact g4 (z.1.symm.trans q)) (by omega) (by omega)
  | n + 1, Sum.inr (bo, l1), Sum.inr (bo2, l2), k, k2, d, h1, h2, hdi, hd => by
    obtain ⟨e1, e2, e3, e4, e5, e6, e7⟩ := h1
    obtain ⟨g1, g2, g3, g4, g5, g6, g7⟩ := h2
    have hv := hO.1
    have hv2 := hO2.1
    by_cases hne : bo = bo2 ∧ l1.length = l2.length
    · obtain ⟨hbb, hll⟩ := hne
      subst hbb
      have k1 : ∀ j, j < l1.length → js_kid vs k j < vs.length := fun j hj => by
        obtain ⟨q1, z1, -⟩ := js_some hj
        have := (e7 j q1 z1).1
        omega
      have kf2 : ∀ j, j < l1.length → js_kid vt k2 j < (js_en vt k2).2.2.1 := fun j hj => by
        obtain ⟨q1, z1, -⟩ := js_some (show j < l2.length by omega)
        exact (g7 j q1 z1).1
      have hM : ∀ j y, j < l1.length → y < l1.length → jv_M l D dA zz y_Cp_equal b_Cp_equal 5 (some (FieldType.boolean)) (2 * n + 2 + 4) [.ref q, .int (nI (js_kid vs k j)), .int (nI (js_kid vt k2 y)), .int (nI (d + 1))] [(q, .inr (4, [.ref o, .ref p])), (o, .inr (3, [.ref s1, .ref s2, .ref s3, .ref s4, .ref s5, .ref s6, .ref s7, .ref th, .int cc, .int cd, .int ce])), (s1, .inl (dA 1, 2048, .inl fS)), (s2, .inl (dA 1, 2048, .inl fE)), (s3, .inl (dA 1, 2048, .inl fF)), (s4, .inl (dA 1, 2048, .inl fC)), (s5, .inl (dA 1, 2048, .inl fN)), (s6, .inl (dA 1, 2048, .inl fH)), (s7, .inl (dA 1, 32, .inl fO)), (p, .inr (3, [.ref r1, .ref r2, .ref r3, .ref r4, .ref r5, .ref r6, .ref r7, .ref th2, .int dc, .int dd, .int de])), (r1, .inl (dA 1, 2048, .inl gS)), (r2, .inl (dA 1, 2048, .inl gE)), (r3, .inl (dA 1, 2048, .inl gF)), (r4, .inl (dA 1, 2048, .inl gC)), (r5, .inl (dA 1, 2048, .inl gN)), (r6, .inl (dA 1, 2048, .inl gH)), (r7, .inl (dA 1, 32, .inl gO)), (th, .inr (0, [.ref b, .int (nI t.length)])), (b, .inl (dA 0, N, .inl f)), (th2, .inr (0, [.ref b2, .int (nI t2.length)])), (b2, .inl (dA 0, N2, .inl f2))] (jv_pi fun r (_ : Unit) => js_bool (js_at2 (fun q q2 => js_same n q.2 q2.2) l1 l2 j y) r) (fun _ => [(q, .inr (4, [.ref o, .ref p])), (o, .inr (3, [.ref s1, .ref s2, .ref s3, .ref s4, .ref s5, .ref s6, .ref s7, .ref th, .int cc, .int cd, .int ce])), (s1, .inl (dA 1, 2048, .inl fS)), (s2, .inl (dA 1, 2048, .inl fE)), (s3, .inl (dA 1, 2048, .inl fF)), (s4, .inl (dA 1, 2048, .inl fC)), (s5, .inl (dA 1, 2048, .inl fN)), (s6, .inl (dA 1, 2048, .inl fH)), (s7, .inl (dA 1, 32, .inl fO)), (p, .inr (3, [.ref r1, .ref r2, .ref r3, .ref r4, .ref r5, .ref r6, .ref r7, .ref th2, .int dc, .int dd, .int de])), (r1, .inl (dA 1, 2048, .inl gS)), (r2, .inl (dA 1, 2048, .inl gE)), (r3, .inl (dA 1, 2048, .inl gF)), (r4, .inl (dA 1, 2048, .inl gC)), (r5, .inl (dA 1, 2048, .inl gN)), (r6, .inl (dA 1, 2048, .inl gH)), (r7, .inl (dA 1, 32, .inl gO)), (th, .inr (0, [.ref b, .int (nI t.length)])), (b, .inl (dA 0, N, .inl f)), (th2, .inr (0, [.ref b2, .int (nI t2.length)])), (b2, .inl (dA 0, N2, .inl f2))]) 0 0 := fun j y hj hy => by
        obtain ⟨q1, z1, -⟩ := js_some hj
        obtain ⟨q2, z2, m2⟩ := js_some (show y < l2.length by omega)
        rw [js_at2_of z1 z2]
        exact c_Cp_eq q o s1 s2 s3 s4 s5 s6 s7 th b N fS fE fF fC fN fH fO f t cc cd ce vs ob p r1 r2 r3 r4 r5 r6 r7 th2 b2 N2 gS gE gF gC gN gH gO f2 t2 dc dd de vt oc hl hN ht hl2 hN2 ht2 hO hO2 n q1.2 q2.2 _ _ (d + 1) (e7 j q1 z1).2.1 (g7 y q2 z2).2.1 (hdi.2 q2 m2) (by omega)
      cases bo with
      | false =>
        have hE : (∀ j, j < l1.length → js_at2 (fun q q2 => js_same n q.2 q2.2) l1 l2 j j) = js_same (n + 1) (Sum.inr (false, l1)) (Sum.inr (false, l2)) := by
          refine propext ⟨fun h => ⟨rfl, hll, (fun z => by cases z), fun _ i q q2 hq hq2 => ?_⟩, fun h j hj => ?_⟩
          · have hi : i < l1.length := by
              rcases Nat.lt_or_ge i l1.length with z | z
              · exact z
              · rw [List.getElem?_eq_none z] at hq; cases hq
            have := h i hi
            rw [js_at2_of hq hq2] at this
            exact this
          · obtain ⟨q1, z1, -⟩ := js_some hj
            obtain ⟨q2, z2, -⟩ := js_some (show j < l2.length by omega)
            exact ⟨q1, q2, z1, z2, h.2.2.2 rfl j q1 q2 z1 z2⟩
        rw [← hE]
        exact c_Cp_equal_arr q o s1 s2 s3 s4 s5 s6 s7 th b N fS fE fF fC fN fH fO f t cc cd ce vs ob p r1 r2 r3 r4 r5 r6 r7 th2 b2 N2 gS gE gF gC gN gH gO f2 t2 dc dd de vt oc k k2 d (2 * (n + 1) + 2) _ _ _ hl hN ht hl2 hN2 ht2 hO hO2 e1 g1 (by omega) (by rw [e3, g3]) (by rw [e2, g2, hll]) e3
          (c_Cp_equalItems q o s1 s2 s3 s4 s5 s6 s7 th b N fS fE fF fC fN fH fO f t cc cd ce vs ob p r1 r2 r3 r4 r5 r6 r7 th2 b2 N2 gS gE gF gC gN gH gO f2 t2 dc dd de vt oc k k2 l1.length d (2 * n + 2) _ hl hN ht hl2 hN2 ht2 hO hO2 e2 e1.1 k1 g1.1 e5 (fun j hj => by have := kf2 j hj; omega) (fun j hj => hM j j hj hj))
      | true =>
        have hE : (∀ j, j < l1.length → ∃ y, y < l1.length ∧ (js_pq (l1.map (fun q => q.1) |>.getD j [])) = (js_pq (l2.map (fun q => q.1) |>.getD y [])) ∧ js_at2 (fun q q2 => js_same n q.2 q2.2) l1 l2 j y) = js_same (n + 1) (Sum.inr (true, l1)) (Sum.inr (true, l2)) := by
          refine propext ⟨fun h => ⟨rfl, hll, fun _ q hq => ?_, (fun z => by cases z)⟩, fun h j hj => ?_⟩
          · obtain ⟨i, hi, hqi⟩ := List.getElem_of_mem hq
            have z1 : l1[i]? = some q := by rw [List.getElem?_eq_getElem hi, hqi]
            obtain ⟨y, hy, hnm, hsm⟩ := h i hi
            obtain ⟨q2, z2, m2⟩ := js_some (show y < l2.length by omega)
            rw [js_at2_of z1 z2] at hsm
            rw [js_nmD z1, js_nmD z2] at hnm
            exact ⟨q2, m2, hnm, hsm⟩
          · obtain ⟨q1, z1, m1⟩ := js_some hj
            obtain ⟨q2, m2, hnm, hsm⟩ := h.2.2.1 rfl q1 m1
            obtain ⟨y, hy, hqy⟩ := List.getElem_of_mem m2
            have z2 : l2[y]? = some q2 := by rw [List.getElem?_eq_getElem hy, hqy]
            exact ⟨y, by omega, by rw [js_nmD z1, js_nmD z2]; exact hnm, q1, q2, z1, z2, hsm⟩
        rw [← hE]
        exact c_Cp_equal_obj q o s1 s2 s3 s4 s5 s6 s7 th b N fS fE fF fC fN fH fO f t cc cd ce vs ob p r1 r2 r3 r4 r5 r6 r7 th2 b2 N2 gS gE gF gC gN gH gO f2 t2 dc dd de vt oc k k2 d (2 * (n + 1) + 2) _ _ _ hl hN ht hl2 hN2 ht2 hO hO2 e1 g1 (by omega) (by rw [e3, g3]) (by rw [e2, g2, hll]) e3
          (c_Cp_equalMembers q o s1 s2 s3 s4 s5 s6 s7 th b N fS fE fF fC fN fH fO f t cc cd ce vs ob p r1 r2 r3 r4 r5 r6 r7 th2 b2 N2 gS gE gF gC gN gH gO f2 t2 dc dd de vt oc k k2 l1.length d (2 * n + 2) (fun j => js_pq (l1.map (fun q => q.1) |>.getD j [])) (fun j => js_pq (l2.map (fun q => q.1) |>.getD j [])) _ hl hN ht hl2 hN2 ht2 hO hO2 e2 e1.1 k1 (by rw [g2, hll]) (by rw [hll]; exact g6) g4 g1.1 e5 kf2
            (fun j hj => by
              obtain ⟨q1, z1, -⟩ := js_some hj
              show js_onm _ _ _ (js_pq _)
              rw [js_nmD z1]
              exact (e7 j q1 z1).2.2 rfl)
            (fun j hj => by
              obtain ⟨q1, z1, -⟩ := js_some (show j < l2.length by omega)
              show js_onm _ _ _ (js_pq _)
              rw [js_nmD z1]
              exact (g7 j q1 z1).2.2 rfl)
            (fun y z hy hz e => by
              obtain ⟨q1, z1, -⟩ := js_some (show y < l2.length by omega)
              obtain ⟨q2, z2, -⟩ := js_some (show z < l2.length by omega)
              rw [js_nmD z1, js_nmD z2] at e
              exact hdi.1 rfl y z q1 q2 z1 z2 e) hM)
    · rw [js_bool_no (show ¬ js_same (n + 1) (Sum.inr (bo, l1)) (Sum.inr (bo2, l2)) from fun h => hne ⟨h.1, h.2.1⟩)]
      exact c_Cp_equal_ne q o s1 s2 s3 s4 s5 s6 s7 th b N fS fE fF fC fN fH fO f t cc cd ce vs ob p r1 r2 r3 r4 r5 r6 r7 th2 b2 N2 gS gE gF gC gN gH gO f2 t2 dc dd de vt oc k k2 d (2 * (n + 1) + 2) _ _ hl hN ht hl2 hN2 ht2 hO hO2 e1 g1 (by omega) (fun z => by
        rw [e3, g3, e2, g2] at z
        exact hne ⟨js_opn_eq z.1, z.2⟩) (by omega) (by omega)

set_option maxHeartbeats 4000000 in
theorem c_Cp_leaf_s {l : Launch} {D : va_G} {dA : Nat → ClassId} {zz : (Nat → Nat) × (Nat → Nat)} (q : Nat) (o s1 s2 s3 s4 s5 s6 s7 th b N : Nat) (fS fE fF fC fN fH fO f : Nat → Int32) (t : List Nat) (cc cd ce : Int32) (vs : List js_E) (ob : List Nat) (p r1 r2 r3 r4 r5 r6 r7 : Nat) (gS gE gF gC gN gH gO : Nat → Int32) (dc dd de : Int32) (vt : List js_E) (oc : List Nat) (k k2 d m : Nat) (x y : js_L) (hl : t.length ≤ N) (hN : N < 2 ^ 29) (ht : js_tx f t) (hO : js_OL vs ob fS fE fF fC fN fH fO) (hO2 : js_OL vt oc gS gE gF gC gN gH gO) (h1 : js_ORl t vs k x) (h2 : js_ORl t vt k2 y) (hd : d ≤ 32) : jv_M l D dA zz y_Cp_equal b_Cp_equal 5 (some (FieldType.boolean)) (m + 4) [.ref q, .int (nI (k)), .int (nI (k2)), .int (nI (d))] [(q, .inr (4, [.ref o, .ref p])), (o, .inr (3, [.ref s1, .ref s2, .ref s3, .ref s4, .ref s5, .ref s6, .ref s7, .ref th, .int cc, .int cd, .int ce])), (s1, .inl (dA 1, 2048, .inl fS)), (s2, .inl (dA 1, 2048, .inl fE)), (s3, .inl (dA 1, 2048, .inl fF)), (s4, .inl (dA 1, 2048, .inl fC)), (s5, .inl (dA 1, 2048, .inl fN)), (s6, .inl (dA 1, 2048, .inl fH)), (s7, .inl (dA 1, 32, .inl fO)), (p, .inr (3, [.ref r1, .ref r2, .ref r3, .ref r4, .ref r5, .ref r6, .ref r7, .ref th, .int dc, .int dd, .int de])), (r1, .inl (dA 1, 2048, .inl gS)), (r2, .inl (dA 1, 2048, .inl gE)), (r3, .inl (dA 1, 2048, .inl gF)), (r4, .inl (dA 1, 2048, .inl gC)), (r5, .inl (dA 1, 2048, .inl gN)), (r6, .inl (dA 1, 2048, .inl gH)), (r7, .inl (dA 1, 32, .inl gO)), (th, .inr (0, [.ref b, .int (nI t.length)])), (b, .inl (dA 0, N, .inl f))] (jv_pi fun r (_ : Unit) => js_bool (js_pl x = js_pl y) r) (fun _ => [(q, .inr (4, [.ref o, .ref p])), (o, .inr (3, [.ref s1, .ref s2, .ref s3, .ref s4, .ref s5, .ref s6, .ref s7, .ref th, .int cc, .int cd, .int ce])), (s1, .inl (dA 1, 2048, .inl fS)), (s2, .inl (dA 1, 2048, .inl fE)), (s3, .inl (dA 1, 2048, .inl fF)), (s4, .inl (dA 1, 2048, .inl fC)), (s5, .inl (dA 1, 2048, .inl fN)), (s6, .inl (dA 1, 2048, .inl fH)), (s7, .inl (dA 1, 32, .inl fO)), (p, .inr (3, [.ref r1, .ref r2, .ref r3, .ref r4, .ref r5, .ref r6, .ref r7, .ref th, .int dc, .int dd, .int de])), (r1, .inl (dA 1, 2048, .inl gS)), (r2, .inl (dA 1, 2048, .inl gE)), (r3, .inl (dA 1, 2048, .inl gF)), (r4, .inl (dA 1, 2048, .inl gC)), (r5, .inl (dA 1, 2048, .inl gN)), (r6, .inl (dA 1, 2048, .inl gH)), (r7, .inl (dA 1, 32, .inl gO)), (th, .inr (0, [.ref b, .int (nI t.length)])), (b, .inl (dA 0, N, .inl f))]) 0 0 := by
  obtain ⟨e1, e2, e3, e4⟩ := h1
  obtain ⟨g1, g2, g3, g4⟩ := h2
  by_cases hb : js_b t (js_en vs k).1 = js_b t (js_en vt k2).1
  · exact c_Cp_equal_leaf_s q o s1 s2 s3 s4 s5 s6 s7 th b N fS fE fF fC fN fH fO f t cc cd ce vs ob p r1 r2 r3 r4 r5 r6 r7 gS gE gF gC gN gH gO dc dd de vt oc k k2 d m _ _ hl hN ht hO hO2 e1 g1 hd hb (by rw [e2, g2]) e3 e4
  · rw [js_bool_no (fun e => hb (js_ent_fb ht.by ht.by e1 g1 e))]
    exact c_Cp_equal_ne_s q o s1 s2 s3 s4 s5 s6 s7 th b N fS fE fF fC fN fH fO f t cc cd ce vs ob p r1 r2 r3 r4 r5 r6 r7 gS gE gF gC gN gH gO dc dd de vt oc k k2 d m _ _ hl hN ht hO hO2 e1 g1 hd (fun z => hb z.1) (by omega) (by omega)

set_option maxHeartbeats 4000000 in
/-- Comparison.equal: are the two values the same -/
theorem c_Cp_eq_s {l : Launch} {D : va_G} {dA : Nat → ClassId} {zz : (Nat → Nat) × (Nat → Nat)} (q : Nat) (o s1 s2 s3 s4 s5 s6 s7 th b N : Nat) (fS fE fF fC fN fH fO f : Nat → Int32) (t : List Nat) (cc cd ce : Int32) (vs : List js_E) (ob : List Nat) (p r1 r2 r3 r4 r5 r6 r7 : Nat) (gS gE gF gC gN gH gO : Nat → Int32) (dc dd de : Int32) (vt : List js_E) (oc : List Nat) (hl : t.length ≤ N) (hN : N < 2 ^ 29) (ht : js_tx f t) (hO : js_OL vs ob fS fE fF fC fN fH fO) (hO2 : js_OL vt oc gS gE gF gC gN gH gO) : ∀ (n : Nat) (v w : js_J n) (k k2 d : Nat), js_OR t vs n v k → js_OR t vt n w k2 → js_dist n w → d + n = 32 → jv_M l D dA zz y_Cp_equal b_Cp_equal 5 (some (FieldType.boolean)) (2 * n + 2 + 4) [.ref q, .int (nI (k)), .int (nI (k2)), .int (nI (d))] [(q, .inr (4, [.ref o, .ref p])), (o, .inr (3, [.ref s1, .ref s2, .ref s3, .ref s4, .ref s5, .ref s6, .ref s7, .ref th, .int cc, .int cd, .int ce])), (s1, .inl (dA 1, 2048, .inl fS)), (s2, .inl (dA 1, 2048, .inl fE)), (s3, .inl (dA 1, 2048, .inl fF)), (s4, .inl (dA 1, 2048, .inl fC)), (s5, .inl (dA 1, 2048, .inl fN)), (s6, .inl (dA 1, 2048, .inl fH)), (s7, .inl (dA 1, 32, .inl fO)), (p, .inr (3, [.ref r1, .ref r2, .ref r3, .ref r4, .ref r5, .ref r6, .ref r7, .ref th, .int dc, .int dd, .int de])), (r1, .inl (dA 1, 2048, .inl gS)), (r2, .inl (dA 1, 2048, .inl gE)), (r3, .inl (dA 1, 2048, .inl gF)), (r4, .inl (dA 1, 2048, .inl gC)), (r5, .inl (dA 1, 2048, .inl gN)), (r6, .inl (dA 1, 2048, .inl gH)), (r7, .inl (dA 1, 32, .inl gO)), (th, .inr (0, [.ref b, .int (nI t.length)])), (b, .inl (dA 0, N, .inl f))] (jv_pi fun r (_ : Unit) => js_bool (js_same n v w) r) (fun _ => [(q, .inr (4, [.ref o, .ref p])), (o, .inr (3, [.ref s1, .ref s2, .ref s3, .ref s4, .ref s5, .ref s6, .ref s7, .ref th, .int cc, .int cd, .int ce])), (s1, .inl (dA 1, 2048, .inl fS)), (s2, .inl (dA 1, 2048, .inl fE)), (s3, .inl (dA 1, 2048, .inl fF)), (s4, .inl (dA 1, 2048, .inl fC)), (s5, .inl (dA 1, 2048, .inl fN)), (s6, .inl (dA 1, 2048, .inl fH)), (s7, .inl (dA 1, 32, .inl fO)), (p, .inr (3, [.ref r1, .ref r2, .ref r3, .ref r4, .ref r5, .ref r6, .ref r7, .ref th, .int dc, .int dd, .int de])), (r1, .inl (dA 1, 2048, .inl gS)), (r2, .inl (dA 1, 2048, .inl gE)), (r3, .inl (dA 1, 2048, .inl gF)), (r4, .inl (dA 1, 2048, .inl gC)), (r5, .inl (dA 1, 2048, .inl gN)), (r6, .inl (dA 1, 2048, .inl gH)), (r7, .inl (dA 1, 32, .inl gO)), (th, .inr (0, [.ref b, .int (nI t.length)])), (b, .inl (dA 0, N, .inl f))]) 0 0
  | 0, v, w, k, k2, d, h1, h2, _, hd => c_Cp_leaf_s q o s1 s2 s3 s4 s5 s6 s7 th b N fS fE fF fC fN fH fO f t cc cd ce vs ob p r1 r2 r3 r4 r5 r6 r7 gS gE gF gC gN gH gO dc dd de vt oc k k2 d 2 v w hl hN ht hO hO2 h1 h2 (by omega)
  | n + 1, Sum.inl x, Sum.inl y, k, k2, d, h1, h2, _, hd => c_Cp_leaf_s q o s1 s2 s3 s4 s5 s6 s7 th b N fS fE fF fC fN fH fO f t cc cd ce vs ob p r1 r2 r3 r4 r5 r6 r7 gS gE gF gC gN gH gO dc dd de vt oc k k2 d (2 * (n + 1) + 2) x y hl hN ht hO hO2 h1 h2 (by omega)
  | n + 1, Sum.inl x, Sum.inr (bo, l2), k, k2, d, h1, h2, _, hd => by
    obtain ⟨e1, e2, e3, e4⟩ := h1
    obtain ⟨g1, g2, g3, g4, g5, g6, g7⟩ := h2
    rw [js_bool_no (show ¬ js_same (n + 1) (Sum.inl x) (Sum.inr (bo, l2)) from id)]
    exact c_Cp_equal_ne_s q o s1 s2 s3 s4 s5 s6 s7 th b N fS fE fF fC fN fH fO f t cc cd ce vs ob p r1 r2 r3 r4 r5 r6 r7 gS gE gF gC gN gH gO dc dd de vt oc k k2 d (2 * (n + 1) + 2) _ _ hl hN ht hO hO2 e1 g1 (by omega) (fun z => by
      rw [g3] at z
      rcases js_opn_ne bo with q | q
      · exact e3 (z.1.trans q)
      · exact e4 (z.1.trans q)) (by omega) (by omega)
  | n + 1, Sum.inr (bo, l1), Sum.inl y, k, k2, d, h1, h2, _, hd => by
    obtain ⟨e1, e2, e3, e4, e5, e6, e7⟩ := h1
    obtain ⟨g1, g2, g3, g4⟩ := h2
    rw [js_bool_no (show ¬ js_same (n + 1) (Sum.inr (bo, l1)) (Sum.inl y) from id)]
    exact c_Cp_equal_ne_s q o s1 s2 s3 s4 s5 s6 s7 th b N fS fE fF fC fN fH fO f t cc cd ce vs ob p r1 r2 r3 r4 r5 r6 r7 gS gE gF gC gN gH gO dc dd de vt oc k k2 d (2 * (n + 1) + 2) _ _ hl hN ht hO hO2 e1 g1 (by omega) (fun z => by
      rw [e3] at z
      rcases js_opn_ne bo with q | q
      · exact g3 (z.1.symm.trans q)
      · exact g4 (z.1.symm.trans q)) (by omega) (by omega)
  | n + 1, Sum.inr (bo, l1), Sum.inr (bo2, l2), k, k2, d, h1, h2, hdi, hd => by
    obtain ⟨e1, e2, e3, e4, e5, e6, e7⟩ := h1
    obtain ⟨g1, g2, g3, g4, g5, g6, g7⟩ := h2
    have hv := hO.1
    have hv2 := hO2.1
    by_cases hne : bo = bo2 ∧ l1.length = l2.length
    · obtain ⟨hbb, hll⟩ := hne
      subst hbb
      have k1 : ∀ j, j < l1.length → js_kid vs k j < vs.length := fun j hj => by
        obtain ⟨q1, z1, -⟩ := js_some hj
        have := (e7 j q1 z1).1
        omega
      have kf2 : ∀ j, j < l1.length → js_kid vt k2 j < (js_en vt k2).2.2.1 := fun j hj => by
        obtain ⟨q1, z1, -⟩ := js_some (show j < l2.length by omega)
        exact (g7 j q1 z1).1
      have hM : ∀ j y, j < l1.length → y < l1.length → jv_M l D dA zz y_Cp_equal b_Cp_equal 5 (some (FieldType.boolean)) (2 * n + 2 + 4) [.ref q, .int (nI (js_kid vs k j)), .int (nI (js_kid vt k2 y)), .int (nI (d + 1))] [(q, .inr (4, [.ref o, .ref p])), (o, .inr (3, [.ref s1, .ref s2, .ref s3, .ref s4, .ref s5, .ref s6, .ref s7, .ref th, .int cc, .int cd, .int ce])), (s1, .inl (dA 1, 2048, .inl fS)), (s2, .inl (dA 1, 2048, .inl fE)), (s3, .inl (dA 1, 2048, .inl fF)), (s4, .inl (dA 1, 2048, .inl fC)), (s5, .inl (dA 1, 2048, .inl fN)), (s6, .inl (dA 1, 2048, .inl fH)), (s7, .inl (dA 1, 32, .inl fO)), (p, .inr (3, [.ref r1, .ref r2, .ref r3, .ref r4, .ref r5, .ref r6, .ref r7, .ref th, .int dc, .int dd, .int de])), (r1, .inl (dA 1, 2048, .inl gS)), (r2, .inl (dA 1, 2048, .inl gE)), (r3, .inl (dA 1, 2048, .inl gF)), (r4, .inl (dA 1, 2048, .inl gC)), (r5, .inl (dA 1, 2048, .inl gN)), (r6, .inl (dA 1, 2048, .inl gH)), (r7, .inl (dA 1, 32, .inl gO)), (th, .inr (0, [.ref b, .int (nI t.length)])), (b, .inl (dA 0, N, .inl f))] (jv_pi fun r (_ : Unit) => js_bool (js_at2 (fun q q2 => js_same n q.2 q2.2) l1 l2 j y) r) (fun _ => [(q, .inr (4, [.ref o, .ref p])), (o, .inr (3, [.ref s1, .ref s2, .ref s3, .ref s4, .ref s5, .ref s6, .ref s7, .ref th, .int cc, .int cd, .int ce])), (s1, .inl (dA 1, 2048, .inl fS)), (s2, .inl (dA 1, 2048, .inl fE)), (s3, .inl (dA 1, 2048, .inl fF)), (s4, .inl (dA 1, 2048, .inl fC)), (s5, .inl (dA 1, 2048, .inl fN)), (s6, .inl (dA 1, 2048, .inl fH)), (s7, .inl (dA 1, 32, .inl fO)), (p, .inr (3, [.ref r1, .ref r2, .ref r3, .ref r4, .ref r5, .ref r6, .ref r7, .ref th, .int dc, .int dd, .int de])), (r1, .inl (dA 1, 2048, .inl gS)), (r2, .inl (dA 1, 2048, .inl gE)), (r3, .inl (dA 1, 2048, .inl gF)), (r4, .inl (dA 1, 2048, .inl gC)), (r5, .inl (dA 1, 2048, .inl gN)), (r6, .inl (dA 1, 2048, .inl gH)), (r7, .inl (dA 1, 32, .inl gO)), (th, .inr (0, [.ref b, .int (nI t.length)])), (b, .inl (dA 0, N, .inl f))]) 0 0 := fun j y hj hy => by
        obtain ⟨q1, z1, -⟩ := js_some hj
        obtain ⟨q2, z2, m2⟩ := js_some (show y < l2.length by omega)
        rw [js_at2_of z1 z2]
        exact c_Cp_eq_s q o s1 s2 s3 s4 s5 s6 s7 th b N fS fE fF fC fN fH fO f t cc cd ce vs ob p r1 r2 r3 r4 r5 r6 r7 gS gE gF gC gN gH gO dc dd de vt oc hl hN ht hO hO2 n q1.2 q2.2 _ _ (d + 1) (e7 j q1 z1).2.1 (g7 y q2 z2).2.1 (hdi.2 q2 m2) (by omega)
      cases bo with
      | false =>
        have hE : (∀ j, j < l1.length → js_at2 (fun q q2 => js_same n q.2 q2.2) l1 l2 j j) = js_same (n + 1) (Sum.inr (false, l1)) (Sum.inr (false, l2)) := by
          refine propext ⟨fun h => ⟨rfl, hll, (fun z => by cases z), fun _ i q q2 hq hq2 => ?_⟩, fun h j hj => ?_⟩
          · have hi : i < l1.length := by
              rcases Nat.lt_or_ge i l1.length with z | z
              · exact z
              · rw [List.getElem?_eq_none z] at hq; cases hq
            have := h i hi
            rw [js_at2_of hq hq2] at this
            exact this
          · obtain ⟨q1, z1, -⟩ := js_some hj
            obtain ⟨q2, z2, -⟩ := js_some (show j < l2.length by omega)
            exact ⟨q1, q2, z1, z2, h.2.2.2 rfl j q1 q2 z1 z2⟩
        rw [← hE]
        exact c_Cp_equal_arr_s q o s1 s2 s3 s4 s5 s6 s7 th b N fS fE fF fC fN fH fO f t cc cd ce vs ob p r1 r2 r3 r4 r5 r6 r7 gS gE gF gC gN gH gO dc dd de vt oc k k2 d (2 * (n + 1) + 2) _ _ _ hl hN ht hO hO2 e1 g1 (by omega) (by rw [e3, g3]) (by rw [e2, g2, hll]) e3
          (c_Cp_equalItems_s q o s1 s2 s3 s4 s5 s6 s7 th b N fS fE fF fC fN fH fO f t cc cd ce vs ob p r1 r2 r3 r4 r5 r6 r7 gS gE gF gC gN gH gO dc dd de vt oc k k2 l1.length d (2 * n + 2) _ hl hN ht hO hO2 e2 e1.1 k1 g1.1 e5 (fun j hj => by have := kf2 j hj; omega) (fun j hj => hM j j hj hj))
      | true =>
        have hE : (∀ j, j < l1.length → ∃ y, y < l1.length ∧ (js_pq (l1.map (fun q => q.1) |>.getD j [])) = (js_pq (l2.map (fun q => q.1) |>.getD y [])) ∧ js_at2 (fun q q2 => js_same n q.2 q2.2) l1 l2 j y) = js_same (n + 1) (Sum.inr (true, l1)) (Sum.inr (true, l2)) := by
          refine propext ⟨fun h => ⟨rfl, hll, fun _ q hq => ?_, (fun z => by cases z)⟩, fun h j hj => ?_⟩
          · obtain ⟨i, hi, hqi⟩ := List.getElem_of_mem hq
            have z1 : l1[i]? = some q := by rw [List.getElem?_eq_getElem hi, hqi]
            obtain ⟨y, hy, hnm, hsm⟩ := h i hi
            obtain ⟨q2, z2, m2⟩ := js_some (show y < l2.length by omega)
            rw [js_at2_of z1 z2] at hsm
            rw [js_nmD z1, js_nmD z2] at hnm
            exact ⟨q2, m2, hnm, hsm⟩
          · obtain ⟨q1, z1, m1⟩ := js_some hj
            obtain ⟨q2, m2, hnm, hsm⟩ := h.2.2.1 rfl q1 m1
            obtain ⟨y, hy, hqy⟩ := List.getElem_of_mem m2
            have z2 : l2[y]? = some q2 := by rw [List.getElem?_eq_getElem hy, hqy]
            exact ⟨y, by omega, by rw [js_nmD z1, js_nmD z2]; exact hnm, q1, q2, z1, z2, hsm⟩
        rw [← hE]
        exact c_Cp_equal_obj_s q o s1 s2 s3 s4 s5 s6 s7 th b N fS fE fF fC fN fH fO f t cc cd ce vs ob p r1 r2 r3 r4 r5 r6 r7 gS gE gF gC gN gH gO dc dd de vt oc k k2 d (2 * (n + 1) + 2) _ _ _ hl hN ht hO hO2 e1 g1 (by omega) (by rw [e3, g3]) (by rw [e2, g2, hll]) e3
          (c_Cp_equalMembers_s q o s1 s2 s3 s4 s5 s6 s7 th b N fS fE fF fC fN fH fO f t cc cd ce vs ob p r1 r2 r3 r4 r5 r6 r7 gS gE gF gC gN gH gO dc dd de vt oc k k2 l1.length d (2 * n + 2) (fun j => js_pq (l1.map (fun q => q.1) |>.getD j [])) (fun j => js_pq (l2.map (fun q => q.1) |>.getD j [])) _ hl hN ht hO hO2 e2 e1.1 k1 (by rw [g2, hll]) (by rw [hll]; exact g6) g4 g1.1 e5 kf2
            (fun j hj => by
              obtain ⟨q1, z1, -⟩ := js_some hj
              show js_onm _ _ _ (js_pq _)
              rw [js_nmD z1]
              exact (e7 j q1 z1).2.2 rfl)
            (fun j hj => by
              obtain ⟨q1, z1, -⟩ := js_some (show j < l2.length by omega)
              show js_onm _ _ _ (js_pq _)
              rw [js_nmD z1]
              exact (g7 j q1 z1).2.2 rfl)
            (fun y z hy hz e => by
              obtain ⟨q1, z1, -⟩ := js_some (show y < l2.length by omega)
              obtain ⟨q2, z2, -⟩ := js_some (show z < l2.length by omega)
              rw [js_nmD z1, js_nmD z2] at e
              exact hdi.1 rfl y z q1 q2 z1 z2 e) hM)
    · rw [js_bool_no (show ¬ js_same (n + 1) (Sum.inr (bo, l1)) (Sum.inr (bo2, l2)) from fun h => hne ⟨h.1, h.2.1⟩)]
      exact c_Cp_equal_ne_s q o s1 s2 s3 s4 s5 s6 s7 th b N fS fE fF fC fN fH fO f t cc cd ce vs ob p r1 r2 r3 r4 r5 r6 r7 gS gE gF gC gN gH gO dc dd de vt oc k k2 d (2 * (n + 1) + 2) _ _ hl hN ht hO hO2 e1 g1 (by omega) (fun z => by
        rw [e3, g3, e2, g2] at z
        exact hne ⟨js_opn_eq z.1, z.2⟩) (by omega) (by omega)
