-- class and reference, call by call
def jA_i : Prop → Int64 → Option Value → Prop := fun P z v => ∃ b : Int32, v = some (.int b) ∧ (P → z = b.toInt64)
def jA_l : Prop → Int64 → Option Value → Prop := fun P z v => ∃ b : Int64, v = some (.long b) ∧ (P → z = b)
def jA_b : Prop → Int64 → Option Value → Prop := fun P z v => ∃ b : Int32, v = some (.int b) ∧ (P → (b = 1 ∧ z = 1) ∨ (b = 0 ∧ z = 0))
def jA_v : Prop → Int64 → Option Value → Prop := fun _ _ v => v = none
/-- a call of both: one code; where it is 0, one answer; one state afterwards -/
def jl_P (l : Launch) (D : va_G) (dA : Nat → ClassId) (zz : (Nat → Nat) × (Nat → Nat)) (y : MethodName) (b : ByteArray) (nL : Nat) (hh : List (Nat × Nat × Nat × Nat)) (av : List Value) (y2 : MethodName) (b2 : ByteArray) (nL2 : Nat) (ret : Option FieldType) (av2 : List Value) (Ag : Prop → Int64 → Option Value → Prop) (oa : Nat) (fo : Nat → Int64) (A : Nat → Nat) (o : Nat) (Q : Nat → Nat) (t : List Nat) (pc ps : Nat) (X Y : va_W) : Prop :=
  ∃ (code : Int32) (val : Int64 → Prop) (vm : Option Value → Prop) (t1 r1 : List Nat) (sl1 : Nat → Option (js_J 32)) (pl1 : Int32), jl_W l D dA zz y b nL hh av oa fo X code val (CW dA A t1 r1 sl1 pl1) ∧ jl_M l D dA zz y2 b2 nL2 ret av2 Y pc ps t.length t1.length vm (MW dA o Q t1 r1 sl1 pl1 code) ∧ js_SW t1 r1 sl1 ∧ ∀ (z : Int64) (v : Option Value), vm v → Ag (code = 0 ∧ val z) z v
theorem js_J_c (n : Nat) : ∀ v : js_J (n + 1), (∃ x : js_L, v = Sum.inl x) ∨ ∃ (b : Bool) (l : List (List Nat × js_J n)), v = Sum.inr (b, l)
  | Sum.inl x => Or.inl ⟨x, rfl⟩
  | Sum.inr (b, l) => Or.inr ⟨b, l, rfl⟩
theorem CW.by {dA : Nat → ClassId} {A : Nat → Nat} {t r : List Nat} {sl : Nat → Option (js_J 32)} {pl : Int32} {X : va_W} (h : CW dA A t r sl pl X) : js_by t := by
  obtain ⟨H, N, c0, pr0, ft, fr, Fs, F, rfl, g1, -⟩ := h
  exact g1.by
theorem js_slot (i : Int32) : (i < 0 ∨ 8 ≤ i) ∨ ∃ k, k < 8 ∧ i = nI k := by
  by_cases h0 : i < 0
  · exact Or.inl (Or.inl h0)
  · by_cases h8 : (8 : Int32) ≤ i
    · exact Or.inl (Or.inr h8)
    · exact Or.inr (js_ix (n := 8) h0 h8 (Nat.le_refl 8) (by decide))
theorem js_SW_up {t r : List Nat} {sl : Nat → Option (js_J 32)} (h : js_SW t r sl) {v : js_J 32} (ok : js_ok 32 v) (hl : (js_pr 32 v).length ≤ 4096) (k : Nat) : js_SW t r (jc_up sl k (some v)) := by
  refine ⟨h.1, h.2.1, fun j w hw => ?_⟩
  by_cases e : j = k
  · rw [e, jc_up_s] at hw
    cases hw
    exact ⟨ok, hl⟩
  · rw [jc_up_n e] at hw
    exact h.2.2 j w hw
theorem js_SW_nil {t r : List Nat} {sl : Nat → Option (js_J 32)} (h : js_SW t r sl) : js_SW [] r sl := ⟨Nat.zero_le _, h.2⟩
theorem js_cm_mem : ∀ {l : List (List Nat)} {x : List Nat}, x ∈ l → x.length ≤ (js_cm l).length
  | [], _, h => by cases h
  | y :: l, x, h => by
    rw [js_cm, List.length_append]
    rcases List.mem_cons.mp h with rfl | h2
    · exact Nat.le_add_right _ _
    · have ih := js_cm_mem h2
      have hne : ¬ l.length = 0 := fun e => by
        rw [List.length_eq_zero_iff.mp e] at h2
        cases h2
      rw [if_neg hne, List.length_cons]
      omega
theorem js_pr_mem {n : Nat} {b : Bool} {l : List (List Nat × js_J n)} {q : List Nat × js_J n} (h : q ∈ l) : (js_pr n q.2).length ≤ (js_pr (n + 1) (Sum.inr (b, l))).length := by
  show _ ≤ (js_opn b :: (js_cm (l.map fun q => js_mp b q.1 (js_pr n q.2)) ++ [js_cls2 b])).length
  have h1 := js_cm_mem (List.mem_map_of_mem (f := fun q => js_mp b q.1 (js_pr n q.2)) h)
  have h2 : (js_pr n q.2).length ≤ (js_mp b q.1 (js_pr n q.2)).length := by
    rw [js_mp]
    split
    · rw [List.length_append, List.length_cons]; omega
    · exact Nat.le_refl _
  rw [List.length_cons, List.length_append]
  exact Nat.le_trans h2 (Nat.le_trans h1 (by omega))
theorem js_kn_kr {v : js_J 32} (ok : js_ok 32 v) : (nI (js_kn 32 v)).toInt64 = (if js_kr 32 v = 1 then 2 else if js_kr 32 v = 2 then 1 else (nI (js_kr 32 v)).toInt64) := by
  rcases js_J_c 31 v with ⟨x, rfl⟩ | ⟨b, l, rfl⟩
  · match x, ok with
    | .inl w, ok =>
      have hw : w < 3 := ok
      show (nI w).toInt64 = (if js_rk w = 1 then 2 else if js_rk w = 2 then 1 else (nI (js_rk w)).toInt64)
      exact (by decide +kernel : ∀ w, w < 3 → (nI w).toInt64 = (if js_rk w = 1 then 2 else if js_rk w = 2 then 1 else (nI (js_rk w)).toInt64)) w hw
    | .inr (.inl ds), _ => rfl
    | .inr (.inr us), _ => rfl
  · cases b <;> rfl
theorem js_chn_le : ∀ us : List Nat, js_chn us ≤ us.length
  | [] => Nat.le_refl _
  | u :: l => by
    have := js_chn_le l
    rw [js_chn, List.length_cons]
    split <;> omega
theorem js_l_nI {n : Nat} (h : n < 2 ^ 31) : (nI n).toInt64 = js_l n := nI_l h
theorem js_nof_no {v : js_J 32} (ok : js_ok 32 v) (h : ¬ js_kn 32 v = 3) (h7 : js_kn 32 v < 7) : js_nof (js_pr 32 v) = 0 := by
  have e := js_kd_v ok []
  rw [List.append_nil] at e
  rw [js_nof, if_neg]
  rw [e]
  exact fun z => h ((nI_eq (b := 3) (by omega) (by decide)).mp z)

set_option maxHeartbeats 1000000 in
theorem jp_feed {l : Launch} {D : va_G} {dA : Nat → ClassId} {zz : (Nat → Nat) × (Nat → Nat)} {A : Nat → Nat} {o : Nat} {Q : Nat → Nat} {t r : List Nat} {sl : Nat → Option (js_J 32)} {pl cd : Int32} {pc ps : Nat} {X Y : va_W} (oa : Nat) (fo : Nat → Int64) (hlt : l.stackTraces = false) (hS : js_SW t r sl) (hX : CW dA A t r sl pl X) (hY : MW dA o Q t r sl pl cd pc ps Y) (a b c d e : Int32) : jl_P l D dA zz y_La_feed b_La_feed 8 [(0, 16, 19, 13)] [.ref (A 0), .int a, .int b, .int c, .int d, .int e, .ref oa] y_Md_feed b_Md_feed 6 (some (FieldType.int)) [.ref o, .int a, .int b, .int c, .int d, .int e] jA_i oa fo A o Q t pc ps X Y := by
  rcases Nat.lt_or_ge 4096 (t.length + 20) with h | h
  · exact ⟨_, _, _, _, _, _, _, (jl_feed_no oa fo hlt hS hX a b c d e h).1, jq_feed_no hS hY a b c d e h, hS, fun z v ⟨z2, hz, _⟩ => ⟨z2, hz, fun q => absurd q.1 (by decide)⟩⟩
  · have h5 : (t ++ js_i4 a ++ js_i4 b ++ js_i4 c ++ js_i4 d ++ js_i4 e).length = t.length + 20 := by simp only [List.length_append, js_i4_len]
    exact ⟨_, _, _, _, _, _, _, (jl_feed_ok oa fo hlt hS hX a b c d e h).1, jq_feed_ok hS hY a b c d e h, ⟨by rw [h5]; exact h, hS.2⟩, fun z v ⟨z2, hz, e2⟩ => ⟨z2, hz, fun q => by rw [e2]; exact q.2⟩⟩
set_option maxHeartbeats 1000000 in
theorem jp_end {l : Launch} {D : va_G} {dA : Nat → ClassId} {zz : (Nat → Nat) × (Nat → Nat)} {A : Nat → Nat} {o : Nat} {Q : Nat → Nat} {t r : List Nat} {sl : Nat → Option (js_J 32)} {pl cd : Int32} {pc ps : Nat} {X Y : va_W} (oa : Nat) (fo : Nat → Int64) (hlt : l.stackTraces = false) (hS : js_SW t r sl) (hX : CW dA A t r sl pl X) (hY : MW dA o Q t r sl pl cd pc ps Y) (i : Int32) : jl_P l D dA zz y_La_end b_La_end 4 [(0, 9, 12, 19)] [.ref (A 0), .int i, .ref oa] y_Md_end b_Md_end 2 (some (FieldType.int)) [.ref o, .int i] jA_i oa fo A o Q t pc ps X Y := by
  by_cases hb : i < 0 ∨ nI t.length < i
  · exact ⟨_, _, _, _, _, _, _, (jl_end_no oa fo hlt hS hX i hb).1, jq_end_no hS hY i hb, hS, fun z v ⟨z2, hz, _⟩ => ⟨z2, hz, fun q => absurd q.1 (by decide)⟩⟩
  · obtain ⟨k, hk9, rfl⟩ := nI_of (fun z => hb (Or.inl z))
    have hk : k ≤ t.length := by
      rcases Nat.lt_or_ge t.length k with q | q
      · exact absurd (Or.inr (nI_lt q hk9)) hb
      · exact q
    exact ⟨_, _, _, _, _, _, _, (jl_end_ok oa fo hlt hS hX k hk).1, jq_end_ok hS hY k hk, ⟨by rw [List.length_take]; exact Nat.le_trans (Nat.min_le_right _ _) hS.1, hS.2⟩, fun z v ⟨z2, hz, e2⟩ => ⟨z2, hz, fun q => by rw [e2]; exact q.2⟩⟩
set_option maxHeartbeats 1000000 in
theorem jp_read {l : Launch} {D : va_G} {dA : Nat → ClassId} {zz : (Nat → Nat) × (Nat → Nat)} {A : Nat → Nat} {o : Nat} {Q : Nat → Nat} {t r : List Nat} {sl : Nat → Option (js_J 32)} {pl cd : Int32} {pc ps : Nat} {X Y : va_W} (oa : Nat) (fo : Nat → Int64) (hlt : l.stackTraces = false) (hS : js_SW t r sl) (hX : CW dA A t r sl pl X) (hY : MW dA o Q t r sl pl cd pc ps Y) (i : Int32) : jl_P l D dA zz y_La_read b_La_read 4 [(0, 9, 12, 19), (0, 9, 15, 24)] [.ref (A 0), .int i, .ref oa] y_Md_read b_Md_read 4 (some (FieldType.int)) [.ref o, .int i] jA_i oa fo A o Q t pc ps X Y := by
  rcases js_slot i with hb | ⟨k, hk, rfl⟩
  · exact ⟨_, _, _, _, _, _, _, (jl_read_x1 oa fo hlt hS hX i hb).1, jq_read_x1 hS hY i hb, hS, fun z v ⟨z2, hz, _⟩ => ⟨z2, hz, fun q => absurd q.1 (by decide)⟩⟩
  · cases hrd : js_rd t with
    | inl q => exact ⟨_, _, _, _, _, _, _, (jl_read_x2 oa fo hlt hS hX k q hk hrd).1, jq_read_x2 hS hY k q hk hrd, js_SW_nil hS, fun z v ⟨z2, hz, _⟩ => ⟨z2, hz, fun q => absurd q.1 (by decide)⟩⟩
    | inr v =>
      obtain ⟨ok1, ol1⟩ := js_rd_ok hX.by hrd
      exact ⟨_, _, _, _, _, _, _, (jl_read_ok oa fo hlt hS hX k v hk hrd).1, jq_read_ok hS hY k v hk hrd, js_SW_up (js_SW_nil hS) ok1 (Nat.le_trans ol1 hS.1) k, fun z v ⟨z2, hz, e2⟩ => ⟨z2, hz, fun q => by rw [e2]; exact q.2⟩⟩
set_option maxHeartbeats 1000000 in
theorem jp_print {l : Launch} {D : va_G} {dA : Nat → ClassId} {zz : (Nat → Nat) × (Nat → Nat)} {A : Nat → Nat} {o : Nat} {Q : Nat → Nat} {t r : List Nat} {sl : Nat → Option (js_J 32)} {pl cd : Int32} {pc ps : Nat} {X Y : va_W} (oa : Nat) (fo : Nat → Int64) (hlt : l.stackTraces = false) (hS : js_SW t r sl) (hX : CW dA A t r sl pl X) (hY : MW dA o Q t r sl pl cd pc ps Y) (i : Int32) : jl_P l D dA zz y_La_print b_La_print 4 [(0, 9, 12, 19), (0, 9, 15, 29)] [.ref (A 0), .int i, .ref oa] y_Md_print b_Md_print 3 (some (FieldType.int)) [.ref o, .int i] jA_i oa fo A o Q t pc ps X Y := by
  rcases js_slot i with hb | ⟨k, hk, rfl⟩
  · exact ⟨_, _, _, _, _, _, _, (jl_print_x1 oa fo hlt hS hX i hb).1, jq_print_x1 hS hY i hb, hS, fun z v ⟨z2, hz, _⟩ => ⟨z2, hz, fun q => absurd q.1 (by decide)⟩⟩
  · cases hs : sl k with
    | none => exact ⟨_, _, _, _, _, _, _, (jl_print_x2 oa fo hlt hS hX k hk hs).1, jq_print_x2 hS hY k hk hs, hS, fun z v ⟨z2, hz, _⟩ => ⟨z2, hz, fun q => absurd q.1 (by decide)⟩⟩
    | some v => exact ⟨_, _, _, _, _, _, _, (jl_print_ok oa fo hlt hS hX k v hk hs).1, jq_print_ok hS hY k v hk hs, ⟨hS.1, (hS.2.2 k v hs).2, hS.2.2⟩, fun z v ⟨z2, hz, e2⟩ => ⟨z2, hz, fun q => by rw [e2]; exact q.2⟩⟩
set_option maxHeartbeats 1000000 in
theorem jp_word {l : Launch} {D : va_G} {dA : Nat → ClassId} {zz : (Nat → Nat) × (Nat → Nat)} {A : Nat → Nat} {o : Nat} {Q : Nat → Nat} {t r : List Nat} {sl : Nat → Option (js_J 32)} {pl cd : Int32} {pc ps : Nat} {X Y : va_W} (oa : Nat) (fo : Nat → Int64) (hlt : l.stackTraces = false) (hS : js_SW t r sl) (hX : CW dA A t r sl pl X) (hY : MW dA o Q t r sl pl cd pc ps Y) (i : Int32) : jl_P l D dA zz y_La_word b_La_word 4 [(0, 8, 11, 13)] [.ref (A 0), .int i, .ref oa] y_Md_word b_Md_word 5 (some (FieldType.long)) [.ref o, .int i] jA_l oa fo A o Q t pc ps X Y := by
  by_cases hb : i < 0 ∨ nI r.length ≤ i
  · exact ⟨_, _, _, _, _, _, _, (jl_word_no oa fo hlt hS hX i hb).1, jq_word_no hS hY i hb, hS, fun z v ⟨z2, hz, _⟩ => ⟨z2, hz, fun q => absurd q.1 (by decide)⟩⟩
  · obtain ⟨k, hk, rfl⟩ := js_ix (n := r.length) (fun z => hb (Or.inl z)) (fun z => hb (Or.inr z)) hS.2.1 (by decide)
    exact ⟨_, _, _, _, _, _, _, (jl_word_ok oa fo hlt hS hX k hk).1, jq_word_ok hS hY k hk, hS, fun z v ⟨z2, hz, e2⟩ => ⟨z2, hz, fun q => by rw [e2]; exact q.2⟩⟩
theorem js_i012 {i : Int32} : (i < 0 ∨ 2 < i) ∨ (¬ i < 0 ∧ i ≤ 2 ∧ (i = 0 ∨ i = 1 ∨ i = 2)) := by
  by_cases hb : i < 0 ∨ 2 < i
  · exact Or.inl hb
  · have h0 : ¬ i < 0 := fun z => hb (Or.inl z)
    have h2 : ¬ 2 < i := fun z => hb (Or.inr z)
    obtain ⟨k, hk9, rfl⟩ := nI_of h0
    have hk : k ≤ 2 := by
      rcases Nat.lt_or_ge 2 k with q | q
      · exact absurd (nI_lt (a := 2) q hk9) h2
      · exact q
    refine Or.inr ⟨h0, nI_le (b := 2) hk (by decide), ?_⟩
    rcases (by omega : k = 0 ∨ k = 1 ∨ k = 2) with rfl | rfl | rfl
    · exact Or.inl rfl
    · exact Or.inr (Or.inl rfl)
    · exact Or.inr (Or.inr rfl)
set_option maxHeartbeats 1000000 in
theorem jp_count {l : Launch} {D : va_G} {dA : Nat → ClassId} {zz : (Nat → Nat) × (Nat → Nat)} {A : Nat → Nat} {o : Nat} {Q : Nat → Nat} {t r : List Nat} {sl : Nat → Option (js_J 32)} {pl cd : Int32} {pc ps : Nat} {X Y : va_W} (oa : Nat) (fo : Nat → Int64) (hlt : l.stackTraces = false) (hS : js_SW t r sl) (hX : CW dA A t r sl pl X) (hY : MW dA o Q t r sl pl cd pc ps Y) (i : Int32) : jl_P l D dA zz y_La_count b_La_count 4 [(0, 9, 12, 19)] [.ref (A 0), .int i, .ref oa] y_Md_count b_Md_count 2 (some (FieldType.int)) [.ref o, .int i] jA_i oa fo A o Q t pc ps X Y := by
  rcases js_i012 (i := i) with hb | ⟨h0, h2, h3⟩
  · have n0 : ¬ i = 0 := fun z => by rw [z] at hb; revert hb; decide
    have n1 : ¬ i = 1 := fun z => by rw [z] at hb; revert hb; decide
    have n2 : ¬ i = 2 := fun z => by rw [z] at hb; revert hb; decide
    exact ⟨_, _, _, _, _, _, _, (jl_count_no oa fo hlt hS hX i n0 n1 n2).1, jq_count_no hS hY i hb, hS, fun z v ⟨z2, hz, _⟩ => ⟨z2, hz, fun q => absurd q.1 (by decide)⟩⟩
  · exact ⟨_, _, _, _, _, _, _, (jl_count_ok oa fo hlt hS hX i (fun a b c => h3.elim a (fun h => h.elim b c))).1, jq_count_ok hS hY i h0 h2, hS, fun z v ⟨z2, hz, e2⟩ => ⟨z2, hz, fun q => by rw [e2]; exact q.2⟩⟩
theorem jA_same {P : Prop} {z : Int64} {v : Option Value} {Q : Prop} (h : ∃ b : Int32, v = some (.int b) ∧ js_bool P b) (hz : Q → (P ∧ z = 1) ∨ (¬ P ∧ z = 0)) : jA_b Q z v := by
  obtain ⟨b, rfl, h⟩ := h
  refine ⟨b, rfl, fun q => ?_⟩
  rcases js_bool_c h with ⟨e, h1⟩ | ⟨e, h1⟩
  · rcases hz q with ⟨-, e2⟩ | ⟨h2, -⟩
    · exact Or.inl ⟨e, e2⟩
    · exact absurd h1 h2
  · rcases hz q with ⟨h2, -⟩ | ⟨-, e2⟩
    · exact absurd h2 h1
    · exact Or.inr ⟨e, e2⟩
set_option maxHeartbeats 1000000 in
theorem jp_same {l : Launch} {D : va_G} {dA : Nat → ClassId} {zz : (Nat → Nat) × (Nat → Nat)} {A : Nat → Nat} {o : Nat} {Q : Nat → Nat} {t r : List Nat} {sl : Nat → Option (js_J 32)} {pl cd : Int32} {pc ps : Nat} {X Y : va_W} (oa : Nat) (fo : Nat → Int64) (hlt : l.stackTraces = false) (hS : js_SW t r sl) (hX : CW dA A t r sl pl X) (hY : MW dA o Q t r sl pl cd pc ps Y) (i j : Int32) : jl_P l D dA zz y_La_same b_La_same 5 [(0, 17, 20, 19), (0, 17, 24, 29)] [.ref (A 0), .int i, .int j, .ref oa] y_Md_same b_Md_same 5 (some (FieldType.boolean)) [.ref o, .int i, .int j] jA_b oa fo A o Q t pc ps X Y := by
  have NO : ∀ {vm : Prop} {code : Int32} (hc : ¬ code = 0), ∀ (z : Int64) (v : Option Value), (∃ z : Int32, v = some (.int z) ∧ True) → jA_b (code = 0 ∧ vm) z v := fun hc z v ⟨z2, hz, _⟩ => ⟨z2, hz, fun q => absurd q.1 hc⟩
  rcases js_slot i with hb | ⟨k, hk, rfl⟩
  · exact ⟨_, _, _, _, _, _, _, (jl_same_x1 oa fo hlt hS hX i j hb).1, jq_same_x1 hS hY i j (Or.inl hb), hS, NO (by decide)⟩
  · rcases js_slot j with hb | ⟨k2, hk2, rfl⟩
    · exact ⟨_, _, _, _, _, _, _, (jl_same_x1b oa fo hlt hS hX k j hk hb).1, jq_same_x1 hS hY (nI k) j (Or.inr hb), hS, NO (by decide)⟩
    · cases hs : sl k with
      | none => exact ⟨_, _, _, _, _, _, _, (jl_same_x2 oa fo hlt hS hX k k2 hk hk2 hs).1, jq_same_x2 hS hY k k2 hk hk2 (Or.inl hs), hS, NO (by decide)⟩
      | some v =>
        by_cases hne : k = k2
        · subst hne
          exact ⟨_, _, _, _, _, _, _, (jl_same_oks oa fo hlt hS hX k v hk hs).1, jq_same_oks hS hY k v hk hs, hS, fun z v h => jA_same h (fun q => q.2)⟩
        · cases hs2 : sl k2 with
          | none => exact ⟨_, _, _, _, _, _, _, (jl_same_x2b oa fo hlt hS hX k k2 v hk hk2 hs hs2 hne).1, jq_same_x2 hS hY k k2 hk hk2 (Or.inr hs2), hS, NO (by decide)⟩
          | some w => exact ⟨_, _, _, _, _, _, _, (jl_same_ok oa fo hlt hS hX k k2 v w hk hk2 hs hs2 hne).1, jq_same_ok hS hY k k2 v w hk hs hk2 hs2 hne, hS, fun z v h => jA_same h (fun q => q.2)⟩
set_option maxHeartbeats 1000000 in
theorem jp_take {l : Launch} {D : va_G} {dA : Nat → ClassId} {zz : (Nat → Nat) × (Nat → Nat)} {A : Nat → Nat} {o : Nat} {Q : Nat → Nat} {t r : List Nat} {sl : Nat → Option (js_J 32)} {pl cd : Int32} {pc ps : Nat} {X Y : va_W} (oa : Nat) (fo : Nat → Int64) (hlt : l.stackTraces = false) (hS : js_SW t r sl) (hX : CW dA A t r sl pl X) (hY : MW dA o Q t r sl pl cd pc ps Y) (i j w : Int32) : jl_P l D dA zz y_La_take b_La_take 5 [(0, 7, 10, 19), (0, 7, 14, 29), (0, 7, 18, 43)] [.ref (A 0), .int i, .int j, .int w] y_Md_take3 b_Md_take3 7 none [.ref o, .int i, .int j, .int w] jA_v oa fo A o Q t pc ps X Y := by
  have NO : ∀ {P : Int64 → Prop} (z : Int64) (v : Option Value), v = none → jA_v (P z) z v := fun z v h => h
  rcases js_slot i with hb | ⟨k2, hk2, rfl⟩
  · exact ⟨_, _, _, _, _, _, _, (jl_take_x1 oa fo hlt hS hX i j w hb).1, jq_take_x1 hS hY i j w (Or.inl hb), hS, fun z v h => h⟩
  · rcases js_slot j with hb | ⟨k, hk, rfl⟩
    · exact ⟨_, _, _, _, _, _, _, (jl_take_x1b oa fo hlt hS hX k2 j w hk2 hb).1, jq_take_x1 hS hY (nI k2) j w (Or.inr hb), hS, fun z v h => h⟩
    · cases hs : sl k with
      | none => exact ⟨_, _, _, _, _, _, _, (jl_take_x2 oa fo hlt hS hX k k2 w hk hk2 hs).1, jq_take_x2 hS hY k k2 w hk hs hk2, hS, fun z v h => h⟩
      | some v =>
        have ok := hS.2.2 k v hs
        rcases js_J_c 31 v with ⟨x, hvm⟩ | ⟨bb, l0, hvm⟩
        · by_cases hw : w < 0
          · exact ⟨_, _, _, _, _, _, _, (jl_take_x3l oa fo hlt hS hX k k2 v x w hk hk2 hs hvm).1, jq_take_x3n hS hY k k2 v w hk hs hk2 hw, hS, fun z v h => h⟩
          · refine ⟨_, _, _, _, _, _, _, (jl_take_x3l oa fo hlt hS hX k k2 v x w hk hk2 hs hvm).1, jq_take_x3l hS hY k k2 v w hk hs hk2 hw (fun F G h => ?_), hS, fun z v h => h⟩
            rw [hvm] at h ok
            exact (js_TL_lf ok.1 h).1
        · by_cases hw : w < 0
          · exact ⟨_, _, _, _, _, _, _, (jl_take_x3m oa fo hlt hS hX k k2 v bb l0 w hk hk2 hs hvm (Or.inl hw)).1, jq_take_x3n hS hY k k2 v w hk hs hk2 hw, hS, fun z v h => h⟩
          · obtain ⟨n, hn9, rfl⟩ := nI_of hw
            rcases Nat.lt_or_ge n l0.length with q | q
            · have hq := List.getElem?_eq_getElem q
              have hm : l0[n] ∈ l0 := List.getElem_mem q
              have ok9 : js_ok 32 v ∧ (js_pr 32 v).length ≤ 4096 := ok
              rw [hvm] at ok9
              have hok := js_up_ok 31 _ (ok9.1.1 _ hm)
              have hlen : (js_pr 32 (js_up 31 l0[n].2)).length ≤ 4096 := by
                rw [js_up_pr 31]
                exact Nat.le_trans (js_pr_mem hm) ok9.2
              by_cases hne : k = k2
              · subst hne
                exact ⟨_, _, _, _, _, _, _, (jl_take_oks oa fo hlt hS hX k v bb l0 n l0[n] hk hs hvm hq).1, jq_take_oks hS hY k v n l0 bb l0[n] hk hs hvm hn9 hq, js_SW_up hS hok hlen k, fun z v h => h⟩
              · exact ⟨_, _, _, _, _, _, _, (jl_take_ok oa fo hlt hS hX k k2 v bb l0 n l0[n] hk hk2 hs hvm hq hne).1, jq_take_ok hS hY k k2 v n l0 bb l0[n] hk hs hvm hn9 hq hk2 hne, js_SW_up hS hok hlen k2, fun z v h => h⟩
            · exact ⟨_, _, _, _, _, _, _, (jl_take_x3m oa fo hlt hS hX k k2 v bb l0 (nI n) hk hk2 hs hvm (Or.inr (nI_le q hn9))).1, jq_take_x3m hS hY k k2 v n l0 bb hk hs hk2 hvm hn9 q, hS, fun z v h => h⟩
theorem js_i0123 {i : Int32} (h0 : ¬ i < 0) (h3 : i ≤ 3) : i = 0 ∨ i = 1 ∨ i = 2 ∨ i = 3 := by
  obtain ⟨k, hk9, rfl⟩ := nI_of h0
  have hk : k ≤ 3 := by
    rcases Nat.lt_or_ge 3 k with q | q
    · exact absurd h3 (nI_ge (a := 3) q hk9)
    · exact q
  rcases (by omega : k = 0 ∨ k = 1 ∨ k = 2 ∨ k = 3) with rfl | rfl | rfl | rfl
  · exact Or.inl rfl
  · exact Or.inr (Or.inl rfl)
  · exact Or.inr (Or.inr (Or.inl rfl))
  · exact Or.inr (Or.inr (Or.inr rfl))
theorem jA_lv {P : Int64 → Prop} {a b : Int64} (hP : ∀ z, P z → z = a) (e : a = b) {code : Int32} (z : Int64) (v : Option Value) (h : ∃ c : Int64, v = some (.long c) ∧ c = b) : jA_l (code = 0 ∧ P z) z v := by
  obtain ⟨c, rfl, rfl⟩ := h
  exact ⟨c, rfl, fun q => (hP z q.2).trans e⟩
theorem js_kn7 {v : js_J 32} (ok : js_ok 32 v) : js_kn 32 v < 7 := by
  rcases js_J_c 31 v with ⟨x, rfl⟩ | ⟨bb, l0, rfl⟩
  · have := js_kl_lt (x := x) ok
    show js_kl x < 7
    omega
  · cases bb with
    | false => exact (by decide : 5 < 7)
    | true => exact (by decide : 6 < 7)
set_option maxHeartbeats 1000000 in
theorem jp_about {l : Launch} {D : va_G} {dA : Nat → ClassId} {zz : (Nat → Nat) × (Nat → Nat)} {A : Nat → Nat} {o : Nat} {Q : Nat → Nat} {t r : List Nat} {sl : Nat → Option (js_J 32)} {pl cd : Int32} {pc ps : Nat} {X Y : va_W} (oa : Nat) (fo : Nat → Int64) (hlt : l.stackTraces = false) (hS : js_SW t r sl) (hX : CW dA A t r sl pl X) (hY : MW dA o Q t r sl pl cd pc ps Y) (i w : Int32) : jl_P l D dA zz y_La_about b_La_about 5 [(0, 9, 12, 19), (0, 9, 16, 29)] [.ref (A 0), .int i, .int w, .ref oa] y_Md_about b_Md_about 9 (some (FieldType.long)) [.ref o, .int i, .int w] jA_l oa fo A o Q t pc ps X Y := by
  rcases js_slot i with hb | ⟨k, hk, rfl⟩
  · exact ⟨_, _, _, _, _, _, _, (jl_about_x1 oa fo hlt hS hX i w hb).1, jq_about_x1 hS hY i w (Or.inl hb), hS, fun z v ⟨z2, hz, _⟩ => ⟨z2, hz, fun q => absurd q.1 (by decide)⟩⟩
  · by_cases hw : w < 0 ∨ 3 < w
    · exact ⟨_, _, _, _, _, _, _, (jl_about_x1b oa fo hlt hS hX k w hk hw).1, jq_about_x1 hS hY (nI k) w (Or.inr hw), hS, fun z v ⟨z2, hz, _⟩ => ⟨z2, hz, fun q => absurd q.1 (by decide)⟩⟩
    · have hw0 : ¬ w < 0 := fun z => hw (Or.inl z)
      have hw3 : w ≤ 3 := Int32.not_lt.mp (fun z => hw (Or.inr z))
      cases hs : sl k with
      | none => exact ⟨_, _, _, _, _, _, _, (jl_about_x2 oa fo hlt hS hX k w hk hs hw0 hw3).1, jq_about_x2 hS hY k w hk hs hw0 hw3, hS, fun z v ⟨z2, hz, _⟩ => ⟨z2, hz, fun q => absurd q.1 (by decide)⟩⟩
      | some v =>
        obtain ⟨ok, ol⟩ := hS.2.2 k v hs
        rcases js_i0123 hw0 hw3 with rfl | rfl | rfl | rfl
        · exact ⟨_, _, _, _, _, _, _, (jl_about_0 oa fo hlt hS hX k v hk hs).1, jq_about_0 hS hY k v hk hs, hS, jA_lv (fun z h => h) (js_kn_kr ok)⟩
        · rcases js_J_c 31 v with ⟨x, hvm⟩ | ⟨bb, l0, hvm⟩
          · match x, hvm with
            | .inl w, hvm =>
              have hkk : js_kr 32 v < 4 := by
                rw [hvm] at ok ⊢
                have h3 : w < 3 := ok
                exact (by decide : ∀ w, w < 3 → js_rk w < 4) w h3
              exact ⟨_, _, _, _, _, _, _, (jl_about_1o oa fo hlt hS hX k v _ hk hs hvm (by
                rw [hvm] at ok
                have h3 : w < 3 := ok
                show ¬ w = 4
                omega)).1, jq_about_1o hS hY k v hk hs hkk, hS, jA_lv (fun z h => h) rfl⟩
            | .inr (.inl ds), hvm => exact ⟨_, _, _, _, _, _, _, (jl_about_1o oa fo hlt hS hX k v _ hk hs hvm (show ¬ 3 = 4 by decide)).1, jq_about_1o hS hY k v hk hs (by rw [hvm]; exact (by decide : 3 < 4)), hS, jA_lv (fun z h => h) rfl⟩
            | .inr (.inr us), hvm =>
              subst hvm
              have hlen : us.length ≤ 4096 := Nat.le_trans (js_uu_le 32 _ ok) ol
              have hch : js_chn us < 2 ^ 31 := by have := js_chn_le us; omega
              exact ⟨_, _, _, _, _, _, _, (jl_about_1s oa fo hlt hS hX k us hk hs).1, jq_about_1s hS hY k _ us hk hs rfl ok (fun F G h => h.2.2), hS, jA_lv (fun z h => h) (js_l_nI hch)⟩
          · exact ⟨_, _, _, _, _, _, _, (jl_about_1m oa fo hlt hS hX k v bb l0 hk hs hvm).1, jq_about_1m hS hY k v bb l0 hk hs hvm, hS, jA_lv (fun z h => h) rfl⟩
        · exact ⟨_, _, _, _, _, _, _, (jl_about_2 oa fo hlt hS hX k v hk hs).1, jq_about_2 hS hY k v hk hs, hS, jA_lv (fun z h => h) rfl⟩
        · by_cases hkr : js_kr 32 v = 3
          · rcases js_J_c 31 v with ⟨x, hvm⟩ | ⟨bb, l0, hvm⟩
            · match x, hvm with
              | .inl w, hvm =>
                rw [hvm] at ok hkr
                have h3 : w < 3 := ok
                exact absurd hkr ((by decide : ∀ w, w < 3 → ¬ js_rk w = 3) w h3)
              | .inr (.inr us), hvm =>
                rw [hvm] at hkr
                exact absurd (show 4 = 3 from hkr) (by decide)
              | .inr (.inl ds), hvm =>
                subst hvm
                obtain ⟨neg, x, hx, hn, hds⟩ : js_okn ds := ok
                have e : js_nof ds = js_nvi neg x := by rw [hds]; exact js_nof_rt hx
                refine ⟨_, _, _, _, _, _, _, (jl_about_3 oa fo hlt hS hX k _ hk hs).1, jq_about_3 hS hY k _ neg x hk hs rfl (fun F G h => ?_), hS, jA_lv (fun z h => h) e⟩
                obtain ⟨-, -, neg2, x2, hx2, hn2, hds2, hG⟩ := h
                rw [hG, ← js_nof_rt hx2, ← hds2]
                exact e
            · rw [hvm] at hkr
              cases bb with
              | false => exact absurd (show 5 = 3 from hkr) (by decide)
              | true => exact absurd (show 6 = 3 from hkr) (by decide)
          · have hkn : ¬ js_kn 32 v = 3 := by
              intro h3
              rcases js_J_c 31 v with ⟨x, hvm⟩ | ⟨bb, l0, hvm⟩
              · match x, hvm with
                | .inl w, hvm =>
                  rw [hvm] at ok h3
                  have h9 : w < 3 := ok
                  have h8 : w = 3 := h3
                  omega
                | .inr (.inr us), hvm =>
                  rw [hvm] at h3
                  exact absurd (show 4 = 3 from h3) (by decide)
                | .inr (.inl ds), hvm =>
                  rw [hvm] at hkr
                  exact hkr rfl
              · rw [hvm] at h3
                cases bb with
                | false => exact absurd (show 5 = 3 from h3) (by decide)
                | true => exact absurd (show 6 = 3 from h3) (by decide)
            exact ⟨_, _, _, _, _, _, _, (jl_about_3 oa fo hlt hS hX k v hk hs).1, jq_about_3n hS hY k v hk hs hkr, hS, jA_lv (fun z h => h) (js_nof_no ok hkn (js_kn7 ok))⟩
