-- ===== the parser =====
def js_sk (t : List Nat) (p : Nat) : Nat := js_skip t (t.length - p) p
def js_lf (t : List Nat) (p : Nat) : Nat ⊕ (js_L × Nat) :=
  if js_b t p = 34 then (match js_st t 4096 (p + 1) [] with
    | .inl q => .inl q
    | .inr (us, z) => .inr (.inr (.inr us), z))
  else if js_b t p = 102 then (match js_li t 1 5 0 p with
    | .inl q => .inl q
    | .inr z => .inr (.inl 1, z))
  else if js_b t p = 110 then (match js_li t 0 4 0 p with
    | .inl q => .inl q
    | .inr z => .inr (.inl 0, z))
  else if js_b t p = 116 then (match js_li t 2 4 0 p with
    | .inl q => .inl q
    | .inr z => .inr (.inl 2, z))
  else (match js_nu t p with
    | .inl q => .inl q
    | .inr z => .inr (.inr (.inl (js_sl t (js_ns t p) (z - js_ns t p))), z))
/-- the name of a member, and the colon -/
def js_nmp (t : List Nat) (b : Bool) (xs : List (List Nat)) (p : Nat) : Nat ⊕ (List Nat × Nat) :=
  if b = false then .inr ([], p)
  else if js_b t (js_sk t p) = 34 then (match js_st t 4096 (js_sk t p + 1) [] with
    | .inl q => .inl q
    | .inr (us, z) => if us ∈ xs then .inl (js_sk t p) else if js_b t (js_sk t z) = 58 then .inr (us, js_sk t z + 1) else .inl (js_sk t z))
  else .inl (js_sk t p)
/-- behind a member's value -/
def js_mb (t : List Nat) {α : Type} (b : Bool) (k : Nat → List (List Nat × α) → Nat ⊕ (List (List Nat × α) × Nat)) (nm : List Nat) (acc : List (List Nat × α)) : Nat ⊕ (α × Nat) → Nat ⊕ (List (List Nat × α) × Nat)
  | .inl q => .inl q
  | .inr (v, p2) => if js_b t (js_sk t p2) = nI (js_cls2 b) then .inr (acc ++ [(nm, v)], js_sk t p2 + 1)
    else if js_b t (js_sk t p2) = 44 then k (js_sk t p2 + 1) (acc ++ [(nm, v)])
    else .inl (js_sk t p2)
def js_mem (t : List Nat) {α : Type} (pv : Nat → Nat ⊕ (α × Nat)) (b : Bool) : Nat → Nat → List (List Nat × α) → Nat ⊕ (List (List Nat × α) × Nat)
  | 0, _, _ => .inl t.length
  | f + 1, p, acc => match js_nmp t b (acc.map (·.1)) p with
    | .inl q => .inl q
    | .inr (nm, p1) => js_mb t b (js_mem t pv b f) nm acc (pv (js_sk t p1))
def js_ins (t : List Nat) {α : Type} (pv : Nat → Nat ⊕ (α × Nat)) (b : Bool) (p : Nat) : Nat ⊕ (List (List Nat × α) × Nat) :=
  if js_b t (js_sk t (p + 1)) = nI (js_cls2 b) then .inr ([], js_sk t (p + 1) + 1) else js_mem t pv b (t.length + 1) (p + 1) []
def js_pv (t : List Nat) : (n : Nat) → Nat → Nat ⊕ (js_J n × Nat)
  | 0, p => if js_b t p = 91 then .inl p else if js_b t p = 123 then .inl p else (match js_lf t p with
      | .inl q => .inl q
      | .inr (x, z) => .inr (x, z))
  | n + 1, p => if js_b t p = 91 then (match js_ins t (js_pv t n) false p with
      | .inl q => .inl q
      | .inr (l, z) => .inr (Sum.inr (false, l), z))
    else if js_b t p = 123 then (match js_ins t (js_pv t n) true p with
      | .inl q => .inl q
      | .inr (l, z) => .inr (Sum.inr (true, l), z))
    else (match js_lf t p with
      | .inl q => .inl q
      | .inr (x, z) => .inr (Sum.inl x, z))
/-- a whole text: the place that is told, or its value -/
def js_rd (t : List Nat) : Nat ⊕ js_J 32 := match js_pv t 32 (js_sk t 0) with
  | .inl q => .inl q
  | .inr (v, p) => if js_b t (js_sk t p) = -1 then .inr v else .inl (js_sk t p)
-- ===== good values =====
def js_okl : js_L → Prop
  | .inl k => k < 3
  | .inr (.inl ds) => js_okn ds
  | .inr (.inr us) => js_pa false us
def js_ok : (n : Nat) → js_J n → Prop
  | 0, x => js_okl x
  | _ + 1, Sum.inl x => js_okl x
  | n + 1, Sum.inr (b, l) => (∀ q ∈ l, js_ok n q.2) ∧ (b = true → (∀ q ∈ l, js_pa false q.1) ∧ (l.map (·.1)).Nodup) ∧ (b = false → ∀ q ∈ l, q.1 = [])
theorem js_sk_ge (t : List Nat) (p : Nat) : p ≤ js_sk t p ∧ (p ≤ t.length → js_sk t p ≤ t.length) := by
  unfold js_sk
  have := js_skip_ge (t := t) (t.length - p) p
  omega
theorem js_sk_id {t : List Nat} {p : Nat} (h : fn_Rd_isBlank (js_b t p) = 0) : js_sk t p = p := by
  unfold js_sk
  cases t.length - p with
  | zero => rfl
  | succ n => rw [js_skip, if_pos h]
theorem js_skip_nb {t : List Nat} : ∀ (n p : Nat), t.length ≤ p + n → fn_Rd_isBlank (js_b t (js_skip t n p)) = 0
  | 0, p, h => by rw [js_skip, js_b, List.getElem?_eq_none (by omega)]; decide
  | n + 1, p, h => by
    rw [js_skip]
    split
    · assumption
    · exact js_skip_nb n (p + 1) (by omega)
theorem js_sk_nb (t : List Nat) (p : Nat) : fn_Rd_isBlank (js_b t (js_sk t p)) = 0 := js_skip_nb _ _ (by omega)
theorem js_sk_sk (t : List Nat) (p : Nat) : js_sk t (js_sk t p) = js_sk t p := js_sk_id (js_sk_nb t p)
/-- how a printed value begins -/
def js_fst (b : Nat) : Prop := b = 34 ∨ b = 91 ∨ b = 123 ∨ b = 102 ∨ b = 110 ∨ b = 116 ∨ b = 45 ∨ (48 ≤ b ∧ b ≤ 57)
theorem js_wd_eq : ∀ k, k < 3 → js_wd k = (if k = 0 then [110, 117, 108, 108] else if k = 1 then [102, 97, 108, 115, 101] else [116, 114, 117, 101]) := by decide +kernel
theorem js_pl_head {x : js_L} (h : js_okl x) : ∃ b y, js_pl x = b :: y ∧ js_fst b ∧ b ≠ 91 ∧ b ≠ 123 := by
  match x, h with
  | .inl k, h =>
    have hk : k < 3 := h
    rw [js_pl, js_wd_eq k hk]
    split
    · exact ⟨_, _, rfl, by unfold js_fst; omega, by decide, by decide⟩
    · split
      · exact ⟨_, _, rfl, by unfold js_fst; omega, by decide, by decide⟩
      · exact ⟨_, _, rfl, by unfold js_fst; omega, by decide, by decide⟩
  | .inr (.inl ds), h =>
    obtain ⟨b, l, e, hb⟩ := (js_okn_by h).2
    exact ⟨b, l, e, by unfold js_fst; omega, by omega, by omega⟩
  | .inr (.inr us), h => exact ⟨34, _, rfl, by unfold js_fst; omega, by decide, by decide⟩
theorem js_pr_head : ∀ {n : Nat} {v : js_J n}, js_ok n v → ∃ b y, js_pr n v = b :: y ∧ js_fst b
  | 0, x, h => by
    obtain ⟨b, y, e, hb, -⟩ := js_pl_head h
    exact ⟨b, y, e, hb⟩
  | _ + 1, Sum.inl x, h => by
    obtain ⟨b, y, e, hb, -⟩ := js_pl_head h
    exact ⟨b, y, e, hb⟩
  | _ + 1, Sum.inr (b, l), h => ⟨_, _, rfl, by unfold js_fst js_opn; split <;> omega⟩
theorem js_fst_nb : ∀ b, b < 128 → js_fst b → fn_Rd_isBlank (nI b) = 0 ∧ b ≠ 93 ∧ b ≠ 125 ∧ b ≠ 44 ∧ b ≠ 58 := by unfold js_fst; decide +kernel
theorem js_fst_lt {b : Nat} (h : js_fst b) : b < 128 := by unfold js_fst at h; omega
theorem js_neI {t a y : List Nat} {b c p : Nat} (h : t = a ++ b :: y) (hp : p = a.length) (hb : b < 2 ^ 31) (hc : c < 2 ^ 31) (hn : b ≠ c) : ¬ js_b t p = nI c := by
  rw [h, hp, js_b_off0]
  exact fun q => hn ((nI_eq hb hc).mp q)
theorem js_bI2 {t a y : List Nat} {b p : Nat} (h : t = a ++ b :: y) (hp : p = a.length) : js_b t p = nI b := by rw [h, hp, js_b_off0]; rfl
theorem js_li_off {a y : List Nat} {k : Nat} : ∀ (n j i z : Nat), js_li y k n j i = .inr z → js_li (a ++ y) k n j (a.length + i) = .inr (a.length + z)
  | 0, j, i, z, h => by cases h; rfl
  | n + 1, j, i, z, h => by
    rw [js_li] at h
    rw [js_li, js_b_off]
    split at h
    · rename_i q
      rw [if_pos q, Nat.add_assoc]
      exact js_li_off n (j + 1) (i + 1) z h
    · cases h
theorem js_li_0 (z : List Nat) : js_li (110 :: 117 :: 108 :: 108 :: z) 0 4 0 0 = .inr 4 := rfl
theorem js_li_1 (z : List Nat) : js_li (102 :: 97 :: 108 :: 115 :: 101 :: z) 1 5 0 0 = .inr 5 := rfl
theorem js_li_2 (z : List Nat) : js_li (116 :: 114 :: 117 :: 101 :: z) 2 4 0 0 = .inr 4 := rfl
theorem js_pq_len (us : List Nat) : us.length + 2 ≤ (js_pq us).length := by
  unfold js_pq
  have : us.length ≤ (us.flatMap js_pu).length := by
    induction us with
    | nil => simp
    | cons u us ih =>
      have := js_pu_pos u
      rw [List.flatMap_cons, List.length_append, List.length_cons]
      omega
  rw [List.length_cons, List.length_append]
  show _ ≤ _ + 1 + 1
  omega
/-- a string between quotes, read again -/
theorem js_pq_rt {t a z us : List Nat} {p : Nat} (h : t = a ++ (js_pq us ++ z)) (hp : p = a.length) (hl : t.length ≤ 4096) (hu : js_pa false us) : js_st t 4096 (p + 1) [] = .inr (us, p + (js_pq us).length) := by
  have hq := js_pq_len us
  have hlen : us.length < 4096 := by
    rw [h, List.length_append, List.length_append] at hl
    omega
  have r := js_st_rt us.length 4096 us (a ++ [34]) z [] (Nat.le_refl _) hlen hu
  have e : a ++ [34] ++ (us.flatMap js_pu ++ 34 :: z) = t := by rw [h]; unfold js_pq; simp
  rw [e, List.length_append] at r
  rw [hp]
  rw [show a.length + 1 = a.length + [34].length from rfl, r]
  unfold js_pq
  simp
  omega
theorem js_lf_rt {t a z : List Nat} {x : js_L} {p : Nat} (h : t = a ++ (js_pl x ++ z)) (hp : p = a.length) (hl : t.length ≤ 4096) (hx : js_okl x) (hz : js_zc z) : js_lf t p = .inr (x, p + (js_pl x).length) := by
  match x, hx, h with
  | .inl k, hx, h =>
    have hk : k < 3 := hx
    have hw : js_pl (.inl k) = js_wd k := rfl
    rw [hw] at h ⊢
    rw [js_wd_eq k hk] at h ⊢
    have hk3 : k = 0 ∨ k = 1 ∨ k = 2 := by omega
    rcases hk3 with q | q | q
    · subst q
      rw [js_lf, if_neg (show ¬ js_b t p = 34 from js_neI (c := 34) h hp (by decide) (by decide) (by decide)), if_neg (show ¬ js_b t p = 102 from js_neI (c := 102) h hp (by decide) (by decide) (by decide)), if_pos (show js_b t p = 110 from js_bI2 h hp)]
      have r : js_li t 0 4 0 p = .inr (p + 4) := by
        rw [h, hp]
        exact js_li_off (a := a) _ _ _ _ (js_li_0 z)
      rw [r]
      rfl
    · subst q
      rw [js_lf, if_neg (show ¬ js_b t p = 34 from js_neI (c := 34) h hp (by decide) (by decide) (by decide)), if_pos (show js_b t p = 102 from js_bI2 h hp)]
      have r : js_li t 1 5 0 p = .inr (p + 5) := by
        rw [h, hp]
        exact js_li_off (a := a) _ _ _ _ (js_li_1 z)
      rw [r]
      rfl
    · subst q
      rw [js_lf, if_neg (show ¬ js_b t p = 34 from js_neI (c := 34) h hp (by decide) (by decide) (by decide)), if_neg (show ¬ js_b t p = 102 from js_neI (c := 102) h hp (by decide) (by decide) (by decide)), if_neg (show ¬ js_b t p = 110 from js_neI (c := 110) h hp (by decide) (by decide) (by decide)), if_pos (show js_b t p = 116 from js_bI2 h hp)]
      have r : js_li t 2 4 0 p = .inr (p + 4) := by
        rw [h, hp]
        exact js_li_off (a := a) _ _ _ _ (js_li_2 z)
      rw [r]
      rfl
  | .inr (.inl ds), hx, h =>
    obtain ⟨b, l, e, hb⟩ := (js_okn_by hx).2
    have r := js_nu_rt (ds := ds) (a := a) (z := z) hx hz
    have h2 : t = a ++ (ds ++ z) := h
    have h3 : t = a ++ b :: (l ++ z) := by rw [h2, e]; rfl
    rw [js_lf, if_neg (show ¬ js_b t p = 34 from js_neI (c := 34) h3 hp (by omega) (by decide) (by omega)), if_neg (show ¬ js_b t p = 102 from js_neI (c := 102) h3 hp (by omega) (by decide) (by omega)), if_neg (show ¬ js_b t p = 110 from js_neI (c := 110) h3 hp (by omega) (by decide) (by omega)), if_neg (show ¬ js_b t p = 116 from js_neI (c := 116) h3 hp (by omega) (by decide) (by omega))]
    rw [← h2, ← hp] at r
    rw [r.1, r.2]
    show Sum.inr (Sum.inr (Sum.inl (js_sl t p (p + ds.length - p))), p + ds.length) = _
    rw [Nat.add_sub_cancel_left]
    have := js_sl_mid (a := a) (x := ds) (z := z)
    rw [← h2, ← hp] at this
    rw [this]
    rfl
  | .inr (.inr us), hx, h =>
    have h2 : t = a ++ (js_pq us ++ z) := h
    rw [js_lf, if_pos (show js_b t p = 34 from js_bI2 (t := t) (b := 34) (y := us.flatMap js_pu ++ [34] ++ z) (by rw [h2]; rfl) hp), js_pq_rt h2 hp hl hx]
    rfl
theorem js_cm_cons (x : List Nat) (l : List (List Nat)) (h : l ≠ []) : js_cm (x :: l) = x ++ 44 :: js_cm l := by
  rw [js_cm, if_neg]
  intro q
  exact h (List.eq_nil_of_length_eq_zero q)
theorem js_cm_one (x : List Nat) : js_cm [x] = x := by simp [js_cm]
/-- members that were printed are read as they were -/
theorem js_mem_rt {n : Nat} (IH : ∀ (t a z : List Nat) (v : js_J n) (p : Nat), t = a ++ (js_pr n v ++ z) → p = a.length → t.length ≤ 4096 → js_ok n v → js_zc z → js_pv t n p = .inr (v, p + (js_pr n v).length)) (b : Bool) :
    ∀ (l acc : List (List Nat × js_J n)) (t a z : List Nat) (p f : Nat), l ≠ [] → t = a ++ (js_cm (l.map fun q => js_mp b q.1 (js_pr n q.2)) ++ js_cls2 b :: z) → p = a.length → t.length ≤ 4096 → l.length ≤ f → (∀ q ∈ l, js_ok n q.2) → (b = true → (∀ q ∈ l, js_pa false q.1) ∧ ((acc ++ l).map (·.1)).Nodup) → (b = false → ∀ q ∈ l, q.1 = []) →
    js_mem t (js_pv t n) b f p acc = .inr (acc ++ l, p + (js_cm (l.map fun q => js_mp b q.1 (js_pr n q.2))).length + 1)
  | [], acc, t, a, z, p, f, h0, _, _, _, _, _, _, _ => absurd rfl h0
  | (nm, v) :: l, acc, t, a, z, p, 0, _, _, _, _, hf, _, _, _ => by simp at hf
  | (nm, v) :: l, acc, t, a, z, p, f + 1, _, ht, hp, hl, hf, hok, hT, hF => by
    have hv : js_ok n v := hok (nm, v) (List.mem_cons_self ..)
    obtain ⟨b0, y0, e0, hb0⟩ := js_pr_head hv
    have hb128 := js_fst_lt hb0
    have hb1 := js_fst_nb b0 hb128 hb0
    -- what follows the value
    obtain ⟨R, hR⟩ : ∃ R, R = (if l = [] then [] else 44 :: js_cm (l.map fun q => js_mp b q.1 (js_pr n q.2))) := ⟨_, rfl⟩
    have hcm : js_cm (((nm, v) :: l).map fun q => js_mp b q.1 (js_pr n q.2)) = js_mp b nm (js_pr n v) ++ R := by
      rw [hR]
      by_cases q : l = []
      · rw [if_pos q, q, List.append_nil]; exact js_cm_one _
      · rw [if_neg q, List.map_cons, js_cm_cons _ _ (by simpa using q)]
    have hz : js_zc (R ++ js_cls2 b :: z) := by
      rw [hR]
      by_cases q : l = []
      · rw [if_pos q]
        refine Or.inr ⟨js_cls2 b, z, rfl, ?_⟩
        unfold js_cls2
        split <;> omega
      · rw [if_neg q]
        exact Or.inr ⟨44, _, rfl, Or.inl rfl⟩
    -- the name
    have hnm : ∃ N, js_mp b nm (js_pr n v) = N ++ js_pr n v ∧ js_nmp t b (acc.map (·.1)) p = .inr (nm, p + N.length) := by
      cases b with
      | false =>
        have e : nm = [] := hF rfl (nm, v) (List.mem_cons_self ..)
        exact ⟨[], rfl, by rw [js_nmp, if_pos rfl, e]; rfl⟩
      | true =>
        obtain ⟨hpa, hnd⟩ := hT rfl
        have hpn := hpa (nm, v) (List.mem_cons_self ..)
        have ht2 : t = a ++ (js_pq nm ++ (58 :: js_pr n v ++ (R ++ js_cls2 true :: z))) := by rw [ht, hcm, js_mp, if_pos rfl]; simp
        have hsk : js_sk t p = p := js_sk_id (by rw [js_bI2 (t := t) (b := 34) (y := nm.flatMap js_pu ++ [34] ++ (58 :: js_pr n v ++ (R ++ js_cls2 true :: z))) (by rw [ht2]; rfl) hp]; decide)
        have ht3 : t = (a ++ js_pq nm) ++ 58 :: (js_pr n v ++ (R ++ js_cls2 true :: z)) := by rw [ht2]; simp
        have hp3 : p + (js_pq nm).length = (a ++ js_pq nm).length := by rw [hp, List.length_append]
        have h58 : js_b t (p + (js_pq nm).length) = 58 := js_bI2 ht3 hp3
        have hsk2 : js_sk t (p + (js_pq nm).length) = p + (js_pq nm).length := js_sk_id (by rw [h58]; decide)
        have hni : ¬ nm ∈ acc.map (·.1) := by
          intro q
          rw [List.map_append, List.nodup_append] at hnd
          exact hnd.2.2 nm q nm (List.mem_cons_self ..) rfl
        refine ⟨js_pq nm ++ [58], by rw [js_mp, if_pos rfl]; simp, ?_⟩
        rw [js_nmp, if_neg (by decide), hsk, if_pos (show js_b t p = 34 from js_bI2 (t := t) (b := 34) (y := nm.flatMap js_pu ++ [34] ++ (58 :: js_pr n v ++ (R ++ js_cls2 true :: z))) (by rw [ht2]; rfl) hp), js_pq_rt ht2 hp hl hpn]
        show (if nm ∈ acc.map (·.1) then _ else _) = _
        rw [if_neg hni, hsk2, if_pos h58, List.length_append]
        rfl
    obtain ⟨N, hN, hnm⟩ := hnm
    rw [hcm, hN] at ht ⊢
    have ht4 : t = (a ++ N) ++ (js_pr n v ++ (R ++ js_cls2 b :: z)) := by rw [ht]; simp
    have hp4 : p + N.length = (a ++ N).length := by rw [hp, List.length_append]
    have hsk4 : js_sk t (p + N.length) = p + N.length := js_sk_id (by
      rw [js_bI2 (t := t) (b := b0) (y := y0 ++ (R ++ js_cls2 b :: z)) (by rw [ht4, e0]; rfl) hp4]
      exact hb1.1)
    have hpv := IH t (a ++ N) (R ++ js_cls2 b :: z) v (p + N.length) ht4 hp4 hl hv hz
    have ht5 : t = (a ++ N ++ js_pr n v) ++ (R ++ js_cls2 b :: z) := by rw [ht4]; simp
    have hp5 : p + N.length + (js_pr n v).length = (a ++ N ++ js_pr n v).length := by rw [hp4, List.length_append (as := a ++ N)]
    have hsk5 : js_sk t (p + N.length + (js_pr n v).length) = p + N.length + (js_pr n v).length := js_sk_id (by
      rw [ht5, hp5]
      exact (js_zc_b hz).2.2)
    rw [js_mem, hnm]
    simp only [hsk4, hpv, js_mb, hsk5]
    by_cases q : l = []
    · rw [hR, if_pos q] at ht5 ⊢
      rw [if_pos (js_bI2 (t := t) ht5 hp5), q, List.append_nil, List.length_append]
      congr 2
      omega
    · rw [hR, if_neg q] at ht5 ⊢
      have hc : ¬ (44 : Nat) = js_cls2 b := by unfold js_cls2; split <;> decide
      have hc2 : js_cls2 b < 2 ^ 31 := by unfold js_cls2; split <;> decide
      rw [if_neg (js_neI (t := t) ht5 hp5 (by decide) hc2 hc), if_pos (show js_b t (p + N.length + (js_pr n v).length) = 44 from js_bI2 (t := t) (b := 44) ht5 hp5)]
      have r := js_mem_rt IH b l (acc ++ [(nm, v)]) t (a ++ N ++ js_pr n v ++ [44]) z (p + N.length + (js_pr n v).length + 1) f q (by rw [ht5]; simp) (by rw [hp5, List.length_append (bs := [44])]; rfl) hl (by simp at hf; omega) (fun x hx => hok x (List.mem_cons_of_mem _ hx)) (fun e => ⟨fun x hx => (hT e).1 x (List.mem_cons_of_mem _ hx), by have := (hT e).2; simpa using this⟩) (fun e x hx => hF e x (List.mem_cons_of_mem _ hx))
      rw [r]
      simp
      omega
theorem js_cm_len {n : Nat} {b : Bool} : ∀ (l : List (List Nat × js_J n)), (∀ q ∈ l, js_ok n q.2) → l.length ≤ (js_cm (l.map fun q => js_mp b q.1 (js_pr n q.2))).length
  | [], _ => Nat.zero_le _
  | (nm, v) :: l, h => by
    obtain ⟨b0, y0, e0, hb0⟩ := js_pr_head (h (nm, v) (List.mem_cons_self ..))
    have h1 : 1 ≤ (js_mp b nm (js_pr n v)).length := by
      rw [js_mp]
      split
      · rw [List.length_append, List.length_cons]; omega
      · rw [e0, List.length_cons]; omega
    have ih := js_cm_len (b := b) l (fun q hq => h q (List.mem_cons_of_mem _ hq))
    by_cases q : l = []
    · rw [q, List.map_cons, List.map_nil, js_cm_one]; exact h1
    · rw [List.map_cons, js_cm_cons _ _ (by simpa using q), List.length_append, List.length_cons, List.length_cons]
      omega
/-- a value that was printed is read as it was -/
theorem js_pv_rt : ∀ (n : Nat) (t a z : List Nat) (v : js_J n) (p : Nat), t = a ++ (js_pr n v ++ z) → p = a.length → t.length ≤ 4096 → js_ok n v → js_zc z → js_pv t n p = .inr (v, p + (js_pr n v).length)
  | 0, t, a, z, x, p, ht, hp, hl, hv, hz => by
    obtain ⟨b, y, e, hb, h91, h123⟩ := js_pl_head hv
    have hb128 := js_fst_lt hb
    have ht2 : t = a ++ b :: (y ++ z) := by rw [ht]; show a ++ (js_pl x ++ z) = _; rw [e]; rfl
    rw [js_pv, if_neg (show ¬ js_b t p = 91 from js_neI (c := 91) ht2 hp (by omega) (by decide) h91), if_neg (show ¬ js_b t p = 123 from js_neI (c := 123) ht2 hp (by omega) (by decide) h123)]
    rw [js_lf_rt (x := x) ht hp hl hv hz]
    rfl
  | n + 1, t, a, z, Sum.inl x, p, ht, hp, hl, hv, hz => by
    obtain ⟨b, y, e, hb, h91, h123⟩ := js_pl_head hv
    have hb128 := js_fst_lt hb
    have ht2 : t = a ++ b :: (y ++ z) := by rw [ht]; show a ++ (js_pl x ++ z) = _; rw [e]; rfl
    rw [js_pv, if_neg (show ¬ js_b t p = 91 from js_neI (c := 91) ht2 hp (by omega) (by decide) h91), if_neg (show ¬ js_b t p = 123 from js_neI (c := 123) ht2 hp (by omega) (by decide) h123), js_lf_rt (x := x) ht hp hl hv hz]
    rfl
  | n + 1, t, a, z, Sum.inr (b, l), p, ht, hp, hl, hv, hz => by
    have ht2 : t = a ++ js_opn b :: (js_cm (l.map fun q => js_mp b q.1 (js_pr n q.2)) ++ js_cls2 b :: z) := by
      rw [ht]
      show a ++ (js_opn b :: (js_cm (l.map fun q => js_mp b q.1 (js_pr n q.2)) ++ [js_cls2 b]) ++ z) = _
      simp
    have ht3 : t = (a ++ [js_opn b]) ++ (js_cm (l.map fun q => js_mp b q.1 (js_pr n q.2)) ++ js_cls2 b :: z) := by rw [ht2]; simp
    have hp3 : p + 1 = (a ++ [js_opn b]).length := by rw [hp, List.length_append]; rfl
    have hins : js_ins t (js_pv t n) b p = .inr (l, p + (js_pr (n + 1) (Sum.inr (b, l))).length) := by
      have hlen : (js_pr (n + 1) (Sum.inr (b, l))).length = (js_cm (l.map fun q => js_mp b q.1 (js_pr n q.2))).length + 2 := by
        show (js_opn b :: (js_cm (l.map fun q => js_mp b q.1 (js_pr n q.2)) ++ [js_cls2 b])).length = _
        simp
      rw [js_ins, hlen]
      by_cases q : l = []
      · subst q
        have hc : js_b t (p + 1) = nI (js_cls2 b) := js_bI2 (t := t) ht3 hp3
        have hsk : js_sk t (p + 1) = p + 1 := js_sk_id (by rw [hc]; cases b <;> decide)
        rw [hsk, if_pos hc]
        rfl
      · have hne : ∃ b0 y0, js_cm (l.map fun q => js_mp b q.1 (js_pr n q.2)) = b0 :: y0 ∧ js_fst b0 := by
          cases l with
          | nil => exact absurd rfl q
          | cons w l =>
            obtain ⟨b0, y0, e0, hb0⟩ := js_pr_head (hv.1 w (List.mem_cons_self ..))
            rw [List.map_cons, js_cm, js_mp]
            split
            · exact ⟨34, _, rfl, Or.inl rfl⟩
            · rw [e0]; exact ⟨b0, _, rfl, hb0⟩
        obtain ⟨b0, y0, e0, hb0⟩ := hne
        have hb128 := js_fst_lt hb0
        have hb1 := js_fst_nb b0 hb128 hb0
        have ht4 : t = (a ++ [js_opn b]) ++ b0 :: (y0 ++ js_cls2 b :: z) := by rw [ht3, e0]; rfl
        have hsk : js_sk t (p + 1) = p + 1 := js_sk_id (by rw [js_bI2 (t := t) ht4 hp3]; exact hb1.1)
        have hc : b0 ≠ js_cls2 b := by unfold js_cls2; split <;> omega
        have hc2 : js_cls2 b < 2 ^ 31 := by unfold js_cls2; split <;> decide
        rw [hsk, if_neg (js_neI (t := t) ht4 hp3 (by omega) hc2 hc)]
        have hll := js_cm_len (b := b) l hv.1
        have hfl : l.length ≤ t.length + 1 := by
          rw [ht3]
          simp only [List.length_append]
          omega
        have r := js_mem_rt (js_pv_rt n) b l [] t (a ++ [js_opn b]) z (p + 1) (t.length + 1) q ht3 hp3 hl hfl hv.1 (fun e => hv.2.1 e) hv.2.2
        rw [r]
        show Sum.inr (l, _) = Sum.inr (l, _)
        congr 2
        omega
    cases b with
    | false =>
      rw [js_pv, if_pos (show js_b t p = 91 from js_bI2 (t := t) (b := 91) ht2 hp), hins]
    | true =>
      rw [js_pv, if_neg (show ¬ js_b t p = 91 from js_neI (t := t) (b := 123) (c := 91) ht2 hp (by decide) (by decide) (by decide)), if_pos (show js_b t p = 123 from js_bI2 (t := t) (b := 123) ht2 hp), hins]
theorem js_rd_rt {v : js_J 32} (hv : js_ok 32 v) (hl : (js_pr 32 v).length ≤ 4096) : js_rd (js_pr 32 v) = .inr v := by
  obtain ⟨b0, y0, e0, hb0⟩ := js_pr_head hv
  have hsk : js_sk (js_pr 32 v) 0 = 0 := js_sk_id (by rw [e0]; exact (js_fst_nb b0 (js_fst_lt hb0) hb0).1)
  have r := js_pv_rt 32 (js_pr 32 v) [] [] v 0 (by simp) rfl hl hv (Or.inl rfl)
  rw [js_rd, hsk, r]
  have hend : js_b (js_pr 32 v) (0 + (js_pr 32 v).length) = -1 := by rw [js_b, List.getElem?_eq_none (by omega)]
  have hsk2 : js_sk (js_pr 32 v) (0 + (js_pr 32 v).length) = 0 + (js_pr 32 v).length := js_sk_id (by rw [hend]; decide)
  show (if js_b (js_pr 32 v) (js_sk (js_pr 32 v) (0 + (js_pr 32 v).length)) = -1 then Sum.inr v else _) = _
  rw [hsk2, if_pos hend]
