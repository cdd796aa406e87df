-- ===== the units of a value; the parser step by step =====
def js_ul : js_L → Nat
  | .inl _ => 0
  | .inr (.inl _) => 0
  | .inr (.inr us) => us.length
def js_uu : (n : Nat) → js_J n → Nat
  | 0, x => js_ul x
  | _ + 1, Sum.inl x => js_ul x
  | n + 1, Sum.inr (_, l) => (l.map fun q => q.1.length + js_uu n q.2).sum
theorem js_ul_le (x : js_L) : js_ul x ≤ (js_pl x).length := by
  match x with
  | .inl k => exact Nat.zero_le _
  | .inr (.inl ds) => exact Nat.zero_le _
  | .inr (.inr us) => have := js_pq_len us; show us.length ≤ (js_pq us).length; omega
theorem js_uu_le : ∀ (n : Nat) (v : js_J n), js_ok n v → js_uu n v ≤ (js_pr n v).length
  | 0, x, _ => js_ul_le x
  | _ + 1, Sum.inl x, _ => js_ul_le x
  | n + 1, Sum.inr (b, l), h => by
    have h2 : (l.map fun q => q.1.length + js_uu n q.2).sum ≤ (js_cm (l.map fun q => js_mp b q.1 (js_pr n q.2))).length := by
      have key : ∀ (m : List (List Nat × js_J n)), (∀ q ∈ m, js_ok n q.2) → (b = false → ∀ q ∈ m, q.1 = []) → (m.map fun q => q.1.length + js_uu n q.2).sum ≤ (js_cm (m.map fun q => js_mp b q.1 (js_pr n q.2))).length := by
        intro m
        induction m with
        | nil => intro _ _; exact Nat.zero_le _
        | cons q m ih =>
          intro ho hb
          have h1 := js_uu_le n q.2 (ho q (List.mem_cons_self ..))
          have h2 : q.1.length + (js_pr n q.2).length ≤ (js_mp b q.1 (js_pr n q.2)).length := by
            rw [js_mp]
            split
            · have := js_pq_len q.1
              rw [List.length_append, List.length_cons]; omega
            · rename_i e
              rw [hb (by cases b <;> simp_all) q (List.mem_cons_self ..)]
              show 0 + _ ≤ _
              omega
          have ih := ih (fun x hx => ho x (List.mem_cons_of_mem _ hx)) (fun e x hx => hb e x (List.mem_cons_of_mem _ hx))
          rw [List.map_cons, List.sum_cons, List.map_cons, js_cm]
          split
          · rename_i e
            have : m = [] := by simpa using e
            rw [this]
            simp
            omega
          · rw [List.length_append, List.length_cons]
            omega
      exact key l h.1 h.2.2
    show (l.map fun q => q.1.length + js_uu n q.2).sum ≤ (js_opn b :: (js_cm (l.map fun q => js_mp b q.1 (js_pr n q.2)) ++ [js_cls2 b])).length
    rw [List.length_cons, List.length_append]
    omega
theorem js_cnt_len {n : Nat} {v : js_J n} (h : js_ok n v) : js_cnt n v ≤ (js_pr n v).length := by
  have h1 := js_cnt_le n v h
  have h2 := js_cnt_pos n v
  omega
theorem js_cnt_snoc {n : Nat} (b : Bool) (acc : List (List Nat × js_J n)) (nm : List Nat) (v : js_J n) : js_cnt (n + 1) (Sum.inr (b, acc ++ [(nm, v)])) = js_cnt (n + 1) (Sum.inr (b, acc)) + js_cnt n v := by
  rw [js_cnt_inr, js_cnt_inr, List.map_append, List.sum_append]
  simp
  omega
theorem js_uu_inr {n : Nat} (b : Bool) (l : List (List Nat × js_J n)) : js_uu (n + 1) (Sum.inr (b, l)) = (l.map fun q => q.1.length + js_uu n q.2).sum := rfl
theorem js_uu_snoc {n : Nat} (b : Bool) (acc : List (List Nat × js_J n)) (nm : List Nat) (v : js_J n) : js_uu (n + 1) (Sum.inr (b, acc ++ [(nm, v)])) = js_uu (n + 1) (Sum.inr (b, acc)) + nm.length + js_uu n v := by
  rw [js_uu_inr, js_uu_inr, List.map_append, List.sum_append]
  simp
  omega
-- the steps of the members
theorem js_mem_ok1 {t : List Nat} {α : Type} {pv : Nat → Nat ⊕ (α × Nat)} {b : Bool} {f p z : Nat} {acc l : List (List Nat × α)} (h : js_mem t pv b (f + 1) p acc = .inr (l, z)) : ∃ (nm : List Nat) (p1 : Nat) (v : α) (p2 : Nat), js_nmp t b (acc.map (·.1)) p = .inr (nm, p1) ∧ pv (js_sk t p1) = .inr (v, p2) ∧ ((js_b t (js_sk t p2) = nI (js_cls2 b) ∧ l = acc ++ [(nm, v)] ∧ z = js_sk t p2 + 1) ∨ (¬ js_b t (js_sk t p2) = nI (js_cls2 b) ∧ js_b t (js_sk t p2) = 44 ∧ js_mem t pv b f (js_sk t p2 + 1) (acc ++ [(nm, v)]) = .inr (l, z))) := by
  rw [js_mem] at h
  split at h
  · cases h
  · rename_i nm p1 hn
    cases hpv : pv (js_sk t p1) with
    | inl q => rw [hpv, js_mb] at h; cases h
    | inr r =>
      obtain ⟨v, p2⟩ := r
      rw [hpv, js_mb] at h
      refine ⟨nm, p1, v, p2, hn, hpv, ?_⟩
      split at h
      · rename_i hc
        cases h
        exact Or.inl ⟨hc, rfl, rfl⟩
      · rename_i hc
        split at h
        · rename_i h44
          exact Or.inr ⟨hc, h44, h⟩
        · cases h
theorem js_mem_no1 {t : List Nat} {α : Type} {pv : Nat → Nat ⊕ (α × Nat)} {b : Bool} {f p q : Nat} {acc : List (List Nat × α)} (h : js_mem t pv b (f + 1) p acc = .inl q) : (js_nmp t b (acc.map (·.1)) p = .inl q) ∨ (∃ (nm : List Nat) (p1 : Nat), js_nmp t b (acc.map (·.1)) p = .inr (nm, p1) ∧ (pv (js_sk t p1) = .inl q ∨ ∃ (v : α) (p2 : Nat), pv (js_sk t p1) = .inr (v, p2) ∧ ¬ js_b t (js_sk t p2) = nI (js_cls2 b) ∧ ((js_b t (js_sk t p2) = 44 ∧ js_mem t pv b f (js_sk t p2 + 1) (acc ++ [(nm, v)]) = .inl q) ∨ (¬ js_b t (js_sk t p2) = 44 ∧ q = js_sk t p2)))) := by
  rw [js_mem] at h
  split at h
  · rename_i hn
    cases h
    exact Or.inl hn
  · rename_i nm p1 hn
    refine Or.inr ⟨nm, p1, hn, ?_⟩
    cases hpv : pv (js_sk t p1) with
    | inl r => rw [hpv, js_mb] at h; cases h; exact Or.inl rfl
    | inr r =>
      obtain ⟨v, p2⟩ := r
      rw [hpv, js_mb] at h
      refine Or.inr ⟨v, p2, rfl, ?_⟩
      split at h
      · cases h
      · rename_i hc
        refine ⟨hc, ?_⟩
        split at h
        · rename_i h44
          exact Or.inl ⟨h44, h⟩
        · rename_i h44
          cases h
          exact Or.inr ⟨h44, rfl⟩
theorem js_mem_ext {t : List Nat} {α : Type} {pv : Nat → Nat ⊕ (α × Nat)} {b : Bool} : ∀ {f p z : Nat} {acc l : List (List Nat × α)}, js_mem t pv b f p acc = .inr (l, z) → ∃ m, l = acc ++ m
  | 0, p, z, acc, l, h => by cases h
  | f + 1, p, z, acc, l, h => by
    obtain ⟨nm, p1, v, p2, -, -, h3⟩ := js_mem_ok1 h
    rcases h3 with ⟨-, e, -⟩ | ⟨-, -, e⟩
    · exact ⟨_, e⟩
    · obtain ⟨m, hm⟩ := js_mem_ext e
      exact ⟨[(nm, v)] ++ m, by rw [hm, List.append_assoc]⟩
theorem js_cnt_app {n : Nat} (b : Bool) (acc m : List (List Nat × js_J n)) : js_cnt (n + 1) (Sum.inr (b, acc)) ≤ js_cnt (n + 1) (Sum.inr (b, acc ++ m)) ∧ js_uu (n + 1) (Sum.inr (b, acc)) ≤ js_uu (n + 1) (Sum.inr (b, acc ++ m)) := by
  rw [js_cnt_inr, js_cnt_inr, js_uu_inr, js_uu_inr, List.map_append, List.map_append, List.sum_append, List.sum_append]
  omega
theorem js_nmp_f {t : List Nat} {xs : List (List Nat)} {p : Nat} : js_nmp t false xs p = .inr ([], p) := by rw [js_nmp, if_pos rfl]
theorem js_nmp_t {t : List Nat} {xs : List (List Nat)} {p : Nat} {R : Nat ⊕ (List Nat × Nat)} (h : js_nmp t true xs p = R) : (¬ js_b t (js_sk t p) = 34 ∧ R = .inl (js_sk t p)) ∨ (js_b t (js_sk t p) = 34 ∧ ((∃ q, js_st t 4096 (js_sk t p + 1) [] = .inl q ∧ R = .inl q) ∨ ∃ us z, js_st t 4096 (js_sk t p + 1) [] = .inr (us, z) ∧ ((us ∈ xs ∧ R = .inl (js_sk t p)) ∨ (¬ us ∈ xs ∧ ((js_b t (js_sk t z) = 58 ∧ R = .inr (us, js_sk t z + 1)) ∨ (¬ js_b t (js_sk t z) = 58 ∧ R = .inl (js_sk t z))))))) := by
  rw [js_nmp, if_neg (by decide)] at h
  by_cases q : js_b t (js_sk t p) = 34
  · rw [if_pos q] at h
    refine Or.inr ⟨q, ?_⟩
    cases hs : js_st t 4096 (js_sk t p + 1) [] with
    | inl r => rw [hs] at h; exact Or.inl ⟨r, rfl, h.symm⟩
    | inr r =>
      obtain ⟨us, z⟩ := r
      rw [hs] at h
      refine Or.inr ⟨us, z, rfl, ?_⟩
      have h : (if us ∈ xs then Sum.inl (js_sk t p) else if js_b t (js_sk t z) = 58 then Sum.inr (us, js_sk t z + 1) else Sum.inl (js_sk t z)) = R := h
      by_cases m : us ∈ xs
      · rw [if_pos m] at h; exact Or.inl ⟨m, h.symm⟩
      · rw [if_neg m] at h
        refine Or.inr ⟨m, ?_⟩
        by_cases w : js_b t (js_sk t z) = 58
        · rw [if_pos w] at h; exact Or.inl ⟨w, h.symm⟩
        · rw [if_neg w] at h; exact Or.inr ⟨w, h.symm⟩
  · rw [if_neg q] at h
    exact Or.inl ⟨q, h.symm⟩
-- ===== what stays, what comes =====
def js_PR (F F' : Nat → Nat → Int32) (G G' : Nat → Int64) (c u u' : Nat) : Prop := (∀ j, j < c → F' 0 j = F 0 j ∧ F' 2 j = F 2 j ∧ F' 3 j = F 3 j ∧ F' 4 j = F 4 j ∧ F' 5 j = F 5 j ∧ F' 6 j = F 6 j ∧ F' 7 j = F 7 j ∧ G' j = G j) ∧ (∀ j, j < u → F' 10 j = F 10 j) ∧ js_TC F' u'
theorem js_PR.trans {F F1 F2 : Nat → Nat → Int32} {G G1 G2 : Nat → Int64} {c u u1 u2 c1 : Nat} (h : js_PR F F1 G G1 c u u1) (h2 : js_PR F1 F2 G1 G2 c1 u1 u2) (hc : c ≤ c1) (hu : u ≤ u1) : js_PR F F2 G G2 c u u2 := by
  refine ⟨fun j hj => ?_, fun j hj => (h2.2.1 j (by omega)).trans (h.2.1 j hj), h2.2.2⟩
  obtain ⟨a0, a2, a3, a4, a5, a6, a7, a8⟩ := h.1 j hj
  obtain ⟨b0, b2, b3, b4, b5, b6, b7, b8⟩ := h2.1 j (by omega)
  exact ⟨b0.trans a0, b2.trans a2, b3.trans a3, b4.trans a4, b5.trans a5, b6.trans a6, b7.trans a7, b8.trans a8⟩
theorem js_AD.pr {F F' : Nat → Nat → Int32} {G G' : Nat → Int64} {c u : Nat} {k : Int32} (h : js_AD F F' G G' c u k) (hC : js_TC F u) : js_PR F F' G G' c u u := ⟨h.1, fun j _ => by rw [h.2.1], fun j hj => by rw [h.2.1]; exact hC j hj⟩
theorem js_QI.pr {F F1 : Nat → Nat → Int32} {G : Nat → Int64} {c u : Nat} {ys : List Nat} (h : js_QI F F1 u ys) : js_PR F F1 G G c u (u + ys.length) := ⟨fun j _ => ⟨by rw [h.1 0 (by decide)], by rw [h.1 2 (by decide)], by rw [h.1 3 (by decide)], by rw [h.1 4 (by decide)], by rw [h.1 5 (by decide)], by rw [h.1 6 (by decide)], by rw [h.1 7 (by decide)], rfl⟩, h.2.1, h.2.2.2⟩
/-- the kid before, or -1 -/
def js_bf {n : Nat} (acc : List (List Nat × js_J n)) (k : Nat) : Int32 := if acc = [] then -1 else nI (js_pos acc (k + 1) (acc.length - 1))
theorem js_bf_snoc {n : Nat} (b : Bool) (acc : List (List Nat × js_J n)) (nm : List Nat) (v : js_J n) (k : Nat) : js_bf (acc ++ [(nm, v)]) k = nI (k + js_cnt (n + 1) (Sum.inr (b, acc))) := by
  unfold js_bf
  rw [if_neg (by simp), List.length_append]
  show nI (js_pos (acc ++ [(nm, v)]) (k + 1) (acc.length + 1 - 1)) = _
  rw [Nat.add_sub_cancel, js_pos_app _ _ _ _ (Nat.le_refl _), js_pos_len, js_cnt_inr]
  congr 1
  omega
/-- the name of a kid is set -/
def js_NM (F F' : Nat → Nat → Int32) (c : Nat) : Prop := (∀ r, r ≠ 6 → r ≠ 7 → F' r = F r) ∧ ∀ j, j ≠ c → F' 6 j = F 6 j ∧ F' 7 j = F 7 j
theorem js_setr_s {α : Type} {F : Nat → α} {r : Nat} {g : α} : js_setr F r g r = g := if_pos rfl
theorem js_setr_n {α : Type} {F : Nat → α} {r i : Nat} {g : α} (h : i ≠ r) : js_setr F r g i = F i := if_neg h
/-- a kid is put in: the first -/
theorem js_ins_0 {F1 F2 F2' F3 : Nat → Nat → Int32} {G1 G2 : Nat → Int64} {u1 u2 n k c : Nat} {b : Bool} {nm : List Nat} {v : js_J n} {gp : Nat → Int32} (h : js_TV F1 G1 u1 (n + 1) (Sum.inr (b, [])) k) (hc : c = k + 1) (hP : js_PR F1 F2 G1 G2 c u1 u2) (hl : u1 ≤ u2) (hv : js_TV F2 G2 u2 n v c) (hN : js_NM F2 F2' c) (hn : b = true → js_TN F2' u2 c nm) (e3 : F3 = js_setr (js_setr (js_setr F2' 8 gp) 5 (upd (F2' 5) c (F2' 4 k))) 4 (upd (F2' 4) k (nI c))) :
    js_TV F3 G2 u2 (n + 1) (Sum.inr (b, [] ++ [(nm, v)])) k ∧ js_PR F1 F3 G1 G2 k u1 u2 := by
  have r0 : F3 0 = F2 0 := by rw [e3, js_setr_n (by decide), js_setr_n (by decide), js_setr_n (by decide), hN.1 0 (by decide) (by decide)]
  have r2 : F3 2 = F2 2 := by rw [e3, js_setr_n (by decide), js_setr_n (by decide), js_setr_n (by decide), hN.1 2 (by decide) (by decide)]
  have r3 : F3 3 = F2 3 := by rw [e3, js_setr_n (by decide), js_setr_n (by decide), js_setr_n (by decide), hN.1 3 (by decide) (by decide)]
  have r4 : F3 4 = upd (F2 4) k (nI c) := by rw [e3, js_setr_s, hN.1 4 (by decide) (by decide)]
  have r5 : F3 5 = upd (F2 5) c (F2 4 k) := by rw [e3, js_setr_n (by decide), js_setr_s, hN.1 5 (by decide) (by decide), hN.1 4 (by decide) (by decide)]
  have r6 : F3 6 = F2' 6 := by rw [e3, js_setr_n (by decide), js_setr_n (by decide), js_setr_n (by decide)]
  have r7 : F3 7 = F2' 7 := by rw [e3, js_setr_n (by decide), js_setr_n (by decide), js_setr_n (by decide)]
  have r10 : F3 10 = F2 10 := by rw [e3, js_setr_n (by decide), js_setr_n (by decide), js_setr_n (by decide), hN.1 10 (by decide) (by decide)]
  have rA : F2' 10 = F2 10 := hN.1 10 (by decide) (by decide)
  have hk := hP.1 k (by omega)
  have h4 : F1 4 k = -1 := h.2.1
  constructor
  · refine js_TV_snoc (F := F1) (G := G1) (u := u1) (c := c) h (by rw [js_cnt_inr]; exact hc) ?_ (fun j hj => by rw [r10]; exact hP.2.1 j hj) hl (by rw [r0]; exact hk.1) (fun j h1 h2 => by omega) (by rw [r4, pk_us, hc]) (fun j h1 h2 => by omega) (fun e => absurd rfl e) (by rw [r5, pk_us, hk.2.2.2.1, h4]) ?_
    · refine js_TV_congr (fun j _ => by rw [r10]) (Nat.le_refl _) (fun j h1 h2 => ⟨by rw [r0], by rw [r2], by rw [r3], by rw [r4, pk_un (by omega)], rfl⟩) (fun j h1 h2 => ⟨by rw [r5, pk_un (by omega)], by rw [r6]; exact (hN.2 j (by omega)).1, by rw [r7]; exact (hN.2 j (by omega)).2⟩) hv
    · intro e
      obtain ⟨s, s1, s2, s3⟩ := hn e
      exact ⟨s, by rw [r6]; exact s1, by rw [r7]; exact s2, js_TU_congr (fun j _ => by rw [r10, rA]) (Nat.le_refl _) s3⟩
  · refine ⟨fun j hj => ?_, fun j hj => by rw [r10]; exact hP.2.1 j hj, fun j hj => by rw [r10]; exact hP.2.2 j hj⟩
    obtain ⟨a0, a2, a3, a4, a5, a6, a7, a8⟩ := hP.1 j (by omega)
    have n1 := hN.2 j (by omega)
    exact ⟨by rw [r0]; exact a0, by rw [r2]; exact a2, by rw [r3]; exact a3, by rw [r4, pk_un (by omega)]; exact a4, by rw [r5, pk_un (by omega)]; exact a5, by rw [r6, n1.1]; exact a6, by rw [r7, n1.2]; exact a7, a8⟩
/-- a kid is put in, behind another -/
theorem js_ins_1 {F1 F2 F2' F3 : Nat → Nat → Int32} {G1 G2 : Nat → Int64} {u1 u2 n k c e : Nat} {b : Bool} {acc : List (List Nat × js_J n)} {nm : List Nat} {v : js_J n} {gp : Nat → Int32} (h : js_TV F1 G1 u1 (n + 1) (Sum.inr (b, acc)) k) (hne : acc ≠ []) (he : e = js_pos acc (k + 1) (acc.length - 1)) (hc : c = k + js_cnt (n + 1) (Sum.inr (b, acc))) (hP : js_PR F1 F2 G1 G2 c u1 u2) (hl : u1 ≤ u2) (hv : js_TV F2 G2 u2 n v c) (hN : js_NM F2 F2' c) (hn : b = true → js_TN F2' u2 c nm) (e3 : F3 = js_setr (js_setr F2' 8 gp) 5 (upd (upd (F2' 5) c (F2' 5 e)) e (nI c))) :
    js_TV F3 G2 u2 (n + 1) (Sum.inr (b, acc ++ [(nm, v)])) k ∧ js_PR F1 F3 G1 G2 k u1 u2 := by
  have hpos : 0 < acc.length := List.length_pos_iff.mpr hne
  have hke := js_pos_b (b := b) (k := k) (l := acc) (i := acc.length - 1) (by omega)
  have hcp := js_cnt_pos n acc[acc.length - 1].2
  have hec : k < e ∧ e < c := by rw [he, hc]; omega
  have r0 : F3 0 = F2 0 := by rw [e3, js_setr_n (by decide), js_setr_n (by decide), hN.1 0 (by decide) (by decide)]
  have r2 : F3 2 = F2 2 := by rw [e3, js_setr_n (by decide), js_setr_n (by decide), hN.1 2 (by decide) (by decide)]
  have r3 : F3 3 = F2 3 := by rw [e3, js_setr_n (by decide), js_setr_n (by decide), hN.1 3 (by decide) (by decide)]
  have r4 : F3 4 = F2 4 := by rw [e3, js_setr_n (by decide), js_setr_n (by decide), hN.1 4 (by decide) (by decide)]
  have r5 : F3 5 = upd (upd (F2 5) c (F2 5 e)) e (nI c) := by rw [e3, js_setr_s, hN.1 5 (by decide) (by decide)]
  have r6 : F3 6 = F2' 6 := by rw [e3, js_setr_n (by decide), js_setr_n (by decide)]
  have r7 : F3 7 = F2' 7 := by rw [e3, js_setr_n (by decide), js_setr_n (by decide)]
  have r10 : F3 10 = F2 10 := by rw [e3, js_setr_n (by decide), js_setr_n (by decide), hN.1 10 (by decide) (by decide)]
  have rA : F2' 10 = F2 10 := hN.1 10 (by decide) (by decide)
  have hk := hP.1 k (by omega)
  have hE := hP.1 e (by omega)
  have h4 : F1 4 k = nI (k + 1) := by rw [h.2.1, if_neg hne]
  have h5e : F1 5 e = -1 := by
    have := (js_TV_kid h (i := acc.length - 1) (by omega)).2.1
    rw [he, this, js_kx, if_pos (by omega)]
  constructor
  · refine js_TV_snoc (F := F1) (G := G1) (u := u1) (c := c) h hc ?_ (fun j hj => by rw [r10]; exact hP.2.1 j hj) hl (by rw [r0]; exact hk.1) (fun j h1 h2 => ?_) (by rw [r4, hk.2.2.2.1, h4]) (fun j h1 h2 h3 => ?_) (fun _ => by rw [← he, r5, pk_us]) (by rw [r5, pk_un (by omega), pk_us, hE.2.2.2.2.1, h5e]) ?_
    · refine js_TV_congr (fun j _ => by rw [r10]) (Nat.le_refl _) (fun j h1 h2 => ⟨by rw [r0], by rw [r2], by rw [r3], by rw [r4], rfl⟩) (fun j h1 h2 => ⟨by rw [r5, pk_un (by omega), pk_un (by omega)], by rw [r6]; exact (hN.2 j (by omega)).1, by rw [r7]; exact (hN.2 j (by omega)).2⟩) hv
    · obtain ⟨a0, a2, a3, a4, a5, a6, a7, a8⟩ := hP.1 j (by omega)
      have n1 := hN.2 j (by omega)
      exact ⟨by rw [r0]; exact a0, by rw [r2]; exact a2, by rw [r3]; exact a3, by rw [r4]; exact a4, a8, by rw [r6, n1.1]; exact a6, by rw [r7, n1.2]; exact a7⟩
    · have hje : j ≠ e := by rw [he]; exact h3 hne
      rw [r5, pk_un hje, pk_un (by omega)]
      exact (hP.1 j (by omega)).2.2.2.2.1
    · intro eb
      obtain ⟨s, s1, s2, s3⟩ := hn eb
      exact ⟨s, by rw [r6]; exact s1, by rw [r7]; exact s2, js_TU_congr (fun j _ => by rw [r10, rA]) (Nat.le_refl _) s3⟩
  · refine ⟨fun j hj => ?_, fun j hj => by rw [r10]; exact hP.2.1 j hj, fun j hj => by rw [r10]; exact hP.2.2 j hj⟩
    obtain ⟨a0, a2, a3, a4, a5, a6, a7, a8⟩ := hP.1 j (by omega)
    have n1 := hN.2 j (by omega)
    exact ⟨by rw [r0]; exact a0, by rw [r2]; exact a2, by rw [r3]; exact a3, by rw [r4]; exact a4, by rw [r5, pk_un (by omega), pk_un (by omega)]; exact a5, by rw [r6, n1.1]; exact a6, by rw [r7, n1.2]; exact a7, a8⟩
theorem js_mem_sk {t : List Nat} {α : Type} {pv : Nat → Nat ⊕ (α × Nat)} {b : Bool} {f p : Nat} {acc : List (List Nat × α)} : js_mem t pv b (f + 1) (js_sk t p) acc = js_mem t pv b (f + 1) p acc := by
  rw [js_mem, js_mem, js_nmp, js_nmp, js_sk_sk]
  cases b with
  | false => rw [if_pos rfl, if_pos rfl]; simp only [js_sk_sk]
  | true => rfl
theorem js_ins_ok1 {t : List Nat} {α : Type} {pv : Nat → Nat ⊕ (α × Nat)} {b : Bool} {p : Nat} {R : Nat ⊕ (List (List Nat × α) × Nat)} (h : js_ins t pv b p = R) : (js_b t (js_sk t (p + 1)) = nI (js_cls2 b) ∧ R = .inr ([], js_sk t (p + 1) + 1)) ∨ (¬ js_b t (js_sk t (p + 1)) = nI (js_cls2 b) ∧ js_mem t pv b (t.length + 1) (js_sk t (p + 1)) [] = R) := by
  rw [js_ins] at h
  by_cases q : js_b t (js_sk t (p + 1)) = nI (js_cls2 b)
  · rw [if_pos q] at h; exact Or.inl ⟨q, h.symm⟩
  · rw [if_neg q] at h; exact Or.inr ⟨q, by rw [js_mem_sk]; exact h⟩
theorem js_bf_nil {n : Nat} {acc : List (List Nat × js_J n)} {k : Nat} (h : acc = []) : js_bf acc k = -1 := if_pos h
theorem js_bf_ne {n : Nat} {acc : List (List Nat × js_J n)} {k : Nat} (h : acc ≠ []) : js_bf acc k = nI (js_pos acc (k + 1) (acc.length - 1)) := if_neg h
theorem js_TV_qi {F F1 : Nat → Nat → Int32} {G : Nat → Int64} {u : Nat} {ys : List Nat} {n : Nat} {v : js_J n} {k : Nat} (h : js_QI F F1 u ys) (hv : js_TV F G u n v k) : js_TV F1 G (u + ys.length) n v k := js_TV_congr h.2.1 (Nat.le_add_right _ _) (fun j _ _ => ⟨by rw [h.1 0 (by decide)], by rw [h.1 2 (by decide)], by rw [h.1 3 (by decide)], by rw [h.1 4 (by decide)], rfl⟩) (fun j _ _ => ⟨by rw [h.1 5 (by decide)], by rw [h.1 6 (by decide)], by rw [h.1 7 (by decide)]⟩) hv
