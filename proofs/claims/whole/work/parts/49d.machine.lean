-- ===== what was read is good =====
theorem js_lf_ok {t : List Nat} (hb : js_by t) {p z : Nat} {x : js_L} (h : js_lf t p = .inr (x, z)) : js_okl x ∧ (js_pl x).length + p ≤ z ∧ z ≤ t.length := by
  rw [js_lf] at h
  split at h
  · split at h
    · cases h
    · rename_i us z2 hs
      cases h
      have h1 := js_st_len hb hs
      refine ⟨js_st_pa hb (us := []) rfl hs, ?_, h1.1⟩
      show (js_pq us).length + p ≤ z
      unfold js_pq
      simp only [List.length_cons, List.length_append, List.length_nil, List.flatMap_nil] at h1 ⊢
      omega
  · split at h
    · split at h
      · cases h
      · rename_i z2 hs
        cases h
        have h1 := js_li_len (by decide) (by decide) hs
        have e : (js_pl (Sum.inl 1)).length = 5 := rfl
        exact ⟨(by decide : 1 < 3), by omega, by omega⟩
    · split at h
      · split at h
        · cases h
        · rename_i z2 hs
          cases h
          have h1 := js_li_len (by decide) (by decide) hs
          have e : (js_pl (Sum.inl 0)).length = 4 := rfl
          exact ⟨(by decide : 0 < 3), by omega, by omega⟩
      · split at h
        · split at h
          · cases h
          · rename_i z2 hs
            cases h
            have h1 := js_li_len (by decide) (by decide) hs
            have e : (js_pl (Sum.inl 2)).length = 4 := rfl
            exact ⟨(by decide : 2 < 3), by omega, by omega⟩
        · split at h
          · cases h
          · rename_i z2 hs
            cases h
            obtain ⟨h1, h2, h3, -⟩ := js_nu_ok hb hs
            have h4 := js_ns_ge t p
            have h5 := js_nd_ge t p
            refine ⟨js_nu_okn hb hs, ?_, h3⟩
            show (js_sl t (js_ns t p) (z - js_ns t p)).length + p ≤ z
            by_cases q : js_ns t p ≤ z
            · rw [js_sl_len (by omega)]; omega
            · rw [show z - js_ns t p = 0 by omega, js_sl_0]
              show 0 + p ≤ z
              omega
theorem js_cm_app (l : List (List Nat)) (x : List Nat) : js_cm (l ++ [x]) = (l.flatMap fun y => y ++ [44]) ++ x := by
  induction l with
  | nil => simp [js_cm]
  | cons y l ih => rw [List.cons_append, js_cm_cons _ _ (by simp), ih]; simp
theorem js_nmp_ok {t : List Nat} (hb : js_by t) {b : Bool} {xs : List (List Nat)} {p p1 : Nat} {nm : List Nat} (hp : p ≤ t.length) (h : js_nmp t b xs p = .inr (nm, p1)) : p1 ≤ t.length ∧ (∀ x, (js_mp b nm x).length + p ≤ x.length + p1) ∧ (b = true → js_pa false nm ∧ ¬ nm ∈ xs) ∧ (b = false → nm = []) := by
  rw [js_nmp] at h
  split at h
  · rename_i hf
    cases h
    refine ⟨hp, fun x => ?_, fun e => absurd (hf.symm.trans e) (by decide), fun _ => rfl⟩
    rw [js_mp, if_neg (by rw [hf]; decide)]
    exact Nat.le_refl _
  · rename_i hf
    have hf : b = true := by cases b <;> simp_all
    split at h
    · split at h
      · cases h
      · rename_i us z hs
        split at h
        · cases h
        · rename_i hn
          split at h
          · rename_i h58
            cases h
            have h1 := js_st_len hb hs
            have h2 := js_sk_ge t p
            have h3 := js_sk_ge t z
            have h4 : js_sk t z < t.length := js_b_lt (by rw [h58]; decide)
            refine ⟨h4, fun x => ?_, fun _ => ⟨js_st_pa hb (us := []) rfl hs, hn⟩, fun e => by rw [hf] at e; cases e⟩
            rw [js_mp, if_pos hf]
            unfold js_pq
            simp only [List.length_cons, List.length_append, List.length_nil, List.flatMap_nil] at h1 ⊢
            omega
          · cases h
    · cases h
theorem js_mem_ok {t : List Nat} (hb : js_by t) {n : Nat} (IH : ∀ {p z : Nat} {v : js_J n}, js_pv t n p = .inr (v, z) → js_ok n v ∧ (js_pr n v).length + p ≤ z ∧ z ≤ t.length) (b : Bool) : ∀ (f p : Nat) (acc l : List (List Nat × js_J n)) (z : Nat), p ≤ t.length → js_mem t (js_pv t n) b f p acc = .inr (l, z) →
    js_ok (n + 1) (Sum.inr (b, acc)) → js_ok (n + 1) (Sum.inr (b, l)) ∧ z ≤ t.length ∧ (js_cm (l.map fun q => js_mp b q.1 (js_pr n q.2))).length + p + 1 ≤ ((acc.map fun q => js_mp b q.1 (js_pr n q.2)).flatMap fun y => y ++ [44]).length + z
  | 0, p, acc, l, z, _, h, _ => by cases h
  | f + 1, p, acc, l, z, hp, h, hok => by
    rw [js_mem] at h
    split at h
    · cases h
    · rename_i nm p1 hnm
      obtain ⟨h1, h2, h3, h4⟩ := js_nmp_ok hb hp hnm
      cases hpv : js_pv t n (js_sk t p1) with
      | inl q => rw [hpv] at h; cases h
      | inr r =>
        obtain ⟨v, p2⟩ := r
        rw [hpv, js_mb] at h
        obtain ⟨g1, g2, g3⟩ := IH hpv
        have s1 := js_sk_ge t p1
        have s2 := js_sk_ge t p2
        have hm := h2 (js_pr n v)
        have hok2 : js_ok (n + 1) (Sum.inr (b, acc ++ [(nm, v)])) := by
          refine ⟨fun q hq => ?_, fun e => ⟨fun q hq => ?_, ?_⟩, fun e q hq => ?_⟩
          · rcases List.mem_append.mp hq with w | w
            · exact hok.1 q w
            · rw [List.mem_singleton.mp w]; exact g1
          · rcases List.mem_append.mp hq with w | w
            · exact (hok.2.1 e).1 q w
            · rw [List.mem_singleton.mp w]; exact (h3 e).1
          · rw [List.map_append, List.nodup_append]
            refine ⟨(hok.2.1 e).2, by simp, fun a ha c hc => ?_⟩
            rw [List.map_singleton, List.mem_singleton] at hc
            rw [hc]
            intro w
            have w : a = nm := w
            exact (h3 e).2 (by rw [← w]; exact ha)
          · rcases List.mem_append.mp hq with w | w
            · exact hok.2.2 e q w
            · rw [List.mem_singleton.mp w]; exact h4 e
        split at h
        · rename_i hc
          cases h
          have hlt : js_sk t p2 < t.length := js_b_lt (by rw [hc]; cases b <;> decide)
          refine ⟨hok2, hlt, ?_⟩
          rw [List.map_append, List.map_singleton, js_cm_app, List.length_append]
          show _ + (js_mp b nm (js_pr n v)).length + p + 1 ≤ _
          omega
        · split at h
          · rename_i hc
            have hlt : js_sk t p2 < t.length := js_b_lt (by rw [hc]; decide)
            obtain ⟨r1, r2, r3⟩ := js_mem_ok hb IH b f _ _ l z hlt h hok2
            refine ⟨r1, r2, ?_⟩
            rw [List.map_append, List.flatMap_append, List.length_append] at r3
            have e : (([(nm, v)].map fun q => js_mp b q.1 (js_pr n q.2)).flatMap fun y => y ++ [44]).length = (js_mp b nm (js_pr n v)).length + 1 := by simp
            rw [e] at r3
            omega
          · cases h
theorem js_ins_ok {t : List Nat} (hb : js_by t) {n : Nat} (IH : ∀ {p z : Nat} {v : js_J n}, js_pv t n p = .inr (v, z) → js_ok n v ∧ (js_pr n v).length + p ≤ z ∧ z ≤ t.length) {b : Bool} {p z : Nat} {l : List (List Nat × js_J n)} (hp : p < t.length) (h : js_ins t (js_pv t n) b p = .inr (l, z)) : js_ok (n + 1) (Sum.inr (b, l)) ∧ (js_pr (n + 1) (Sum.inr (b, l))).length + p ≤ z ∧ z ≤ t.length := by
  have hlen : (js_pr (n + 1) (Sum.inr (b, l))).length = (js_cm (l.map fun q => js_mp b q.1 (js_pr n q.2))).length + 2 := by
    show (js_opn b :: (js_cm (l.map fun q => js_mp b q.1 (js_pr n q.2)) ++ [js_cls2 b])).length = _
    simp
  have hnil : js_ok (n + 1) (Sum.inr (b, [])) := ⟨fun q hq => absurd hq List.not_mem_nil, fun _ => ⟨fun q hq => absurd hq List.not_mem_nil, List.Pairwise.nil⟩, fun _ q hq => absurd hq List.not_mem_nil⟩
  rw [js_ins] at h
  split at h
  · rename_i hc
    cases h
    have hlt : js_sk t (p + 1) < t.length := js_b_lt (by rw [hc]; cases b <;> decide)
    have := js_sk_ge t (p + 1)
    refine ⟨hnil, ?_, hlt⟩
    rw [hlen]
    show 0 + 2 + p ≤ _
    omega
  · obtain ⟨r1, r2, r3⟩ := js_mem_ok hb IH b _ _ _ l z hp h hnil
    refine ⟨r1, ?_, r2⟩
    rw [hlen]
    have : (((([] : List (List Nat × js_J n))).map fun q => js_mp b q.1 (js_pr n q.2)).flatMap fun y => y ++ [44]).length = 0 := rfl
    omega
theorem js_pv_ok {t : List Nat} (hb : js_by t) : ∀ (n : Nat) {p z : Nat} {v : js_J n}, js_pv t n p = .inr (v, z) → js_ok n v ∧ (js_pr n v).length + p ≤ z ∧ z ≤ t.length
  | 0, p, z, v, h => by
    rw [js_pv] at h
    split at h
    · cases h
    · split at h
      · cases h
      · split at h
        · cases h
        · rename_i x z2 hx
          cases h
          exact js_lf_ok hb hx
  | n + 1, p, z, v, h => by
    rw [js_pv] at h
    split at h
    · rename_i h91
      split at h
      · cases h
      · rename_i l z2 hl
        cases h
        exact js_ins_ok hb (fun {p z v} hh => js_pv_ok hb n hh) (js_b_lt (by rw [h91]; decide)) hl
    · split at h
      · rename_i h123
        split at h
        · cases h
        · rename_i l z2 hl
          cases h
          exact js_ins_ok hb (fun {p z v} hh => js_pv_ok hb n hh) (js_b_lt (by rw [h123]; decide)) hl
      · split at h
        · cases h
        · rename_i x z2 hx
          cases h
          exact js_lf_ok hb hx
theorem js_rd_ok {t : List Nat} (hb : js_by t) {v : js_J 32} (h : js_rd t = .inr v) : js_ok 32 v ∧ (js_pr 32 v).length ≤ t.length := by
  rw [js_rd] at h
  split at h
  · cases h
  · rename_i w p hp
    split at h
    · cases h
      have := js_pv_ok hb 32 hp
      exact ⟨this.1, by omega⟩
    · cases h
-- bytes of what is printed
theorem js_pl_by {x : js_L} (h : js_okl x) : ∀ y ∈ js_pl x, y < 128 := by
  match x, h with
  | .inl k, h =>
    have hk : k < 3 := h
    have : ∀ k, k < 3 → ∀ y ∈ js_wd k, y < 128 := by decide +kernel
    exact this k hk
  | .inr (.inl ds), h => exact (js_okn_by h).1
  | .inr (.inr us), h => exact js_pq_by (js_pa_un h)
theorem js_cm_by : ∀ {l : List (List Nat)}, (∀ x ∈ l, ∀ y ∈ x, y < 128) → ∀ y ∈ js_cm l, y < 128
  | [], _, y, hy => absurd hy List.not_mem_nil
  | x :: l, h, y, hy => by
    rw [js_cm] at hy
    rcases List.mem_append.mp hy with q | q
    · exact h x (List.mem_cons_self ..) y q
    · split at q
      · exact absurd q List.not_mem_nil
      · rcases List.mem_cons.mp q with w | w
        · rw [w]; decide
        · exact js_cm_by (fun x hx => h x (List.mem_cons_of_mem _ hx)) y w
theorem js_mp_by {n : Nat} {b : Bool} {l : List (List Nat × js_J n)} (h : js_ok (n + 1) (Sum.inr (b, l))) (IH : ∀ {v : js_J n}, js_ok n v → ∀ y ∈ js_pr n v, y < 128) : ∀ x ∈ l.map (fun q => js_mp b q.1 (js_pr n q.2)), ∀ y ∈ x, y < 128 := by
  intro x hx y hy
  obtain ⟨q, hq, rfl⟩ := List.mem_map.mp hx
  have h2 := IH (h.1 q hq)
  simp only [js_mp] at hy
  split at hy
  · rename_i e
    rcases List.mem_append.mp hy with w | w
    · exact js_pq_by (js_pa_un ((h.2.1 e).1 q hq)) y w
    · rcases List.mem_cons.mp w with w | w
      · rw [w]; decide
      · exact h2 y w
  · exact h2 y hy
theorem js_pr_by : ∀ {n : Nat} {v : js_J n}, js_ok n v → ∀ y ∈ js_pr n v, y < 128
  | 0, x, h => js_pl_by h
  | _ + 1, Sum.inl x, h => js_pl_by h
  | n + 1, Sum.inr (b, l), h => fun y hy => by
    have hy2 : y ∈ js_opn b :: (js_cm (l.map fun q => js_mp b q.1 (js_pr n q.2)) ++ [js_cls2 b]) := hy
    rcases List.mem_cons.mp hy2 with q | q
    · rw [q]; cases b <;> decide
    · rcases List.mem_append.mp q with q | q
      · exact js_cm_by (js_mp_by h (fun hh => js_pr_by hh)) y q
      · rw [List.mem_singleton.mp q]; cases b <;> decide
theorem js_by_app {x y : List Nat} (h1 : js_by x) (h2 : js_by y) : js_by (x ++ y) := fun a ha => by
  rcases List.mem_append.mp ha with q | q
  · exact h1 a q
  · exact h2 a q
theorem js_by_128 {x : List Nat} (h : ∀ y ∈ x, y < 128) : js_by x := fun a ha => by have := h a ha; omega
theorem js_by_1 {b : Nat} (h : b < 256) : js_by [b] := fun a ha => by rw [List.mem_singleton.mp ha]; exact h
-- ===== the machine and the parser =====
theorem js_val_adv {t pr pr2 : List Nat} (hb : js_by t) {i nx2 i2 : Nat} {sk ns sk2 ns2 : List (Nat × Nat)} (h : js_val t i pr sk ns = .inr (nx2, i2, pr2, sk2, ns2)) : i + 1 ≤ i2 ∧ i2 ≤ t.length := by
  rw [js_val] at h
  split at h
  · split at h
    · cases h
    · rename_i hs
      cases h
      have := js_st_len hb hs
      omega
  · split at h
    · rename_i h91
      split at h
      · cases h
      · cases h
        have : i < t.length := js_b_lt (by rw [h91]; decide)
        omega
    · split at h
      · split at h
        · cases h
        · rename_i hs
          cases h
          have h1 := js_li_len (by decide) (by decide) hs
          omega
      · split at h
        · split at h
          · cases h
          · rename_i hs
            cases h
            have h1 := js_li_len (by decide) (by decide) hs
            omega
        · split at h
          · split at h
            · cases h
            · rename_i hs
              cases h
              have h1 := js_li_len (by decide) (by decide) hs
              omega
          · split at h
            · rename_i h91
              split at h
              · cases h
              · cases h
                have : i < t.length := js_b_lt (by rw [h91]; decide)
                omega
            · split at h
              · cases h
              · rename_i hs
                cases h
                obtain ⟨h1, h2, h3, -⟩ := js_nu_ok hb hs
                omega
theorem js_nm_adv {t pr pr2 : List Nat} (hb : js_by t) {i nx2 i2 : Nat} {sk ns sk2 ns2 : List (Nat × Nat)} (h : js_nm t i pr sk ns = .inr (nx2, i2, pr2, sk2, ns2)) : i + 1 ≤ i2 ∧ i2 ≤ t.length := by
  rw [js_nm] at h
  split at h
  · split at h
    · cases h
    · rename_i us z hs
      have h1 := js_st_len hb hs
      by_cases hd : js_dup (pr ++ [34] ++ us.flatMap js_pu ++ [34]) ns (js_last sk) pr.length
      · rw [js_ifp_pos hd] at h; cases h
      · rw [js_ifp_neg hd] at h
        cases h
        omega
  · cases h
theorem js_step_adv {t pr pr2 : List Nat} (hb : js_by t) {nx i nx2 i2 : Nat} {sk ns sk2 ns2 : List (Nat × Nat)} (h : js_step t nx i pr sk ns = .inr (nx2, i2, pr2, sk2, ns2)) : nx2 = 6 ∨ (i + 1 ≤ i2 ∧ i2 ≤ t.length) := by
  rw [js_step] at h
  split at h
  · exact Or.inr (js_val_adv hb h)
  · split at h
    · split at h
      · rename_i hc
        cases h
        have : i < t.length := js_b_lt (by rw [hc]; decide)
        exact Or.inr ⟨Nat.le_refl _, this⟩
      · exact Or.inr (js_val_adv hb h)
    · split at h
      · exact Or.inr (js_nm_adv hb h)
      · split at h
        · split at h
          · rename_i hc
            cases h
            have : i < t.length := js_b_lt (by rw [hc]; decide)
            exact Or.inr ⟨Nat.le_refl _, this⟩
          · exact Or.inr (js_nm_adv hb h)
        · split at h
          · rw [js_col] at h
            split at h
            · rename_i hc
              cases h
              have : i < t.length := js_b_lt (by rw [hc]; decide)
              exact Or.inr ⟨Nat.le_refl _, this⟩
            · cases h
          · rw [js_bv] at h
            split at h
            · split at h
              · cases h; exact Or.inl rfl
              · cases h
            · rename_i q hq
              split at h
              · rename_i hc
                cases h
                have : i < t.length := js_b_lt (by rw [hc]; decide)
                exact Or.inr ⟨Nat.le_refl _, this⟩
              · by_cases hc : js_b t i = nI (if q.1 = 91 then 93 else 125)
                · rw [if_pos hc] at h
                  cases h
                  have : i < t.length := js_b_lt (by rw [hc]; split <;> decide)
                  exact Or.inr ⟨Nat.le_refl _, this⟩
                · rw [if_neg hc] at h
                  cases h
theorem js_run_fuel {t : List Nat} (hb : js_by t) : ∀ (f g nx i : Nat) (pr : List Nat) (sk ns : List (Nat × Nat)), i ≤ t.length → t.length + 1 ≤ i + f → t.length + 1 ≤ i + g → js_run t f nx i pr sk ns = js_run t g nx i pr sk ns
  | 0, g, nx, i, pr, sk, ns, h0, h1, _ => by omega
  | f + 1, 0, nx, i, pr, sk, ns, h0, _, h1 => by omega
  | f + 1, g + 1, nx, i, pr, sk, ns, h0, h1, h2 => by
    rw [js_run, js_run]
    split
    · rfl
    · have hs := js_sk_ge t i
      have e : js_skip t (t.length - i) i = js_sk t i := rfl
      rw [e]
      split
      · rfl
      · rename_i nx2 i2 pr2 sk2 ns2 hst
        rcases js_step_adv hb hst with q | q
        · rw [q, js_run_6, js_run_6]
        · exact js_run_fuel hb f g nx2 i2 pr2 sk2 ns2 (by omega) (by omega) (by omega)
noncomputable def js_rn (t : List Nat) (nx i : Nat) (pr : List Nat) (sk ns : List (Nat × Nat)) : Nat ⊕ List Nat := js_run t (t.length - i + 1) nx i pr sk ns
noncomputable def js_fin (t : List Nat) : js_O → Nat ⊕ List Nat
  | .inl q => .inl q
  | .inr (nx, i, pr, sk, ns) => js_rn t nx i pr sk ns
theorem js_rn_s {t : List Nat} (hb : js_by t) {nx i : Nat} {pr : List Nat} {sk ns : List (Nat × Nat)} (h6 : nx ≠ 6) (hi : i ≤ t.length) : js_rn t nx i pr sk ns = js_fin t (js_step t nx (js_sk t i) pr sk ns) := by
  rw [js_rn, js_run, if_neg h6]
  have hs := js_sk_ge t i
  have e : js_skip t (t.length - i) i = js_sk t i := rfl
  rw [e]
  split
  · rename_i q hst
    rw [hst]
    rfl
  · rename_i nx2 i2 pr2 sk2 ns2 hst
    rw [hst]
    show _ = js_rn t nx2 i2 pr2 sk2 ns2
    rw [js_rn]
    rcases js_step_adv hb hst with q | q
    · rw [q, js_run_6, js_run_6]
    · exact js_run_fuel hb _ _ nx2 i2 pr2 sk2 ns2 (by omega) (by omega) (by omega)
/-- the parser's answer, and then the machine behind a value -/
noncomputable def js_then (t : List Nat) {n : Nat} (pr : List Nat) (sk ns : List (Nat × Nat)) : Nat ⊕ (js_J n × Nat) → Nat ⊕ List Nat
  | .inl q => .inl q
  | .inr (v, z) => js_rn t 5 z (pr ++ js_pr n v) sk ns
noncomputable def js_thm (t : List Nat) {n : Nat} (b : Bool) (pr : List Nat) (sk ns : List (Nat × Nat)) : Nat ⊕ (List (List Nat × js_J n) × Nat) → Nat ⊕ List Nat
  | .inl q => .inl q
  | .inr (l, z) => js_rn t 5 z (pr ++ js_pr (n + 1) (Sum.inr (b, l))) sk ns
/-- the names that are held are those of the members before -/
def js_nr {α : Type} (prb : List Nat) (nsl : List (Nat × Nat)) (acc : List (List Nat × α)) : Prop :=
  (∀ q ∈ acc, js_un q.1 ∧ ∃ r ∈ nsl, r.1 ≤ r.2 ∧ r.2 ≤ prb.length ∧ js_sl prb r.1 (r.2 - r.1) = js_pq q.1) ∧ (∀ r ∈ nsl, ∃ q ∈ acc, r.1 ≤ r.2 ∧ r.2 ≤ prb.length ∧ js_sl prb r.1 (r.2 - r.1) = js_pq q.1)
theorem js_sl_app {t x : List Nat} {a n : Nat} (h : a + n ≤ t.length) : js_sl (t ++ x) a n = js_sl t a n := by
  unfold js_sl
  rw [List.drop_append_of_le_length (by omega), List.take_append_of_le_length (by rw [List.length_drop]; omega)]
theorem js_nr_more {α : Type} {prb x : List Nat} {nsl : List (Nat × Nat)} {acc : List (List Nat × α)} (h : js_nr prb nsl acc) : js_nr (prb ++ x) nsl acc := by
  constructor
  · intro q hq
    obtain ⟨h1, r, h2, h3, h4, h5⟩ := h.1 q hq
    exact ⟨h1, r, h2, h3, by rw [List.length_append]; omega, by rw [js_sl_app (by omega)]; exact h5⟩
  · intro r hr
    obtain ⟨q, h1, h3, h4, h5⟩ := h.2 r hr
    exact ⟨q, h1, h3, by rw [List.length_append]; omega, by rw [js_sl_app (by omega)]; exact h5⟩
theorem js_nr_add {α : Type} {prb : List Nat} {nsl : List (Nat × Nat)} {acc : List (List Nat × α)} {us : List Nat} {v : α} (h : js_nr prb nsl acc) (hu : js_un us) : js_nr (prb ++ js_pq us) (nsl ++ [(prb.length, (prb ++ js_pq us).length)]) (acc ++ [(us, v)]) := by
  have h0 : js_sl (prb ++ js_pq us) prb.length ((prb ++ js_pq us).length - prb.length) = js_pq us := by
    rw [List.length_append, Nat.add_sub_cancel_left]
    have := js_sl_mid (a := prb) (x := js_pq us) (z := [])
    rwa [List.append_nil] at this
  have hm := js_nr_more (x := js_pq us) h
  constructor
  · intro q hq
    rcases List.mem_append.mp hq with w | w
    · obtain ⟨h1, r, h2, h3⟩ := hm.1 q w
      exact ⟨h1, r, List.mem_append_left _ h2, h3⟩
    · rw [List.mem_singleton.mp w]
      exact ⟨hu, _, List.mem_append_right _ (List.mem_singleton.mpr rfl), by rw [List.length_append]; omega, Nat.le_refl _, h0⟩
  · intro r hr
    rcases List.mem_append.mp hr with w | w
    · obtain ⟨q, h2, h3⟩ := hm.2 r w
      exact ⟨q, List.mem_append_left _ h2, h3⟩
    · rw [List.mem_singleton.mp w]
      exact ⟨(us, v), List.mem_append_right _ (List.mem_singleton.mpr rfl), by rw [List.length_append]; omega, Nat.le_refl _, h0⟩
theorem js_dup_iff {α : Type} {prb us : List Nat} {ns nsl : List (Nat × Nat)} {acc : List (List Nat × α)} (hb : js_by prb) (h : js_nr prb nsl acc) (hu : js_un us) : js_dup (prb ++ js_pq us) (ns ++ nsl) ns.length prb.length ↔ us ∈ acc.map (·.1) := by
  have hb2 : js_by (prb ++ js_pq us) := js_by_app hb (js_by_128 (js_pq_by hu))
  have h0 : js_sl (prb ++ js_pq us) prb.length ((prb ++ js_pq us).length - prb.length) = js_pq us := by
    rw [List.length_append, Nat.add_sub_cancel_left]
    have := js_sl_mid (a := prb) (x := js_pq us) (z := [])
    rwa [List.append_nil] at this
  have hm := js_nr_more (x := js_pq us) h
  constructor
  · rintro ⟨k, k1, k2, k3, k4⟩
    have hk : k - ns.length < nsl.length := by rw [List.length_append] at k2; omega
    have eg : (ns ++ nsl).getD k (0, 0) = nsl[k - ns.length] := by
      rw [List.getD_eq_getElem?_getD, List.getElem?_append_right k1, List.getElem?_eq_getElem hk]
      rfl
    rw [eg] at k3 k4
    obtain ⟨q, q1, q2, q3, q4⟩ := hm.2 _ (List.getElem_mem hk)
    have := (js_eqb_sl hb2 hb2 (by omega) (by rw [List.length_append]; omega)).mp ⟨k3, k4⟩
    rw [q4, h0] at this
    have e := js_pq_inj (h.1 q q1).1 hu this
    exact List.mem_map.mpr ⟨q, q1, e⟩
  · intro hq
    obtain ⟨q, q1, rfl⟩ := List.mem_map.mp hq
    obtain ⟨-, r, r1, r2, r3, r4⟩ := hm.1 q q1
    obtain ⟨j, hj, ej⟩ := List.getElem_of_mem r1
    have eg : (ns ++ nsl).getD (ns.length + j) (0, 0) = r := by
      rw [List.getD_eq_getElem?_getD, List.getElem?_append_right (by omega), Nat.add_sub_cancel_left, List.getElem?_eq_getElem hj, ej]
      rfl
    refine ⟨ns.length + j, by omega, by rw [List.length_append]; omega, ?_⟩
    rw [eg]
    exact (js_eqb_sl hb2 hb2 (by omega) (by rw [List.length_append]; omega)).mpr (by rw [r4, h0])
/-- the members, as the machine reads them -/
theorem js_run_m {t : List Nat} (hb : js_by t) {n : Nat} (V : ∀ (i : Nat) (pr : List Nat) (sk ns : List (Nat × Nat)), sk.length + n = 32 → js_by pr → i ≤ t.length → js_fin t (js_val t i pr sk ns) = js_then t pr sk ns (js_pv t n i)) (b : Bool) (pr : List Nat) (sk ns : List (Nat × Nat)) (hsk : sk.length + (n + 1) = 32) (hpr : js_by pr) :
    ∀ (f p : Nat) (acc : List (List Nat × js_J n)) (prb : List Nat) (nsl : List (Nat × Nat)), t.length + 1 ≤ p + f → p ≤ t.length → prb = pr ++ js_opn b :: ((acc.map fun q => js_mp b q.1 (js_pr n q.2)).flatMap fun y => y ++ [44]) → js_by prb → (b = true → js_nr prb nsl acc) →
    js_fin t (js_step t (if b = true then 2 else 0) (js_sk t p) prb (sk ++ [(js_opn b, ns.length)]) (ns ++ nsl)) = js_thm t b pr sk ns (js_mem t (js_pv t n) b f p acc)
  | 0, p, acc, prb, nsl, h, h2, _, _, _ => by omega
  | f + 1, p, acc, prb, nsl, hf, hp, hprb, hbp, hnr => by
    have s0 := js_sk_ge t p
    -- behind the name
    have key : ∀ (nm : List Nat) (p1 : Nat) (prc : List Nat) (nsl2 : List (Nat × Nat)), p < p1 ∨ (p = p1 ∧ b = false) → p1 ≤ t.length → prc = prb ++ (if b = true then js_pq nm ++ [58] else []) → js_by prc → (b = true → ∀ v : js_J n, js_nr prc nsl2 (acc ++ [(nm, v)])) →
        js_fin t (js_step t 0 (js_sk t p1) prc (sk ++ [(js_opn b, ns.length)]) (ns ++ nsl2)) = js_thm t b pr sk ns (js_mb t b (js_mem t (js_pv t n) b f) nm acc (js_pv t n (js_sk t p1))) := by
      intro nm p1 prc nsl2 h1 h2 h3 h4 h5
      have s1 := js_sk_ge t p1
      rw [js_step, if_pos rfl, V _ _ _ _ (by rw [List.length_append]; show _ + 1 + n = 32; omega) h4 (s1.2 h2)]
      cases hpv : js_pv t n (js_sk t p1) with
      | inl q => rfl
      | inr r =>
        obtain ⟨v, p2⟩ := r
        obtain ⟨o1, o2, o3⟩ := js_pv_ok hb n hpv
        have s2 := js_sk_ge t p2
        obtain ⟨b0, y0, e0, -⟩ := js_pr_head o1
        have hl0 : 1 ≤ (js_pr n v).length := by rw [e0]; simp
        show js_rn t 5 p2 (prc ++ js_pr n v) (sk ++ [(js_opn b, ns.length)]) (ns ++ nsl2) = _
        rw [js_rn_s hb (by decide) o3]
        have e5 : js_step t 5 (js_sk t p2) (prc ++ js_pr n v) (sk ++ [(js_opn b, ns.length)]) (ns ++ nsl2) = js_bv t (js_sk t p2) (prc ++ js_pr n v) (sk ++ [(js_opn b, ns.length)]) (ns ++ nsl2) := by
          rw [js_step, if_neg (by decide), if_neg (by decide), if_neg (by decide), if_neg (by decide), if_neg (by decide)]
        rw [e5, js_bv_app]
        have eo : (if js_opn b = 91 then 93 else 125) = js_cls2 b := by cases b <;> rfl
        have eo2 : (if js_opn b = 91 then 0 else 2) = (if b = true then 2 else 0) := by cases b <;> rfl
        rw [eo, eo2]
        have hc44 : ¬ (44 : Int32) = nI (js_cls2 b) := by cases b <;> decide
        have em : prc ++ js_pr n v = prb ++ js_mp b nm (js_pr n v) := by
          rw [h3, js_mp]
          split <;> simp
        by_cases q : js_b t (js_sk t p2) = 44
        · have hlt : js_sk t p2 < t.length := js_b_lt (by rw [q]; decide)
          have qc : ¬ js_b t (js_sk t p2) = nI (js_cls2 b) := fun w => hc44 (q.symm.trans w)
          rw [if_pos q]
          show js_rn t (if b = true then 2 else 0) (js_sk t p2 + 1) (prc ++ js_pr n v ++ [44]) (sk ++ [(js_opn b, ns.length)]) (ns ++ nsl2) = js_thm t b pr sk ns (if js_b t (js_sk t p2) = nI (js_cls2 b) then _ else _)
          rw [if_neg qc, if_pos q, js_rn_s hb (by split <;> decide) hlt]
          refine js_run_m hb V b pr sk ns hsk hpr f (js_sk t p2 + 1) (acc ++ [(nm, v)]) (prc ++ js_pr n v ++ [44]) nsl2 (by omega) hlt ?_ ?_ ?_
          · rw [em, hprb]
            simp
          · exact js_by_app (js_by_app h4 (js_by_128 (js_pr_by o1))) (js_by_1 (by decide))
          · intro e
            rw [List.append_assoc]
            exact js_nr_more (h5 e v)
        · rw [if_neg q]
          by_cases qc : js_b t (js_sk t p2) = nI (js_cls2 b)
          · rw [if_pos qc, js_clo_app]
            show js_rn t 5 (js_sk t p2 + 1) (prc ++ js_pr n v ++ [js_cls2 b]) sk ((ns ++ nsl2).take ns.length) = js_thm t b pr sk ns (if js_b t (js_sk t p2) = nI (js_cls2 b) then _ else _)
            rw [if_pos qc, List.take_left]
            show _ = js_rn t 5 (js_sk t p2 + 1) (pr ++ (js_opn b :: (js_cm ((acc ++ [(nm, v)]).map fun q => js_mp b q.1 (js_pr n q.2)) ++ [js_cls2 b]))) sk ns
            rw [List.map_append, List.map_singleton, js_cm_app, em, hprb]
            simp
          · rw [if_neg qc]
            show Sum.inl _ = js_thm t b pr sk ns (if js_b t (js_sk t p2) = nI (js_cls2 b) then _ else _)
            rw [if_neg qc, if_neg q]
            rfl
    cases b with
    | false =>
      rw [js_mem, js_nmp, if_pos rfl]
      exact key [] p prb nsl (Or.inr ⟨rfl, rfl⟩) hp (by simp) hbp (fun e => by cases e)
    | true =>
      have e2 : js_step t (if true = true then 2 else 0) (js_sk t p) prb (sk ++ [(js_opn true, ns.length)]) (ns ++ nsl) = js_nm t (js_sk t p) prb (sk ++ [(js_opn true, ns.length)]) (ns ++ nsl) := by
        rw [js_step, if_neg (by decide), if_neg (by decide), if_pos (by decide)]
      rw [e2, js_nm, js_mem, js_nmp, if_neg (show ¬ true = false by decide)]
      by_cases q34 : js_b t (js_sk t p) = 34
      · rw [if_pos q34, if_pos q34]
        cases hst : js_st t 4096 (js_sk t p + 1) [] with
        | inl q => rfl
        | inr r =>
          obtain ⟨us, z⟩ := r
          have hpa : js_pa false us := js_st_pa hb (us := []) rfl hst
          have hun := js_pa_un hpa
          have hlen := js_st_len hb hst
          have epq : prb ++ [34] ++ us.flatMap js_pu ++ [34] = prb ++ js_pq us := by unfold js_pq; simp
          have hdup := js_dup_iff (ns := ns) hbp (hnr rfl) hun
          show js_fin t (js_ifp (js_dup (prb ++ [34] ++ us.flatMap js_pu ++ [34]) (ns ++ nsl) (js_last (sk ++ [(js_opn true, ns.length)])) prb.length) _ _) = _
          rw [js_last_app, epq]
          by_cases qd : us ∈ acc.map (·.1)
          · rw [js_ifp_pos (hdup.mpr qd)]
            show Sum.inl _ = _
            simp only [if_pos qd]
            rfl
          · rw [js_ifp_neg (fun w => qd (hdup.mp w))]
            simp only [if_neg qd]
            show js_rn t 4 z (prb ++ js_pq us) (sk ++ [(js_opn true, ns.length)]) (ns ++ nsl ++ [(prb.length, (prb ++ js_pq us).length)]) = _
            rw [js_rn_s hb (by decide) hlen.1]
            have e4 : js_step t 4 (js_sk t z) (prb ++ js_pq us) (sk ++ [(js_opn true, ns.length)]) (ns ++ nsl ++ [(prb.length, (prb ++ js_pq us).length)]) = js_col t (js_sk t z) (prb ++ js_pq us) (sk ++ [(js_opn true, ns.length)]) (ns ++ nsl ++ [(prb.length, (prb ++ js_pq us).length)]) := by
              rw [js_step, if_neg (by decide), if_neg (by decide), if_neg (by decide), if_neg (by decide), if_pos (by decide)]
            rw [e4, js_col]
            by_cases q58 : js_b t (js_sk t z) = 58
            · have hlt : js_sk t z < t.length := js_b_lt (by rw [q58]; decide)
              have sz := js_sk_ge t z
              rw [if_pos q58]
              simp only [if_pos q58]
              show js_rn t 0 (js_sk t z + 1) (prb ++ js_pq us ++ [58]) (sk ++ [(js_opn true, ns.length)]) (ns ++ nsl ++ [(prb.length, (prb ++ js_pq us).length)]) = _
              rw [js_rn_s hb (by decide) hlt, List.append_assoc ns nsl]
              refine key us (js_sk t z + 1) (prb ++ js_pq us ++ [58]) (nsl ++ [(prb.length, (prb ++ js_pq us).length)]) (Or.inl (by omega)) hlt (by simp) ?_ ?_
              · exact js_by_app (js_by_app hbp (js_by_128 (js_pq_by hun))) (js_by_1 (by decide))
              · intro _ v
                exact js_nr_more (js_nr_add (hnr rfl) hun)
            · rw [if_neg q58]
              simp only [if_neg q58]
              rfl
      · rw [if_neg q34, if_neg q34]
        rfl
theorem js_run_lf {t : List Nat} {n : Nat} {i : Nat} {pr : List Nat} {sk ns : List (Nat × Nat)} (h91 : ¬ js_b t i = 91) (h123 : ¬ js_b t i = 123) (f : js_L → js_J n) (hf : ∀ x, js_pr n (f x) = js_pl x) : js_fin t (js_val t i pr sk ns) = js_then t pr sk ns (match js_lf t i with
    | .inl q => .inl q
    | .inr (x, z) => .inr (f x, z)) := by
  rw [js_val, js_lf]
  by_cases q34 : js_b t i = 34
  · rw [if_pos q34, if_pos q34]
    cases js_st t 4096 (i + 1) [] with
    | inl q => rfl
    | inr r =>
      obtain ⟨us, z⟩ := r
      show js_rn t 5 z _ sk ns = js_rn t 5 z (pr ++ js_pr n (f _)) sk ns
      rw [hf]
      show _ = js_rn t 5 z (pr ++ js_pq us) sk ns
      unfold js_pq
      congr 1
      simp
  · rw [if_neg q34, if_neg q34, if_neg h91]
    by_cases q102 : js_b t i = 102
    · rw [if_pos q102, if_pos q102]
      cases js_li t 1 5 0 i with
      | inl q => rfl
      | inr z =>
        show js_rn t 5 z _ sk ns = js_rn t 5 z (pr ++ js_pr n (f _)) sk ns
        rw [hf]; rfl
    · rw [if_neg q102, if_neg q102]
      by_cases q110 : js_b t i = 110
      · rw [if_pos q110, if_pos q110]
        cases js_li t 0 4 0 i with
        | inl q => rfl
        | inr z =>
          show js_rn t 5 z _ sk ns = js_rn t 5 z (pr ++ js_pr n (f _)) sk ns
          rw [hf]; rfl
      · rw [if_neg q110, if_neg q110]
        by_cases q116 : js_b t i = 116
        · rw [if_pos q116, if_pos q116]
          cases js_li t 2 4 0 i with
          | inl q => rfl
          | inr z =>
            show js_rn t 5 z _ sk ns = js_rn t 5 z (pr ++ js_pr n (f _)) sk ns
            rw [hf]; rfl
        · rw [if_neg q116, if_neg q116, if_neg h123]
          cases js_nu t i with
          | inl q => rfl
          | inr z =>
            show js_rn t 5 z _ sk ns = js_rn t 5 z (pr ++ js_pr n (f _)) sk ns
            rw [hf]; rfl
theorem js_run_in {t : List Nat} (hb : js_by t) {n : Nat} (V : ∀ (i : Nat) (pr : List Nat) (sk ns : List (Nat × Nat)), sk.length + n = 32 → js_by pr → i ≤ t.length → js_fin t (js_val t i pr sk ns) = js_then t pr sk ns (js_pv t n i)) (b : Bool) {i : Nat} {pr : List Nat} {sk ns : List (Nat × Nat)} (hsk : sk.length + (n + 1) = 32) (hpr : js_by pr) (hi : i < t.length) :
    js_rn t (if b = true then 3 else 1) (i + 1) (pr ++ [js_opn b]) (sk ++ [(js_opn b, ns.length)]) ns = js_thm t b pr sk ns (js_ins t (js_pv t n) b i) := by
  rw [js_rn_s hb (by split <;> decide) hi, js_ins]
  have hop : js_by (pr ++ [js_opn b]) := js_by_app hpr (js_by_1 (by cases b <;> decide))
  have hm := js_run_m hb V b pr sk ns hsk hpr (t.length + 1) (i + 1) [] (pr ++ [js_opn b]) [] (by omega) hi (by simp) hop (fun _ => ⟨fun q hq => absurd hq List.not_mem_nil, fun q hq => absurd hq List.not_mem_nil⟩)
  rw [List.append_nil] at hm
  have hcl : js_fin t (js_clo (js_sk t (i + 1)) (pr ++ [js_opn b]) (sk ++ [(js_opn b, ns.length)]) ns (js_cls2 b)) = js_thm (n := n) t b pr sk ns (.inr ([], js_sk t (i + 1) + 1)) := by
    rw [js_clo_app]
    show js_rn t 5 (js_sk t (i + 1) + 1) (pr ++ [js_opn b] ++ [js_cls2 b]) sk (ns.take ns.length) = js_rn t 5 (js_sk t (i + 1) + 1) (pr ++ js_opn b :: (js_cm [] ++ [js_cls2 b])) sk ns
    rw [List.take_length]
    congr 1
    simp [js_cm]
  cases b with
  | false =>
    have e1 : js_step t (if false = true then 3 else 1) (js_sk t (i + 1)) (pr ++ [js_opn false]) (sk ++ [(js_opn false, ns.length)]) ns = if js_b t (js_sk t (i + 1)) = 93 then js_clo (js_sk t (i + 1)) (pr ++ [js_opn false]) (sk ++ [(js_opn false, ns.length)]) ns 93 else js_val t (js_sk t (i + 1)) (pr ++ [js_opn false]) (sk ++ [(js_opn false, ns.length)]) ns := by
      rw [js_step, if_neg (by decide), if_pos (by decide)]
    rw [e1]
    by_cases q : js_b t (js_sk t (i + 1)) = 93
    · rw [if_pos q, if_pos (show js_b t (js_sk t (i + 1)) = nI (js_cls2 false) from q)]
      exact hcl
    · rw [if_neg q, if_neg (show ¬ js_b t (js_sk t (i + 1)) = nI (js_cls2 false) from q), ← hm, js_step, if_pos (by decide)]
  | true =>
    have e1 : js_step t (if true = true then 3 else 1) (js_sk t (i + 1)) (pr ++ [js_opn true]) (sk ++ [(js_opn true, ns.length)]) ns = if js_b t (js_sk t (i + 1)) = 125 then js_clo (js_sk t (i + 1)) (pr ++ [js_opn true]) (sk ++ [(js_opn true, ns.length)]) ns 125 else js_nm t (js_sk t (i + 1)) (pr ++ [js_opn true]) (sk ++ [(js_opn true, ns.length)]) ns := by
      rw [js_step, if_neg (by decide), if_neg (by decide), if_neg (by decide), if_pos (by decide)]
    rw [e1]
    by_cases q : js_b t (js_sk t (i + 1)) = 125
    · rw [if_pos q, if_pos (show js_b t (js_sk t (i + 1)) = nI (js_cls2 true) from q)]
      exact hcl
    · rw [if_neg q, if_neg (show ¬ js_b t (js_sk t (i + 1)) = nI (js_cls2 true) from q), ← hm, js_step, if_neg (by decide), if_neg (by decide), if_pos (by decide)]
theorem js_run_v {t : List Nat} (hb : js_by t) : ∀ (n i : Nat) (pr : List Nat) (sk ns : List (Nat × Nat)), sk.length + n = 32 → js_by pr → i ≤ t.length → js_fin t (js_val t i pr sk ns) = js_then t pr sk ns (js_pv t n i)
  | 0, i, pr, sk, ns, hsk, hpr, hi => by
    rw [js_pv]
    by_cases q91 : js_b t i = 91
    · rw [js_val, if_neg (by rw [q91]; decide), if_pos q91, if_pos (by omega), if_pos q91]
      rfl
    · by_cases q123 : js_b t i = 123
      · rw [js_val, if_neg (by rw [q123]; decide), if_neg q91, if_neg (by rw [q123]; decide), if_neg (by rw [q123]; decide), if_neg (by rw [q123]; decide), if_pos q123, if_pos (by omega), if_neg q91, if_pos q123]
        rfl
      · rw [if_neg q91, if_neg q123]
        exact js_run_lf (n := 0) q91 q123 (fun x => x) (fun x => rfl)
  | n + 1, i, pr, sk, ns, hsk, hpr, hi => by
    rw [js_pv]
    by_cases q91 : js_b t i = 91
    · have hlt : i < t.length := js_b_lt (by rw [q91]; decide)
      rw [js_val, if_neg (by rw [q91]; decide), if_pos q91, if_neg (by omega), if_pos q91]
      have r := js_run_in hb (js_run_v hb n) false (i := i) (pr := pr) (sk := sk) (ns := ns) hsk hpr hlt
      show js_rn t 1 (i + 1) (pr ++ [91]) (sk ++ [(91, ns.length)]) ns = _
      refine Eq.trans r ?_
      cases js_ins t (js_pv t n) false i with
      | inl q => rfl
      | inr w => rfl
    · by_cases q123 : js_b t i = 123
      · have hlt : i < t.length := js_b_lt (by rw [q123]; decide)
        rw [js_val, if_neg (by rw [q123]; decide), if_neg q91, if_neg (by rw [q123]; decide), if_neg (by rw [q123]; decide), if_neg (by rw [q123]; decide), if_pos q123, if_neg (by omega), if_neg q91, if_pos q123]
        have r := js_run_in hb (js_run_v hb n) true (i := i) (pr := pr) (sk := sk) (ns := ns) hsk hpr hlt
        show js_rn t 3 (i + 1) (pr ++ [123]) (sk ++ [(123, ns.length)]) ns = _
        refine Eq.trans r ?_
        cases js_ins t (js_pv t n) true i with
        | inl q => rfl
        | inr w => rfl
      · rw [if_neg q91, if_neg q123]
        exact js_run_lf (n := n + 1) q91 q123 (fun x => Sum.inl x) (fun x => rfl)
/-- the machine's answer is the parser's, printed -/
theorem js_run_rd {t : List Nat} (hb : js_by t) (hl : t.length ≤ 4096) : js_run t 4097 0 0 [] [] [] = match js_rd t with
    | .inl q => .inl q
    | .inr v => .inr (js_pr 32 v) := by
  have e : js_run t 4097 0 0 [] [] [] = js_rn t 0 0 [] [] [] := by
    rw [js_rn]
    exact js_run_fuel hb _ _ _ _ _ _ _ (by omega) (by omega) (by omega)
  have s0 := js_sk_ge t 0
  rw [e, js_rn_s hb (by decide) (by omega), js_step, if_pos rfl, js_run_v hb 32 _ [] [] [] (by rfl) (fun x hx => absurd hx List.not_mem_nil) (s0.2 (by omega)), js_rd]
  cases hpv : js_pv t 32 (js_sk t 0) with
  | inl q => rfl
  | inr r =>
    obtain ⟨v, p⟩ := r
    obtain ⟨o1, o2, o3⟩ := js_pv_ok hb 32 hpv
    show js_rn t 5 p ([] ++ js_pr 32 v) [] [] = _
    rw [js_rn_s hb (by decide) o3, js_step, if_neg (by decide), if_neg (by decide), if_neg (by decide), if_neg (by decide), if_neg (by decide), js_bv_nil]
    by_cases q : js_b t (js_sk t p) = -1
    · simp only [if_pos q]
      show js_rn t 6 _ ([] ++ js_pr 32 v) [] [] = _
      rw [js_rn, js_run_6]
      rfl
    · simp only [if_neg q]
      rfl
