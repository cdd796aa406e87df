noncomputable def js_ifp {α : Type} (P : Prop) (a b : α) : α := @ite α P (Classical.propDecidable P) a b
theorem js_ifp_pos {α : Type} {P : Prop} {a b : α} (h : P) : js_ifp P a b = a := @if_pos P (Classical.propDecidable P) h α a b
theorem js_ifp_neg {α : Type} {P : Prop} {a b : α} (h : ¬ P) : js_ifp P a b = b := @if_neg P (Classical.propDecidable P) h α a b
abbrev js_O : Type := Nat ⊕ (Nat × Nat × List Nat × List (Nat × Nat) × List (Nat × Nat))
def js_last (sk : List (Nat × Nat)) : Nat := (sk.getLast?.getD (0, 0)).2
def js_clo (i : Nat) (pr : List Nat) (sk ns : List (Nat × Nat)) (b : Nat) : js_O := .inr (5, i + 1, pr ++ [b], sk.dropLast, ns.take (js_last sk))
noncomputable def js_nm (t : List Nat) (i : Nat) (pr : List Nat) (sk ns : List (Nat × Nat)) : js_O :=
  if js_b t i = 34 then (match js_st t 4096 (i + 1) [] with
    | .inl q => .inl q
    | .inr (us, z) => js_ifp (js_dup (pr ++ [34] ++ us.flatMap js_pu ++ [34]) ns (js_last sk) pr.length) (.inl i) (.inr (4, z, pr ++ [34] ++ us.flatMap js_pu ++ [34], sk, ns ++ [(pr.length, (pr ++ [34] ++ us.flatMap js_pu ++ [34]).length)])))
  else .inl i
def js_col (t : List Nat) (i : Nat) (pr : List Nat) (sk ns : List (Nat × Nat)) : js_O := if js_b t i = 58 then .inr (0, i + 1, pr ++ [58], sk, ns) else .inl i
def js_bv (t : List Nat) (i : Nat) (pr : List Nat) (sk ns : List (Nat × Nat)) : js_O := match sk.getLast? with
  | none => if js_b t i = -1 then .inr (6, i, pr, sk, ns) else .inl i
  | some q => if js_b t i = 44 then .inr (if q.1 = 91 then 0 else 2, i + 1, pr ++ [44], sk, ns)
    else if js_b t i = nI (if q.1 = 91 then 93 else 125) then js_clo i pr sk ns (if q.1 = 91 then 93 else 125) else .inl i
/-- one step of the reader, at a sign that is no blank -/
noncomputable def js_step (t : List Nat) (nx i : Nat) (pr : List Nat) (sk ns : List (Nat × Nat)) : js_O :=
  if nx = 0 then js_val t i pr sk ns
  else if nx = 1 then (if js_b t i = 93 then js_clo i pr sk ns 93 else js_val t i pr sk ns)
  else if nx = 2 then js_nm t i pr sk ns
  else if nx = 3 then (if js_b t i = 125 then js_clo i pr sk ns 125 else js_nm t i pr sk ns)
  else if nx = 4 then js_col t i pr sk ns
  else js_bv t i pr sk ns
noncomputable def js_run (t : List Nat) : Nat → Nat → Nat → List Nat → List (Nat × Nat) → List (Nat × Nat) → Nat ⊕ List Nat
  | 0, _, _, pr, _, _ => .inr pr
  | n + 1, nx, i, pr, sk, ns => if nx = 6 then .inr pr else match js_step t nx (js_skip t (t.length - i) i) pr sk ns with
    | .inl q => .inl q
    | .inr (nx2, i2, pr2, sk2, ns2) => js_run t n nx2 i2 pr2 sk2 ns2
def js_slk (nx : Nat) : Nat := if nx = 4 then 2 else if nx = 0 then 1 else 0
/-- what holds between two steps -/
def js_wf (nx : Nat) (pr : List Nat) (sk ns : List (Nat × Nat)) : Prop :=
  nx ≤ 6 ∧ 4 * ns.length ≤ pr.length + js_slk nx ∧ (∀ q ∈ sk, q.1 = 91 ∨ q.1 = 123) ∧ sk.Pairwise (fun a b => a.2 ≤ b.2) ∧ (∀ q ∈ sk, q.2 ≤ ns.length) ∧
  (nx = 1 → ∃ s n, sk = s ++ [(91, n)]) ∧ (nx = 2 ∨ nx = 3 ∨ nx = 4 → ∃ s n, sk = s ++ [(123, n)])
theorem js_wf0 : js_wf 0 [] [] [] := ⟨by omega, by simp, by simp, List.Pairwise.nil, by simp, fun h => absurd h (by decide), fun h => absurd h (by decide)⟩
theorem js_last_app (sk : List (Nat × Nat)) (q : Nat × Nat) : js_last (sk ++ [q]) = q.2 := by simp [js_last]
theorem js_skip_ge {t : List Nat} : ∀ (n i : Nat), i ≤ js_skip t n i ∧ js_skip t n i ≤ i + n
  | 0, i => ⟨Nat.le_refl _, by rw [js_skip]; omega⟩
  | n + 1, i => by
    rw [js_skip]
    split
    · omega
    · have := js_skip_ge (t := t) n (i + 1)
      omega
theorem js_pw_last {sk : List (Nat × Nat)} {q : Nat × Nat} (h : (sk ++ [q]).Pairwise (fun a b => a.2 ≤ b.2)) : ∀ x ∈ sk, x.2 ≤ q.2 := fun x hx => (List.pairwise_append.mp h).2.2 x hx q (List.mem_singleton.mpr rfl)
/-- what is printed behind a value has at least a byte more -/
theorem js_val_wf {t pr pr2 : List Nat} {nx nx2 i i2 : Nat} {sk ns sk2 ns2 : List (Nat × Nat)} (hnx : nx = 0 ∨ nx = 1) (hw : js_wf nx pr sk ns) (h : js_val t i pr sk ns = .inr (nx2, i2, pr2, sk2, ns2)) : js_wf nx2 pr2 sk2 ns2 := by
  obtain ⟨w1, w2, w3, w4, w5, w6, w7⟩ := hw
  have hs : js_slk nx ≤ 1 := by rcases hnx with e | e <;> rw [e] <;> decide
  have five : ∀ x : List Nat, 1 ≤ x.length → js_wf 5 (pr ++ x) sk ns := fun x hx => ⟨by omega, by rw [List.length_append]; show _ ≤ _ + 0; omega, w3, w4, w5, fun e => by omega, fun e => by omega⟩
  have opn : ∀ b n, (b = 91 ∧ n = 1) ∨ (b = 123 ∧ n = 3) → js_wf n (pr ++ [b]) (sk ++ [(b, ns.length)]) ns := by
    intro b n hb
    refine ⟨by omega, ?_, ?_, ?_, ?_, ?_, ?_⟩
    · have : js_slk n = 0 := by rcases hb with ⟨-, e⟩ | ⟨-, e⟩ <;> rw [e] <;> rfl
      rw [this, List.length_append]
      show _ ≤ _ + 1 + 0
      omega
    · intro q hq
      rcases List.mem_append.mp hq with y | y
      · exact w3 q y
      · rw [List.mem_singleton.mp y]; rcases hb with ⟨e, -⟩ | ⟨e, -⟩
        · exact Or.inl e
        · exact Or.inr e
    · refine List.pairwise_append.mpr ⟨w4, List.pairwise_singleton _ _, fun a ha b' hb' => ?_⟩
      rw [List.mem_singleton.mp hb']
      exact w5 a ha
    · intro q hq
      rcases List.mem_append.mp hq with y | y
      · exact w5 q y
      · rw [List.mem_singleton.mp y]; exact Nat.le_refl _
    · intro e
      rcases hb with ⟨e2, -⟩ | ⟨-, e2⟩
      · exact ⟨sk, ns.length, by rw [e2]⟩
      · omega
    · intro e
      rcases hb with ⟨-, e2⟩ | ⟨e2, -⟩
      · omega
      · exact ⟨sk, ns.length, by rw [e2]⟩
  rw [js_val] at h
  split at h
  · split at h
    · cases h
    · cases h
      rw [List.append_assoc, List.append_assoc]
      exact five _ (by simp)
  · split at h
    · split at h
      · cases h
      · cases h; exact opn 91 1 (Or.inl ⟨rfl, rfl⟩)
    · split at h
      · split at h
        · cases h
        · cases h; exact five _ (by decide)
      · split at h
        · split at h
          · cases h
          · cases h; exact five _ (by decide)
        · split at h
          · split at h
            · cases h
            · cases h; exact five _ (by decide)
          · split at h
            · split at h
              · cases h
              · cases h; exact opn 123 3 (Or.inr ⟨rfl, rfl⟩)
            · split at h
              · cases h
              · rename_i z hz
                cases h
                refine five _ ?_
                rw [js_nu] at hz
                split at hz
                · cases hz
                · rename_i hd
                  split at hz
                  · cases hz
                  · split at hz
                    · cases hz
                      have h1 := js_ne_le hd
                      have h2 := js_ns_ge t i
                      rw [js_sl_len (by omega)]
                      omega
                    · cases hz
theorem js_clo_wf {pr : List Nat} {nx i b y n0 : Nat} {sk ns : List (Nat × Nat)} (hnx : nx ≠ 0) (hnx4 : nx ≠ 4) (hw : js_wf nx pr (sk ++ [(y, n0)]) ns) : js_wf 5 (pr ++ [b]) sk (ns.take n0) := by
  obtain ⟨w1, w2, w3, w4, w5, w6, w7⟩ := hw
  have hs : js_slk nx = 0 := by unfold js_slk; rw [if_neg hnx4, if_neg hnx]
  have hn := w5 (y, n0) (List.mem_append_right _ (List.mem_singleton.mpr rfl))
  refine ⟨by omega, ?_, fun q hq => w3 q (List.mem_append_left _ hq), (List.pairwise_append.mp w4).1, fun q hq => ?_, fun e => by omega, fun e => by omega⟩
  · rw [List.length_append, List.length_take]
    show 4 * min n0 ns.length ≤ pr.length + 1 + 0
    omega
  · have := js_pw_last w4 q hq
    rw [List.length_take]
    have h2 : n0 ≤ ns.length := hn
    show q.2 ≤ min n0 ns.length
    have h3 : q.2 ≤ n0 := this
    omega
theorem js_nm_wf {t pr pr2 : List Nat} {nx nx2 i i2 : Nat} {sk ns sk2 ns2 : List (Nat × Nat)} (hnx : nx = 2 ∨ nx = 3) (hw : js_wf nx pr sk ns) (h : js_nm t i pr sk ns = .inr (nx2, i2, pr2, sk2, ns2)) : js_wf nx2 pr2 sk2 ns2 := by
  obtain ⟨w1, w2, w3, w4, w5, w6, w7⟩ := hw
  have hs : js_slk nx = 0 := by rcases hnx with e | e <;> rw [e] <;> rfl
  rw [js_nm] at h
  split at h
  · split at h
    · cases h
    · rename_i us z hst
      by_cases hd : js_dup (pr ++ [34] ++ us.flatMap js_pu ++ [34]) ns (js_last sk) pr.length
      · rw [js_ifp_pos hd] at h; cases h
      · rw [js_ifp_neg hd] at h
        cases h
        refine ⟨by omega, ?_, w3, w4, fun q hq => ?_, fun e => absurd e (by decide), fun _ => w7 (by omega)⟩
        · simp only [List.length_append, List.length_cons, List.length_nil]
          show _ ≤ _ + 2
          omega
        · have := w5 q hq
          rw [List.length_append]
          omega
  · cases h
theorem js_col_wf {t pr pr2 : List Nat} {nx2 i i2 : Nat} {sk ns sk2 ns2 : List (Nat × Nat)} (hw : js_wf 4 pr sk ns) (h : js_col t i pr sk ns = .inr (nx2, i2, pr2, sk2, ns2)) : js_wf nx2 pr2 sk2 ns2 := by
  obtain ⟨w1, w2, w3, w4, w5, w6, w7⟩ := hw
  have w2 : 4 * ns.length ≤ pr.length + 2 := w2
  rw [js_col] at h
  split at h
  · cases h
    refine ⟨by omega, ?_, w3, w4, w5, fun e => absurd e (by decide), fun e => absurd e (by decide)⟩
    rw [List.length_append]
    show _ ≤ _ + 1 + 1
    omega
  · cases h
theorem js_run_no {t pr : List Nat} {n nx i i2 q : Nat} {sk ns : List (Nat × Nat)} (h6 : nx ≠ 6) (hi : js_skip t (t.length - i) i = i2) (h : js_step t nx i2 pr sk ns = .inl q) : js_run t (n + 1) nx i pr sk ns = .inl q := by rw [js_run, if_neg h6, hi, h]
theorem js_run_ok {t pr pr3 : List Nat} {n nx i i2 nx3 i3 : Nat} {sk ns sk3 ns3 : List (Nat × Nat)} (h6 : nx ≠ 6) (hi : js_skip t (t.length - i) i = i2) (h : js_step t nx i2 pr sk ns = .inr (nx3, i3, pr3, sk3, ns3)) : js_run t (n + 1) nx i pr sk ns = js_run t n nx3 i3 pr3 sk3 ns3 := by rw [js_run, if_neg h6, hi, h]
theorem js_run_6 {t pr : List Nat} {n i : Nat} {sk ns : List (Nat × Nat)} : js_run t n 6 i pr sk ns = .inr pr := by
  cases n with
  | zero => rfl
  | succ n => rw [js_run, if_pos rfl]
theorem js_clo_app {i b y n0 : Nat} {pr : List Nat} {s ns : List (Nat × Nat)} : js_clo i pr (s ++ [(y, n0)]) ns b = .inr (5, i + 1, pr ++ [b], s, ns.take n0) := by rw [js_clo, js_last_app, List.dropLast_concat]
theorem js_bv_nil {t pr : List Nat} {i : Nat} {ns : List (Nat × Nat)} : js_bv t i pr [] ns = if js_b t i = -1 then .inr (6, i, pr, [], ns) else .inl i := rfl
theorem js_bv_app {t pr : List Nat} {i y n0 : Nat} {s ns : List (Nat × Nat)} : js_bv t i pr (s ++ [(y, n0)]) ns = if js_b t i = 44 then .inr (if y = 91 then 0 else 2, i + 1, pr ++ [44], s ++ [(y, n0)], ns) else if js_b t i = nI (if y = 91 then 93 else 125) then js_clo i pr (s ++ [(y, n0)]) ns (if y = 91 then 93 else 125) else .inl i := by
  rw [js_bv, List.getLast?_append]
  rfl
theorem js_comma_wf {pr : List Nat} {y n0 : Nat} {s ns : List (Nat × Nat)} (hy : y = 91 ∨ y = 123) (hw : js_wf 5 pr (s ++ [(y, n0)]) ns) : js_wf (if y = 91 then 0 else 2) (pr ++ [44]) (s ++ [(y, n0)]) ns := by
  obtain ⟨w1, w2, w3, w4, w5, w6, w7⟩ := hw
  have w2 : 4 * ns.length ≤ pr.length + 0 := w2
  refine ⟨by split <;> omega, ?_, w3, w4, w5, fun e => ?_, fun e => ?_⟩
  · rw [List.length_append]
    show _ ≤ pr.length + 1 + _
    omega
  · split at e <;> omega
  · rcases hy with h | h
    · rw [if_pos h] at e; omega
    · exact ⟨s, n0, by rw [h]⟩
theorem js_nm_dup {t pr us : List Nat} {i z n0 : Nat} {sk ns : List (Nat × Nat)} (hq : js_b t i = 34) (hE : js_st t 4096 (i + 1) [] = .inr (us, z)) (hj : js_last sk = n0) (hd : js_dup (pr ++ [34] ++ us.flatMap js_pu ++ [34]) ns n0 pr.length) : js_nm t i pr sk ns = .inl i := by
  subst hj
  rw [js_nm, if_pos hq, hE]
  exact js_ifp_pos hd
theorem js_nm_new {t pr us : List Nat} {i z n0 : Nat} {sk ns : List (Nat × Nat)} (hq : js_b t i = 34) (hE : js_st t 4096 (i + 1) [] = .inr (us, z)) (hj : js_last sk = n0) (hd : ¬ js_dup (pr ++ [34] ++ us.flatMap js_pu ++ [34]) ns n0 pr.length) : js_nm t i pr sk ns = .inr (4, z, pr ++ [34] ++ us.flatMap js_pu ++ [34], sk, ns ++ [(pr.length, (pr ++ [34] ++ us.flatMap js_pu ++ [34]).length)]) := by
  subst hj
  rw [js_nm, if_pos hq, hE]
  exact js_ifp_neg hd
