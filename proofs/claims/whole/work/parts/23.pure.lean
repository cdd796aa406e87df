/-- how the reader's rows hold its state: at i, pr printed, sk the signs that are open (with the number of names before each), ns the names (from, end) -/
def js_R (t : List Nat) (i : Nat) (pr : List Nat) (sk ns : List (Nat × Nat)) (g fS fE fH fO fB : Nat → Int32) : Prop :=
  i ≤ t.length ∧ pr.length ≤ i ∧ sk.length ≤ 32 ∧ ns.length ≤ 1024 ∧ js_tx g pr ∧
  (∀ (j : Nat) (h : j < ns.length), ns[j].1 ≤ ns[j].2 ∧ ns[j].2 ≤ pr.length ∧ fS j = nI ns[j].1 ∧ fE j = nI ns[j].2 ∧ fH j = js_hash pr ns[j].1 (ns[j].2 - ns[j].1)) ∧
  (∀ (j : Nat) (h : j < sk.length), sk[j].1 < 128 ∧ sk[j].2 ≤ ns.length ∧ fO j = nI sk[j].1 ∧ fB j = nI sk[j].2)
theorem js_b_app {t x : List Nat} {i : Nat} (h : i < t.length) : js_b (t ++ x) i = js_b t i := by rw [js_b, js_b, List.getElem?_append_left h]
theorem js_hash_app {t x : List Nat} {a : Nat} : ∀ {n : Nat}, a + n ≤ t.length → js_hash (t ++ x) a n = js_hash t a n
  | 0, _ => rfl
  | n + 1, h => by rw [js_hash, js_hash, js_b_app (by omega), js_hash_app (n := n) (by omega)]
/-- more is printed, further on -/
theorem js_R.more {t pr x : List Nat} {i i2 : Nat} {sk ns : List (Nat × Nat)} {g g2 fS fE fH fO fB : Nat → Int32} (h : js_R t i pr sk ns g fS fE fH fO fB) (hg : js_tx g2 (pr ++ x)) (h1 : i2 ≤ t.length) (h2 : (pr ++ x).length ≤ i2) : js_R t i2 (pr ++ x) sk ns g2 fS fE fH fO fB := by
  obtain ⟨a1, a2, a3, a4, a5, a6, a7⟩ := h
  refine ⟨h1, h2, a3, a4, hg, fun j hj => ?_, a7⟩
  obtain ⟨b1, b2, b3, b4, b5⟩ := a6 j hj
  exact ⟨b1, by rw [List.length_append]; omega, b3, b4, by rw [b5, js_hash_app (by omega)]⟩
theorem js_R.skip {t pr : List Nat} {i i2 : Nat} {sk ns : List (Nat × Nat)} {g fS fE fH fO fB : Nat → Int32} (h : js_R t i pr sk ns g fS fE fH fO fB) (h1 : i2 ≤ t.length) (h2 : i ≤ i2) : js_R t i2 pr sk ns g fS fE fH fO fB :=
  ⟨h1, by have := h.2.1; omega, h.2.2⟩
theorem js_R.opens {t pr : List Nat} {i b : Nat} {sk ns : List (Nat × Nat)} {g fS fE fH fO fB : Nat → Int32} (h : js_R t i pr sk ns g fS fE fH fO fB) (hb : b < 128) (hs : sk.length < 32) : js_R t i pr (sk ++ [(b, ns.length)]) ns g fS fE fH (upd fO sk.length (nI b)) (upd fB sk.length (nI ns.length)) := by
  obtain ⟨a1, a2, a3, a4, a5, a6, a7⟩ := h
  refine ⟨a1, a2, by rw [List.length_append]; exact hs, a4, a5, a6, fun j hj => ?_⟩
  rcases Nat.lt_or_ge j sk.length with q | q
  · rw [List.getElem_append_left q, pk_un (by omega), pk_un (by omega)]
    exact a7 j q
  · have e : j = sk.length := by
      rw [List.length_append] at hj
      have : [(b, ns.length)].length = 1 := rfl
      omega
    subst e
    rw [List.getElem_append_right (Nat.le_refl _)]
    simp only [Nat.sub_self, List.getElem_cons_zero]
    exact ⟨hb, Nat.le_refl _, pk_us, pk_us⟩
theorem js_R.closes {t pr : List Nat} {i y n0 : Nat} {sk ns : List (Nat × Nat)} {g fS fE fH fO fB : Nat → Int32} (h : js_R t i pr (sk ++ [(y, n0)]) ns g fS fE fH fO fB) (hm : ∀ q ∈ sk, q.2 ≤ n0) : js_R t i pr sk (ns.take n0) g fS fE fH fO fB ∧ fB sk.length = nI n0 ∧ n0 ≤ ns.length ∧ fO sk.length = nI y ∧ y < 128 := by
  obtain ⟨a1, a2, a3, a4, a5, a6, a7⟩ := h
  have hl : sk.length < (sk ++ [(y, n0)]).length := by rw [List.length_append]; exact Nat.lt_succ_self _
  have h7 := a7 sk.length hl
  rw [List.getElem_append_right (Nat.le_refl _)] at h7
  simp only [Nat.sub_self, List.getElem_cons_zero] at h7
  refine ⟨⟨a1, a2, by omega, by rw [List.length_take]; omega, a5, fun j hj => ?_, fun j hj => ?_⟩, h7.2.2.2, h7.2.1, h7.2.2.1, h7.1⟩
  · rw [List.length_take] at hj
    rw [List.getElem_take]
    exact a6 j (by omega)
  · have := a7 j (by omega)
    rw [List.getElem_append_left hj] at this
    refine ⟨this.1, ?_, this.2.2⟩
    rw [List.length_take]
    have h8 := hm _ (List.getElem_mem hj)
    omega
theorem js_R.named {t pr : List Nat} {i a z : Nat} {sk ns : List (Nat × Nat)} {g fS fE fH fO fB : Nat → Int32} (h : js_R t i pr sk ns g fS fE fH fO fB) (hc : ns.length < 1024) (ha : a ≤ z) (hz : z ≤ pr.length) : js_R t i pr sk (ns ++ [(a, z)]) g (upd fS ns.length (nI a)) (upd fE ns.length (nI z)) (upd fH ns.length (js_hash pr a (z - a))) fO fB := by
  obtain ⟨a1, a2, a3, a4, a5, a6, a7⟩ := h
  refine ⟨a1, a2, a3, by rw [List.length_append]; exact hc, a5, fun j hj => ?_, fun j hj => ?_⟩
  · rcases Nat.lt_or_ge j ns.length with q | q
    · rw [List.getElem_append_left q, pk_un (by omega), pk_un (by omega), pk_un (by omega)]
      exact a6 j q
    · have e : j = ns.length := by
        rw [List.length_append] at hj
        have : [(a, z)].length = 1 := rfl
        omega
      subst e
      rw [List.getElem_append_right (Nat.le_refl _)]
      simp only [Nat.sub_self, List.getElem_cons_zero]
      exact ⟨ha, hz, pk_us, pk_us, pk_us⟩
  · have := a7 j hj
    exact ⟨this.1, by rw [List.length_append]; omega, this.2.2⟩
/-- a literal: the place where it breaks, or its end -/
def js_li (t : List Nat) (k : Nat) : Nat → Nat → Nat → Nat ⊕ Nat
  | 0, _, i => .inr i
  | n + 1, j, i => if js_b t i = js_sc k j then js_li t k n (j + 1) (i + 1) else .inl i
def js_wd (k : Nat) : List Nat := (jz_byt.getD k []).map fun c => c.toBitVec.toNat % 256
theorem js_wd_s : ∀ k, k < 7 → ∀ j, j < jz_len.getD k 0 → (js_wd k).take (j + 1) = (js_wd k).take j ++ [(js_sc k j).toBitVec.toNat % 256] ∧ (js_wd k).length = jz_len.getD k 0 := by decide +kernel
theorem js_sc_nn : ∀ k, k < 7 → ∀ j, j < jz_len.getD k 0 → ¬ js_sc k j = -1 := by decide +kernel
theorem js_i8 : ∀ b, b < 128 → (nI b).toInt8.toInt32 = nI b := by decide +kernel
theorem js_len1p {α : Type} (l : List α) (a : α) : nI l.length + 1 = nI (l ++ [a]).length := by rw [List.length_append]; exact nI_1 _
theorem js_lenm1 {α : Type} (l : List α) (a : α) : nI (l ++ [a]).length - 1 = nI l.length := by rw [List.length_append]; exact nI_pred _
theorem js_lpos {α : Type} (l : List α) (a : α) : 0 < (l ++ [a]).length := by rw [List.length_append]; exact Nat.succ_pos _
theorem js_pu1 {pr : List Nat} {b : Nat} (hb : b < 256) : pr ++ [(nI b).toBitVec.toNat % 256] = pr ++ [b] := by rw [js_tn hb]
