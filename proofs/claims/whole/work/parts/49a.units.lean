-- ===== units: printed and read again =====
theorem js_b_off {a y : List Nat} (k : Nat) : js_b (a ++ y) (a.length + k) = js_b y k := by
  rw [js_b, js_b, List.getElem?_append_right (by omega), Nat.add_sub_cancel_left]
theorem js_b_off0 {a y : List Nat} : js_b (a ++ y) a.length = js_b y 0 := js_b_off 0
theorem js_b_c0 {b : Nat} {y : List Nat} : js_b (b :: y) 0 = nI b := rfl
theorem js_b_cs {b k : Nat} {y : List Nat} : js_b (b :: y) (k + 1) = js_b y k := by rw [js_b, js_b, List.getElem?_cons_succ]
theorem js_b_nil {k : Nat} : js_b [] k = -1 := rfl
theorem js_b_ne {b : Nat} (h : b < 2 ^ 31) {y : List Nat} : ¬ js_b (b :: y) 0 = -1 := js_nm1 h
theorem js_hx_off {a y : List Nat} : ∀ (k p : Nat) (s : Int32), js_hx (a ++ y) k (a.length + p) s = js_hx y k p s
  | 0, _, _ => rfl
  | k + 1, p, s => by rw [js_hx, js_hx, js_b_off, Nat.add_assoc, js_hx_off k (p + 1)]
theorem js_hok_off {a y : List Nat} : ∀ (k p : Nat), js_hok (a ++ y) k (a.length + p) = js_hok y k p
  | 0, _ => rfl
  | k + 1, p => by rw [js_hok, js_hok, js_b_off, Nat.add_assoc, js_hok_off k (p + 1)]
theorem js_ua_off {a y : List Nat} (p : Nat) : js_ua (a ++ y) (a.length + p) = js_ua y p := by
  rw [js_ua, js_ua, js_b_off, Nat.add_assoc, js_b_off, Nat.add_assoc, js_hx_off]
theorem js_ub_off {a y : List Nat} (p : Nat) : js_ub (a ++ y) (a.length + p) = js_ub y p := by
  rw [js_ub, js_ub, js_b_off, Nat.add_assoc, js_b_off, Nat.add_assoc, js_hok_off]
theorem js_pu_s : ∀ u, u < 128 → (fn_Rd_signOfUnit (nI u) = -1 ∧ ¬ (u < 32 ∨ 126 < u) ∧ u ≠ 34 ∧ u ≠ 92) ∨ (fn_Rd_signOfUnit (nI u) = -1 ∧ (u < 32 ∨ 126 < u)) ∨ (∃ s, s < 128 ∧ s ≠ 117 ∧ fn_Rd_signOfUnit (nI u) ≠ -1 ∧ (fn_Rd_signOfUnit (nI u)).toBitVec.toNat % 256 = s ∧ fn_Rd_unitOfSign (nI s) = nI u) := by decide +kernel
theorem js_pu_b {u : Nat} (h : 128 ≤ u) (hu : u < 65536) : fn_Rd_signOfUnit (nI u) = -1 := by
  have g : ∀ c, c < 128 → ¬ nI u = nI c := fun c hc e => by
    have := (nI_eq (by omega) (by omega)).mp e
    omega
  unfold fn_Rd_signOfUnit
  rw [if_neg (show ¬ nI u = 8 from g 8 (by decide)), if_neg (show ¬ nI u = 9 from g 9 (by decide)), if_neg (show ¬ nI u = 10 from g 10 (by decide)), if_neg (show ¬ nI u = 12 from g 12 (by decide)), if_neg (show ¬ nI u = 13 from g 13 (by decide)), if_neg (show ¬ nI u = 34 from g 34 (by decide)), if_neg (show ¬ nI u = 92 from g 92 (by decide))]
/-- the three ways in which a unit is printed -/
theorem js_pu_cases {u : Nat} (hu : u < 65536) : (js_pu u = [u] ∧ 32 ≤ u ∧ u ≤ 126 ∧ u ≠ 34 ∧ u ≠ 92) ∨ js_pu u = [92, 117, js_hexc (u / 4096 % 16), js_hexc (u / 256 % 16), js_hexc (u / 16 % 16), js_hexc (u % 16)] ∨ ∃ s, s < 128 ∧ s ≠ 117 ∧ js_pu u = [92, s] ∧ fn_Rd_unitOfSign (nI s) = nI u := by
  rcases Nat.lt_or_ge u 128 with q | q
  · rcases js_pu_s u q with ⟨h1, h2, h3, h4⟩ | ⟨h1, h2⟩ | ⟨s, h1, h2, h3, h4, h5⟩
    · exact Or.inl ⟨by rw [js_pu, if_pos h1, if_neg h2], by omega, by omega, h3, h4⟩
    · exact Or.inr (Or.inl (by rw [js_pu, if_pos h1, if_pos h2]))
    · exact Or.inr (Or.inr ⟨s, h1, h2, by rw [js_pu, if_neg h3, h4], h5⟩)
  · exact Or.inr (Or.inl (by rw [js_pu, if_pos (js_pu_b q hu), if_pos (by omega)]))
theorem js_hexc_d : ∀ d, d < 16 → fn_Rd_hexDigit (nI (js_hexc d)) = nI d ∧ js_hexc d < 128 ∧ js_hexc d ≠ 34 ∧ js_hexc d ≠ 92 ∧ nI d ≠ -1 := by decide +kernel
theorem js_hx_s {k a d : Nat} {y : List Nat} (hd : d < 16) : js_hx (js_hexc d :: y) (k + 1) 0 (nI a) = js_hx y k 0 (nI (a * 16 + d)) ∧ (js_hok (js_hexc d :: y) (k + 1) 0 = js_hok y k 0) := by
  obtain ⟨h1, h2, h3, h4, h5⟩ := js_hexc_d d hd
  constructor
  · rw [js_hx, js_b_c0, if_neg (js_nm1 (by omega)), h1, if_neg h5, show (16 : Int32) = nI 16 from rfl, pk_mul, nI_add]
    exact js_hx_off (a := [js_hexc d]) k 0 _
  · rw [js_hok, js_b_c0, if_neg (js_nm1 (by omega)), h1, if_neg h5]
    exact js_hok_off (a := [js_hexc d]) k 0
/-- a unit that was printed is read as it was -/
theorem js_ua_pu {u : Nat} (hu : u < 65536) (z : List Nat) : js_ua (js_pu u ++ z) 0 = nI u ∧ js_ub (js_pu u ++ z) 0 = (js_pu u).length := by
  rcases js_pu_cases hu with ⟨e, h1, h2, h3, h4⟩ | e | ⟨s, h1, h2, e, h3⟩
  · have n : ∀ c, c < 2 ^ 31 → u ≠ c → ¬ nI u = nI c := fun c hc h q => h ((nI_eq (by omega) hc).mp q)
    rw [e]
    show js_ua (u :: z) 0 = _ ∧ js_ub (u :: z) 0 = 1
    have n92 : ¬ nI u = 92 := n 92 (by decide) h4
    have n34 : ¬ nI u = 34 := n 34 (by decide) h3
    have n32 : ¬ nI u < 32 := nI_nlt (b := 32) h1 (by omega)
    have n126 : ¬ 126 < nI u := nI_nlt (a := 126) h2 (by decide)
    rw [js_ua, js_ub, js_b_c0, if_neg (js_nm1 (by omega)), if_neg n92, if_neg n32, if_neg n126, if_neg n34, if_neg (js_nm1 (by omega)), if_neg n92]
    exact ⟨rfl, rfl⟩
  · rw [e]
    have a0 := js_hx_s (k := 3) (a := 0) (d := u / 4096 % 16) (y := js_hexc (u / 256 % 16) :: js_hexc (u / 16 % 16) :: js_hexc (u % 16) :: z) (by omega)
    have a1 := js_hx_s (k := 2) (a := 0 * 16 + u / 4096 % 16) (d := u / 256 % 16) (y := js_hexc (u / 16 % 16) :: js_hexc (u % 16) :: z) (by omega)
    have a2 := js_hx_s (k := 1) (a := (0 * 16 + u / 4096 % 16) * 16 + u / 256 % 16) (d := u / 16 % 16) (y := js_hexc (u % 16) :: z) (by omega)
    have a3 := js_hx_s (k := 0) (a := ((0 * 16 + u / 4096 % 16) * 16 + u / 256 % 16) * 16 + u / 16 % 16) (d := u % 16) (y := z) (by omega)
    have hv : (((0 * 16 + u / 4096 % 16) * 16 + u / 256 % 16) * 16 + u / 16 % 16) * 16 + u % 16 = u := by omega
    have hx := a0.1.trans (a1.1.trans (a2.1.trans a3.1))
    have hk := a0.2.trans (a1.2.trans (a2.2.trans a3.2))
    rw [hv] at hx
    have ox := js_hx_off (a := [92, 117]) (y := js_hexc (u / 4096 % 16) :: js_hexc (u / 256 % 16) :: js_hexc (u / 16 % 16) :: js_hexc (u % 16) :: z) 4 0 0
    have ok := js_hok_off (a := [92, 117]) (y := js_hexc (u / 4096 % 16) :: js_hexc (u / 256 % 16) :: js_hexc (u / 16 % 16) :: js_hexc (u % 16) :: z) 4 0
    show js_ua (92 :: 117 :: js_hexc (u / 4096 % 16) :: js_hexc (u / 256 % 16) :: js_hexc (u / 16 % 16) :: js_hexc (u % 16) :: z) 0 = _ ∧ js_ub (92 :: 117 :: js_hexc (u / 4096 % 16) :: js_hexc (u / 256 % 16) :: js_hexc (u / 16 % 16) :: js_hexc (u % 16) :: z) 0 = 6
    rw [js_ua, js_ub, js_b_cs, js_b_c0, js_b_c0, if_neg (by decide), if_pos (by decide), if_neg (by decide), if_pos (by decide), if_neg (by decide), if_pos (by decide), if_neg (by decide), if_pos (by decide)]
    refine ⟨ox.trans hx, ?_⟩
    rw [if_pos]
    exact ok.trans (hk.trans rfl)
  · rw [e]
    show js_ua (92 :: s :: z) 0 = _ ∧ js_ub (92 :: s :: z) 0 = 2
    have n : ¬ nI s = 117 := fun q => h2 ((nI_eq (b := 117) (by omega) (by decide)).mp q)
    rw [js_ua, js_ub, js_b_cs, js_b_c0, js_b_c0, if_neg (by decide), if_pos (by decide), if_neg (js_nm1 (by omega)), if_neg n, if_neg (by decide), if_pos (by decide), if_neg (js_nm1 (by omega)), if_neg n]
    exact ⟨h3, rfl⟩
theorem js_pu_by {u : Nat} (hu : u < 65536) : ∀ x ∈ js_pu u, x < 128 := by
  have g : ∀ d, d < 16 → js_hexc d < 128 := fun d hd => (js_hexc_d d hd).2.1
  rcases js_pu_cases hu with ⟨e, h1, h2, h3, h4⟩ | e | ⟨s, h1, h2, e, h3⟩
  · rw [e]; intro x hx; rw [List.mem_singleton.mp hx]; omega
  · rw [e]; intro x hx
    simp only [List.mem_cons, List.not_mem_nil, or_false] at hx
    rcases hx with q | q | q | q | q | q <;> rw [q]
    · decide
    · decide
    · exact g _ (by omega)
    · exact g _ (by omega)
    · exact g _ (by omega)
    · exact g _ (by omega)
  · rw [e]; intro x hx
    simp only [List.mem_cons, List.not_mem_nil, or_false] at hx
    rcases hx with q | q <;> rw [q]
    · decide
    · exact h1
theorem js_pu_ne (u : Nat) : ∃ b y, js_pu u = b :: y ∧ b ≠ 34 := by
  rcases Nat.lt_or_ge u 65536 with hu | hu
  · rcases js_pu_cases hu with ⟨e, h1, h2, h3, h4⟩ | e | ⟨s, h1, h2, e, h3⟩
    · exact ⟨u, [], e, h3⟩
    · exact ⟨_, _, e, by decide⟩
    · exact ⟨_, _, e, by decide⟩
  · rw [js_pu]
    split
    · split
      · exact ⟨_, _, rfl, by decide⟩
      · omega
    · exact ⟨_, _, rfl, by decide⟩
def js_un (us : List Nat) : Prop := ∀ u ∈ us, u < 65536
theorem js_pq_tail : ∀ {us us2 z z2 : List Nat}, js_un us → js_un us2 → us.flatMap js_pu ++ 34 :: z = us2.flatMap js_pu ++ 34 :: z2 → us = us2 ∧ z = z2
  | [], [], z, z2, _, _, h => ⟨rfl, by cases h; rfl⟩
  | [], u :: us2, z, z2, _, _, h => by
    obtain ⟨b, y, e, hb⟩ := js_pu_ne u
    rw [List.flatMap_cons, e] at h
    cases h
    exact absurd rfl hb
  | u :: us, [], z, z2, _, _, h => by
    obtain ⟨b, y, e, hb⟩ := js_pu_ne u
    rw [List.flatMap_cons, e] at h
    cases h
    exact absurd rfl hb
  | u :: us, u2 :: us2, z, z2, h1, h2, h => by
    rw [List.flatMap_cons, List.flatMap_cons, List.append_assoc, List.append_assoc] at h
    have a1 := js_ua_pu (h1 u (List.mem_cons_self ..)) (us.flatMap js_pu ++ 34 :: z)
    have a2 := js_ua_pu (h2 u2 (List.mem_cons_self ..)) (us2.flatMap js_pu ++ 34 :: z2)
    rw [h] at a1
    have e : u = u2 := by
      have := a1.1.symm.trans a2.1
      have g1 := h1 u (List.mem_cons_self ..)
      have g2 := h2 u2 (List.mem_cons_self ..)
      exact (nI_eq (by omega) (by omega)).mp this
    subst e
    have h := List.append_cancel_left h
    obtain ⟨e1, e2⟩ := js_pq_tail (fun x hx => h1 x (List.mem_cons_of_mem _ hx)) (fun x hx => h2 x (List.mem_cons_of_mem _ hx)) h
    exact ⟨by rw [e1], e2⟩
theorem js_pq_inj {us us2 : List Nat} (h1 : js_un us) (h2 : js_un us2) (h : js_pq us = js_pq us2) : us = us2 := by
  unfold js_pq at h
  exact (js_pq_tail h1 h2 (List.cons.inj h).2).1
theorem js_pq_by {us : List Nat} (h : js_un us) : ∀ x ∈ js_pq us, x < 128 := by
  intro x hx
  unfold js_pq at hx
  rcases List.mem_cons.mp hx with q | q
  · rw [q]; decide
  · rcases List.mem_append.mp q with q | q
    · obtain ⟨u, hu, hx2⟩ := List.mem_flatMap.mp q
      exact js_pu_by (h u hu) x hx2
    · rw [List.mem_singleton.mp q]; decide
-- ===== pairs =====
def js_hi (u : Nat) : Prop := 55296 ≤ u ∧ u ≤ 56319
def js_lo (u : Nat) : Prop := 56320 ≤ u ∧ u ≤ 57343
/-- each first unit has its second, each second its first; w: the unit before was a first one -/
def js_pa : Bool → List Nat → Prop
  | w, [] => w = false
  | w, u :: l => u < 65536 ∧ (js_lo u ↔ w = true) ∧ ∀ w2 : Bool, (js_hi u ↔ w2 = true) → js_pa w2 l
theorem js_pa_app : ∀ {l m : List Nat} {w : Bool}, js_pa w l → js_pa false m → js_pa w (l ++ m)
  | [], m, w, h, hm => by have : w = false := h; rw [this]; exact hm
  | u :: l, m, w, h, hm => ⟨h.1, h.2.1, fun w2 q => js_pa_app (h.2.2 w2 q) hm⟩
theorem js_pa_un : ∀ {l : List Nat} {w : Bool}, js_pa w l → js_un l
  | [], _, _ => fun u hu => absurd hu (List.not_mem_nil)
  | u :: l, w, h => fun v hv => by
    rcases List.mem_cons.mp hv with q | q
    · rw [q]; exact h.1
    · by_cases hh : js_hi u
      · exact js_pa_un (h.2.2 true ⟨fun _ => rfl, fun _ => hh⟩) v q
      · exact js_pa_un (h.2.2 false ⟨fun q => absurd q hh, fun q => by cases q⟩) v q
theorem js_pa_1 {u : Nat} (hu : u < 65536) (h1 : ¬ js_lo u) (h2 : ¬ js_hi u) : js_pa false [u] := ⟨hu, ⟨fun q => absurd q h1, fun q => by cases q⟩, fun w2 q => by
  cases w2 with
  | false => rfl
  | true => exact absurd (q.mpr rfl) h2⟩
theorem js_pa_2 {u v : Nat} (hu : js_hi u) (hv : js_lo v) : js_pa false [u, v] := by
  unfold js_hi at hu
  unfold js_lo at hv
  refine ⟨by omega, ⟨fun q => by unfold js_lo at q; omega, fun q => by cases q⟩, fun w2 q => ?_⟩
  have e : w2 = true := q.mp hu
  subst e
  refine ⟨by omega, ⟨fun _ => rfl, fun _ => hv⟩, fun w3 q => ?_⟩
  cases w3 with
  | false => rfl
  | true => have := q.mpr rfl; unfold js_hi at this; omega
theorem js_f1 {u : Nat} (hu : u < 65536) : fn_Rd_isFirstOfTwo (nI u) = 0 ↔ ¬ js_hi u := by
  unfold fn_Rd_isFirstOfTwo js_hi
  rw [show (55296 : Int32) = nI 55296 from rfl, show (56319 : Int32) = nI 56319 from rfl]
  simp only [nI_ltI (show u < 2 ^ 31 by omega) (show 55296 < 2 ^ 31 by decide), nI_ltI (show 56319 < 2 ^ 31 by decide) (show u < 2 ^ 31 by omega)]
  split
  · exact ⟨fun _ => by omega, fun _ => rfl⟩
  · split
    · exact ⟨fun _ => by omega, fun _ => rfl⟩
    · exact ⟨fun q => absurd q (by decide), fun q => by omega⟩
theorem js_f2 {u : Nat} (hu : u < 65536) : fn_Rd_isSecondOfTwo (nI u) = 0 ↔ ¬ js_lo u := by
  unfold fn_Rd_isSecondOfTwo js_lo
  rw [show (56320 : Int32) = nI 56320 from rfl, show (57343 : Int32) = nI 57343 from rfl]
  simp only [nI_ltI (show u < 2 ^ 31 by omega) (show 56320 < 2 ^ 31 by decide), nI_ltI (show 57343 < 2 ^ 31 by decide) (show u < 2 ^ 31 by omega)]
  split
  · exact ⟨fun _ => by omega, fun _ => rfl⟩
  · split
    · exact ⟨fun _ => by omega, fun _ => rfl⟩
    · exact ⟨fun q => absurd q (by decide), fun q => by omega⟩
/-- what is read is in pairs -/
theorem js_ch_pa {t : List Nat} (hb : js_by t) {p n : Nat} {us : List Nat} (h : js_ch t p = .inr (us, n)) : js_pa false us ∧ us ≠ [] := by
  rw [js_ch] at h
  split at h
  · rename_i hf
    split at h
    · cases h
    · rename_i hn
      split at h
      · rename_i hs
        cases h
        obtain ⟨u, hu, e1, e2⟩ := js_ua_nat hb hn
        rw [e2]
        rw [e1] at hf hs
        exact ⟨js_pa_1 hu ((js_f2 hu).mp hs) ((js_f1 hu).mp hf), by simp⟩
      · cases h
  · rename_i hf
    split at h
    · cases h
    · rename_i hs
      cases h
      obtain ⟨u, hu, e1, e2⟩ := js_ua_nat hb (js_first hf).1
      obtain ⟨v, hv, f1, f2⟩ := js_ua_nat hb (js_second hs).1
      rw [e2, f2]
      rw [e1] at hf
      rw [f1] at hs
      refine ⟨js_pa_2 ?_ ?_, by simp⟩
      · exact Classical.not_not.mp (fun q => hf ((js_f1 hu).mpr q))
      · exact Classical.not_not.mp (fun q => hs ((js_f2 hv).mpr q))
theorem js_st_pa {t : List Nat} (hb : js_by t) : ∀ {n p z : Nat} {us us2 : List Nat}, js_pa false us → js_st t n p us = .inr (us2, z) → js_pa false us2
  | 0, p, z, us, us2, _, h => by cases h
  | n + 1, p, z, us, us2, hp, h => by
    rw [js_st] at h
    split at h
    · cases h
    · split at h
      · cases h; exact hp
      · split at h
        · cases h
        · rename_i u k hc
          exact js_st_pa hb (js_pa_app hp (js_ch_pa hb hc).1) h
-- ===== a string that was printed is read as it was =====
theorem js_ch_1 {a z : List Nat} {u : Nat} (hu : u < 65536) (h1 : ¬ js_lo u) (h2 : ¬ js_hi u) : js_ch (a ++ (js_pu u ++ z)) a.length = .inr ([u], (js_pu u).length) := by
  have h := js_ua_pu hu z
  have e1 : js_ua (a ++ (js_pu u ++ z)) a.length = nI u := (js_ua_off 0).trans h.1
  have e2 : js_ub (a ++ (js_pu u ++ z)) a.length = (js_pu u).length := (js_ub_off 0).trans h.2
  rw [js_ch, e1, e2, if_pos ((js_f1 hu).mpr h2), if_neg (nI_pos (by omega)), if_pos ((js_f2 hu).mpr h1), nI_clamp (by omega)]
theorem js_ch_2 {a z : List Nat} {u v : Nat} (hu : js_hi u) (hv : js_lo v) : js_ch (a ++ (js_pu u ++ (js_pu v ++ z))) a.length = .inr ([u, v], (js_pu u).length + (js_pu v).length) := by
  have u6 : u < 65536 := by unfold js_hi at hu; omega
  have v6 : v < 65536 := by unfold js_lo at hv; omega
  have h := js_ua_pu u6 (js_pu v ++ z)
  have g := js_ua_pu v6 z
  have e1 : js_ua (a ++ (js_pu u ++ (js_pu v ++ z))) a.length = nI u := (js_ua_off 0).trans h.1
  have e2 : js_ub (a ++ (js_pu u ++ (js_pu v ++ z))) a.length = (js_pu u).length := (js_ub_off 0).trans h.2
  have f1 : js_ua (a ++ (js_pu u ++ (js_pu v ++ z))) (a.length + (js_pu u).length) = nI v := by
    rw [js_ua_off]
    exact (js_ua_off 0).trans g.1
  have f2 : js_ub (a ++ (js_pu u ++ (js_pu v ++ z))) (a.length + (js_pu u).length) = (js_pu v).length := by
    rw [js_ub_off]
    exact (js_ub_off 0).trans g.2
  rw [js_ch, e1, e2, f1, f2, if_neg (fun q => (js_f1 u6).mp q hu), if_neg (fun q => (js_f2 v6).mp q hv), nI_clamp (by omega), nI_clamp (by omega)]
theorem js_pu_pos (u : Nat) : 1 ≤ (js_pu u).length := by
  obtain ⟨b, y, e, -⟩ := js_pu_ne u
  rw [e]
  exact Nat.succ_le_succ (Nat.zero_le _)
theorem js_b_pu {a z : List Nat} {u : Nat} (hu : u < 65536) : ¬ js_b (a ++ (js_pu u ++ z)) a.length = 34 := by
  obtain ⟨b, y, e, hb⟩ := js_pu_ne u
  have hb2 := js_pu_by hu b (by rw [e]; exact List.mem_cons_self ..)
  rw [js_b_off0, e]
  exact fun q => hb ((nI_eq (b := 34) (by omega) (by decide)).mp q)
theorem js_st_rt : ∀ (k n : Nat) (us a z acc : List Nat), us.length ≤ k → us.length < n → js_pa false us → js_st (a ++ (us.flatMap js_pu ++ 34 :: z)) n a.length acc = .inr (acc ++ us, a.length + (us.flatMap js_pu).length + 1)
  | k, 0, us, a, z, acc, _, h, _ => absurd h (Nat.not_lt_zero _)
  | k, n + 1, [], a, z, acc, _, _, _ => by
    rw [js_st_quote (by simp) (by rw [js_b_off0]; rfl)]
    simp
  | 0, n + 1, u :: us, a, z, acc, h, _, _ => by simp at h
  | k + 1, n + 1, u :: us, a, z, acc, hk, hn, hp => by
    have hu := hp.1
    have hl : ¬ (a ++ ((u :: us).flatMap js_pu ++ 34 :: z)).length ≤ a.length := by
      have := js_pu_pos u
      rw [List.length_append, List.flatMap_cons, List.length_append, List.length_append]
      omega
    by_cases hh : js_hi u
    · have h2 := hp.2.2 true ⟨fun _ => rfl, fun _ => hh⟩
      cases us with
      | nil => cases h2
      | cons v us =>
        have hv : js_lo v := h2.2.1.mpr rfl
        have h3 : js_pa false us := h2.2.2 false ⟨fun q => by unfold js_hi at q; unfold js_lo at hv; omega, fun q => by cases q⟩
        have e : (u :: v :: us).flatMap js_pu ++ 34 :: z = js_pu u ++ (js_pu v ++ (us.flatMap js_pu ++ 34 :: z)) := by simp
        rw [e] at hl ⊢
        rw [js_st_ok hl (js_b_pu hu) (js_ch_2 hh hv)]
        have r := js_st_rt k n us (a ++ js_pu u ++ js_pu v) z (acc ++ [u, v]) (by simp at hk; omega) (by simp at hn; omega) h3
        rw [show a ++ (js_pu u ++ (js_pu v ++ (us.flatMap js_pu ++ 34 :: z))) = a ++ js_pu u ++ js_pu v ++ (us.flatMap js_pu ++ 34 :: z) by simp, show a.length + ((js_pu u).length + (js_pu v).length) = (a ++ js_pu u ++ js_pu v).length by rw [List.length_append, List.length_append]; omega, r]
        simp
        omega
    · have hlo : ¬ js_lo u := fun q => by have := hp.2.1.mp q; cases this
      have h3 := hp.2.2 false ⟨fun q => absurd q hh, fun q => by cases q⟩
      have e : (u :: us).flatMap js_pu ++ 34 :: z = js_pu u ++ (us.flatMap js_pu ++ 34 :: z) := by simp
      rw [e] at hl ⊢
      rw [js_st_ok hl (js_b_pu hu) (js_ch_1 hu hlo hh)]
      have r := js_st_rt k n us (a ++ js_pu u) z (acc ++ [u]) (by simp at hk; omega) (by simp at hn; omega) h3
      rw [show a ++ (js_pu u ++ (us.flatMap js_pu ++ 34 :: z)) = a ++ js_pu u ++ (us.flatMap js_pu ++ 34 :: z) by simp, show a.length + (js_pu u).length = (a ++ js_pu u).length by simp, r]
      simp
      omega
