-- ===== names are distinct; a part is a value =====
theorem js_nodup_i {l : List (List Nat)} (h : l.Nodup) {i j : Nat} {x : List Nat} (hi : l[i]? = some x) (hj : l[j]? = some x) : i = j := by
  obtain ⟨hi1, hi2⟩ := List.getElem?_eq_some_iff.mp hi
  obtain ⟨hj1, hj2⟩ := List.getElem?_eq_some_iff.mp hj
  have hp := List.pairwise_iff_getElem.mp h
  rcases Nat.lt_trichotomy i j with q | q | q
  · exact absurd (hi2.trans hj2.symm) (hp i j hi1 hj1 q)
  · exact q
  · exact absurd (hj2.trans hi2.symm) (hp j i hj1 hi1 q)
theorem js_dist_ok : ∀ {n : Nat} {v : js_J n}, js_ok n v → js_dist n v
  | 0, _, _ => trivial
  | _ + 1, Sum.inl _, _ => trivial
  | n + 1, Sum.inr (b, l), h => by
    refine ⟨fun e i j q q2 hi hj hq => ?_, fun q hq => js_dist_ok (h.1 q hq)⟩
    obtain ⟨h1, h2⟩ := h.2.1 e
    have e1 := js_pq_inj (js_pa_un (h1 q (List.mem_of_getElem? hi))) (js_pa_un (h1 q2 (List.mem_of_getElem? hj))) hq
    refine js_nodup_i h2 (x := q.1) ?_ ?_
    · rw [List.getElem?_map, hi]; rfl
    · rw [List.getElem?_map, hj, e1]; rfl
def js_up : (n : Nat) → js_J n → js_J (n + 1)
  | 0, x => Sum.inl x
  | _ + 1, Sum.inl x => Sum.inl x
  | n + 1, Sum.inr (b, l) => Sum.inr (b, l.map fun q => (q.1, js_up n q.2))
theorem js_up_pr : ∀ (n : Nat) (v : js_J n), js_pr (n + 1) (js_up n v) = js_pr n v
  | 0, _ => rfl
  | _ + 1, Sum.inl _ => rfl
  | n + 1, Sum.inr (b, l) => by
    show js_opn b :: (js_cm ((l.map fun q => (q.1, js_up n q.2)).map fun q => js_mp b q.1 (js_pr (n + 1) q.2)) ++ [js_cls2 b]) = js_opn b :: (js_cm (l.map fun q => js_mp b q.1 (js_pr n q.2)) ++ [js_cls2 b])
    rw [List.map_map]
    have : (l.map ((fun q => js_mp b q.1 (js_pr (n + 1) q.2)) ∘ fun q => (q.1, js_up n q.2))) = l.map fun q => js_mp b q.1 (js_pr n q.2) := by
      apply List.map_congr_left
      intro q _
      show js_mp b q.1 (js_pr (n + 1) (js_up n q.2)) = _
      rw [js_up_pr n q.2]
    rw [this]
theorem js_up_ok : ∀ (n : Nat) (v : js_J n), js_ok n v → js_ok (n + 1) (js_up n v)
  | 0, _, h => h
  | _ + 1, Sum.inl _, h => h
  | n + 1, Sum.inr (b, l), h => by
    refine ⟨fun q hq => ?_, fun e => ⟨fun q hq => ?_, ?_⟩, fun e q hq => ?_⟩
    · obtain ⟨r, hr, rfl⟩ := List.mem_map.mp hq
      exact js_up_ok n r.2 (h.1 r hr)
    · obtain ⟨r, hr, rfl⟩ := List.mem_map.mp hq
      exact (h.2.1 e).1 r hr
    · rw [List.map_map]
      exact (h.2.1 e).2
    · obtain ⟨r, hr, rfl⟩ := List.mem_map.mp hq
      exact h.2.2 e r hr
-- ===== a leaf is its text =====
theorem js_nvi_inj {neg neg2 : Bool} {v w : Nat} (hv : v ≤ js_M) (hw : w ≤ js_M) (h : js_sg neg ++ js_dec v = js_sg neg2 ++ js_dec w) : neg = neg2 ∧ v = w := by
  obtain ⟨d, l, e, -⟩ := js_dec_head hv
  obtain ⟨d2, l2, e2, -⟩ := js_dec_head hw
  have hd := js_dec_dig v d (by rw [e]; exact List.mem_cons_self ..)
  have hd2 := js_dec_dig w d2 (by rw [e2]; exact List.mem_cons_self ..)
  cases neg with
  | true =>
    cases neg2 with
    | true =>
      have := congrArg (fun x => js_nv x 0) (List.cons.inj h).2
      have this : js_nv (js_dec v) 0 = js_nv (js_dec w) 0 := this
      rw [js_nv_dec hv, js_nv_dec hw] at this
      exact ⟨rfl, this⟩
    | false =>
      rw [e2] at h
      have : 45 = d2 := (List.cons.inj h).1
      omega
  | false =>
    cases neg2 with
    | true =>
      rw [e] at h
      have : d = 45 := (List.cons.inj h).1
      omega
    | false =>
      have h2 : js_dec v = js_dec w := h
      have := congrArg (fun x => js_nv x 0) h2
      have this : js_nv (js_dec v) 0 = js_nv (js_dec w) 0 := this
      rw [js_nv_dec hv, js_nv_dec hw] at this
      exact ⟨rfl, this⟩
/-- the kind of a leaf by its first sign -/
def js_kl : js_L → Nat
  | .inl k => k
  | .inr (.inl _) => 3
  | .inr (.inr _) => 4
theorem js_wd_b : ∀ k, k < 3 → js_kd (js_b (js_wd k) 0) = nI k := by decide +kernel
theorem js_num_b : ∀ b, b < 128 → b = 45 ∨ (48 ≤ b ∧ b ≤ 57) → js_kd (nI b) = 3 := by decide +kernel
theorem js_kd_l {x : js_L} (h : js_okl x) (z : List Nat) : js_kd (js_b (js_pl x ++ z) 0) = nI (js_kl x) := by
  match x, h with
  | .inl k, h =>
    have hk : k < 3 := h
    have hw := js_wd_b k hk
    have hne : 0 < (js_wd k).length := by rw [js_wd_eq k hk]; split; decide; split <;> decide
    show js_kd (js_b (js_wd k ++ z) 0) = nI k
    rw [js_b_app hne]
    exact hw
  | .inr (.inl ds), h =>
    obtain ⟨b, l, e, hb⟩ := (js_okn_by h).2
    show js_kd (js_b (ds ++ z) 0) = 3
    rw [e]
    exact js_num_b b (by omega) hb
  | .inr (.inr us), h => rfl
def js_kn : (n : Nat) → js_J n → Nat
  | 0, x => js_kl x
  | _ + 1, Sum.inl x => js_kl x
  | _ + 1, Sum.inr (b, _) => if b = true then 6 else 5
theorem js_kd_v : ∀ {n : Nat} {v : js_J n}, js_ok n v → ∀ z, js_kd (js_b (js_pr n v ++ z) 0) = nI (js_kn n v)
  | 0, x, h, z => js_kd_l h z
  | _ + 1, Sum.inl x, h, z => js_kd_l h z
  | _ + 1, Sum.inr (b, l), h, z => by cases b <;> rfl
theorem js_kl_lt {x : js_L} (h : js_okl x) : js_kl x < 5 := by
  match x, h with
  | .inl k, h => have : k < 3 := h; show k < 5; omega
  | .inr (.inl ds), h => exact (by decide : 3 < 5)
  | .inr (.inr us), h => exact (by decide : 4 < 5)
theorem js_pl_inj {x y : js_L} (hx : js_okl x) (hy : js_okl y) (h : js_pl x = js_pl y) : x = y := by
  have k1 := js_kd_l hx []
  have k2 := js_kd_l hy []
  rw [h] at k1
  have hk : js_kl x = js_kl y := by
    have h1 := js_kl_lt hx
    have h2 := js_kl_lt hy
    exact (nI_eq (by omega) (by omega)).mp (k1.symm.trans k2)
  match x, y, hx, hy, h, hk with
  | .inl k, .inl k2, _, _, _, hk => have : k = k2 := hk; rw [this]
  | .inl k, .inr (.inl _), hx, _, _, hk => have h1 : k < 3 := hx; have h2 : k = 3 := hk; omega
  | .inl k, .inr (.inr _), hx, _, _, hk => have h1 : k < 3 := hx; have h2 : k = 4 := hk; omega
  | .inr (.inl _), .inl k, _, hy, _, hk => have h1 : k < 3 := hy; have h2 : 3 = k := hk; omega
  | .inr (.inr _), .inl k, _, hy, _, hk => have h1 : k < 3 := hy; have h2 : 4 = k := hk; omega
  | .inr (.inl ds), .inr (.inl ds2), _, _, h, _ => have : ds = ds2 := h; rw [this]
  | .inr (.inl ds), .inr (.inr us), _, _, _, hk => have h2 : 3 = 4 := hk; omega
  | .inr (.inr us), .inr (.inl ds), _, _, _, hk => have h2 : 4 = 3 := hk; omega
  | .inr (.inr us), .inr (.inr us2), hx, hy, h, _ =>
    have := js_pq_inj (js_pa_un hx) (js_pa_un hy) h
    rw [this]
-- ===== characters =====
/-- how many characters units are: the second of two is none of its own -/
def js_chn : List Nat → Nat
  | [] => 0
  | u :: l => (if 56320 ≤ u ∧ u ≤ 57343 then 0 else 1) + js_chn l
theorem js_hexs : ∀ d, d < 16 → (nI (js_hexc d) = 100 ↔ d = 13) ∧ (nI (js_hexc d) < 99 ↔ d < 12) := by decide +kernel
theorem js_stp_pu {a z : List Nat} {u : Nat} (hu : u < 65536) : js_stp (a ++ (js_pu u ++ z)) a.length = (js_pu u).length ∧ (js_sec (a ++ (js_pu u ++ z)) a.length ↔ js_lo u) := by
  have n : ∀ c, c < 2 ^ 31 → ∀ x, x < 2 ^ 31 → x ≠ c → ¬ nI x = nI c := fun c hc x hx h q => h ((nI_eq hx hc).mp q)
  rw [js_stp, js_sec, js_b_off, js_b_off, js_b_off, js_b_off0]
  rcases js_pu_cases hu with ⟨e, h1, h2, h3, h4⟩ | e | ⟨s, h1, h2, e, h3⟩
  · rw [e]
    show (if nI u = 92 then _ else 1) = 1 ∧ (nI u = 92 ∧ _ ↔ _)
    have n92 : ¬ nI u = 92 := n 92 (by decide) u (by omega) h4
    rw [if_neg n92]
    refine ⟨rfl, fun q => absurd q.1 n92, fun q => ?_⟩
    unfold js_lo at q
    omega
  · rw [e]
    have g3 := js_hexs (u / 4096 % 16) (by omega)
    have g2 := js_hexs (u / 256 % 16) (by omega)
    refine ⟨rfl, ?_⟩
    show (nI 92 = 92 ∧ nI 117 = 117 ∧ nI (js_hexc (u / 4096 % 16)) = 100 ∧ ¬ nI (js_hexc (u / 256 % 16)) < 99) ↔ js_lo u
    rw [g3.1, g2.2]
    unfold js_lo
    refine ⟨fun q => ?_, fun q => ⟨rfl, rfl, ?_, ?_⟩⟩
    · obtain ⟨-, -, q1, q2⟩ := q
      omega
    · omega
    · omega
  · rw [e]
    show (if nI 92 = 92 then (if nI s = 117 then 6 else 2) else 1) = 2 ∧ (nI 92 = 92 ∧ nI s = 117 ∧ _ ↔ _)
    have n117 : ¬ nI s = 117 := n 117 (by decide) s (by omega) h2
    rw [if_pos (by rfl), if_neg n117]
    refine ⟨rfl, fun q => absurd q.2.1 n117, fun q => ?_⟩
    have hlt : u < 128 := by
      have hb : s < 256 := by omega
      rcases js_us s hb with w | ⟨d, hd, w⟩
      · rw [w] at h3
        exact absurd h3.symm (js_nm2 (by omega))
      · rw [w] at h3
        have := (nI_eq (by omega) (by omega)).mp h3
        omega
    unfold js_lo at q
    omega
theorem js_cc_rt : ∀ (us a : List Nat) (n c : Nat), js_un us → us.length ≤ n → js_cc (a ++ (us.flatMap js_pu ++ [34])) n a.length c = c + js_chn us
  | [], a, n, c, _, _ => by
    rw [js_cc_end (by simp)]
    rfl
  | u :: us, a, 0, c, _, h => by simp at h
  | u :: us, a, n + 1, c, hu, h => by
    have huu := hu u (List.mem_cons_self ..)
    have e1 : a ++ ((u :: us).flatMap js_pu ++ [34]) = a ++ (js_pu u ++ (us.flatMap js_pu ++ [34])) := by simp
    have hs := js_stp_pu (a := a) (z := us.flatMap js_pu ++ [34]) huu
    rw [e1, js_cc, if_neg, hs.1]
    · have ih := js_cc_rt us (a ++ js_pu u) n (js_ifp (js_sec (a ++ (js_pu u ++ (us.flatMap js_pu ++ [34]))) a.length) c (c + 1)) (fun x hx => hu x (List.mem_cons_of_mem _ hx)) (by simp at h; omega)
      rw [List.append_assoc, List.length_append] at ih
      rw [ih, js_chn]
      by_cases q : js_lo u
      · rw [js_ifp_pos (hs.2.mpr q), if_pos (show 56320 ≤ u ∧ u ≤ 57343 from q)]
        omega
      · rw [js_ifp_neg (fun w => q (hs.2.mp w)), if_neg (show ¬ (56320 ≤ u ∧ u ≤ 57343) from q)]
        omega
    · have := js_pu_pos u
      rw [List.length_append, List.length_append, List.length_append]
      show ¬ _ + (_ + (_ + 1)) - 1 ≤ _
      omega
theorem js_cc_pq {us : List Nat} (hu : js_un us) : js_cc (js_pq us) ((js_pq us).length + 5) 1 0 = js_chn us := by
  have h := js_cc_rt us [34] ((js_pq us).length + 5) 0 hu (by have := js_pq_len us; omega)
  rw [Nat.zero_add] at h
  exact h
-- ===== numbers =====
def js_nvi (neg : Bool) (v : Nat) : Int64 := if neg = true then - js_l v else js_l v
theorem js_nf_n : ∀ (l a : List Nat) (s : Nat), js_dig l → js_nf (a ++ l) l.length a.length (js_l s) = js_l (js_nv l s)
  | [], a, s, _ => rfl
  | d :: l, a, s, hd => by
    have h1 := hd d (List.mem_cons_self ..)
    have ih := js_nf_n l (a ++ [d]) (s * 10 + (d - 48)) (fun x hx => hd x (List.mem_cons_of_mem _ hx))
    rw [List.append_assoc, List.length_append] at ih
    rw [List.length_cons, js_nf, js_nv, js_b_off0]
    show js_nf (a ++ (d :: l)) l.length (a.length + 1) (js_l s * 10 + (nI d - 48).toInt64) = _
    rw [js_l_d h1.1 h1.2, js_l_s]
    exact ih
theorem js_nof_rt {neg : Bool} {v : Nat} (hv : v ≤ js_M) : js_nof (js_sg neg ++ js_dec v) = js_nvi neg v := by
  obtain ⟨d, l, e, -⟩ := js_dec_head hv
  have hd := js_dec_dig v d (by rw [e]; exact List.mem_cons_self ..)
  cases neg with
  | true =>
    have h := js_nf_n (js_dec v) [45] 0 (js_dec_dig v)
    rw [js_nv_dec hv] at h
    rw [js_nof, if_pos (by rfl), if_pos (by rfl)]
    show - js_nf ([45] ++ js_dec v) ((js_dec v).length) [45].length (js_l 0) = - js_l v
    rw [h]
  | false =>
    have h := js_nf_n (js_dec v) [] 0 (js_dec_dig v)
    rw [js_nv_dec hv] at h
    have hb : js_b (js_sg false ++ js_dec v) 0 = nI d := by
      show js_b (js_dec v) 0 = nI d
      rw [e]; rfl
    rw [js_nof, hb, if_pos (js_num_b d (by omega) (Or.inr hd)), if_neg (show ¬ nI d = 45 from fun q => absurd ((nI_eq (b := 45) (by omega) (by decide)).mp q) (by omega))]
    exact h
-- ===== the place that is told lies in the text =====
theorem js_ch_pl {t : List Nat} {p q : Nat} (hp : p ≤ t.length) (h : js_ch t p = .inl q) : q ≤ t.length := by
  rw [js_ch] at h
  split at h
  · split at h
    · cases h; split <;> omega
    · split at h
      · cases h
      · cases h; exact hp
  · split at h
    · cases h; split <;> omega
    · cases h
theorem js_st_pl {t : List Nat} : ∀ {n p q : Nat} {us : List Nat}, js_st t n p us = .inl q → q ≤ t.length
  | 0, p, q, us, h => by cases h; exact Nat.le_refl _
  | n + 1, p, q, us, h => by
    rw [js_st] at h
    split at h
    · cases h; exact Nat.le_refl _
    · split at h
      · cases h
      · split at h
        · rename_i hc
          cases h
          exact js_ch_pl (by omega) hc
        · exact js_st_pl h
theorem js_li_pl {t : List Nat} {k : Nat} (hk : k < 7) : ∀ {n j i q : Nat}, i ≤ t.length → j + n ≤ jz_len.getD k 0 → js_li t k n j i = .inl q → q ≤ t.length
  | 0, j, i, q, _, _, h => by cases h
  | n + 1, j, i, q, hi, hj, h => by
    rw [js_li] at h
    split at h
    · rename_i hb
      have hi : i < t.length := js_b_lt (fun e => js_sc_nn k hk j (by omega) (by rw [← hb]; exact e))
      exact js_li_pl hk hi (by omega) h
    · cases h; exact hi
theorem js_nu_pl {t : List Nat} {i q : Nat} (hi : i ≤ t.length) (h : js_nu t i = .inl q) : q ≤ t.length := by
  have hn : js_nd t i ≤ t.length := by
    rw [js_nd]
    split
    · rename_i e
      exact js_b_lt (by rw [e]; decide)
    · exact hi
  rw [js_nu] at h
  split at h
  · cases h; exact hn
  · split at h
    · cases h; exact hi
    · split at h
      · cases h
      · cases h; exact hi
theorem js_lf_pl {t : List Nat} {i q : Nat} (hi : i ≤ t.length) (h : js_lf t i = .inl q) : q ≤ t.length := by
  rw [js_lf] at h
  split at h
  · split at h
    · rename_i hs; cases h; exact js_st_pl hs
    · cases h
  · split at h
    · split at h
      · rename_i hs; cases h; exact js_li_pl (by decide) hi (by decide) hs
      · cases h
    · split at h
      · split at h
        · rename_i hs; cases h; exact js_li_pl (by decide) hi (by decide) hs
        · cases h
      · split at h
        · split at h
          · rename_i hs; cases h; exact js_li_pl (by decide) hi (by decide) hs
          · cases h
        · split at h
          · rename_i hs; cases h; exact js_nu_pl hi hs
          · cases h
theorem js_nmp_pl {t : List Nat} {b : Bool} {xs : List (List Nat)} {p q : Nat} (hb : js_by t) (hp : p ≤ t.length) (h : js_nmp t b xs p = .inl q) : q ≤ t.length := by
  have s0 := js_sk_ge t p
  rw [js_nmp] at h
  split at h
  · cases h
  · split at h
    · split at h
      · rename_i hs; cases h; exact js_st_pl hs
      · rename_i us z hs
        have hl := js_st_len hb hs
        have s1 := js_sk_ge t z
        split at h
        · cases h; exact s0.2 hp
        · split at h
          · cases h
          · cases h; exact s1.2 hl.1
    · cases h; exact s0.2 hp
theorem js_mem_pl {t : List Nat} (hb : js_by t) {n : Nat} (IH : ∀ {p q : Nat}, p ≤ t.length → js_pv t n p = .inl q → q ≤ t.length) (b : Bool) : ∀ (f p : Nat) (acc : List (List Nat × js_J n)) (q : Nat), p ≤ t.length → js_mem t (js_pv t n) b f p acc = .inl q → q ≤ t.length
  | 0, p, acc, q, _, h => by cases h; exact Nat.le_refl _
  | f + 1, p, acc, q, hp, h => by
    rw [js_mem] at h
    split at h
    · rename_i hn; cases h; exact js_nmp_pl hb hp hn
    · rename_i nm p1 hn
      have h1 := (js_nmp_ok hb hp hn).1
      have s1 := js_sk_ge t p1
      cases hpv : js_pv t n (js_sk t p1) with
      | inl r => rw [hpv, js_mb] at h; cases h; exact IH (s1.2 h1) hpv
      | inr r =>
        obtain ⟨v, p2⟩ := r
        have o := js_pv_ok hb n hpv
        have s2 := js_sk_ge t p2
        rw [hpv, js_mb] at h
        split at h
        · cases h
        · split at h
          · rename_i hc
            have hlt : js_sk t p2 < t.length := js_b_lt (by rw [hc]; decide)
            exact js_mem_pl hb IH b f _ _ q hlt h
          · cases h; exact s2.2 o.2.2
theorem js_pv_pl {t : List Nat} (hb : js_by t) : ∀ (n : Nat) {p q : Nat}, p ≤ t.length → js_pv t n p = .inl q → q ≤ t.length
  | 0, p, q, hp, h => by
    rw [js_pv] at h
    split at h
    · cases h; exact hp
    · split at h
      · cases h; exact hp
      · split at h
        · rename_i hx; cases h; exact js_lf_pl hp hx
        · cases h
  | n + 1, p, q, hp, h => by
    have ins : ∀ b q, js_b t p = nI (js_opn b) → js_ins t (js_pv t n) b p = .inl q → q ≤ t.length := by
      intro b q h0 h
      have hlt : p < t.length := js_b_lt (by rw [h0]; cases b <;> decide)
      rw [js_ins] at h
      split at h
      · cases h
      · exact js_mem_pl hb (fun hh => js_pv_pl hb n hh) b _ _ _ _ hlt h
    rw [js_pv] at h
    split at h
    · rename_i h91
      split at h
      · rename_i hl; cases h; exact ins false q h91 hl
      · cases h
    · split at h
      · rename_i h123
        split at h
        · rename_i hl; cases h; exact ins true q h123 hl
        · cases h
      · split at h
        · rename_i hx; cases h; exact js_lf_pl hp hx
        · cases h
theorem js_rd_pl {t : List Nat} (hb : js_by t) {q : Nat} (h : js_rd t = .inl q) : q ≤ t.length := by
  have s0 := js_sk_ge t 0
  rw [js_rd] at h
  split at h
  · rename_i hp; cases h; exact js_pv_pl hb 32 (s0.2 (by omega)) hp
  · rename_i v p hp
    have o := js_pv_ok hb 32 hp
    have s1 := js_sk_ge t p
    split at h
    · cases h
    · cases h; exact s1.2 o.2.2
