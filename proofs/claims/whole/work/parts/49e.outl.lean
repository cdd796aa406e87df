-- ===== the outline of a printed text =====
def js_mx : List Nat → Nat
  | [] => 0
  | x :: l => max x (js_mx l)
def js_cnt : (n : Nat) → js_J n → Nat
  | 0, _ => 1
  | _ + 1, Sum.inl _ => 1
  | n + 1, Sum.inr (_, l) => 1 + (l.map fun q => js_cnt n q.2).sum
def js_dep : (n : Nat) → js_J n → Nat
  | 0, _ => 0
  | _ + 1, Sum.inl _ => 0
  | n + 1, Sum.inr (_, l) => 1 + js_mx (l.map fun q => js_dep n q.2)
theorem js_dr_fuel {t : List Nat} : ∀ (f g p : Nat) (nm : Option Nat) (vs : List js_E) (ob : List Nat) (deep : Nat), t.length ≤ p + f → t.length ≤ p + g → js_dr t f p nm vs ob deep = js_dr t g p nm vs ob deep
  | 0, 0, p, nm, vs, ob, deep, _, _ => rfl
  | 0, g + 1, p, nm, vs, ob, deep, h, _ => by rw [js_dr, js_dr, if_pos (by omega)]
  | f + 1, 0, p, nm, vs, ob, deep, _, h => by rw [js_dr, js_dr, if_pos (by omega)]
  | f + 1, g + 1, p, nm, vs, ob, deep, h1, h2 => by
    have e := fun nm2 vs2 ob2 d2 => js_dr_fuel (t := t) f g (max (js_eos t p) (p + 1)) nm2 vs2 ob2 d2 (by omega) (by omega)
    rw [js_dr, js_dr]
    simp only [e]
def js_dq (t : List Nat) (p : Nat) (nm : Option Nat) (vs : List js_E) (ob : List Nat) (deep : Nat) : List js_E × List Nat × Nat := js_dr t (t.length - p + 1) p nm vs ob deep
theorem js_dq_s {t : List Nat} {p e : Nat} {nm : Option Nat} {vs : List js_E} {ob : List Nat} {deep : Nat} (hp : p < t.length) (he : js_eos t p = e) (hpe : p < e) : js_dq t p nm vs ob deep =
    if js_b t p = 93 ∨ js_b t p = 125 then js_dq t e nm (js_ocl vs ob e).1 (js_ocl vs ob e).2 deep
    else if js_b t p = 34 ∧ js_b t e = 58 then js_dq t e (some p) vs ob deep
    else if js_b t p = 44 ∨ js_b t p = 58 then js_dq t e nm vs ob deep
    else if js_b t p = 91 ∨ js_b t p = 123 then js_dq t e none (js_oadd t vs ob p e nm) (js_oop (js_oadd t vs ob p e nm) ob deep).1 (js_oop (js_oadd t vs ob p e nm) ob deep).2
    else js_dq t e none (js_oadd t vs ob p e nm) ob deep := by
  have em : max (js_eos t p) (p + 1) = e := by omega
  have ef := fun nm2 vs2 ob2 d2 => js_dr_fuel (t := t) (t.length - p) (t.length - e + 1) e nm2 vs2 ob2 d2 (by omega) (by omega)
  unfold js_dq
  rw [js_dr, if_neg (by omega), em]
  simp only [ef]
theorem js_eos_mark {t : List Nat} {p : Nat} (h34 : ¬ js_b t p = 34) (h : ¬ fn_Ol_isMark (js_b t p) = 0) : js_eos t p = p + 1 := by rw [js_eos, if_neg h34, if_neg h]
theorem js_dq_cls {t : List Nat} {p k : Nat} {nm : Option Nat} {vs : List js_E} {ob : List Nat} {deep : Nat} (b : Bool) (h : js_b t p = nI (js_cls2 b)) : js_dq t p nm vs (ob ++ [k]) deep = js_dq t (p + 1) nm (vs.modify k (js_cls (p + 1) vs.length)) ob deep := by
  have hp : p < t.length := js_b_lt (by rw [h]; cases b <;> decide)
  rw [js_dq_s hp (js_eos_mark (by rw [h]; cases b <;> decide) (by rw [h]; cases b <;> decide)) (by omega), if_pos (by rw [h]; cases b <;> decide), js_ocl_app]
theorem js_dq_nm {t : List Nat} {p e : Nat} {nm : Option Nat} {vs : List js_E} {ob : List Nat} {deep : Nat} (h : js_b t p = 34) (he : js_eos t p = e) (hpe : p < e) (h58 : js_b t e = 58) : js_dq t p nm vs ob deep = js_dq t e (some p) vs ob deep := by
  have hp : p < t.length := js_b_lt (by rw [h]; decide)
  rw [js_dq_s hp he hpe, if_neg (by rw [h]; decide), if_pos ⟨h, h58⟩]
theorem js_dq_sep {t : List Nat} {p : Nat} {nm : Option Nat} {vs : List js_E} {ob : List Nat} {deep : Nat} (h : js_b t p = 44 ∨ js_b t p = 58) : js_dq t p nm vs ob deep = js_dq t (p + 1) nm vs ob deep := by
  have hp : p < t.length := js_b_lt (by rcases h with h | h <;> rw [h] <;> decide)
  rw [js_dq_s hp (js_eos_mark (by rcases h with h | h <;> rw [h] <;> decide) (by rcases h with h | h <;> rw [h] <;> decide)) (by omega), if_neg (by rcases h with h | h <;> rw [h] <;> decide), if_neg (by rcases h with h | h <;> rw [h] <;> exact fun q => absurd q.1 (by decide)), if_pos h]
theorem js_oadd_lt {t : List Nat} {vs : List js_E} {ob : List Nat} {s z : Nat} {nm : Option Nat} (h : vs.length < 2048) : js_oadd t vs ob s z nm = js_par vs ob ++ [(s, z, vs.length + 1, 0, js_nmi nm, js_nmh t s nm)] := by rw [js_oadd, if_neg (by omega)]
theorem js_dq_opn {t : List Nat} {p : Nat} {nm : Option Nat} {vs : List js_E} {ob : List Nat} {deep : Nat} (b : Bool) (h : js_b t p = nI (js_opn b)) (hv : vs.length < 2048) (ho : ob.length < 32) : js_dq t p nm vs ob deep = js_dq t (p + 1) none (js_par vs ob ++ [(p, p + 1, vs.length + 1, 0, js_nmi nm, js_nmh t p nm)]) (ob ++ [vs.length]) (max deep (ob.length + 1)) := by
  have hp : p < t.length := js_b_lt (by rw [h]; cases b <;> decide)
  rw [js_dq_s hp (js_eos_mark (by rw [h]; cases b <;> decide) (by rw [h]; cases b <;> decide)) (by omega), if_neg (by rw [h]; cases b <;> decide), if_neg (by rw [h]; cases b <;> exact fun q => absurd q.1 (by decide)), if_neg (by rw [h]; cases b <;> decide), if_pos (by rw [h]; cases b <;> decide), js_oadd_lt hv]
  have hl : (js_par vs ob ++ [(p, p + 1, vs.length + 1, 0, js_nmi nm, js_nmh t p nm)]).length = vs.length + 1 := by rw [List.length_append, js_par_len]; rfl
  rw [js_oop, if_pos ⟨ho, by rw [hl]; omega⟩, hl, Nat.add_sub_cancel]
theorem js_dq_lf {t : List Nat} {p e : Nat} {nm : Option Nat} {vs : List js_E} {ob : List Nat} {deep : Nat} (h0 : fn_Ol_isMark (js_b t p) = 0) (hp : p < t.length) (he : js_eos t p = e) (hpe : p < e) (h58 : ¬ js_b t e = 58) (hv : vs.length < 2048) : js_dq t p nm vs ob deep = js_dq t e none (js_par vs ob ++ [(p, e, vs.length + 1, 0, js_nmi nm, js_nmh t p nm)]) ob deep := by
  have n : ∀ c : Int32, ¬ fn_Ol_isMark c = 0 → ¬ js_b t p = c := fun c hc e => hc (by rw [← e]; exact h0)
  rw [js_dq_s hp he hpe, if_neg (fun q => q.elim (n 93 (by decide)) (n 125 (by decide))), if_neg (fun q => h58 q.2), if_neg (fun q => q.elim (n 44 (by decide)) (n 58 (by decide))), if_neg (fun q => q.elim (n 91 (by decide)) (n 123 (by decide))), js_oadd_lt hv]
-- where signs end
theorem js_et_rt : ∀ (l a z : List Nat), (∀ x ∈ l, fn_Ol_isMark (nI x) = 0) → js_zc z → js_et (a ++ (l ++ z)) (l.length + z.length) a.length = a.length + l.length
  | [], a, z, _, hz => by
    rcases hz with e | ⟨b, y, e, hb⟩
    · rw [e]; rfl
    · rw [e]
      show js_et (a ++ b :: y) ([].length + (y.length + 1)) a.length = _
      rw [show [].length + (y.length + 1) = y.length + 1 by simp, js_et, js_b_off0]
      have : ¬ fn_Ol_isMark (js_b (b :: y) 0) = 0 := by
        rw [js_b_c0]
        rcases hb with q | q | q <;> rw [q] <;> decide
      rw [if_neg this]
      rfl
  | d :: l, a, z, hd, hz => by
    have h1 := hd d (List.mem_cons_self ..)
    have r := js_et_rt l (a ++ [d]) z (fun x hx => hd x (List.mem_cons_of_mem _ hx)) hz
    rw [List.append_assoc, List.length_append] at r
    show js_et (a ++ (d :: (l ++ z))) (l.length + 1 + z.length) a.length = a.length + (l.length + 1)
    rw [show l.length + 1 + z.length = (l.length + z.length) + 1 by omega, js_et, js_b_off0, js_b_c0, if_pos h1]
    have e : a.length + [d].length + l.length = a.length + (l.length + 1) := by simp; omega
    rw [← e]
    exact r
theorem js_mk_l : ∀ b, b < 128 → b = 45 ∨ (48 ≤ b ∧ b ≤ 57) ∨ (97 ≤ b ∧ b ≤ 122) → fn_Ol_isMark (nI b) = 0 ∧ b ≠ 34 := by decide +kernel
theorem js_wd_l : ∀ k, k < 3 → ∀ b ∈ js_wd k, b < 128 ∧ (97 ≤ b ∧ b ≤ 122) := by decide +kernel
theorem js_eos_et {t a z x : List Nat} {b p : Nat} (h : t = a ++ (b :: x ++ z)) (hp : p = a.length) (hm : ∀ y ∈ b :: x, fn_Ol_isMark (nI y) = 0 ∧ y ≠ 34 ∧ y < 128) (hz : js_zc z) : js_eos t p = p + (b :: x).length := by
  have hb := hm b (List.mem_cons_self ..)
  have h2 : t = a ++ b :: (x ++ z) := by rw [h]; rfl
  rw [js_eos, if_neg (show ¬ js_b t p = 34 from js_neI (c := 34) h2 hp (by omega) (by decide) hb.2.1), js_bI2 h2 hp, if_pos hb.1]
  have r := js_et_rt x (a ++ [b]) z (fun y hy => (hm y (List.mem_cons_of_mem _ hy)).1) hz
  have ht : t = a ++ [b] ++ (x ++ z) := by rw [h]; simp
  have hl : t.length - (p + 1) = x.length + z.length := by rw [ht, hp]; simp; omega
  rw [← ht] at r
  rw [hl, show p + 1 = (a ++ [b]).length by rw [hp]; simp, r, hp]
  simp
  omega
theorem js_hexc_n : ∀ d, d < 16 → ¬ nI (js_hexc d) = 34 ∧ ¬ nI (js_hexc d) = 92 := by decide +kernel
theorem js_es_1 {a z : List Nat} {b n : Nat} (h1 : ¬ nI b = 34) (h2 : ¬ nI b = 92) : js_es (a ++ b :: z) (n + 1) a.length = js_es (a ++ b :: z) n (a.length + 1) := by
  rw [js_es, if_neg (by simp), js_b_off0, js_b_c0, if_neg h1, if_neg h2]
theorem js_es_2 {a z : List Nat} {b n : Nat} : js_es (a ++ 92 :: b :: z) (n + 1) a.length = js_es (a ++ 92 :: b :: z) n (a.length + 2) := by
  rw [js_es, if_neg (by simp), js_b_off0, js_b_c0, if_neg (by decide), if_pos (by decide)]
theorem js_es_rt : ∀ (us a z : List Nat) (n : Nat), js_un us → (us.flatMap js_pu).length + 1 ≤ n → js_es (a ++ (us.flatMap js_pu ++ 34 :: z)) n a.length = a.length + (us.flatMap js_pu).length + 1
  | [], a, z, n, _, hn => by
    cases n with
    | zero => simp at hn
    | succ n =>
      show js_es (a ++ 34 :: z) (n + 1) a.length = _
      rw [js_es, if_neg (by simp), js_b_off0, js_b_c0, if_pos (by decide)]
      rfl
  | u :: us, a, z, n, hu, hn => by
    have ih := fun n2 hn2 => js_es_rt us (a ++ js_pu u) z n2 (fun x hx => hu x (List.mem_cons_of_mem _ hx)) hn2
    have e1 : a ++ ((u :: us).flatMap js_pu ++ 34 :: z) = a ++ js_pu u ++ (us.flatMap js_pu ++ 34 :: z) := by simp
    have hlen : ((u :: us).flatMap js_pu).length = (js_pu u).length + (us.flatMap js_pu).length := by rw [List.flatMap_cons, List.length_append]
    rw [hlen] at hn ⊢
    have fin : ∀ m, (us.flatMap js_pu).length + 1 ≤ m → js_es (a ++ ((u :: us).flatMap js_pu ++ 34 :: z)) m (a.length + (js_pu u).length) = a.length + ((js_pu u).length + (us.flatMap js_pu).length) + 1 := by
      intro m hm
      rw [e1, show a.length + (js_pu u).length = (a ++ js_pu u).length by rw [List.length_append], ih m hm, List.length_append]
      omega
    have huu := hu u (List.mem_cons_self ..)
    rcases js_pu_cases huu with ⟨e, h1, h2, h3, h4⟩ | e | ⟨s, h1, h2, e, h3⟩
    · obtain ⟨m, rfl⟩ : ∃ m, n = m + 1 := ⟨n - 1, by omega⟩
      have f := fin m (by rw [e] at hn; simp at hn ⊢; omega)
      rw [e] at f ⊢
      refine Eq.trans ?_ f
      rw [List.flatMap_cons, e]
      exact js_es_1 (fun q => h3 ((nI_eq (b := 34) (by omega) (by decide)).mp q)) (fun q => h4 ((nI_eq (b := 92) (by omega) (by decide)).mp q))
    · have hl6 : (js_pu u).length = 6 := by rw [e]; rfl
      obtain ⟨m, rfl⟩ : ∃ m, n = m + 5 := ⟨n - 5, by omega⟩
      have f := fin m (by omega)
      refine Eq.trans ?_ f
      rw [hl6, List.flatMap_cons, e]
      have g3 := js_hexc_n (u / 4096 % 16) (by omega)
      have g2 := js_hexc_n (u / 256 % 16) (by omega)
      have g1 := js_hexc_n (u / 16 % 16) (by omega)
      have g0 := js_hexc_n (u % 16) (by omega)
      have s1 := js_es_2 (a := a) (b := 117) (n := m + 4) (z := js_hexc (u / 4096 % 16) :: js_hexc (u / 256 % 16) :: js_hexc (u / 16 % 16) :: js_hexc (u % 16) :: (us.flatMap js_pu ++ 34 :: z))
      have s2 := js_es_1 (a := a ++ [92, 117]) (n := m + 3) (z := js_hexc (u / 256 % 16) :: js_hexc (u / 16 % 16) :: js_hexc (u % 16) :: (us.flatMap js_pu ++ 34 :: z)) g3.1 g3.2
      have s3 := js_es_1 (a := a ++ [92, 117, js_hexc (u / 4096 % 16)]) (n := m + 2) (z := js_hexc (u / 16 % 16) :: js_hexc (u % 16) :: (us.flatMap js_pu ++ 34 :: z)) g2.1 g2.2
      have s4 := js_es_1 (a := a ++ [92, 117, js_hexc (u / 4096 % 16), js_hexc (u / 256 % 16)]) (n := m + 1) (z := js_hexc (u % 16) :: (us.flatMap js_pu ++ 34 :: z)) g1.1 g1.2
      have s5 := js_es_1 (a := a ++ [92, 117, js_hexc (u / 4096 % 16), js_hexc (u / 256 % 16), js_hexc (u / 16 % 16)]) (n := m) (z := us.flatMap js_pu ++ 34 :: z) g0.1 g0.2
      simp only [List.append_assoc, List.cons_append, List.nil_append, List.length_append, List.length_cons, List.length_nil] at s1 s2 s3 s4 s5 ⊢
      exact s1.trans (s2.trans (s3.trans (s4.trans s5)))
    · have hl2 : (js_pu u).length = 2 := by rw [e]; rfl
      obtain ⟨m, rfl⟩ : ∃ m, n = m + 1 := ⟨n - 1, by omega⟩
      have f := fin m (by omega)
      refine Eq.trans ?_ f
      rw [hl2, List.flatMap_cons, e]
      exact js_es_2
theorem js_eos_pq {t a z us : List Nat} {p : Nat} (h : t = a ++ (js_pq us ++ z)) (hp : p = a.length) (hu : js_un us) : js_eos t p = p + (js_pq us).length := by
  have h2 : t = a ++ 34 :: (us.flatMap js_pu ++ 34 :: z) := by rw [h]; unfold js_pq; simp
  have h3 : t = a ++ [34] ++ (us.flatMap js_pu ++ 34 :: z) := by rw [h2]; simp
  rw [js_eos, if_pos (show js_b t p = 34 from js_bI2 (b := 34) h2 hp)]
  have r := js_es_rt us (a ++ [34]) z (t.length + 2 - (p + 1)) hu (by rw [h3, hp]; simp; omega)
  rw [← h3] at r
  rw [show p + 1 = (a ++ [34]).length by rw [hp]; simp] at r ⊢
  rw [r, hp]
  unfold js_pq
  simp
  omega
theorem js_zc_58 {a z : List Nat} (h : js_zc z) : ¬ js_b (a ++ z) a.length = 58 := by
  rw [js_b_off0]
  rcases h with e | ⟨b, y, e, hb⟩
  · rw [e]; decide
  · rw [e, js_b_c0]
    rcases hb with q | q | q <;> rw [q] <;> decide
/-- where a leaf that was printed ends -/
theorem js_eos_lf {t a z : List Nat} {x : js_L} {p : Nat} (h : t = a ++ (js_pl x ++ z)) (hp : p = a.length) (hx : js_okl x) (hz : js_zc z) : js_eos t p = p + (js_pl x).length ∧ fn_Ol_isMark (js_b t p) = 0 := by
  match x, hx, h with
  | .inl k, hx, h =>
    have hk : k < 3 := hx
    have hw : js_pl (.inl k) = js_wd k := rfl
    rw [hw] at h ⊢
    have hl := js_wd_l k hk
    have hne : ∃ b y, js_wd k = b :: y := by
      have := js_wd_eq k hk
      rw [this]
      split
      · exact ⟨_, _, rfl⟩
      · split <;> exact ⟨_, _, rfl⟩
    obtain ⟨b, y, e⟩ := hne
    rw [e] at h hl ⊢
    have hm : ∀ w ∈ b :: y, fn_Ol_isMark (nI w) = 0 ∧ w ≠ 34 ∧ w < 128 := fun w hw => by
      have h1 := hl w hw
      have h2 := js_mk_l w h1.1 (by omega)
      exact ⟨h2.1, h2.2, h1.1⟩
    exact ⟨js_eos_et h hp hm hz, by rw [js_bI2 (b := b) (y := y ++ z) (by rw [h]; rfl) hp]; exact (hm b (List.mem_cons_self ..)).1⟩
  | .inr (.inl ds), hx, h =>
    obtain ⟨neg, v, hv, hn, rfl⟩ := hx
    obtain ⟨b, l, e, hb⟩ := (js_okn_by ⟨neg, v, hv, hn, rfl⟩).2
    have hw : js_pl (.inr (.inl (js_sg neg ++ js_dec v))) = js_sg neg ++ js_dec v := rfl
    rw [hw] at h ⊢
    have hm0 : ∀ w ∈ js_sg neg ++ js_dec v, fn_Ol_isMark (nI w) = 0 ∧ w ≠ 34 ∧ w < 128 := fun w hw => by
      have h1 : w < 128 ∧ (w = 45 ∨ (48 ≤ w ∧ w ≤ 57)) := by
        rcases List.mem_append.mp hw with q | q
        · cases neg with
          | true => rw [List.mem_singleton.mp q]; omega
          | false => exact absurd q List.not_mem_nil
        · have := js_dec_dig v w q; omega
      have h2 := js_mk_l w h1.1 (by omega)
      exact ⟨h2.1, h2.2, h1.1⟩
    rw [e] at h hm0 ⊢
    exact ⟨js_eos_et h hp hm0 hz, by rw [js_bI2 (b := b) (y := l ++ z) (by rw [h]; rfl) hp]; exact (hm0 b (List.mem_cons_self ..)).1⟩
  | .inr (.inr us), hx, h =>
    have h2 : t = a ++ (js_pq us ++ z) := h
    exact ⟨js_eos_pq h2 hp (js_pa_un hx), by rw [js_bI2 (b := 34) (y := us.flatMap js_pu ++ [34] ++ z) (by rw [h2]; rfl) hp]; decide⟩
-- ===== counting =====
theorem js_cnt_pos : ∀ (n : Nat) (v : js_J n), 1 ≤ js_cnt n v
  | 0, _ => Nat.le_refl _
  | _ + 1, Sum.inl _ => Nat.le_refl _
  | n + 1, Sum.inr (_, l) => by rw [js_cnt]; omega
theorem js_cnt_m {n : Nat} {b : Bool} (IH : ∀ v : js_J n, js_ok n v → 2 * js_cnt n v ≤ (js_pr n v).length + 1) : ∀ (l : List (List Nat × js_J n)), (∀ q ∈ l, js_ok n q.2) → l ≠ [] → 2 * (l.map fun q => js_cnt n q.2).sum ≤ (js_cm (l.map fun q => js_mp b q.1 (js_pr n q.2))).length + 1
  | [], _, h => absurd rfl h
  | q :: l, h, _ => by
    have h1 := IH q.2 (h q (List.mem_cons_self ..))
    have h2 : (js_pr n q.2).length ≤ (js_mp b q.1 (js_pr n q.2)).length := by
      rw [js_mp]
      split
      · rw [List.length_append, List.length_cons]; omega
      · exact Nat.le_refl _
    by_cases e : l = []
    · rw [e, List.map_cons, List.map_nil, List.map_cons, List.map_nil, js_cm_one, List.sum_cons, List.sum_nil]
      omega
    · have ih := js_cnt_m (b := b) IH l (fun x hx => h x (List.mem_cons_of_mem _ hx)) e
      rw [List.map_cons, List.map_cons, js_cm_cons _ _ (by simpa using e), List.sum_cons, List.length_append, List.length_cons]
      omega
theorem js_cnt_le : ∀ (n : Nat) (v : js_J n), js_ok n v → 2 * js_cnt n v ≤ (js_pr n v).length + 1
  | 0, x, h => by
    obtain ⟨b, y, e, -⟩ := js_pl_head h
    rw [js_cnt, show js_pr 0 x = b :: y from e, List.length_cons]; omega
  | _ + 1, Sum.inl x, h => by
    obtain ⟨b, y, e, -⟩ := js_pl_head h
    rw [js_cnt]
    show 2 * 1 ≤ (js_pl x).length + 1
    rw [e, List.length_cons]; omega
  | n + 1, Sum.inr (b, l), h => by
    rw [js_cnt]
    show _ ≤ (js_opn b :: (js_cm (l.map fun q => js_mp b q.1 (js_pr n q.2)) ++ [js_cls2 b])).length + 1
    rw [List.length_cons, List.length_append]
    by_cases e : l = []
    · subst e
      simp
    · have := js_cnt_m (b := b) (js_cnt_le n) l h.1 e
      simp only [List.length_cons, List.length_nil]
      omega
-- ===== the walk =====
/-- what the entries of a value are, from place s on at index k, whatever stands around -/
def js_OQ (t : List Nat) (n : Nat) (v : js_J n) (s k : Nat) (nm : Option Nat) (E : List js_E) : Prop :=
  E.length = js_cnt n v ∧ ∀ A B : List js_E, A.length = k → js_OR t (A ++ (E ++ B)) n v k ∧ (js_en (A ++ (E ++ B)) k).1 = s ∧ (js_en (A ++ (E ++ B)) k).2.2.1 = k + js_cnt n v ∧ (js_en (A ++ (E ++ B)) k).2.2.2.2 = (js_nmi nm, js_nmh t s nm)
theorem js_en_mid {A B : List js_E} {e : js_E} {k : Nat} (h : A.length = k) : js_en (A ++ (e :: B)) k = e := by
  rw [js_en, List.getD_eq_getElem?_getD, List.getElem?_append_right (by omega), h, Nat.sub_self]
  rfl
theorem js_mod_mid (f : js_E → js_E) : ∀ (A B : List js_E) (e : js_E), (A ++ e :: B).modify A.length f = A ++ f e :: B
  | [], B, e => rfl
  | x :: A, B, e => by
    rw [List.cons_append, List.length_cons, List.modify_succ_cons, js_mod_mid f A B e]
    rfl
theorem js_sl_of {t a x z : List Nat} {p : Nat} (h : t = a ++ (x ++ z)) (hp : p = a.length) : js_sl t p x.length = x := by rw [h, hp]; exact js_sl_mid
theorem js_OQ_leaf {t a z : List Nat} {x : js_L} {p k : Nat} {nm : Option Nat} (h : t = a ++ (js_pl x ++ z)) (hp : p = a.length) (hx : js_okl x) : ∀ A B : List js_E, A.length = k → js_ORl t (A ++ ([(p, p + (js_pl x).length, k + 1, 0, js_nmi nm, js_nmh t p nm)] ++ B)) k x := by
  intro A B hA
  obtain ⟨b, y, e, hb, h91, h123⟩ := js_pl_head hx
  have hb128 := js_fst_lt hb
  have en : js_en (A ++ ([(p, p + (js_pl x).length, k + 1, 0, js_nmi nm, js_nmh t p nm)] ++ B)) k = (p, p + (js_pl x).length, k + 1, 0, js_nmi nm, js_nmh t p nm) := js_en_mid hA
  have h2 : t = a ++ b :: (y ++ z) := by rw [h, e]; rfl
  have hl : 1 ≤ (js_pl x).length := by rw [e]; simp
  rw [js_ORl, js_ent, en]
  refine ⟨⟨by simp; omega, by show p < p + _; omega, ?_, ?_⟩, rfl, js_neI (c := 91) h2 hp (by omega) (by decide) h91, js_neI (c := 123) h2 hp (by omega) (by decide) h123⟩
  · show p + (js_pl x).length ≤ t.length
    rw [h, hp, List.length_append, List.length_append]; omega
  · show js_sl t p (p + (js_pl x).length - p) = _
    rw [Nat.add_sub_cancel_left]
    exact js_sl_of h hp
theorem js_walk_leaf {t a z : List Nat} {x : js_L} {p : Nat} {nm : Option Nat} {vs : List js_E} {ob : List Nat} {deep : Nat} (h : t = a ++ (js_pl x ++ z)) (hp : p = a.length) (hx : js_okl x) (hz : js_zc z) (hv : vs.length < 2048) : js_dq t p nm vs ob deep = js_dq t (p + (js_pl x).length) none (js_par vs ob ++ [(p, p + (js_pl x).length, vs.length + 1, 0, js_nmi nm, js_nmh t p nm)]) ob deep := by
  obtain ⟨b, y, e, -⟩ := js_pl_head hx
  have hl : 1 ≤ (js_pl x).length := by rw [e]; simp
  obtain ⟨h1, h2⟩ := js_eos_lf h hp hx hz
  refine js_dq_lf h2 (by rw [h, hp]; simp; omega) h1 (by omega) ?_ hv
  have := js_zc_58 (a := a ++ js_pl x) hz
  rw [List.append_assoc, ← h, List.length_append, ← hp] at this
  exact this
def js_pos {n : Nat} (l : List (List Nat × js_J n)) (j : Nat) : Nat → Nat
  | 0 => j
  | i + 1 => match l with
    | [] => j
    | q :: l => js_pos l (j + js_cnt n q.2) i
/-- what the members' entries are -/
def js_OM (t : List Nat) (n : Nat) (b : Bool) (l : List (List Nat × js_J n)) (j : Nat) (E : List js_E) : Prop :=
  E.length = (l.map fun q => js_cnt n q.2).sum ∧ ∀ A B : List js_E, A.length = j → ∀ (i : Nat) (q : List Nat × js_J n), l[i]? = some q → js_OR t (A ++ (E ++ B)) n q.2 (js_pos l j i) ∧ (js_en (A ++ (E ++ B)) (js_pos l j i)).2.2.1 = js_pos l j (i + 1) ∧ (b = true → js_onm t (A ++ (E ++ B)) (js_pos l j i) (js_pq q.1)) ∧ js_pos l j i < j + E.length
/-- a value's entries -/
def js_WK (t : List Nat) (n : Nat) : Prop := ∀ (a z : List Nat) (v : js_J n) (p : Nat) (nm : Option Nat) (vs : List js_E) (ob : List Nat) (deep : Nat), t = a ++ (js_pr n v ++ z) → p = a.length → js_ok n v → js_zc z → ob.length + n ≤ 32 → vs.length + js_cnt n v ≤ 2048 →
  ∃ E, js_dq t p nm vs ob deep = js_dq t (p + (js_pr n v).length) none (js_par vs ob ++ E) ob (max deep (if js_dep n v = 0 then 0 else ob.length + js_dep n v)) ∧ js_OQ t n v p vs.length nm E
theorem js_walk_m {t : List Nat} {n : Nat} (IH : js_WK t n) (b : Bool) (A : List js_E) (s : Nat) (x h : Int32) (ob : List Nat) (hob : ob.length + 1 + n ≤ 32) : ∀ (l : List (List Nat × js_J n)) (a z : List Nat) (p c : Nat) (E : List js_E) (deep : Nat), l ≠ [] → t = a ++ (js_cm (l.map fun q => js_mp b q.1 (js_pr n q.2)) ++ js_cls2 b :: z) → p = a.length → (∀ q ∈ l, js_ok n q.2) → (b = true → ∀ q ∈ l, js_pa false q.1) → ob.length + 1 ≤ deep → A.length + 1 + E.length + (l.map fun q => js_cnt n q.2).sum ≤ 2048 →
    ∃ E2, js_dq t p none (A ++ (s, s + 1, A.length + 1, c, x, h) :: E) (ob ++ [A.length]) deep = js_dq t (p + (js_cm (l.map fun q => js_mp b q.1 (js_pr n q.2))).length) none (A ++ (s, s + 1, A.length + 1, c + l.length, x, h) :: (E ++ E2)) (ob ++ [A.length]) (max deep (ob.length + 1 + js_mx (l.map fun q => js_dep n q.2))) ∧ js_OM t n b l (A.length + 1 + E.length) E2
  | [], a, z, p, c, E, deep, h0, _, _, _, _, _, _ => absurd rfl h0
  | (nm, v) :: l, a, z, p, c, E, deep, _, ht, hp, hok, hpa, hdeep, hcnt => by
    have hv : js_ok n v := hok (nm, v) (List.mem_cons_self ..)
    obtain ⟨b0, y0, e0, hb0⟩ := js_pr_head hv
    obtain ⟨R, hR⟩ : ∃ R, R = (if l = [] then [] else 44 :: js_cm (l.map fun q => js_mp b q.1 (js_pr n q.2))) := ⟨_, rfl⟩
    have hcm : js_cm (((nm, v) :: l).map fun q => js_mp b q.1 (js_pr n q.2)) = js_mp b nm (js_pr n v) ++ R := by
      rw [hR]
      by_cases q : l = []
      · rw [if_pos q, q, List.append_nil]; exact js_cm_one _
      · rw [if_neg q, List.map_cons, js_cm_cons _ _ (by simpa using q)]
    have hz : js_zc (R ++ js_cls2 b :: z) := by
      rw [hR]
      by_cases q : l = []
      · rw [if_pos q]
        refine Or.inr ⟨js_cls2 b, z, rfl, ?_⟩
        unfold js_cls2
        split <;> omega
      · rw [if_neg q]
        exact Or.inr ⟨44, _, rfl, Or.inl rfl⟩
    have hsum : (((nm, v) :: l).map fun q => js_cnt n q.2).sum = js_cnt n v + (l.map fun q => js_cnt n q.2).sum := by rw [List.map_cons, List.sum_cons]
    rw [hsum] at hcnt
    rw [hcm] at ht ⊢
    -- the name
    obtain ⟨N, o, hN, hwn, hon⟩ : ∃ (N : List Nat) (o : Option Nat), js_mp b nm (js_pr n v) = N ++ js_pr n v ∧ (∀ vs ob deep, js_dq t p none vs ob deep = js_dq t (p + N.length) o vs ob deep) ∧ (b = true → ∃ p0, o = some p0 ∧ p0 + 1 ≤ p + N.length ∧ js_sl t p0 (p + N.length - 1 - p0) = js_pq nm) := by
      cases b with
      | false => exact ⟨[], none, rfl, fun _ _ _ => rfl, fun e => absurd e (by decide)⟩
      | true =>
        have hpn := hpa rfl (nm, v) (List.mem_cons_self ..)
        have ht2 : t = a ++ (js_pq nm ++ (58 :: js_pr n v ++ (R ++ js_cls2 true :: z))) := by rw [ht, js_mp, if_pos rfl]; simp
        have ht3 : t = (a ++ js_pq nm) ++ 58 :: (js_pr n v ++ (R ++ js_cls2 true :: z)) := by rw [ht2]; simp
        have hp3 : p + (js_pq nm).length = (a ++ js_pq nm).length := by rw [hp, List.length_append]
        have h58 : js_b t (p + (js_pq nm).length) = 58 := js_bI2 (b := 58) ht3 hp3
        have hq := js_pq_len nm
        have h34 : js_b t p = 34 := js_bI2 (t := t) (b := 34) (y := nm.flatMap js_pu ++ [34] ++ (58 :: js_pr n v ++ (R ++ js_cls2 true :: z))) (by rw [ht2]; rfl) hp
        refine ⟨js_pq nm ++ [58], some p, by rw [js_mp, if_pos rfl]; simp, fun vs ob deep => ?_, fun _ => ⟨p, rfl, by rw [List.length_append]; omega, ?_⟩⟩
        · rw [js_dq_nm h34 (js_eos_pq ht2 hp (js_pa_un hpn)) (by omega) h58, js_dq_sep (Or.inr h58), List.length_append]
          rfl
        · rw [List.length_append]
          show js_sl t p (p + ((js_pq nm).length + 1) - 1 - p) = _
          rw [show p + ((js_pq nm).length + 1) - 1 - p = (js_pq nm).length by omega]
          exact js_sl_of ht2 hp
    rw [hN] at ht ⊢
    have ht4 : t = (a ++ N) ++ (js_pr n v ++ (R ++ js_cls2 b :: z)) := by rw [ht]; simp
    have hp4 : p + N.length = (a ++ N).length := by rw [hp, List.length_append]
    have hlenA : (A ++ (s, s + 1, A.length + 1, c, x, h) :: E).length = A.length + 1 + E.length := by simp; omega
    obtain ⟨E1, hw, hl1, hq1⟩ := IH (a ++ N) (R ++ js_cls2 b :: z) v (p + N.length) o (A ++ (s, s + 1, A.length + 1, c, x, h) :: E) (ob ++ [A.length]) deep ht4 hp4 hv hz (by rw [List.length_append]; exact hob) (by rw [hlenA]; omega)
    have hpar : js_par (A ++ (s, s + 1, A.length + 1, c, x, h) :: E) (ob ++ [A.length]) ++ E1 = A ++ (s, s + 1, A.length + 1, c + 1, x, h) :: (E ++ E1) := by
      rw [js_par_app, js_mod_mid]
      simp [js_inc]
    have hdp : max deep (if js_dep n v = 0 then 0 else (ob ++ [A.length]).length + js_dep n v) = max deep (ob.length + 1 + js_dep n v) := by
      rw [List.length_append]
      show max deep (if js_dep n v = 0 then 0 else ob.length + 1 + js_dep n v) = _
      split <;> omega
    rw [hlenA] at hq1
    -- the facts of this member
    have hm1 : ∀ A2 B2 : List js_E, A2.length = A.length + 1 + E.length → js_OR t (A2 ++ (E1 ++ B2)) n v (A.length + 1 + E.length) ∧ (js_en (A2 ++ (E1 ++ B2)) (A.length + 1 + E.length)).2.2.1 = A.length + 1 + E.length + js_cnt n v ∧ (b = true → js_onm t (A2 ++ (E1 ++ B2)) (A.length + 1 + E.length) (js_pq nm)) := by
      intro A2 B2 hA2
      obtain ⟨g1, g2, g3, g4⟩ := hq1 A2 B2 hA2
      refine ⟨g1, g3, fun eb => ?_⟩
      obtain ⟨p0, o1, o2, o3⟩ := hon eb
      have hle : p + N.length ≤ t.length := by rw [ht4, hp4]; simp
      refine ⟨p0, by rw [g2]; exact o2, by rw [g2]; exact hle, ?_, ?_, by rw [g2]; exact o3⟩
      · rw [g4, o1]; rfl
      · rw [g4, o1, g2]; rfl
    by_cases q : l = []
    · refine ⟨E1, ?_, ?_, ?_⟩
      · rw [hwn, hw, hpar, hdp]
        rw [hR, if_pos q, q, List.append_nil, List.length_append]
        show js_dq t (p + N.length + (js_pr n v).length) none _ _ _ = js_dq t (p + (N.length + (js_pr n v).length)) none _ _ (max deep (ob.length + 1 + max (js_dep n v) 0))
        rw [Nat.add_assoc, Nat.max_zero]
        rfl
      · rw [hl1, q]; simp
      · intro A2 B2 hA2 i q2 hi
        rw [q] at hi ⊢
        cases i with
        | zero =>
          cases hi
          obtain ⟨g1, g2, g3⟩ := hm1 A2 B2 hA2
          exact ⟨g1, g2, g3, by show A.length + 1 + E.length < _; rw [hl1]; have := js_cnt_pos n v; omega⟩
        | succ i => simp at hi
    · have ht5 : t = (a ++ N ++ js_pr n v) ++ 44 :: (js_cm (l.map fun q => js_mp b q.1 (js_pr n q.2)) ++ js_cls2 b :: z) := by
        rw [ht4, hR, if_neg q]; simp
      have hp5 : p + N.length + (js_pr n v).length = (a ++ N ++ js_pr n v).length := by rw [hp4, List.length_append (as := a ++ N)]
      have h44 : js_b t (p + N.length + (js_pr n v).length) = 44 := js_bI2 (b := 44) ht5 hp5
      obtain ⟨E2, r1, r2, r3⟩ := js_walk_m IH b A s x h ob hob l (a ++ N ++ js_pr n v ++ [44]) z (p + N.length + (js_pr n v).length + 1) (c + 1) (E ++ E1) (max deep (ob.length + 1 + js_dep n v)) q (by rw [ht5]; simp) (by rw [hp5, List.length_append (bs := [44])]; rfl) (fun y hy => hok y (List.mem_cons_of_mem _ hy)) (fun e y hy => hpa e y (List.mem_cons_of_mem _ hy)) (by omega) (by rw [List.length_append, hl1]; omega)
      refine ⟨E1 ++ E2, ?_, ?_, ?_⟩
      · rw [hwn, hw, hpar, hdp, js_dq_sep (Or.inl h44), r1]
        have el : p + N.length + (js_pr n v).length + 1 + (js_cm (l.map fun q => js_mp b q.1 (js_pr n q.2))).length = p + (N ++ js_pr n v ++ R).length := by
          rw [hR, if_neg q]; simp; omega
        have ec : c + 1 + l.length = c + ((nm, v) :: l).length := by simp; omega
        have ed : max (max deep (ob.length + 1 + js_dep n v)) (ob.length + 1 + js_mx (l.map fun q => js_dep n q.2)) = max deep (ob.length + 1 + js_mx (((nm, v) :: l).map fun q => js_dep n q.2)) := by
          rw [List.map_cons]
          show _ = max deep (ob.length + 1 + max (js_dep n v) (js_mx (l.map fun q => js_dep n q.2)))
          omega
        rw [el, ec, ed, List.append_assoc E E1 E2]
      · rw [List.length_append, hl1, r2, hsum]
      · intro A2 B2 hA2 i q2 hi
        cases i with
        | zero =>
          cases hi
          obtain ⟨g1, g2, g3⟩ := hm1 A2 (E2 ++ B2) hA2
          rw [List.append_assoc]
          refine ⟨g1, ?_, g3, by show A.length + 1 + E.length < _; rw [List.length_append, hl1]; have := js_cnt_pos n v; omega⟩
          refine g2.trans ?_
          show _ = js_pos l (A.length + 1 + E.length + js_cnt n v) 0
          cases l <;> rfl
        | succ i =>
          have hi2 : l[i]? = some q2 := by rw [List.getElem?_cons_succ] at hi; exact hi
          have := r3 (A2 ++ E1) B2 (by rw [List.length_append, List.length_append, hA2]; omega) i q2 hi2
          rw [List.length_append, hl1, ← Nat.add_assoc, List.append_assoc] at this
          rw [List.append_assoc]
          obtain ⟨g1, g2, g3, g4⟩ := this
          refine ⟨g1, g2, g3, ?_⟩
          rw [List.length_append, hl1]
          show js_pos l (A.length + 1 + E.length + js_cnt n v) i < _
          omega
theorem js_pos_kid {t : List Nat} {n : Nat} {b : Bool} {l : List (List Nat × js_J n)} {j k : Nat} {W : List js_E} (hj : j = k + 1) (h : ∀ (i : Nat) (q : List Nat × js_J n), l[i]? = some q → (js_en W (js_pos l j i)).2.2.1 = js_pos l j (i + 1)) : ∀ i, i ≤ l.length → js_kid W k i = js_pos l j i
  | 0, _ => by
    rw [js_kid, hj]
    cases l <;> rfl
  | i + 1, hi => by
    rw [js_kid, js_pos_kid (t := t) (b := b) hj h i (by omega)]
    exact h i l[i] (List.getElem?_eq_getElem (by omega))
theorem js_pos_len {n : Nat} : ∀ (l : List (List Nat × js_J n)) (j : Nat), js_pos l j l.length = j + (l.map fun q => js_cnt n q.2).sum
  | [], j => rfl
  | q :: l, j => by
    show js_pos l (j + js_cnt n q.2) l.length = _
    rw [js_pos_len l, List.map_cons, List.sum_cons, Nat.add_assoc]
theorem js_cnt_l {n : Nat} : ∀ (l : List (List Nat × js_J n)), l.length ≤ (l.map fun q => js_cnt n q.2).sum
  | [] => Nat.le_refl _
  | q :: l => by
    have := js_cnt_l l
    have h2 := js_cnt_pos n q.2
    rw [List.map_cons, List.sum_cons, List.length_cons]
    omega
theorem js_walk {t : List Nat} : ∀ (n : Nat), js_WK t n
  | 0 => by
    intro a z v p nm vs ob deep ht hp hv hz hob hcnt
    refine ⟨[(p, p + (js_pl v).length, vs.length + 1, 0, js_nmi nm, js_nmh t p nm)], ?_, rfl, fun A B hA => ?_⟩
    · refine (js_walk_leaf (x := v) ht hp hv hz (by rw [js_cnt] at hcnt; omega)).trans ?_
      show _ = js_dq t (p + (js_pl v).length) none _ ob (max deep 0)
      rw [Nat.max_zero]
    · have := js_OQ_leaf (x := v) (k := vs.length) (nm := nm) ht hp hv A B hA
      refine ⟨this, ?_, ?_, ?_⟩
      · rw [show [(p, p + (js_pl v).length, vs.length + 1, 0, js_nmi nm, js_nmh t p nm)] ++ B = (p, p + (js_pl v).length, vs.length + 1, 0, js_nmi nm, js_nmh t p nm) :: B from rfl, js_en_mid hA]
      · rw [show [(p, p + (js_pl v).length, vs.length + 1, 0, js_nmi nm, js_nmh t p nm)] ++ B = (p, p + (js_pl v).length, vs.length + 1, 0, js_nmi nm, js_nmh t p nm) :: B from rfl, js_en_mid hA]
        rfl
      · rw [show [(p, p + (js_pl v).length, vs.length + 1, 0, js_nmi nm, js_nmh t p nm)] ++ B = (p, p + (js_pl v).length, vs.length + 1, 0, js_nmi nm, js_nmh t p nm) :: B from rfl, js_en_mid hA]
  | n + 1 => by
    intro a z v p nm vs ob deep ht hp hv hz hob hcnt
    match v, ht, hv, hcnt with
    | Sum.inl x, ht, hv, hcnt =>
      refine ⟨[(p, p + (js_pl x).length, vs.length + 1, 0, js_nmi nm, js_nmh t p nm)], ?_, rfl, fun A B hA => ?_⟩
      · refine (js_walk_leaf (x := x) ht hp hv hz (by rw [js_cnt] at hcnt; omega)).trans ?_
        show _ = js_dq t (p + (js_pl x).length) none _ ob (max deep 0)
        rw [Nat.max_zero]
      · have := js_OQ_leaf (x := x) (k := vs.length) (nm := nm) ht hp hv A B hA
        refine ⟨this, ?_, ?_, ?_⟩
        · rw [show [(p, p + (js_pl x).length, vs.length + 1, 0, js_nmi nm, js_nmh t p nm)] ++ B = (p, p + (js_pl x).length, vs.length + 1, 0, js_nmi nm, js_nmh t p nm) :: B from rfl, js_en_mid hA]
        · rw [show [(p, p + (js_pl x).length, vs.length + 1, 0, js_nmi nm, js_nmh t p nm)] ++ B = (p, p + (js_pl x).length, vs.length + 1, 0, js_nmi nm, js_nmh t p nm) :: B from rfl, js_en_mid hA]
          rfl
        · rw [show [(p, p + (js_pl x).length, vs.length + 1, 0, js_nmi nm, js_nmh t p nm)] ++ B = (p, p + (js_pl x).length, vs.length + 1, 0, js_nmi nm, js_nmh t p nm) :: B from rfl, js_en_mid hA]
    | Sum.inr (b, l), ht, hv, hcnt =>
      have hcnt2 : vs.length + (1 + (l.map fun q => js_cnt n q.2).sum) ≤ 2048 := hcnt
      have hpr : js_pr (n + 1) (Sum.inr (b, l)) = js_opn b :: (js_cm (l.map fun q => js_mp b q.1 (js_pr n q.2)) ++ [js_cls2 b]) := rfl
      have hlen : (js_pr (n + 1) (Sum.inr (b, l))).length = (js_cm (l.map fun q => js_mp b q.1 (js_pr n q.2))).length + 2 := by rw [hpr]; simp
      have ht2 : t = a ++ js_opn b :: (js_cm (l.map fun q => js_mp b q.1 (js_pr n q.2)) ++ js_cls2 b :: z) := by rw [ht, hpr]; simp
      have ht3 : t = (a ++ [js_opn b]) ++ (js_cm (l.map fun q => js_mp b q.1 (js_pr n q.2)) ++ js_cls2 b :: z) := by rw [ht2]; simp
      have hp3 : p + 1 = (a ++ [js_opn b]).length := by rw [hp, List.length_append]; rfl
      have hob0 : js_b t p = nI (js_opn b) := js_bI2 ht2 hp
      have hlp : (js_par vs ob).length = vs.length := js_par_len vs ob
      -- the members
      obtain ⟨E, hE, hM⟩ : ∃ E, js_dq t (p + 1) none (js_par vs ob ++ [(p, p + 1, vs.length + 1, 0, js_nmi nm, js_nmh t p nm)]) (ob ++ [vs.length]) (max deep (ob.length + 1)) = js_dq t (p + 1 + (js_cm (l.map fun q => js_mp b q.1 (js_pr n q.2))).length) none (js_par vs ob ++ (p, p + 1, vs.length + 1, l.length, js_nmi nm, js_nmh t p nm) :: E) (ob ++ [vs.length]) (max (max deep (ob.length + 1)) (ob.length + 1 + js_mx (l.map fun q => js_dep n q.2))) ∧ js_OM t n b l (vs.length + 1) E := by
        by_cases q : l = []
        · subst q
          refine ⟨[], ?_, rfl, fun A B _ i q hi => by simp at hi⟩
          show _ = js_dq t (p + 1) none _ _ (max (max deep (ob.length + 1)) (ob.length + 1 + 0))
          rw [show max (max deep (ob.length + 1)) (ob.length + 1 + 0) = max deep (ob.length + 1) by omega]
          rfl
        · obtain ⟨E, r1, r2⟩ := js_walk_m (js_walk n) b (js_par vs ob) p (js_nmi nm) (js_nmh t p nm) ob (by omega) l (a ++ [js_opn b]) z (p + 1) 0 [] (max deep (ob.length + 1)) q ht3 hp3 hv.1 (fun e => (hv.2.1 e).1) (by omega) (by rw [hlp]; show vs.length + 1 + 0 + _ ≤ _; omega)
          rw [hlp] at r1 r2
          refine ⟨E, ?_, r2⟩
          rw [Nat.zero_add] at r1
          exact r1
      obtain ⟨hM1, hM2⟩ := hM
      have ht6 : t = (a ++ [js_opn b] ++ js_cm (l.map fun q => js_mp b q.1 (js_pr n q.2))) ++ js_cls2 b :: z := by rw [ht3]; simp
      have hp6 : p + 1 + (js_cm (l.map fun q => js_mp b q.1 (js_pr n q.2))).length = (a ++ [js_opn b] ++ js_cm (l.map fun q => js_mp b q.1 (js_pr n q.2))).length := by rw [hp3, List.length_append (as := a ++ [js_opn b])]
      have hcl : js_b t (p + 1 + (js_cm (l.map fun q => js_mp b q.1 (js_pr n q.2))).length) = nI (js_cls2 b) := js_bI2 ht6 hp6
      have hdp : js_dep (n + 1) (Sum.inr (b, l)) = 1 + js_mx (l.map fun q => js_dep n q.2) := rfl
      have hcn : js_cnt (n + 1) (Sum.inr (b, l)) = 1 + (l.map fun q => js_cnt n q.2).sum := rfl
      refine ⟨(p, p + (js_pr (n + 1) (Sum.inr (b, l))).length, vs.length + 1 + E.length, l.length, js_nmi nm, js_nmh t p nm) :: E, ?_, by rw [List.length_cons, hM1, hcn]; omega, fun A B hA => ?_⟩
      · rw [js_dq_opn b hob0 (by omega) (by omega), hE, js_dq_cls b hcl]
        have e1 : p + 1 + (js_cm (l.map fun q => js_mp b q.1 (js_pr n q.2))).length + 1 = p + (js_pr (n + 1) (Sum.inr (b, l))).length := by rw [hlen]; omega
        have e2 : (js_par vs ob ++ (p, p + 1, vs.length + 1, l.length, js_nmi nm, js_nmh t p nm) :: E).length = vs.length + 1 + E.length := by rw [List.length_append, hlp, List.length_cons]; omega
        rw [e1, e2, hdp, if_neg (by omega)]
        have e4 := js_mod_mid (js_cls (p + (js_pr (n + 1) (Sum.inr (b, l))).length) (vs.length + 1 + E.length)) (js_par vs ob) E (p, p + 1, vs.length + 1, l.length, js_nmi nm, js_nmh t p nm)
        rw [hlp] at e4
        rw [e4]
        have e3 : max (max deep (ob.length + 1)) (ob.length + 1 + js_mx (l.map fun q => js_dep n q.2)) = max deep (ob.length + (1 + js_mx (l.map fun q => js_dep n q.2))) := by omega
        rw [e3]
        rfl
      · have en : js_en (A ++ ((p, p + (js_pr (n + 1) (Sum.inr (b, l))).length, vs.length + 1 + E.length, l.length, js_nmi nm, js_nmh t p nm) :: E ++ B)) vs.length = (p, p + (js_pr (n + 1) (Sum.inr (b, l))).length, vs.length + 1 + E.length, l.length, js_nmi nm, js_nmh t p nm) := js_en_mid hA
        have hW : A ++ ((p, p + (js_pr (n + 1) (Sum.inr (b, l))).length, vs.length + 1 + E.length, l.length, js_nmi nm, js_nmh t p nm) :: E ++ B) = (A ++ [(p, p + (js_pr (n + 1) (Sum.inr (b, l))).length, vs.length + 1 + E.length, l.length, js_nmi nm, js_nmh t p nm)]) ++ (E ++ B) := by simp
        have hm := hM2 (A ++ [(p, p + (js_pr (n + 1) (Sum.inr (b, l))).length, vs.length + 1 + E.length, l.length, js_nmi nm, js_nmh t p nm)]) B (by rw [List.length_append, hA]; rfl)
        rw [← hW] at hm
        have hkid := js_pos_kid (t := t) (b := b) (k := vs.length) (l := l) (W := A ++ ((p, p + (js_pr (n + 1) (Sum.inr (b, l))).length, vs.length + 1 + E.length, l.length, js_nmi nm, js_nmh t p nm) :: E ++ B)) rfl (fun i q hi => (hm i q hi).2.1)
        have hll := js_cnt_l l
        refine ⟨⟨⟨?_, ?_, ?_, ?_⟩, ?_, ?_, ?_, ?_, ?_, ?_⟩, ?_, ?_, ?_⟩
        · rw [List.length_append, List.length_append, List.length_cons]; omega
        · rw [en]; show p < p + _; omega
        · rw [en]
          show p + (js_pr (n + 1) (Sum.inr (b, l))).length ≤ t.length
          rw [ht, hp, List.length_append, List.length_append]; omega
        · rw [en]
          show js_sl t p (p + (js_pr (n + 1) (Sum.inr (b, l))).length - p) = _
          rw [Nat.add_sub_cancel_left]
          exact js_sl_of ht hp
        · rw [en]
        · rw [en]; exact hob0
        · rw [en]
          show vs.length + 1 + E.length ≤ _
          rw [List.length_append, List.length_append, List.length_cons]; omega
        · omega
        · rw [en, hkid l.length (Nat.le_refl _), js_pos_len, hM1]
        · intro i q hi
          have hil : i < l.length := (List.getElem?_eq_some_iff.mp hi).1
          obtain ⟨g1, g2, g3, g4⟩ := hm i q hi
          rw [en, hkid i (by omega)]
          exact ⟨g4, g1, g3⟩
        · rw [en]
        · rw [en, hcn]
          show vs.length + 1 + E.length = _
          rw [hM1]; omega
        · rw [en]
/-- the outline of a value's text holds the value -/
theorem js_outline {v : js_J 32} (hv : js_ok 32 v) (hl : (js_pr 32 v).length ≤ 4096) : ∃ vs, js_dr (js_pr 32 v) ((js_pr 32 v).length + 1) 0 none [] [] 0 = (vs, [], js_dep 32 v) ∧ js_OR (js_pr 32 v) vs 32 v 0 ∧ vs.length = js_cnt 32 v := by
  have hc := js_cnt_le 32 v hv
  obtain ⟨E, h1, h2, h3⟩ := js_walk (t := js_pr 32 v) 32 [] [] v 0 none [] [] 0 (by simp) rfl hv (Or.inl rfl) (by decide) (by show 0 + _ ≤ _; omega)
  refine ⟨E, ?_, ?_, h2⟩
  · refine Eq.trans h1 ?_
    have : ∀ vs ob d, js_dq (js_pr 32 v) (0 + (js_pr 32 v).length) none vs ob d = (vs, ob, d) := by
      intro vs ob d
      rw [js_dq, js_dr, if_pos (by omega)]
    rw [this]
    have e : max 0 (if js_dep 32 v = 0 then 0 else ([] : List Nat).length + js_dep 32 v) = js_dep 32 v := by
      split
      · omega
      · show max 0 (0 + js_dep 32 v) = _; omega
    rw [e]
    rfl
  · have := (h3 [] [] rfl).1
    rw [List.append_nil] at this
    exact this
