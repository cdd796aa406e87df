theorem jc_fs_up (u : Nat → Nat) : (va_up (va_up (va_up (va_up (va_up (va_up (va_up (va_up (fun _ => none) ((0 : Int32)).toNatClampNeg (some (u 6))) ((1 : Int32)).toNatClampNeg (some (u 8))) ((2 : Int32)).toNatClampNeg (some (u 10))) ((3 : Int32)).toNatClampNeg (some (u 12))) ((4 : Int32)).toNatClampNeg (some (u 14))) ((5 : Int32)).toNatClampNeg (some (u 16))) ((6 : Int32)).toNatClampNeg (some (u 18))) ((7 : Int32)).toNatClampNeg (some (u 20))) = jc_fs u := by
  funext j
  match j with
  | 0 => rfl
  | 1 => rfl
  | 2 => rfl
  | 3 => rfl
  | 4 => rfl
  | 5 => rfl
  | 6 => rfl
  | 7 => rfl
  | j + 8 =>
    have e : jc_fs u (j + 8) = none := if_neg (by omega)
    rw [e]
    simp [va_up]
theorem jq_hs_of {Q : Nat → Nat} (h : ∀ j, j < 8 → Q (18 + j) = Q 13 + 1 + j) : (fun j => if j < 8 then some (Q 13 + 1 + j) else none) = jq_hs Q := by
  funext j
  unfold jq_hs
  by_cases hj : j < 8
  · rw [if_pos hj, if_pos hj, h j hj]
  · rw [if_neg hj, if_neg hj]
section JLB
variable {p : Program} {l : Launch} {e : Env} {R : Room} {s : State} {m : MethodId} {args : Array Value} {below : List Frame} {meth : Method} {c : Code} {cells slots : Nat} {Q : State → Prop} {cc : ByteArray} {own : String} {nL : Nat} {D : va_G} {dA : Nat → ClassId} {zz : (Nat → Nat) × (Nat → Nat)} {A : Nat → Prop} {ws : va_W} {lv : List (Nat × Value)} {pc : Nat} {rest : List Value}
set_option maxHeartbeats 4000000 in
set_option maxRecDepth 100000 in
theorem lw_begin (C : jv_C p s m args meth c b_La_law R_La 8 D dA zz A) (hlt : l.stackTraces = false) {b L : Nat} {xs : Nat → Int32} (hX : va_X b L xs s s.heap) (hbl : b < s.heap.size) (hbA : ¬ A b) (hL : L ≤ 3072) (hR : jl_R R)
    (kend : ∀ (cells slots : Nat) (ws : va_W) (lv : List (Nat × Value)), cells ≤ 601024 → slots ≤ 7293034 → jv_V p l e R s m args below meth c cells slots Q D A 8 ws lv 683 []) : jv_V p l e R s m args below meth c 0 0 Q D A 8 [] [(0, .ref b)] 0 [] := by
  have hR9 := hR
  obtain ⟨hR1, hR2, hR3, hR4⟩ := hR
  refine jv_new C nw_La_8 Y_Sh fs0_Sh (by omega) (by omega) (jd D_La_law 0 rfl) (fun x => ?_)
  refine jv_dup C (jd D_La_law 1 rfl) rfl ?_
  refine jv_lawI (P := []) (rest := [.ref x]) C cl_La_52 (c_Sh_init x) ⟨by omega, by omega⟩ ⟨by omega, by omega⟩ rfl rfl (Nat.le_of_ble_eq_true rfl) (jd D_La_law 2 rfl) ?_
  rintro v u ⟨rfl, hu⟩
  rw [jc_fs_up u]
  have hCW : CW dA u [] [] (fun _ => none) (-1) (cW dA u [] [] (fun _ => none) (-1) (fun i => if i = 0 then u 48 else u 49) (fun _ => 0) 0 [] (fun _ => 0) (fun _ => 0) (fun _ _ => 0) (fun _ _ => 0)) := ⟨_, _, _, _, _, _, _, _, rfl, fun j h => absurd h (Nat.not_lt_zero j), fun j h => absurd h (Nat.not_lt_zero j), fun k _ j h => absurd h (Nat.not_lt_zero j), Nat.zero_le _, Nat.zero_le _⟩
  refine jv_is (ws' := cW dA u [] [] (fun _ => none) (-1) (fun i => if i = 0 then u 48 else u 49) (fun _ => 0) 0 [] (fun _ => 0) (fun _ => 0) (fun _ _ => 0) (fun _ _ => 0)) (st' := [.ref (u 0)]) rfl (by rw [hu]; rfl) ?_
  generalize cW dA u [] [] (fun _ => none) (-1) (fun i => if i = 0 then u 48 else u 49) (fun _ => 0) 0 [] (fun _ => 0) (fun _ => 0) (fun _ _ => 0) (fun _ _ => 0) = X at hCW ⊢
  refine jv_astore_n C [(1, .ref (u 0)), (0, .ref b)] (jd D_La_law 3 rfl) rfl (by decide) rfl ?_
  refine jv_new C nw_La_53 Y_Md fs0_Md (by omega) (by omega) (jd D_La_law 4 rfl) (fun o => ?_)
  refine jv_dup C (jd D_La_law 5 rfl) rfl ?_
  refine jv_lawI (P := X) (rest := [.ref o]) C cl_La_55 (c_Md_init o) ⟨by omega, by omega⟩ ⟨by omega, by omega⟩ rfl rfl (Nat.le_of_ble_eq_true rfl) (jd D_La_law 6 rfl) ?_
  rintro v ⟨Qm, A1, A2⟩ ⟨rfl, hw⟩
  have hw : ∀ j, j < 8 → Qm (18 + j) = Qm 13 + 1 + j := hw
  dsimp only
  rw [jq_hs_of hw]
  have hMW : MW dA o Qm [] [] (fun _ => none) (-1) 0 (jq_C 0 0 0 0) (jq_S 0 0 0 0) (mW dA o Qm 0 0 0 (-1) 0 0 0 0 0 .null (fun _ => 0) (fun _ => 0) (fun _ => 0) (fun _ => 0) (fun _ => 0) (fun _ _ => 0) A1 0 0 (fun _ _ => 0) (fun _ => 0) 0 0 A2 0 0 (fun _ _ => 0) (fun _ => 0) 0 0) := ⟨_, _, _, _, _, _, _, _, _, _, _, _, _, _, _, _, _, _, _, _, _, _, _, _, _, _, rfl, fun j h => absurd h (Nat.not_lt_zero j), fun j h => absurd h (Nat.not_lt_zero j), ⟨fun _ _ => rfl, fun k v _ h => by cases h⟩, ⟨Nat.zero_le _, Nat.zero_le _⟩, ⟨Nat.zero_le _, Nat.zero_le _⟩, rfl, rfl⟩
  refine jv_is (ws' := X ++ mW dA o Qm 0 0 0 (-1) 0 0 0 0 0 .null (fun _ => 0) (fun _ => 0) (fun _ => 0) (fun _ => 0) (fun _ => 0) (fun _ _ => 0) A1 0 0 (fun _ _ => 0) (fun _ => 0) 0 0 A2 0 0 (fun _ _ => 0) (fun _ => 0) 0 0) (st' := [.ref o]) rfl rfl ?_
  generalize mW dA o Qm 0 0 0 (-1) 0 0 0 0 0 .null (fun _ => 0) (fun _ => 0) (fun _ => 0) (fun _ => 0) (fun _ => 0) (fun _ _ => 0) A1 0 0 (fun _ _ => 0) (fun _ => 0) 0 0 A2 0 0 (fun _ _ => 0) (fun _ => 0) 0 0 = Y at hMW ⊢
  refine jv_astore_n C [(2, .ref o), (1, .ref (u 0)), (0, .ref b)] (jd D_La_law 7 rfl) rfl (by decide) rfl ?_
  refine jv_iconst (v := 1) C (jd D_La_law 8 rfl) (by decide) ?_
  refine jv_newag (ar := .inr (.inl (fun _ => 0))) (ty := .long) C 2 rfl (jm4 (List.mem_of_getElem? (i := 66) rfl)) rfl (fun _ h => h) 1 (fun cA => vp_cell_l cA _ _) (by decide) (by decide) (by decide) (by omega) (by omega) (jd D_La_law 9 rfl) (fun oa => ?_)
  refine jv_swap ?_
  refine jv_astore_n C [(3, .ref oa), (2, .ref o), (1, .ref (u 0)), (0, .ref b)] (jd D_La_law 10 rfl) rfl (by decide) rfl ?_
  refine jv_iconst (v := 0) C (jd D_La_law 11 rfl) (by decide) ?_
  refine jv_istore C [(4, .int 0), (3, .ref oa), (2, .ref o), (1, .ref (u 0)), (0, .ref b)] (jd D_La_law 12 rfl) (by decide) rfl ?_
  refine jv_lvsub [4, 3, 2, 1, 0] rfl ?_
  refine lw_loop C hlt hX hbl hbA hL hR9 kend 513 0 _ _ (fun _ => 0) X Y rfl (Nat.zero_le _) ⟨[], [], _, _, _, _, _, hCW, hMW, ⟨Nat.zero_le _, Nat.zero_le _, fun k v h => by cases h⟩, ?_, ?_⟩
  · simp only [List.length_nil]; omega
  · simp only [List.length_nil]; omega
end JLB
