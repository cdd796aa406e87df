theorem nw_Sh_7 : jv_N R_Sh 7 0 2 := ⟨_, rfl, rfl, lay_Tx, (jm1 (List.mem_of_getElem? (i := 32) rfl)), (jm1 (List.mem_of_getElem? (i := 33) rfl)), (jm1 (List.mem_of_getElem? (i := 2) rfl))⟩
theorem nw_Sh_25 : jv_N R_Sh 25 2 9 := ⟨_, rfl, rfl, lay_Rd, (jm1 (List.mem_of_getElem? (i := 47) rfl)), (jm1 (List.mem_of_getElem? (i := 48) rfl)), (jm1 (List.mem_of_getElem? (i := 3) rfl))⟩
theorem nw_Sh_34 : jv_N R_Sh 34 3 11 := ⟨_, rfl, rfl, lay_Ol, (jm1 (List.mem_of_getElem? (i := 106) rfl)), (jm1 (List.mem_of_getElem? (i := 107) rfl)), (jm1 (List.mem_of_getElem? (i := 5) rfl))⟩
theorem nw_Sh_41 : jv_N R_Sh 41 4 2 := ⟨_, rfl, rfl, lay_Cp, (jm1 (List.mem_of_getElem? (i := 148) rfl)), (jm1 (List.mem_of_getElem? (i := 149) rfl)), (jm1 (List.mem_of_getElem? (i := 6) rfl))⟩
theorem nw_Md_36 : jv_N R_Md 36 6 13 := ⟨_, rfl, rfl, lay_Tr, (jm4 (List.mem_of_getElem? (i := 9) rfl)), (jm4 (List.mem_of_getElem? (i := 10) rfl)), (jm1 (List.mem_of_getElem? (i := 8) rfl))⟩
theorem nw_Ol_33 : jv_N R_Ol 33 0 2 := ⟨_, rfl, rfl, lay_Tx, (jm1 (List.mem_of_getElem? (i := 112) rfl)), (jm1 (List.mem_of_getElem? (i := 33) rfl)), (jm1 (List.mem_of_getElem? (i := 2) rfl))⟩
theorem nw_Rd_15 : jv_N R_Rd 15 0 2 := ⟨_, rfl, rfl, lay_Tx, (jm1 (List.mem_of_getElem? (i := 53) rfl)), (jm1 (List.mem_of_getElem? (i := 33) rfl)), (jm1 (List.mem_of_getElem? (i := 2) rfl))⟩
theorem nw_Rd_23 : jv_N R_Rd 23 1 5 := ⟨_, rfl, rfl, lay_Nm, (jm1 (List.mem_of_getElem? (i := 55) rfl)), (jm1 (List.mem_of_getElem? (i := 56) rfl)), (jm1 (List.mem_of_getElem? (i := 4) rfl))⟩
theorem nw_La_8 : jv_N R_La 8 5 7 := ⟨_, rfl, rfl, lay_Sh, (jm1 (List.mem_of_getElem? (i := 24) rfl)), (jm1 (List.mem_of_getElem? (i := 25) rfl)), (jm1 (List.mem_of_getElem? (i := 1) rfl))⟩
theorem nw_La_53 : jv_N R_La 53 7 18 := ⟨_, rfl, rfl, lay_Md, (jm4 (List.mem_of_getElem? (i := 1) rfl)), (jm4 (List.mem_of_getElem? (i := 2) rfl)), (jm1 (List.mem_of_getElem? (i := 7) rfl))⟩
theorem fs0_Tx : jv_fs0 0 = [.null, .int 0] := by decide +kernel
theorem fs0_Nm : jv_fs0 1 = [.null, .null, .null, .null, .int 0] := by decide +kernel
theorem fs0_Rd : jv_fs0 2 = [.null, .null, .null, .null, .null, .int 0, .int 0, .int 0, .int 0] := by decide +kernel
theorem fs0_Ol : jv_fs0 3 = [.null, .null, .null, .null, .null, .null, .null, .null, .int 0, .int 0, .int 0] := by decide +kernel
theorem fs0_Cp : jv_fs0 4 = [.null, .null] := by decide +kernel
theorem fs0_Sh : jv_fs0 5 = [.null, .null, .null, .null, .null, .null, .int 0] := by decide +kernel
theorem fs0_Tr : jv_fs0 6 = [.null, .null, .null, .null, .null, .null, .null, .null, .null, .null, .int 0, .null, .int 0] := by decide +kernel
theorem fs0_Md : jv_fs0 7 = [.null, .int 0, .null, .int 0, .int 0, .int 0, .null, .int 0, .int 0, .int 0, .null, .int 0, .int 0, .null, .null, .null, .null, .null] := by decide +kernel
theorem jm_copy : Cond.native arraycopyName ∈ lw_tbl ∧ Cond.static arraycopyName ∈ lw_tbl ∧ Cond.initialized "java/lang/System" ∈ lw_tbl := ⟨(jm3 (List.mem_of_getElem? (i := 48) rfl)), (jm3 (List.mem_of_getElem? (i := 47) rfl)), (jm1 (List.mem_of_getElem? (i := 20) rfl))⟩
section JVZ
variable {p : Program} {l : Launch} {e : Env} {R : Room} {s : State} {m : MethodId} {args : Array Value} {below : List Frame} {meth : Method} {c : Code} {cells slots : Nat} {Q : State → Prop} {cc : ByteArray} {own : String} {nL : Nat} {D : va_G} {dA : Nat → ClassId} {zz : (Nat → Nat) × (Nat → Nat)} {A : Nat → Prop} {ws : va_W} {lv : List (Nat × Value)} {pc : Nat} {rest : List Value}
theorem jv_copyb (C : jv_C p s m args meth c cc own nL D dA zz A) {idx : Nat} (hl : Cond.methodLink own idx arraycopyName ∈ lw_tbl) (q0 q1 : Nat) (ws' : va_W) {a a0 n0 n1 : Nat} {f g : Nat → Int32} {sp dp n : Int32} (ha0 : ws[q0]? = some (a0, .inl (dA 0, n0, .inl f))) (ha1 : ws[q1]? = some (a, .inl (dA 0, n1, .inl g))) (e2 : ws.set q1 (a, .inl (dA 0, n1, .inl (va_cpy f g sp.toNatClampNeg dp.toNatClampNeg n.toNatClampNeg))) = ws')
    (h1 : ¬ sp < 0) (h2 : ¬ dp < 0) (h3 : ¬ n < 0) (h4 : sp.toNatClampNeg + n.toNatClampNeg ≤ n0) (h5 : dp.toNatClampNeg + n.toNatClampNeg ≤ n1) (hfit : ∀ i, i < n.toNatClampNeg → fits .byte (.int (f (sp.toNatClampNeg + i))) = true) (hf : 1 ≤ R.frames) (hR : (rest.map fun v => v.category).sum + (nativeFrameWords "java/lang/System" "arraycopy" 5 + 11) ≤ R.locals) (hdg : decode cc pc = .ok (.invokestatic idx, 3))
    (kk : jv_V p l e R s m args below meth c cells slots Q D A nL ws' lv (pc + 3) rest) : jv_V p l e R s m args below meth c cells slots Q D A nL ws lv pc (.int n :: .int dp :: .ref a :: .int sp :: .ref a0 :: rest) := by
  subst e2
  exact fun H locs ls hP hD hS h => va_copyi C.1 C.2.1 (C.2.2.1.trans h.1.symm) C.2.2.2.1 (C.2.2.2.2.1.2 _ hl rfl args) (C.2.2.2.2.1.2 _ jm_copy.1 rfl args) (C.2.2.2.2.1.2 _ jm_copy.2.1 rfl args) (C.2.2.2.2.1.2 _ jm_copy.2.2 rfl args) C.2.2.2.2.1.1 hP hD hS q0 q1 0 0 ha0 ha1 rfl rfl rfl h1 h2 h3 h4 h5 hfit hf hR hdg (fun H1 locs1 hP hD hS => kk H1 locs1 ls hP hD hS h)
end JVZ
