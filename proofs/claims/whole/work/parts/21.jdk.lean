def R_Js : String := "java/lang/String"
def R_Jl : String := "java/lang/StringLatin1"
def R_Jp : String := "jdk/internal/util/Preconditions"
abbrev b_Js_length : ByteArray := prog_17_method_54_code
def y_Js_length : MethodName := ⟨"java/lang/String", "length", "()I"⟩
def L_Js_length : List (Nat × Instr × Nat) := [(0, .aload_n 0, 1), (1, .getfield 9, 3), (4, .arraylength, 1), (5, .aload_n 0, 1), (6, .invokevirtual 335, 3), (9, .ishr, 1), (10, .ireturn, 1)]
theorem D_Js_length : jd_ok b_Js_length L_Js_length = true := by decide +kernel
abbrev b_Js_coder : ByteArray := prog_17_method_152_code
def y_Js_coder : MethodName := ⟨"java/lang/String", "coder", "()B"⟩
def L_Js_coder : List (Nat × Instr × Nat) := [(0, .getstatic 38, 3), (3, .ifCond .eq 10, 3), (6, .aload_n 0, 1), (7, .getfield 15, 3), (10, .goto 4, 3), (13, .iconst 1, 1), (14, .ireturn, 1)]
theorem D_Js_coder : jd_ok b_Js_coder L_Js_coder = true := by decide +kernel
abbrev b_Js_charAt : ByteArray := prog_17_method_56_code
def y_Js_charAt : MethodName := ⟨"java/lang/String", "charAt", "(I)C"⟩
def L_Js_charAt : List (Nat × Instr × Nat) := [(0, .aload_n 0, 1), (1, .invokevirtual 492, 3), (4, .ifCond .eq 12, 3), (7, .aload_n 0, 1), (8, .getfield 9, 3), (11, .iload_n 1, 1), (12, .invokestatic 495, 3), (15, .ireturn, 1), (16, .aload_n 0, 1), (17, .getfield 9, 3), (20, .iload_n 1, 1), (21, .invokestatic 498, 3), (24, .ireturn, 1)]
theorem D_Js_charAt : jd_ok b_Js_charAt L_Js_charAt = true := by decide +kernel
abbrev b_Js_isLatin1 : ByteArray := prog_17_method_154_code
def y_Js_isLatin1 : MethodName := ⟨"java/lang/String", "isLatin1", "()Z"⟩
def L_Js_isLatin1 : List (Nat × Instr × Nat) := [(0, .getstatic 38, 3), (3, .ifCond .eq 14, 3), (6, .aload_n 0, 1), (7, .getfield 15, 3), (10, .ifCond .ne 7, 3), (13, .iconst 1, 1), (14, .goto 4, 3), (17, .iconst 0, 1), (18, .ireturn, 1)]
theorem D_Js_isLatin1 : jd_ok b_Js_isLatin1 L_Js_isLatin1 = true := by decide +kernel
abbrev b_Jl_charAt : ByteArray := prog_18_method_2_code
def y_Jl_charAt : MethodName := ⟨"java/lang/StringLatin1", "charAt", "([BI)C"⟩
def L_Jl_charAt : List (Nat × Instr × Nat) := [(0, .iload_n 1, 1), (1, .aload_n 0, 1), (2, .arraylength, 1), (3, .invokestatic 9, 3), (6, .aload_n 0, 1), (7, .iload_n 1, 1), (8, .baload, 1), (9, .sipush 255, 3), (12, .iand, 1), (13, .i2c, 1), (14, .ireturn, 1)]
theorem D_Jl_charAt : jd_ok b_Jl_charAt L_Jl_charAt = true := by decide +kernel
abbrev b_Js_checkIndex : ByteArray := prog_17_method_155_code
def y_Js_checkIndex : MethodName := ⟨"java/lang/String", "checkIndex", "(II)V"⟩
def L_Js_checkIndex : List (Nat × Instr × Nat) := [(0, .iload_n 0, 1), (1, .iload_n 1, 1), (2, .getstatic 1053, 3), (5, .invokestatic 1059, 3), (8, .pop, 1), (9, .return_, 1)]
theorem D_Js_checkIndex : jd_ok b_Js_checkIndex L_Js_checkIndex = true := by decide +kernel
abbrev b_Jp_checkIndex : ByteArray := prog_24_method_11_code
def y_Jp_checkIndex : MethodName := ⟨"jdk/internal/util/Preconditions", "checkIndex", "(IILjava/util/function/BiFunction;)I"⟩
def L_Jp_checkIndex : List (Nat × Instr × Nat) := [(0, .iload_n 0, 1), (1, .ifCond .lt 8, 3), (4, .iload_n 0, 1), (5, .iload_n 1, 1), (6, .if_icmp .lt 10, 3), (9, .aload_n 2, 1), (10, .iload_n 0, 1), (11, .iload_n 1, 1), (12, .invokestatic 95, 3), (15, .athrow, 1), (16, .iload_n 0, 1), (17, .ireturn, 1)]
theorem D_Jp_checkIndex : jd_ok b_Jp_checkIndex L_Jp_checkIndex = true := by decide +kernel
abbrev b_Js_indexOf : ByteArray := prog_17_method_79_code
def y_Js_indexOf : MethodName := ⟨"java/lang/String", "indexOf", "(I)I"⟩
def L_Js_indexOf : List (Nat × Instr × Nat) := [(0, .aload_n 0, 1), (1, .iload_n 1, 1), (2, .iconst 0, 1), (3, .invokevirtual 633, 3), (6, .ireturn, 1)]
theorem D_Js_indexOf : jd_ok b_Js_indexOf L_Js_indexOf = true := by decide +kernel
abbrev b_Js_indexOf2 : ByteArray := prog_17_method_80_code
def y_Js_indexOf2 : MethodName := ⟨"java/lang/String", "indexOf", "(II)I"⟩
def L_Js_indexOf2 : List (Nat × Instr × Nat) := [(0, .aload_n 0, 1), (1, .invokevirtual 492, 3), (4, .ifCond .eq 19, 3), (7, .aload_n 0, 1), (8, .getfield 9, 3), (11, .iload_n 1, 1), (12, .iload_n 2, 1), (13, .aload_n 0, 1), (14, .invokevirtual 505, 3), (17, .invokestatic 637, 3), (20, .goto 16, 3), (23, .aload_n 0, 1), (24, .getfield 9, 3), (27, .iload_n 1, 1), (28, .iload_n 2, 1), (29, .aload_n 0, 1), (30, .invokevirtual 505, 3), (33, .invokestatic 640, 3), (36, .ireturn, 1)]
theorem D_Js_indexOf2 : jd_ok b_Js_indexOf2 L_Js_indexOf2 = true := by decide +kernel
abbrev b_Jl_indexOf : ByteArray := prog_18_method_22_code
def y_Jl_indexOf : MethodName := ⟨"java/lang/StringLatin1", "indexOf", "([BIII)I"⟩
def L_Jl_indexOf : List (Nat × Instr × Nat) := [(0, .iload_n 1, 1), (1, .invokestatic 88, 3), (4, .ifCond .ne 5, 3), (7, .iconst (-1), 1), (8, .ireturn, 1), (9, .iload_n 2, 1), (10, .iconst 0, 1), (11, .invokestatic 92, 3), (14, .istore_n 2, 1), (15, .iload_n 3, 1), (16, .aload_n 0, 1), (17, .arraylength, 1), (18, .invokestatic 38, 3), (21, .istore_n 3, 1), (22, .iload_n 2, 1), (23, .iload_n 3, 1), (24, .if_icmp .lt 5, 3), (27, .iconst (-1), 1), (28, .ireturn, 1), (29, .aload_n 0, 1), (30, .iload_n 1, 1), (31, .iload_n 2, 1), (32, .iload_n 3, 1), (33, .invokestatic 95, 3), (36, .ireturn, 1)]
theorem D_Jl_indexOf : jd_ok b_Jl_indexOf L_Jl_indexOf = true := by decide +kernel
abbrev b_Jl_canEncode : ByteArray := prog_18_method_4_code
def y_Jl_canEncode : MethodName := ⟨"java/lang/StringLatin1", "canEncode", "(I)Z"⟩
def L_Jl_canEncode : List (Nat × Instr × Nat) := [(0, .iload_n 0, 1), (1, .ifCond .lt 14, 3), (4, .iload_n 0, 1), (5, .sipush 255, 3), (8, .if_icmp .gt 7, 3), (11, .iconst 1, 1), (12, .goto 4, 3), (15, .iconst 0, 1), (16, .ireturn, 1)]
theorem D_Jl_canEncode : jd_ok b_Jl_canEncode L_Jl_canEncode = true := by decide +kernel
abbrev b_Jl_indexOfChar : ByteArray := prog_18_method_23_code
def y_Jl_indexOfChar : MethodName := ⟨"java/lang/StringLatin1", "indexOfChar", "([BIII)I"⟩
def L_Jl_indexOfChar : List (Nat × Instr × Nat) := [(0, .iload_n 1, 1), (1, .i2b, 1), (2, .istore 4, 2), (4, .iload_n 2, 1), (5, .istore 5, 2), (7, .iload 5, 2), (9, .iload_n 3, 1), (10, .if_icmp .ge 21, 3), (13, .aload_n 0, 1), (14, .iload 5, 2), (16, .baload, 1), (17, .iload 4, 2), (19, .if_icmp .ne 6, 3), (22, .iload 5, 2), (24, .ireturn, 1), (25, .iinc 5 1, 3), (28, .goto (-21), 3), (31, .iconst (-1), 1), (32, .ireturn, 1)]
theorem D_Jl_indexOfChar : jd_ok b_Jl_indexOfChar L_Jl_indexOfChar = true := by decide +kernel
theorem cl_Js_335 : jv_LV R_Js 335 y_Js_coder b_Js_coder 1 (some (FieldType.byte)) 0 := ⟨⟨(jm2 (List.mem_of_getElem? (i := 108) rfl)), (jm1 (List.mem_of_getElem? (i := 14) rfl)), ⟨by decide, by decide⟩, by decide +kernel, Or.inl (jm2 (List.mem_of_getElem? (i := 105) rfl))⟩, (jm2 (List.mem_of_getElem? (i := 106) rfl)), (jm2 (List.mem_of_getElem? (i := 107) rfl))⟩
theorem cl_Js_492 : jv_LV R_Js 492 y_Js_isLatin1 b_Js_isLatin1 1 (some (FieldType.boolean)) 0 := ⟨⟨(jm2 (List.mem_of_getElem? (i := 118) rfl)), (jm1 (List.mem_of_getElem? (i := 14) rfl)), ⟨by decide, by decide⟩, by decide +kernel, Or.inl (jm2 (List.mem_of_getElem? (i := 115) rfl))⟩, (jm2 (List.mem_of_getElem? (i := 116) rfl)), (jm2 (List.mem_of_getElem? (i := 117) rfl))⟩
theorem cl_Js_495 : jv_LS R_Js 495 y_Jl_charAt b_Jl_charAt 2 (some (FieldType.char)) 2 := ⟨⟨(jm2 (List.mem_of_getElem? (i := 121) rfl)), (jm1 (List.mem_of_getElem? (i := 15) rfl)), ⟨by decide, by decide⟩, by decide +kernel, Or.inl (jm2 (List.mem_of_getElem? (i := 119) rfl))⟩, (jm2 (List.mem_of_getElem? (i := 120) rfl))⟩
theorem cl_Jl_9 : jv_LS R_Jl 9 y_Js_checkIndex b_Js_checkIndex 2 none 2 := ⟨⟨(jm2 (List.mem_of_getElem? (i := 124) rfl)), (jm1 (List.mem_of_getElem? (i := 14) rfl)), ⟨by decide, by decide⟩, by decide +kernel, Or.inl (jm2 (List.mem_of_getElem? (i := 122) rfl))⟩, (jm2 (List.mem_of_getElem? (i := 123) rfl))⟩
theorem cl_Js_1059 : jv_LS R_Js 1059 y_Jp_checkIndex b_Jp_checkIndex 3 (some (FieldType.int)) 3 := ⟨⟨(jm2 (List.mem_of_getElem? (i := 129) rfl)), (jm1 (List.mem_of_getElem? (i := 16) rfl)), ⟨by decide, by decide⟩, by decide +kernel, Or.inl (jm2 (List.mem_of_getElem? (i := 127) rfl))⟩, (jm2 (List.mem_of_getElem? (i := 128) rfl))⟩
theorem cl_Js_633 : jv_LV R_Js 633 y_Js_indexOf2 b_Js_indexOf2 3 (some (FieldType.int)) 2 := ⟨⟨(jm4 (List.mem_of_getElem? (i := 227) rfl)), (jm1 (List.mem_of_getElem? (i := 14) rfl)), ⟨by decide, by decide⟩, by decide +kernel, Or.inl (jm4 (List.mem_of_getElem? (i := 224) rfl))⟩, (jm4 (List.mem_of_getElem? (i := 225) rfl)), (jm4 (List.mem_of_getElem? (i := 226) rfl))⟩
theorem cl_Js_505 : jv_LV R_Js 505 y_Js_length b_Js_length 1 (some (FieldType.int)) 0 := ⟨⟨(jm2 (List.mem_of_getElem? (i := 104) rfl)), (jm1 (List.mem_of_getElem? (i := 14) rfl)), ⟨by decide, by decide⟩, by decide +kernel, Or.inl (jm4 (List.mem_of_getElem? (i := 228) rfl))⟩, (jm2 (List.mem_of_getElem? (i := 102) rfl)), (jm2 (List.mem_of_getElem? (i := 103) rfl))⟩
theorem cl_Js_637 : jv_LS R_Js 637 y_Jl_indexOf b_Jl_indexOf 4 (some (FieldType.int)) 4 := ⟨⟨(jm4 (List.mem_of_getElem? (i := 231) rfl)), (jm1 (List.mem_of_getElem? (i := 15) rfl)), ⟨by decide, by decide⟩, by decide +kernel, Or.inl (jm4 (List.mem_of_getElem? (i := 229) rfl))⟩, (jm4 (List.mem_of_getElem? (i := 230) rfl))⟩
theorem cl_Jl_88 : jv_LS R_Jl 88 y_Jl_canEncode b_Jl_canEncode 1 (some (FieldType.boolean)) 1 := ⟨⟨(jm4 (List.mem_of_getElem? (i := 234) rfl)), (jm1 (List.mem_of_getElem? (i := 15) rfl)), ⟨by decide, by decide⟩, by decide +kernel, Or.inl (jm4 (List.mem_of_getElem? (i := 232) rfl))⟩, (jm4 (List.mem_of_getElem? (i := 233) rfl))⟩
theorem cl_Jl_95 : jv_LS R_Jl 95 y_Jl_indexOfChar b_Jl_indexOfChar 6 (some (FieldType.int)) 4 := ⟨⟨(jm5 (List.mem_of_getElem? (i := 1) rfl)), (jm1 (List.mem_of_getElem? (i := 15) rfl)), ⟨by decide, by decide⟩, by decide +kernel, Or.inl (jm4 (List.mem_of_getElem? (i := 239) rfl))⟩, (jm5 (List.mem_of_getElem? (i := 0) rfl))⟩
theorem cl_Rd_118 : jv_LV R_Rd 118 y_Js_length b_Js_length 1 (some (FieldType.int)) 0 := ⟨⟨(jm2 (List.mem_of_getElem? (i := 104) rfl)), (jm1 (List.mem_of_getElem? (i := 14) rfl)), ⟨by decide, by decide⟩, by decide +kernel, Or.inl (jm2 (List.mem_of_getElem? (i := 101) rfl))⟩, (jm2 (List.mem_of_getElem? (i := 102) rfl)), (jm2 (List.mem_of_getElem? (i := 103) rfl))⟩
theorem cl_Rd_121 : jv_LV R_Rd 121 y_Js_charAt b_Js_charAt 2 (some (FieldType.char)) 1 := ⟨⟨(jm2 (List.mem_of_getElem? (i := 114) rfl)), (jm1 (List.mem_of_getElem? (i := 14) rfl)), ⟨by decide, by decide⟩, by decide +kernel, Or.inl (jm2 (List.mem_of_getElem? (i := 111) rfl))⟩, (jm2 (List.mem_of_getElem? (i := 112) rfl)), (jm2 (List.mem_of_getElem? (i := 113) rfl))⟩
theorem cl_Md_137 : jv_LV R_Md 137 y_Js_length b_Js_length 1 (some (FieldType.int)) 0 := ⟨⟨(jm2 (List.mem_of_getElem? (i := 104) rfl)), (jm1 (List.mem_of_getElem? (i := 14) rfl)), ⟨by decide, by decide⟩, by decide +kernel, Or.inl (jm4 (List.mem_of_getElem? (i := 190) rfl))⟩, (jm2 (List.mem_of_getElem? (i := 102) rfl)), (jm2 (List.mem_of_getElem? (i := 103) rfl))⟩
theorem cl_Md_141 : jv_LV R_Md 141 y_Js_charAt b_Js_charAt 2 (some (FieldType.char)) 1 := ⟨⟨(jm2 (List.mem_of_getElem? (i := 114) rfl)), (jm1 (List.mem_of_getElem? (i := 14) rfl)), ⟨by decide, by decide⟩, by decide +kernel, Or.inl (jm4 (List.mem_of_getElem? (i := 191) rfl))⟩, (jm2 (List.mem_of_getElem? (i := 112) rfl)), (jm2 (List.mem_of_getElem? (i := 113) rfl))⟩
theorem cl_Md_153 : jv_LV R_Md 153 y_Js_indexOf b_Js_indexOf 2 (some (FieldType.int)) 1 := ⟨⟨(jm4 (List.mem_of_getElem? (i := 223) rfl)), (jm1 (List.mem_of_getElem? (i := 14) rfl)), ⟨by decide, by decide⟩, by decide +kernel, Or.inl (jm4 (List.mem_of_getElem? (i := 220) rfl))⟩, (jm4 (List.mem_of_getElem? (i := 221) rfl)), (jm4 (List.mem_of_getElem? (i := 222) rfl))⟩
section JVS
variable {p : Program} {l : Launch} {e : Env} {R : Room} {s : State} {m : MethodId} {args : Array Value} {below : List Frame} {meth : Method} {c : Code} {cells slots : Nat} {Q : State → Prop} {cc : ByteArray} {own : String} {nL : Nat} {D : va_G} {dA : Nat → ClassId} {zz : (Nat → Nat) × (Nat → Nat)} {A : Nat → Prop} {ws : va_W} {lv : List (Nat × Value)} {pc : Nat} {rest : List Value}
theorem jv_C.z (C : jv_C p s m args meth c cc own nL D dA zz A) : jv_Z zz A s s.heap := C.2.2.2.2.2.2.2
theorem jv_gets1 (C : jv_C p s m args meth c cc own nL D dA zz A) {index : Nat} (hl : Cond.fieldLink own index "java/lang/String" "COMPACT_STRINGS" "Z" ∈ lw_tbl) (hdg : decode cc pc = .ok (.getstatic index, 3)) (k : jv_V p l e R s m args below meth c cells slots Q D A nL ws lv (pc + 3) (.int 1 :: rest)) : jv_V p l e R s m args below meth c cells slots Q D A nL ws lv pc rest :=
  fun H locs ls hP hD hS h => va_gets C.1 C.2.1 C.z.2.2.1 hS C.2.2.2.1 (C.2.2.2.2.1.2 _ hl rfl args) (fun _ z => z) hdg (k H locs ls hP hD hS h)
theorem jv_getsF (C : jv_C p s m args meth c cc own nL D dA zz A) {index : Nat} (hl : Cond.fieldLink own index "jdk/internal/util/Preconditions" "SIOOBE_FORMATTER" "Ljava/util/function/BiFunction;" ∈ lw_tbl) (hdg : decode cc pc = .ok (.getstatic index, 3)) (k : ∀ v : Value, (v = .null ∨ ∃ a, v = .ref a) → jv_V p l e R s m args below meth c cells slots Q D A nL ws lv (pc + 3) (v :: rest)) : jv_V p l e R s m args below meth c cells slots Q D A nL ws lv pc rest := by
  intro H locs ls hP hD hS h
  rcases C.z.2.2.2.2.2.1 with hz | ⟨a, hz⟩
  · exact va_gets C.1 C.2.1 hz hS C.2.2.2.1 (C.2.2.2.2.1.2 _ hl rfl args) (fun _ z => z) hdg (k .null (Or.inl rfl) H locs ls hP hD hS h)
  · exact va_gets C.1 C.2.1 hz hS C.2.2.2.1 (C.2.2.2.2.1.2 _ hl rfl args) (fun _ z => z) hdg (k (.ref a) (Or.inr ⟨a, rfl⟩) H locs ls hP hD hS h)
theorem jv_sval (C : jv_C p s m args meth c cc own nL D dA zz A) {index k : Nat} (hk : k < 7) (hl : Cond.fieldLink own index "java/lang/String" "value" "[B" ∈ lw_tbl) (hdg : decode cc pc = .ok (.getfield index, 3)) (kk : jv_V p l e R s m args below meth c cells slots Q D A nL ws lv (pc + 3) (.ref (zz.2 k) :: rest)) : jv_V p l e R s m args below meth c cells slots Q D A nL ws lv pc (.ref (zz.1 k) :: rest) :=
  fun H locs ls hP hD hS h => vk_getf C.1 C.2.1 (C.z.1.1 k hk).2.2.1 hS C.2.2.2.1 (C.2.2.2.2.1.2 _ hl rfl args) (fun _ z => z) hdg (kk H locs ls hP hD hS h)
theorem jv_scod (C : jv_C p s m args meth c cc own nL D dA zz A) {index k : Nat} (hk : k < 7) (hl : Cond.fieldLink own index "java/lang/String" "coder" "B" ∈ lw_tbl) (hdg : decode cc pc = .ok (.getfield index, 3)) (kk : jv_V p l e R s m args below meth c cells slots Q D A nL ws lv (pc + 3) (.int 0 :: rest)) : jv_V p l e R s m args below meth c cells slots Q D A nL ws lv pc (.ref (zz.1 k) :: rest) :=
  fun H locs ls hP hD hS h => vk_getf C.1 C.2.1 (C.z.1.1 k hk).2.1 hS C.2.2.2.1 (C.2.2.2.2.1.2 _ hl rfl args) (fun _ z => z) hdg (kk H locs ls hP hD hS h)
theorem jv_slen (C : jv_C p s m args meth c cc own nL D dA zz A) {k : Nat} (hk : k < 7) (hdg : decode cc pc = .ok (.arraylength, 1)) (kk : jv_V p l e R s m args below meth c cells slots Q D A nL ws lv (pc + 1) (.int (nI (jz_len.getD k 0)) :: rest)) : jv_V p l e R s m args below meth c cells slots Q D A nL ws lv pc (.ref (zz.2 k) :: rest) :=
  fun H locs ls hP hD hS h => va_tlen C.1 C.2.1 (C.z.1.1 k hk).2.2.2 hS rfl hdg (kk H locs ls hP hD hS h)
theorem jv_sbal (C : jv_C p s m args meth c cc own nL D dA zz A) {k : Nat} {i : Int32} (hk : k < 7) (hin : vp_in i (jz_len.getD k 0)) (hdg : decode cc pc = .ok (.baload, 1)) (kk : jv_V p l e R s m args below meth c cells slots Q D A nL ws lv (pc + 1) (.int ((jz_byt.getD k []).getD i.toNatClampNeg 0) :: rest)) : jv_V p l e R s m args below meth c cells slots Q D A nL ws lv pc (.int i :: .ref (zz.2 k) :: rest) :=
  fun H locs ls hP hD hS h => va_tb C.1 C.2.1 (C.z.1.1 k hk).2.2.2 hS hin rfl hdg (kk H locs ls hP hD hS h)
theorem jv_ldcS (C : jv_C p s m args meth c cc own nL D dA zz A) {index k : Nat} {tx : String} (q : Nat) (hq : jz_ref[q]? = some (own, index, tx, k)) (hdg : decode cc pc = .ok (.ldc index, 2)) (kk : jv_V p l e R s m args below meth c cells slots Q D A nL ws lv (pc + 2) (.ref (zz.1 k) :: rest)) : jv_V p l e R s m args below meth c cells slots Q D A nL ws lv pc rest :=
  fun H locs ls hP hD hS h => va_ldcS C.1 C.2.1 C.2.2.2.1 (C.z.2.1 _ (List.mem_of_getElem? hq)) hdg (kk H locs ls hP hD hS h)
theorem jv_callVs {S : Type} {post : Option Value → S → Prop} {w1 : S → va_W} {wc wr : va_W} {mc ms n k index ml : Nat} {y : MethodName} {b : ByteArray} {ret : Option FieldType} {ks : Nat} {As st : List Value} (C : jv_C p s m args meth c cc own nL D dA zz A) (L : jv_LV own index y b ml ret n) (hM : jv_M l D dA zz y b ml ret k (.ref (zz.1 ks) :: As) wc post w1 mc ms) (hks : ks < 7) (hyc : y.cls = "java/lang/String")
    (isC isR : List Nat) (hC : isC.map (fun i => ws[i]?) = wc.map some) (hR : isR.map (fun i => ws[i]?) = wr.map some) (hnC : va_nd isC = true) (hn : va_nd isR = true) (hdis : ∀ i ∈ isR, i ∉ isC)
    (hR2 : k + 1 ≤ R.frames ∧ 8 + (ml + 11) + 64 * k ≤ R.locals) (hf : cells + mc ≤ R.cells ∧ slots + ms ≤ R.slots) (hnA : As.length = n) (hst : st = As.reverse ++ .ref (zz.1 ks) :: rest) (hcat : (rest.map fun v => v.category).sum ≤ 8) (hdg : decode cc pc = .ok (.invokevirtual index, 3))
    (kk : ∀ (v : Option Value) (u : S), post v u → jv_V p l e R s m args below meth c (cells + mc) (slots + ms) Q D A nL (wr ++ w1 u) lv (pc + 3) (v.toList ++ rest)) : jv_V p l e R s m args below meth c cells slots Q D A nL ws lv pc st := by
  intro H locs ls hP hD hS h
  obtain ⟨L0, hin, hsel⟩ := L
  obtain ⟨hx, hb, hml, hown, ⟨hK, hT⟩, hA, hlk, hZ⟩ := C
  obtain ⟨hPc, hDc⟩ := jv_pick hP hD isC hnC hC
  have S0 : CallFix p m c cc nL s args ([] : List Cond) own := ⟨hx, hb, hml, hown, fun w h => by cases h⟩
  have hp : PreV s H y.cls (zz.1 ks) (jv_Pc D dA zz (.ref (zz.1 ks) :: As) wc H.size) As := ⟨jv_Pc_blind, by rw [hyc]; exact vk_recv hZ.1 hks hS, fun U hU hW => ⟨rfl, by rw [hU], by rw [hU]; exact hPc, jv_K.moved hW ⟨hK, hT⟩, hDc.weaken (fun _ _ _ _ => trivial), by rw [hU]; exact hZ.to hS.2.1 hW (va_free hD hS hA isC hC)⟩⟩
  rcases id L0.2.2.2.2 with hl | ⟨host, hl⟩
  · exact jv_goon hA hP hD hS h isC isR hC hR hn hdis (va_runV (As := As) (rest := rest) S0 (hM H.size) ⟨⟨rfl, rfl, hR2.1, hR2.2, jv_Lws hT L0, List.mem_cons_self, hT _ L0.1 rfl args, hT _ L0.2.1 rfl args, L0.2.2.1, jv_Llen L0, hT _ hl rfl args⟩, hT _ hin rfl args, hT _ hsel rfl args⟩ hp rfl hnA h.1 hst (lv_room hcat) hdg hf) kk
  · exact jv_goon hA hP hD hS h isC isR hC hR hn hdis (va_runVN (As := As) (rest := rest) (host := host) S0 (hM H.size) ⟨⟨⟨rfl, rfl, hR2.1, hR2.2, jv_Lws hT L0, List.mem_cons_self⟩, hT _ L0.1 rfl args, hT _ L0.2.1 rfl args, L0.2.2.1, jv_Llen L0, hT _ hl rfl args⟩, hT _ hin rfl args, hT _ hsel rfl args⟩ hp rfl hnA h.1 hst (lv_room hcat) hdg hf) kk
theorem jm_min : Cond.static Lib.Math.min.name ∈ lw_tbl ∧ Cond.code Lib.Math.min.name Lib.Math.min.code 2 (some .int) ∈ lw_tbl := ⟨(jm4 (List.mem_of_getElem? (i := 237) rfl)), (jm4 (List.mem_of_getElem? (i := 238) rfl))⟩
theorem jv_mmin (C : jv_C p s m args meth c cc own nL D dA zz A) {idx : Nat} {x y : Int32} (hl : Cond.methodLink own idx Lib.Math.min.name ∈ lw_tbl) (hdg : decode cc pc = .ok (.invokestatic idx, 3)) (hf : 1 ≤ R.frames) (hR : (rest.map fun v => v.category).sum + 13 ≤ R.locals) (hc : cells ≤ R.cells) (hs : slots ≤ R.slots) (k : jv_V p l e R s m args below meth c cells slots Q D A nL ws lv (pc + 3) (.int (if y < x then y else x) :: rest)) : jv_V p l e R s m args below meth c cells slots Q D A nL ws lv pc (.int y :: .int x :: rest) :=
  fun H locs ls hP hD hS h => va_mmin C.1 C.2.1 (C.2.2.1.trans h.1.symm) C.2.2.2.1 (C.2.2.2.2.1.2 _ hl rfl args) (C.2.2.2.2.1.2 _ jm_min.1 rfl args) (C.2.2.2.2.1.2 _ jm_max.2.1 rfl args) (C.2.2.2.2.1.2 _ jm_min.2 rfl args) hf hR hc hs hdg (k H locs ls hP hD hS h)
theorem jv_popv (C : jv_C p s m args meth c cc own nL D dA zz A) {v : Value} (hdg : decode cc pc = .ok (.pop, 1)) (hv : v.category = 1) (k : jv_V p l e R s m args below meth c cells slots Q D A nL ws lv (pc + 1) rest) : jv_V p l e R s m args below meth c cells slots Q D A nL ws lv pc (v :: rest) := jv_pop C hdg hv k
end JVS
