section JVY
variable {p : Program} {l : Launch} {e : Env} {R : Room} {s : State} {m : MethodId} {args : Array Value} {below : List Frame} {meth : Method} {c : Code} {cells slots : Nat} {Q : State → Prop} {cc : ByteArray} {own : String} {nL : Nat} {D : va_G} {dA : Nat → ClassId} {zz : (Nat → Nat) × (Nat → Nat)} {A : Nat → Prop} {ws : va_W} {lv : List (Nat × Value)} {pc : Nat} {rest : List Value}
theorem jv_lveq {lv' : List (Nat × Value)} {st : List Value} (h : lv = lv') (k : jv_V p l e R s m args below meth c cells slots Q D A nL ws lv' pc st) : jv_V p l e R s m args below meth c cells slots Q D A nL ws lv pc st := by rw [h]; exact k
end JVY
