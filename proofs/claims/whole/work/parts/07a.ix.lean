/-- the place of a sign among the things -/
def fn_ix (x : Int32) : Int32 := if x = 113 then 0 else if x = 115 then 1 else if x = 109 then 2 else if x = 120 then 3 else if x = 116 then 4 else if x = 117 then 5 else if x = 101 then 6 else if x = 110 then 7 else if x = 100 then 8 else (-1)
section ZX
variable {p : Program} {l : Launch} {e : Env} {R : Room} {s : State} {m : MethodId} {args : Array Value} {below : List Frame} {meth : Method} {cd : Code} {cells slots : Nat} {Q : State → Prop} {g : zw_G} {cc : ByteArray} {own : String} {ret : Option FieldType} {nL : Nat} {sh : zw_Sh} {rr : zw_RR} {pc : Nat} {L : zw_Lc} {c : zw_Ct} {st : List Value}
theorem r_indexOf (X : zw_FX p R s m args meth cd cells slots g cc R_Text ret nL) {x : Int32} (d1 : decode cc pc = .ok (.ldc 75, 2)) (d2 : decode cc (pc + 2) = .ok (.iload_n 1, 1)) (d3 : decode cc (pc + 3) = .ok (.i2c, 1)) (d4 : decode cc (pc + 4) = .ok (.invokevirtual 77, 3)) (hl : L[1]? = some (some (.int x))) (kk : ZW p l e R s m args below meth cd cells slots Q g nL sh rr (pc + 7) L c (.int (fn_ix (x.toUInt32 % 65536).toInt32) :: st)) : ZW p l e R s m args below meth cd cells slots Q g nL sh rr pc L c st := sorry
end ZX
