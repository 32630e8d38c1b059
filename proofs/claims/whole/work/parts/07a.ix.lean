/-- the place of a sign among the things -/
def fn_ix (x : Int32) : Int32 := if x = 113 then 0 else if x = 115 then 1 else if x = 109 then 2 else if x = 120 then 3 else if x = 116 then 4 else if x = 117 then 5 else if x = 101 then 6 else if x = 110 then 7 else if x = 100 then 8 else (-1)
/-! String.indexOf of the constant: walks over addresses (by program: wip/whole/gen/strrows.py) -/
theorem zw_cv0 (v : Value) : zw_cv 0 v = v := by cases v <;> simp [zw_cv]
theorem zw_map0 (st : List Value) : st.map (zw_cv 0) = st := by rw [show zw_cv 0 = id from funext zw_cv0, List.map_id]
def ZQ (p : Program) (l : Launch) (e : Env) (R : Room) (s : State) (m : MethodId) (args : Array Value) (below : List Frame) (meth : Method) (cd : Code) (cells slots : Nat) (Q : State → Prop) (g : zw_G) (nL : Nat) (sh : zw_Sh) (rr : zw_RR) (pc : Nat) (L : zw_Lc) (c : zw_Ct) (st : List Value) : Prop :=
  ∀ (ls : Array Slot) (H : Heap) (locs : List Loc), zw_LR 0 nL L ls → va_P g.1 classes (zw_ws g rr c sh) H → va_S (fun q => g.2.2.1 ≤ q) s.heap H locs → W p l e R s m args below meth cd H locs cells slots Q (F0 m pc ls (st.map (zw_cv 0)))
def zw_MetQ (l : Launch) (g : zw_G) (y : MethodName) (bytes : ByteArray) (maxL : Nat) (ret : Option FieldType) (lv : Nat) (rr : zw_RR) (sh : zw_Sh) (avs : List Value) (c : zw_Ct) (r : Int32) : Prop :=
  Met l y (.code y bytes maxL ret :: ktG) (zw_rm lv) (va_Pc (avs.map (zw_cv 0)) (zw_HR g rr sh c)) (zw_Q g rr sh (some (.int r)) c) 0 0 (fun q => g.2.2.1 ≤ q)
theorem zw_MetQ.of {l : Launch} {g : zw_G} {y : MethodName} {bytes : ByteArray} {maxL : Nat} {ret : Option FieldType} {lv : Nat} {rr : zw_RR} {sh : zw_Sh} {avs : List Value} {c : zw_Ct} {r : Int32} (hy : plainFor y = true) (hsl : (lg_sl (avs.map (zw_cv 0))).length ≤ maxL)
    (body : ∀ (p : Program) (e : Env) (s : State) (m : MethodId) (args : Array Value) (below : List Frame) (meth : Method) (cd : Code), zw_FX p (zw_rm lv) s m args meth cd 0 0 g bytes y.cls ret maxL → ZQ p l e (zw_rm lv) s m args below meth cd 0 0 (MQ below (zw_Q g rr sh (some (.int r)) c) args s 0 0 (fun q => g.2.2.1 ≤ q)) g maxL sh rr 0 (zw_entry avs maxL) c []) : zw_MetQ l g y bytes maxL ret lv rr sh avs c r := by
  unfold zw_MetQ Met
  refine MetFree.of_bodySF (code := bytes) (maxLocals := maxL) (ret := ret) hy ?_ ?_
  · intro args s m h hn
    obtain ⟨meth, c, h1, h2, h3, h4, h5, h6, -, -⟩ := Cond.code_spec hn (atoms_spec (ws := .code y bytes maxL ret :: ktG) h _ List.mem_cons_self)
    exact ⟨meth, c, h1, h2, h3, h4, h5, h6⟩
  intro p e s m args below meth cd s₁ B hml hv _
  have hh0 : s₁.heap = s.heap := by rw [B.state]; rfl
  suffices hW : W p l e (zw_rm lv) s m args below meth cd s.heap [] 0 0 (MQ below (zw_Q g rr sh (some (.int r)) c) args s 0 0 (fun q => g.2.2.1 ≤ q)) (entryFrame m args maxL) by
    obtain ⟨t, a1, o, b1, b2, b3⟩ := hW s₁ hh0 (Stand.of_body B)
    exact ⟨t, o, a1, b1, b2, ⟨b3.1, b3.2⟩⟩
  obtain ⟨rfl, h1, h2, h3, h4, h5⟩ := hv
  have hts := atoms_spec (ws := .code y bytes maxL ret :: ktG) B.pre
  have X : zw_FX p (zw_rm lv) s m (avs.map (zw_cv 0)).toArray meth cd 0 0 g bytes y.cls ret maxL := ⟨B.exec, B.bytes, hml, findClass_of_methodNamed B.named, fun w hw => hts w (List.mem_cons_of_mem _ hw), h2, h3, h5, h4, B.notSynchronized, B.returns, Nat.le_refl _, Nat.le_refl _⟩
  rw [lg_entry_eq]
  exact body p e s m _ below meth cd X _ s.heap [] (zw_LR_entry avs maxL hsl) h1 va_S.rf

section ZQS
variable {p : Program} {l : Launch} {e : Env} {R : Room} {s : State} {m : MethodId} {args : Array Value} {below : List Frame} {meth : Method} {cd : Code} {cells slots : Nat} {Q : State → Prop} {g : zw_G} {cc : ByteArray} {own : String} {ret : Option FieldType} {nL : Nat} {sh : zw_Sh} {rr : zw_RR} {pc : Nat} {L : zw_Lc} {c : zw_Ct} {st : List Value}
theorem q_iconst (X : zw_FX p R s m args meth cd cells slots g cc own ret nL) {n : Int} {v : Int32} (d : decode cc pc = .ok (.iconst n, 1)) (hv : Int32.ofInt n = v) (k : ZQ p l e R s m args below meth cd cells slots Q g nL sh rr (pc + 1) L c (.int v :: st)) : ZQ p l e R s m args below meth cd cells slots Q g nL sh rr pc L c st := fun ls H locs h1 h2 h3 => lv_iconst X.1 X.2.1 d hv (k ls H locs h1 h2 h3)
theorem q_sipush (X : zw_FX p R s m args meth cd cells slots g cc own ret nL) {n : Int} {v : Int32} (d : decode cc pc = .ok (.sipush n, 3)) (hv : (Int16.ofInt n).toInt32 = v) (k : ZQ p l e R s m args below meth cd cells slots Q g nL sh rr (pc + 3) L c (.int v :: st)) : ZQ p l e R s m args below meth cd cells slots Q g nL sh rr pc L c st := fun ls H locs h1 h2 h3 => lv_sipush X.1 X.2.1 d hv (k ls H locs h1 h2 h3)
theorem q_iload_n (X : zw_FX p R s m args meth cd cells slots g cc own ret nL) {k : Fin 4} {i : Nat} {x : Int32} (d : decode cc pc = .ok (.iload_n k, 1)) (hi : (k : Nat) = i) (hl : L[i]? = some (some (.int x))) (k : ZQ p l e R s m args below meth cd cells slots Q g nL sh rr (pc + 1) L c (.int x :: st)) : ZQ p l e R s m args below meth cd cells slots Q g nL sh rr pc L c st := fun ls H locs h1 h2 h3 => lv_iload_n X.1 X.2.1 d hi (h1.2.2 i _ hl) (k ls H locs h1 h2 h3)
theorem q_iload (X : zw_FX p R s m args meth cd cells slots g cc own ret nL) {i : Nat} {x : Int32} (d : decode cc pc = .ok (.iload i, 2)) (hl : L[i]? = some (some (.int x))) (k : ZQ p l e R s m args below meth cd cells slots Q g nL sh rr (pc + 2) L c (.int x :: st)) : ZQ p l e R s m args below meth cd cells slots Q g nL sh rr pc L c st := fun ls H locs h1 h2 h3 => lv_iload X.1 X.2.1 d (h1.2.2 i _ hl) (k ls H locs h1 h2 h3)
theorem q_istore_n (X : zw_FX p R s m args meth cd cells slots g cc own ret nL) {k : Fin 4} {i : Nat} {x : Int32} {L2 : zw_Lc} (d : decode cc pc = .ok (.istore_n k, 1)) (hi : (k : Nat) = i) (hn : i < nL) (hL : zw_s1 L i (.int x) = L2) (k2 : ZQ p l e R s m args below meth cd cells slots Q g nL sh rr (pc + 1) L2 c st) : ZQ p l e R s m args below meth cd cells slots Q g nL sh rr pc L c (.int x :: st) := fun ls H locs h1 h2 h3 => lv_istore_n X.1 X.2.1 d hi (zw_LR_has h1) hn rfl (fun ls2 h => k2 ls2 H locs (by rw [← hL]; exact zw_LR_s1 (v := .int x) h) h2 h3)
theorem q_istore (X : zw_FX p R s m args meth cd cells slots g cc own ret nL) {i : Nat} {x : Int32} {L2 : zw_Lc} (d : decode cc pc = .ok (.istore i, 2)) (hn : i < nL) (hL : zw_s1 L i (.int x) = L2) (k2 : ZQ p l e R s m args below meth cd cells slots Q g nL sh rr (pc + 2) L2 c st) : ZQ p l e R s m args below meth cd cells slots Q g nL sh rr pc L c (.int x :: st) := fun ls H locs h1 h2 h3 => lv_istore X.1 X.2.1 d (zw_LR_has h1) hn rfl (fun ls2 h => k2 ls2 H locs (by rw [← hL]; exact zw_LR_s1 (v := .int x) h) h2 h3)
theorem q_aload_n (X : zw_FX p R s m args meth cd cells slots g cc own ret nL) {k : Fin 4} {i : Nat} {x : Nat} (d : decode cc pc = .ok (.aload_n k, 1)) (hi : (k : Nat) = i) (hl : L[i]? = some (some (.ref x))) (k : ZQ p l e R s m args below meth cd cells slots Q g nL sh rr (pc + 1) L c (.ref x :: st)) : ZQ p l e R s m args below meth cd cells slots Q g nL sh rr pc L c st := fun ls H locs h1 h2 h3 => lv_aload_n X.1 X.2.1 d hi (h1.2.2 i _ hl) (k ls H locs h1 h2 h3)
theorem q_iinc (X : zw_FX p R s m args meth cd cells slots g cc own ret nL) {i : Nat} {n : Int} {x k : Int32} {L2 : zw_Lc} (d : decode cc pc = .ok (.iinc i n, 3)) (hl : L[i]? = some (some (.int x))) (hv : Int32.ofInt n = k) (hn : i < nL) (hL : zw_s1 L i (.int (x + k)) = L2) (k2 : ZQ p l e R s m args below meth cd cells slots Q g nL sh rr (pc + 3) L2 c st) : ZQ p l e R s m args below meth cd cells slots Q g nL sh rr pc L c st := by
  intro ls H locs h1 h2 h3
  have hm : (i, Value.int x) ∈ zw_as 0 L := zw_as_mem.mpr ⟨.int x, hl, rfl⟩
  obtain ⟨kk, hk⟩ := List.getElem?_of_mem hm
  exact lv_iinc X.1 X.2.1 d (zw_LR_has h1) hk (by rw [hv]) hn rfl (fun ls2 h => k2 ls2 H locs (by rw [← hL]; exact zw_LR_s1 (v := .int (x + k)) h) h2 h3)
theorem q_ishr (X : zw_FX p R s m args meth cd cells slots g cc own ret nL) {x y : Int32} (d : decode cc pc = .ok (.ishr, 1)) (k : ZQ p l e R s m args below meth cd cells slots Q g nL sh rr (pc + 1) L c (.int (x >>> (y &&& 31)) :: st)) : ZQ p l e R s m args below meth cd cells slots Q g nL sh rr pc L c (.int y :: .int x :: st) := fun ls H locs h1 h2 h3 => lv_ishr X.1 X.2.1 d (k ls H locs h1 h2 h3)
theorem q_i2b (X : zw_FX p R s m args meth cd cells slots g cc own ret nL) {x : Int32} (d : decode cc pc = .ok (.i2b, 1)) (k : ZQ p l e R s m args below meth cd cells slots Q g nL sh rr (pc + 1) L c (.int x.toInt8.toInt32 :: st)) : ZQ p l e R s m args below meth cd cells slots Q g nL sh rr pc L c (.int x :: st) := fun ls H locs h1 h2 h3 => lv_i2b X.1 X.2.1 d rfl (k ls H locs h1 h2 h3)
theorem q_goto (X : zw_FX p R s m args meth cd cells slots g cc own ret nL) {off : Int} {tgt : Nat} (d : decode cc pc = .ok (.goto off, 3)) (ht : (pc : Int) + off = (tgt : Int)) (k : ZQ p l e R s m args below meth cd cells slots Q g nL sh rr tgt L c st) : ZQ p l e R s m args below meth cd cells slots Q g nL sh rr pc L c st := fun ls H locs h1 h2 h3 => lv_goto X.1 X.2.1 d ht (k ls H locs h1 h2 h3)
theorem q_if_lt (X : zw_FX p R s m args meth cd cells slots g cc own ret nL) {x : Int32} {off : Int} {tgt : Nat} (d : decode cc pc = .ok (.ifCond .lt off, 3)) (ht : (pc : Int) + off = (tgt : Int)) (kt : x < 0 → ZQ p l e R s m args below meth cd cells slots Q g nL sh rr tgt L c st) (kf : ¬ x < 0 → ZQ p l e R s m args below meth cd cells slots Q g nL sh rr (pc + 3) L c st) : ZQ p l e R s m args below meth cd cells slots Q g nL sh rr pc L c (.int x :: st) := fun ls H locs h1 h2 h3 => lv_if_lt X.1 X.2.1 d ht (fun q => kt q ls H locs h1 h2 h3) (fun q => kf q ls H locs h1 h2 h3)
theorem q_if_eq (X : zw_FX p R s m args meth cd cells slots g cc own ret nL) {x : Int32} {off : Int} {tgt : Nat} (d : decode cc pc = .ok (.ifCond .eq off, 3)) (ht : (pc : Int) + off = (tgt : Int)) (kt : x = 0 → ZQ p l e R s m args below meth cd cells slots Q g nL sh rr tgt L c st) (kf : ¬ x = 0 → ZQ p l e R s m args below meth cd cells slots Q g nL sh rr (pc + 3) L c st) : ZQ p l e R s m args below meth cd cells slots Q g nL sh rr pc L c (.int x :: st) := fun ls H locs h1 h2 h3 => lv_if_eq X.1 X.2.1 d ht (fun q => kt q ls H locs h1 h2 h3) (fun q => kf q ls H locs h1 h2 h3)
theorem q_if_ne (X : zw_FX p R s m args meth cd cells slots g cc own ret nL) {x : Int32} {off : Int} {tgt : Nat} (d : decode cc pc = .ok (.ifCond .ne off, 3)) (ht : (pc : Int) + off = (tgt : Int)) (kt : ¬ x = 0 → ZQ p l e R s m args below meth cd cells slots Q g nL sh rr tgt L c st) (kf : x = 0 → ZQ p l e R s m args below meth cd cells slots Q g nL sh rr (pc + 3) L c st) : ZQ p l e R s m args below meth cd cells slots Q g nL sh rr pc L c (.int x :: st) := fun ls H locs h1 h2 h3 => lv_if_ne X.1 X.2.1 d ht (fun q => kt q ls H locs h1 h2 h3) (fun q => kf q ls H locs h1 h2 h3)
theorem q_icmp_ge (X : zw_FX p R s m args meth cd cells slots g cc own ret nL) {x y : Int32} {off : Int} {tgt : Nat} (d : decode cc pc = .ok (.if_icmp .ge off, 3)) (ht : (pc : Int) + off = (tgt : Int)) (kt : y ≤ x → ZQ p l e R s m args below meth cd cells slots Q g nL sh rr tgt L c st) (kf : ¬ y ≤ x → ZQ p l e R s m args below meth cd cells slots Q g nL sh rr (pc + 3) L c st) : ZQ p l e R s m args below meth cd cells slots Q g nL sh rr pc L c (.int y :: .int x :: st) := fun ls H locs h1 h2 h3 => lv_icmp_ge X.1 X.2.1 d ht (fun q => kt q ls H locs h1 h2 h3) (fun q => kf q ls H locs h1 h2 h3)
theorem q_icmp_gt (X : zw_FX p R s m args meth cd cells slots g cc own ret nL) {x y : Int32} {off : Int} {tgt : Nat} (d : decode cc pc = .ok (.if_icmp .gt off, 3)) (ht : (pc : Int) + off = (tgt : Int)) (kt : y < x → ZQ p l e R s m args below meth cd cells slots Q g nL sh rr tgt L c st) (kf : ¬ y < x → ZQ p l e R s m args below meth cd cells slots Q g nL sh rr (pc + 3) L c st) : ZQ p l e R s m args below meth cd cells slots Q g nL sh rr pc L c (.int y :: .int x :: st) := fun ls H locs h1 h2 h3 => lv_icmp_gt X.1 X.2.1 d ht (fun q => kt q ls H locs h1 h2 h3) (fun q => kf q ls H locs h1 h2 h3)
theorem q_icmp_lt (X : zw_FX p R s m args meth cd cells slots g cc own ret nL) {x y : Int32} {off : Int} {tgt : Nat} (d : decode cc pc = .ok (.if_icmp .lt off, 3)) (ht : (pc : Int) + off = (tgt : Int)) (kt : x < y → ZQ p l e R s m args below meth cd cells slots Q g nL sh rr tgt L c st) (kf : ¬ x < y → ZQ p l e R s m args below meth cd cells slots Q g nL sh rr (pc + 3) L c st) : ZQ p l e R s m args below meth cd cells slots Q g nL sh rr pc L c (.int y :: .int x :: st) := fun ls H locs h1 h2 h3 => lv_icmp_lt X.1 X.2.1 d ht (fun q => kt q ls H locs h1 h2 h3) (fun q => kf q ls H locs h1 h2 h3)
theorem q_icmp_ne (X : zw_FX p R s m args meth cd cells slots g cc own ret nL) {x y : Int32} {off : Int} {tgt : Nat} (d : decode cc pc = .ok (.if_icmp .ne off, 3)) (ht : (pc : Int) + off = (tgt : Int)) (kt : ¬ x = y → ZQ p l e R s m args below meth cd cells slots Q g nL sh rr tgt L c st) (kf : x = y → ZQ p l e R s m args below meth cd cells slots Q g nL sh rr (pc + 3) L c st) : ZQ p l e R s m args below meth cd cells slots Q g nL sh rr pc L c (.int y :: .int x :: st) := fun ls H locs h1 h2 h3 => lv_icmp_ne X.1 X.2.1 d ht (fun q => kt q ls H locs h1 h2 h3) (fun q => kf q ls H locs h1 h2 h3)
theorem q_mmax (X : zw_FX p R s m args meth cd cells slots g cc own ret nL) {idx : Nat} {x y : Int32} (hlk : Cond.methodLink own idx Lib.Math.max.name ∈ ktG) (hstat : Cond.static Lib.Math.max.name ∈ ktG) (hini : Cond.initialized "java/lang/Math" ∈ ktG) (hcode : Cond.code Lib.Math.max.name Lib.Math.max.code 2 (some .int) ∈ ktG) (hR : 1 ≤ R.frames ∧ 8 + 13 ≤ R.locals) (hst : (st.map fun v => v.category).sum ≤ 8) (d : decode cc pc = .ok (.invokestatic idx, 3)) (kk : ZQ p l e R s m args below meth cd cells slots Q g nL sh rr (pc + 3) L c (.int (if x < y then y else x) :: st)) : ZQ p l e R s m args below meth cd cells slots Q g nL sh rr pc L c (.int y :: .int x :: st) := fun ls H locs h1 h2 h3 => va_mmax X.1 X.2.1 (X.2.2.1.trans h1.1.symm) X.2.2.2.1 (X.2.2.2.2.1 _ hlk) (X.2.2.2.2.1 _ hstat) (X.2.2.2.2.1 _ hini) (X.2.2.2.2.1 _ hcode) hR.1 (Nat.le_trans (Nat.add_le_add_right (zw_cats hst) _) hR.2) X.2.2.2.2.2.2.2.2.2.2.2.1 X.2.2.2.2.2.2.2.2.2.2.2.2 d (kk ls H locs h1 h2 h3)
theorem q_mmin (X : zw_FX p R s m args meth cd cells slots g cc own ret nL) {idx : Nat} {x y : Int32} (hlk : Cond.methodLink own idx Lib.Math.min.name ∈ ktG) (hstat : Cond.static Lib.Math.min.name ∈ ktG) (hini : Cond.initialized "java/lang/Math" ∈ ktG) (hcode : Cond.code Lib.Math.min.name Lib.Math.min.code 2 (some .int) ∈ ktG) (hR : 1 ≤ R.frames ∧ 8 + 13 ≤ R.locals) (hst : (st.map fun v => v.category).sum ≤ 8) (d : decode cc pc = .ok (.invokestatic idx, 3)) (kk : ZQ p l e R s m args below meth cd cells slots Q g nL sh rr (pc + 3) L c (.int (if y < x then y else x) :: st)) : ZQ p l e R s m args below meth cd cells slots Q g nL sh rr pc L c (.int y :: .int x :: st) := fun ls H locs h1 h2 h3 => va_mmin X.1 X.2.1 (X.2.2.1.trans h1.1.symm) X.2.2.2.1 (X.2.2.2.2.1 _ hlk) (X.2.2.2.2.1 _ hstat) (X.2.2.2.2.1 _ hini) (X.2.2.2.2.1 _ hcode) hR.1 (Nat.le_trans (Nat.add_le_add_right (zw_cats hst) _) hR.2) X.2.2.2.2.2.2.2.2.2.2.2.1 X.2.2.2.2.2.2.2.2.2.2.2.2 d (kk ls H locs h1 h2 h3)
theorem q_iret (X : zw_FX p R s m args meth cd cells slots g cc own ret nL) (hr : ret = some .int) {v : Int32} (d : decode cc pc = .ok (.ireturn, 1)) : ZQ p l e R s m args below meth cd cells slots (MQ below (zw_Q g rr sh (some (.int v)) c) args s cells slots (fun q => g.2.2.1 ≤ q)) g nL sh rr pc L c ([.int v]) := fun ls H locs h1 h2 h3 => W.iret X.1 X.2.1 (by rw [X.2.2.2.2.2.2.2.2.2.2.1, hr]) (fun t ht hW => ⟨rfl, zw_HR_at X h2 h3 ht hW, h3.F ht⟩) (fun q hq => h3.2.2 q hq) d (hlocks := X.2.2.2.2.2.2.2.2.2.1)
theorem q_zret (X : zw_FX p R s m args meth cd cells slots g cc own ret nL) {rt : FieldType} (hr : ret = some rt) {v : Int32} (hn : narrow rt (.int v) = .int v) (d : decode cc pc = .ok (.ireturn, 1)) : ZQ p l e R s m args below meth cd cells slots (MQ below (zw_Q g rr sh (some (.int v)) c) args s cells slots (fun q => g.2.2.1 ≤ q)) g nL sh rr pc L c ([.int v]) := fun ls H locs h1 h2 h3 => W.zret X.1 X.2.1 (by rw [X.2.2.2.2.2.2.2.2.2.2.1, hr]) hn (fun t ht hW => ⟨rfl, zw_HR_at X h2 h3 ht hW, h3.F ht⟩) (fun q hq => h3.2.2 q hq) d (hlocks := X.2.2.2.2.2.2.2.2.2.1)
theorem q_eL {L2 : zw_Lc} (h : L = L2) (k : ZQ p l e R s m args below meth cd cells slots Q g nL sh rr pc L2 c st) : ZQ p l e R s m args below meth cd cells slots Q g nL sh rr pc L c st := h ▸ k
theorem q_eI {x y : Int32} (h : x = y) (k : ZQ p l e R s m args below meth cd cells slots Q g nL sh rr pc L c (.int y :: st)) : ZQ p l e R s m args below meth cd cells slots Q g nL sh rr pc L c (.int x :: st) := h ▸ k
theorem q_coder (X : zw_FX p R s m args meth cd cells slots g cc own ret nL) {idx : Nat} (hlk : Cond.fieldLink own idx "java/lang/String" "coder" "B" ∈ ktG) (d : decode cc pc = .ok (.getfield idx, 3)) (kk : ZQ p l e R s m args below meth cd cells slots Q g nL sh rr (pc + 3) L c (.int 0 :: st)) : ZQ p l e R s m args below meth cd cells slots Q g nL sh rr pc L c (.ref (g.2.2.2.1 0) :: st) := by
  intro ls H locs h1 h2 h3
  rw [zw_map0]
  have k0 := kk ls H locs h1 h2 h3
  rw [zw_map0] at k0
  exact vk_getf X.1 X.2.1 (X.2.2.2.2.2.2.2.1.1.1 0 (by decide)).2.1 h3 X.2.2.2.1 (X.2.2.2.2.1 _ hlk) (fun _ h => h) d k0
theorem q_value (X : zw_FX p R s m args meth cd cells slots g cc own ret nL) {idx : Nat} (hlk : Cond.fieldLink own idx "java/lang/String" "value" "[B" ∈ ktG) (d : decode cc pc = .ok (.getfield idx, 3)) (kk : ZQ p l e R s m args below meth cd cells slots Q g nL sh rr (pc + 3) L c (.ref (g.2.2.2.2 0) :: st)) : ZQ p l e R s m args below meth cd cells slots Q g nL sh rr pc L c (.ref (g.2.2.2.1 0) :: st) := by
  intro ls H locs h1 h2 h3
  rw [zw_map0]
  have k0 := kk ls H locs h1 h2 h3
  rw [zw_map0] at k0
  exact vk_getf X.1 X.2.1 (X.2.2.2.2.2.2.2.1.1.1 0 (by decide)).2.2.1 h3 X.2.2.2.1 (X.2.2.2.2.1 _ hlk) (fun _ h => h) d k0
theorem q_compact (X : zw_FX p R s m args meth cd cells slots g cc own ret nL) {idx : Nat} (hlk : Cond.fieldLink own idx "java/lang/String" "COMPACT_STRINGS" "Z" ∈ ktG) (d : decode cc pc = .ok (.getstatic idx, 3)) (kk : ZQ p l e R s m args below meth cd cells slots Q g nL sh rr (pc + 3) L c (.int 1 :: st)) : ZQ p l e R s m args below meth cd cells slots Q g nL sh rr pc L c st := by
  intro ls H locs h1 h2 h3
  rw [zw_map0]
  have k0 := kk ls H locs h1 h2 h3
  rw [zw_map0] at k0
  exact va_gets X.1 X.2.1 X.2.2.2.2.2.2.2.1.2.2 h3 X.2.2.2.1 (X.2.2.2.2.1 _ hlk) (fun _ h => h) d k0
theorem q_len (X : zw_FX p R s m args meth cd cells slots g cc own ret nL) (d : decode cc pc = .ok (.arraylength, 1)) (kk : ZQ p l e R s m args below meth cd cells slots Q g nL sh rr (pc + 1) L c (.int 9 :: st)) : ZQ p l e R s m args below meth cd cells slots Q g nL sh rr pc L c (.ref (g.2.2.2.2 0) :: st) := by
  intro ls H locs h1 h2 h3
  rw [zw_map0]
  have k0 := kk ls H locs h1 h2 h3
  rw [zw_map0] at k0
  exact va_tlen X.1 X.2.1 (X.2.2.2.2.2.2.2.1.1.1 0 (by decide)).2.2.2 h3 (v := 9) rfl d k0
theorem q_byte (X : zw_FX p R s m args meth cd cells slots g cc own ret nL) {i x : Int32} (hi : vp_in i 9) (hx : ([113, 115, 109, 120, 116, 117, 101, 110, 100] : List Int32).getD i.toNatClampNeg 0 = x) (d : decode cc pc = .ok (.baload, 1)) (kk : ZQ p l e R s m args below meth cd cells slots Q g nL sh rr (pc + 1) L c (.int x :: st)) : ZQ p l e R s m args below meth cd cells slots Q g nL sh rr pc L c (.int i :: .ref (g.2.2.2.2 0) :: st) := by
  intro ls H locs h1 h2 h3
  rw [zw_map0]
  have k0 := kk ls H locs h1 h2 h3
  rw [zw_map0] at k0
  exact va_tb X.1 X.2.1 (X.2.2.2.2.2.2.2.1.1.1 0 (by decide)).2.2.2 h3 hi (v := .int x) (congrArg Value.int hx) d k0
theorem q_call {own' : String} (X : zw_FX p R s m args meth cd cells slots g cc own' ret nL) {rest : List Value} {st0 : List Value} {ls : Array Slot} {H : Heap} {locs : List Loc} {a : Array Value} {r : Int32} (hr : va_Run p l e R s m args below meth cd H locs cells slots 0 0 (F0 m pc ls st0) rest (zw_Q g rr sh (some (.int r)) c a) (fun q => g.2.2.1 ≤ q)) (hS : va_S (fun q => g.2.2.1 ≤ q) s.heap H locs)
    (kk : ∀ (H1 : Heap) (locs1 : List Loc), va_P g.1 classes (zw_ws g rr c sh) H1 → va_S (fun q => g.2.2.1 ≤ q) s.heap H1 locs1 → W p l e R s m args below meth cd H1 locs1 cells slots Q (F0 m (pc + 3) ls (.int r :: rest))) : W p l e R s m args below meth cd H locs cells slots Q (F0 m pc ls st0) := by
  intro T hT X'
  obtain ⟨v, st₀, t, T', L', h0, X2, hL, e1, e2, ⟨hv, hH, hz, hk⟩, st⟩ := hr T hT X'
  cases hv
  rw [h0] at hz hk
  obtain ⟨t2, a1, b1⟩ := kk T'.heap (locs ++ L') (by rw [e1]; exact hH.1)
    ⟨Nat.le_trans hS.1 (by rw [e1]; exact hz), fun q g1 g2 => by rw [e1, hk q (Nat.lt_of_lt_of_le g1 hS.1) g2]; exact hS.2.1 q g1 g2, fun q hq => by
      rcases List.mem_append.mp hq with h | h
      · exact hS.2.2 q h
      · exact hL q h⟩ T' rfl X2
  exact ⟨t2, st t2 a1, b1⟩
theorem q_good {own : String} {idx : Nat} {y : MethodName} {bytes : ByteArray} {maxL : Nat} {ret' : Option FieldType} {n : Nat} (hce : zw_cev y bytes maxL ret' n) (hlk : Cond.methodLink own idx y ∈ ktG) : GoodIn ktG (wsV own idx y.cls y (.code y bytes maxL ret' :: ktG)) := by
  intro w hw
  obtain ⟨⟨hcode, hini, hd⟩, hinst, hsel⟩ := hce
  rcases List.mem_append.mp hw with h | h
  · have : w ∈ ktG := by
      rcases List.mem_cons.mp h with rfl | h
      · exact hlk
      rcases List.mem_cons.mp h with rfl | h
      · exact hinst
      rcases List.mem_cons.mp h with rfl | h
      · exact hsel
      rcases List.mem_cons.mp h with rfl | h
      · exact hini
      · cases h
    exact kt_good w this
  · exact kt_cons hcode w h
theorem q_callV (X : zw_FX p R s m args meth cd cells slots g cc own ret nL) {y : MethodName} {bytes : ByteArray} {maxL : Nat} {ret' : Option FieldType} {lv : Nat} {As : List Value} {r : Int32} {idx n : Nat} (hM : zw_MetQ l g y bytes maxL ret' lv rr sh (.ref (g.2.2.2.1 0) :: As) c r) (hce : zw_cev y bytes maxL ret' n) (hlk : Cond.methodLink own idx y ∈ ktG) (hcls : y.cls = "java/lang/String") (hn : As.length = n) (hR : lv + 1 ≤ R.frames ∧ 8 + (maxL + 11) + 48 * lv ≤ R.locals) (hst : (st.map fun v => v.category).sum ≤ 8) (d : decode cc pc = .ok (.invokevirtual idx, 3)) (kk : ZQ p l e R s m args below meth cd cells slots Q g nL sh rr (pc + 3) L c (.int r :: st)) : ZQ p l e R s m args below meth cd cells slots Q g nL sh rr pc L c (As.reverse ++ .ref (g.2.2.2.1 0) :: st) := by
  intro ls H locs h1 h2 h3
  have hG := q_good hce hlk
  unfold zw_MetQ at hM
  rw [zw_map0] at hM
  rw [zw_map0]
  refine q_call X (va_runV (As := As) (rest := st) (n := n) ⟨X.1, X.2.1, X.2.2.1, X.2.2.2.1, X.2.2.2.2.1⟩ hM (cwV n X.2.2.2.2.1 hG rfl rfl rfl ⟨rfl, hce.1.2.2⟩ hR) ⟨zw_HR_blind, by rw [hcls]; exact vk_recv X.2.2.2.2.2.2.2.1.1 (by decide) h3, fun U hU hW => ⟨rfl, zw_HR_at X h2 h3 hU hW⟩⟩ rfl hn h1.1 rfl (lv_room hst) d ⟨X.2.2.2.2.2.2.2.2.2.2.2.1, X.2.2.2.2.2.2.2.2.2.2.2.2⟩) h3 (fun H1 locs1 a1 a2 => ?_)
  have k0 := kk ls H1 locs1 h1 a1 a2
  rw [zw_map0] at k0
  exact k0
theorem q_callS (X : zw_FX p R s m args meth cd cells slots g cc own ret nL) {y : MethodName} {bytes : ByteArray} {maxL : Nat} {ret' : Option FieldType} {lv : Nat} {As : List Value} {r : Int32} {idx n : Nat} (hM : zw_MetQ l g y bytes maxL ret' lv rr sh As c r) (hce : zw_ces y bytes maxL ret' n) (hlk : Cond.methodLink own idx y ∈ ktG) (hn : As.length = n) (hR : lv + 1 ≤ R.frames ∧ 8 + (maxL + 11) + 48 * lv ≤ R.locals) (hst : (st.map fun v => v.category).sum ≤ 8) (d : decode cc pc = .ok (.invokestatic idx, 3)) (kk : ZQ p l e R s m args below meth cd cells slots Q g nL sh rr (pc + 3) L c (.int r :: st)) : ZQ p l e R s m args below meth cd cells slots Q g nL sh rr pc L c (As.reverse ++ st) := by
  intro ls H locs h1 h2 h3
  obtain ⟨⟨hcode, hini, hd⟩, hstat⟩ := hce
  unfold zw_MetQ at hM
  rw [zw_map0] at hM
  rw [zw_map0]
  refine q_call X (va_runS (As := As) (rest := st) (n := n) ⟨X.1, X.2.1, X.2.2.1, X.2.2.2.1, X.2.2.2.2.1⟩ hM ⟨callB_of n X.2.2.2.2.1 (kt_cons hcode) rfl rfl rfl (X.2.2.2.2.1 _ hini) (X.2.2.2.2.1 _ hlk) hd hR, X.2.2.2.2.1 _ hstat⟩ ⟨zw_HR_blind, fun U hU hW => ⟨rfl, zw_HR_at X h2 h3 hU hW⟩⟩ rfl hn h1.1 rfl (lv_room hst) d ⟨X.2.2.2.2.2.2.2.2.2.2.2.1, X.2.2.2.2.2.2.2.2.2.2.2.2⟩) h3 (fun H1 locs1 a1 a2 => ?_)
  have k0 := kk ls H1 locs1 h1 a1 a2
  rw [zw_map0] at k0
  exact k0
end ZQS
theorem kw_588 : (.methodLink "java/lang/String" 633 ⟨"java/lang/String", "indexOf", "(II)I"⟩ : Cond) ∈ ktG := kt_in 588 (by decide +kernel) rfl
theorem kw_592 : (.methodLink "java/lang/String" 492 ⟨"java/lang/String", "isLatin1", "()Z"⟩ : Cond) ∈ ktG := kt_in 592 (by decide +kernel) rfl
theorem kw_596 : (.fieldLink "java/lang/String" 38 "java/lang/String" "COMPACT_STRINGS" "Z" : Cond) ∈ ktG := kt_in 596 (by decide +kernel) rfl
theorem kw_598 : (.methodLink "java/lang/String" 505 ⟨"java/lang/String", "length", "()I"⟩ : Cond) ∈ ktG := kt_in 598 (by decide +kernel) rfl
theorem kw_602 : (.methodLink "java/lang/String" 335 ⟨"java/lang/String", "coder", "()B"⟩ : Cond) ∈ ktG := kt_in 602 (by decide +kernel) rfl
theorem kw_606 : (.methodLink "java/lang/String" 637 ⟨"java/lang/StringLatin1", "indexOf", "([BIII)I"⟩ : Cond) ∈ ktG := kt_in 606 (by decide +kernel) rfl
theorem kw_609 : (.methodLink "java/lang/StringLatin1" 88 ⟨"java/lang/StringLatin1", "canEncode", "(I)Z"⟩ : Cond) ∈ ktG := kt_in 609 (by decide +kernel) rfl
theorem kw_612 : (.methodLink "java/lang/StringLatin1" 92 ⟨"java/lang/Math", "max", "(II)I"⟩ : Cond) ∈ ktG := kt_in 612 (by decide +kernel) rfl
theorem kw_613 : (.methodLink "java/lang/StringLatin1" 38 ⟨"java/lang/Math", "min", "(II)I"⟩ : Cond) ∈ ktG := kt_in 613 (by decide +kernel) rfl
theorem kw_614 : (.methodLink "java/lang/StringLatin1" 95 ⟨"java/lang/StringLatin1", "indexOfChar", "([BIII)I"⟩ : Cond) ∈ ktG := kt_in 614 (by decide +kernel) rfl
theorem kw_2035 : (.fieldLink "java/lang/String" 15 "java/lang/String" "coder" "B" : Cond) ∈ ktG := kt_in 2035 (by decide +kernel) rfl
theorem kw_2036 : (.fieldLink "java/lang/String" 9 "java/lang/String" "value" "[B" : Cond) ∈ ktG := kt_in 2036 (by decide +kernel) rfl
theorem kwi_math : Cond.initialized "java/lang/Math" ∈ ktG := kt_in 88 (by decide +kernel) rfl
def y_Str_coder : MethodName := ⟨"java/lang/String", "coder", "()B"⟩
abbrev b_Str_coder : ByteArray := prog_22_method_152_code
def dl_Str_coder : List (Nat × Instr × Nat) := [(0, .getstatic 38, 3), (3, .ifCond .eq 10, 3), (6, .aload_n 0, 1), (7, .getfield 15, 3), (10, .goto 4, 3), (13, .iconst 1, 1), (14, .ireturn, 1)]
theorem dk_Str_coder : zw_dk b_Str_coder dl_Str_coder = true := by decide +kernel
theorem ce_Str_coder : zw_cev y_Str_coder b_Str_coder 1 (some .byte) 0 := ⟨⟨kt_in 605 (by decide +kernel) rfl, kt_in 103 (by decide +kernel) rfl, by decide +kernel⟩, kt_in 603 (by decide +kernel) rfl, kt_in 604 (by decide +kernel) rfl⟩
def y_Str_isLatin1 : MethodName := ⟨"java/lang/String", "isLatin1", "()Z"⟩
abbrev b_Str_isLatin1 : ByteArray := prog_22_method_154_code
def dl_Str_isLatin1 : List (Nat × Instr × Nat) := [(0, .getstatic 38, 3), (3, .ifCond .eq 14, 3), (6, .aload_n 0, 1), (7, .getfield 15, 3), (10, .ifCond .ne 7, 3), (13, .iconst 1, 1), (14, .goto 4, 3), (17, .iconst 0, 1), (18, .ireturn, 1)]
theorem dk_Str_isLatin1 : zw_dk b_Str_isLatin1 dl_Str_isLatin1 = true := by decide +kernel
theorem ce_Str_isLatin1 : zw_cev y_Str_isLatin1 b_Str_isLatin1 1 (some .boolean) 0 := ⟨⟨kt_in 595 (by decide +kernel) rfl, kt_in 103 (by decide +kernel) rfl, by decide +kernel⟩, kt_in 593 (by decide +kernel) rfl, kt_in 594 (by decide +kernel) rfl⟩
def y_Str_length : MethodName := ⟨"java/lang/String", "length", "()I"⟩
abbrev b_Str_length : ByteArray := prog_22_method_54_code
def dl_Str_length : List (Nat × Instr × Nat) := [(0, .aload_n 0, 1), (1, .getfield 9, 3), (4, .arraylength, 1), (5, .aload_n 0, 1), (6, .invokevirtual 335, 3), (9, .ishr, 1), (10, .ireturn, 1)]
theorem dk_Str_length : zw_dk b_Str_length dl_Str_length = true := by decide +kernel
theorem ce_Str_length : zw_cev y_Str_length b_Str_length 1 (some .int) 0 := ⟨⟨kt_in 601 (by decide +kernel) rfl, kt_in 103 (by decide +kernel) rfl, by decide +kernel⟩, kt_in 599 (by decide +kernel) rfl, kt_in 600 (by decide +kernel) rfl⟩
def y_Lat_canEncode : MethodName := ⟨"java/lang/StringLatin1", "canEncode", "(I)Z"⟩
abbrev b_Lat_canEncode : ByteArray := prog_23_method_4_code
def dl_Lat_canEncode : List (Nat × Instr × Nat) := [(0, .iload_n 0, 1), (1, .ifCond .lt 14, 3), (4, .iload_n 0, 1), (5, .sipush 255, 3), (8, .if_icmp .gt 7, 3), (11, .iconst 1, 1), (12, .goto 4, 3), (15, .iconst 0, 1), (16, .ireturn, 1)]
theorem dk_Lat_canEncode : zw_dk b_Lat_canEncode dl_Lat_canEncode = true := by decide +kernel
theorem ce_Lat_canEncode : zw_ces y_Lat_canEncode b_Lat_canEncode 1 (some .boolean) 1 := ⟨⟨kt_in 611 (by decide +kernel) rfl, kt_in 104 (by decide +kernel) rfl, by decide +kernel⟩, kt_in 610 (by decide +kernel) rfl⟩
def y_Lat_indexOfChar : MethodName := ⟨"java/lang/StringLatin1", "indexOfChar", "([BIII)I"⟩
abbrev b_Lat_indexOfChar : ByteArray := prog_23_method_23_code
def dl_Lat_indexOfChar : List (Nat × Instr × Nat) := [(0, .iload_n 1, 1), (1, .i2b, 1), (2, .istore 4, 2), (4, .iload_n 2, 1), (5, .istore 5, 2), (7, .iload 5, 2), (9, .iload_n 3, 1), (10, .if_icmp .ge 21, 3), (13, .aload_n 0, 1), (14, .iload 5, 2), (16, .baload, 1), (17, .iload 4, 2), (19, .if_icmp .ne 6, 3), (22, .iload 5, 2), (24, .ireturn, 1), (25, .iinc 5 1, 3), (28, .goto (-21), 3), (31, .iconst (-1), 1), (32, .ireturn, 1)]
theorem dk_Lat_indexOfChar : zw_dk b_Lat_indexOfChar dl_Lat_indexOfChar = true := by decide +kernel
theorem ce_Lat_indexOfChar : zw_ces y_Lat_indexOfChar b_Lat_indexOfChar 6 (some .int) 4 := ⟨⟨kt_in 616 (by decide +kernel) rfl, kt_in 104 (by decide +kernel) rfl, by decide +kernel⟩, kt_in 615 (by decide +kernel) rfl⟩
def y_Lat_indexOf : MethodName := ⟨"java/lang/StringLatin1", "indexOf", "([BIII)I"⟩
abbrev b_Lat_indexOf : ByteArray := prog_23_method_22_code
def dl_Lat_indexOf : List (Nat × Instr × Nat) := [(0, .iload_n 1, 1), (1, .invokestatic 88, 3), (4, .ifCond .ne 5, 3), (7, .iconst (-1), 1), (8, .ireturn, 1), (9, .iload_n 2, 1), (10, .iconst 0, 1), (11, .invokestatic 92, 3), (14, .istore_n 2, 1), (15, .iload_n 3, 1), (16, .aload_n 0, 1), (17, .arraylength, 1), (18, .invokestatic 38, 3), (21, .istore_n 3, 1), (22, .iload_n 2, 1), (23, .iload_n 3, 1), (24, .if_icmp .lt 5, 3), (27, .iconst (-1), 1), (28, .ireturn, 1), (29, .aload_n 0, 1), (30, .iload_n 1, 1), (31, .iload_n 2, 1), (32, .iload_n 3, 1), (33, .invokestatic 95, 3), (36, .ireturn, 1)]
theorem dk_Lat_indexOf : zw_dk b_Lat_indexOf dl_Lat_indexOf = true := by decide +kernel
theorem ce_Lat_indexOf : zw_ces y_Lat_indexOf b_Lat_indexOf 4 (some .int) 4 := ⟨⟨kt_in 608 (by decide +kernel) rfl, kt_in 104 (by decide +kernel) rfl, by decide +kernel⟩, kt_in 607 (by decide +kernel) rfl⟩
def y_Str_indexOf2 : MethodName := ⟨"java/lang/String", "indexOf", "(II)I"⟩
abbrev b_Str_indexOf2 : ByteArray := prog_22_method_80_code
def dl_Str_indexOf2 : List (Nat × Instr × Nat) := [(0, .aload_n 0, 1), (1, .invokevirtual 492, 3), (4, .ifCond .eq 19, 3), (7, .aload_n 0, 1), (8, .getfield 9, 3), (11, .iload_n 1, 1), (12, .iload_n 2, 1), (13, .aload_n 0, 1), (14, .invokevirtual 505, 3), (17, .invokestatic 637, 3), (20, .goto 16, 3), (23, .aload_n 0, 1), (24, .getfield 9, 3), (27, .iload_n 1, 1), (28, .iload_n 2, 1), (29, .aload_n 0, 1), (30, .invokevirtual 505, 3), (33, .invokestatic 640, 3), (36, .ireturn, 1)]
theorem dk_Str_indexOf2 : zw_dk b_Str_indexOf2 dl_Str_indexOf2 = true := by decide +kernel
theorem ce_Str_indexOf2 : zw_cev y_Str_indexOf2 b_Str_indexOf2 3 (some .int) 2 := ⟨⟨kt_in 591 (by decide +kernel) rfl, kt_in 103 (by decide +kernel) rfl, by decide +kernel⟩, kt_in 589 (by decide +kernel) rfl, kt_in 590 (by decide +kernel) rfl⟩
def y_Str_indexOf : MethodName := ⟨"java/lang/String", "indexOf", "(I)I"⟩
abbrev b_Str_indexOf : ByteArray := prog_22_method_79_code
def dl_Str_indexOf : List (Nat × Instr × Nat) := [(0, .aload_n 0, 1), (1, .iload_n 1, 1), (2, .iconst 0, 1), (3, .invokevirtual 633, 3), (6, .ireturn, 1)]
theorem dk_Str_indexOf : zw_dk b_Str_indexOf dl_Str_indexOf = true := by decide +kernel
theorem ce_Str_indexOf : zw_cev y_Str_indexOf b_Str_indexOf 2 (some .int) 1 := ⟨⟨kt_in 587 (by decide +kernel) rfl, kt_in 103 (by decide +kernel) rfl, by decide +kernel⟩, kt_in 585 (by decide +kernel) rfl, kt_in 586 (by decide +kernel) rfl⟩
set_option maxRecDepth 100000 in
theorem km_Str_coder {l : Launch} {g : zw_G} {rr : zw_RR} {sh : zw_Sh} {c : zw_Ct} : zw_MetQ l g y_Str_coder b_Str_coder 1 (some .byte) 1 rr sh [.ref (g.2.2.2.1 0)] c 0 := by
  refine zw_MetQ.of (by decide +kernel) (Nat.le_of_ble_eq_true rfl) (fun p e s m args below meth cd X => ?_)
  refine q_eL (L2 := [some (.ref (g.2.2.2.1 0))]) rfl ?_
  refine q_compact X (pc := 0) kw_596 (zw_dg dk_Str_coder 0 rfl) ?_
  refine q_if_eq X (pc := 3) (tgt := 13) (zw_dg dk_Str_coder 1 rfl) (by decide) (fun q => absurd q (show ¬ (1 : Int32) = 0 from by decide)) (fun q => ?_)
  refine q_aload_n X (pc := 6) (i := 0) (zw_dg dk_Str_coder 2 rfl) rfl rfl ?_
  refine q_coder X (pc := 7) kw_2035 (zw_dg dk_Str_coder 3 rfl) ?_
  refine q_goto X (pc := 10) (tgt := 14) (zw_dg dk_Str_coder 4 rfl) (by decide) ?_
  exact q_zret X (pc := 14) rfl rfl (zw_dg dk_Str_coder 6 rfl)
set_option maxRecDepth 100000 in
theorem km_Str_isLatin1 {l : Launch} {g : zw_G} {rr : zw_RR} {sh : zw_Sh} {c : zw_Ct} : zw_MetQ l g y_Str_isLatin1 b_Str_isLatin1 1 (some .boolean) 1 rr sh [.ref (g.2.2.2.1 0)] c 1 := by
  refine zw_MetQ.of (by decide +kernel) (Nat.le_of_ble_eq_true rfl) (fun p e s m args below meth cd X => ?_)
  refine q_eL (L2 := [some (.ref (g.2.2.2.1 0))]) rfl ?_
  refine q_compact X (pc := 0) kw_596 (zw_dg dk_Str_isLatin1 0 rfl) ?_
  refine q_if_eq X (pc := 3) (tgt := 17) (zw_dg dk_Str_isLatin1 1 rfl) (by decide) (fun q => absurd q (show ¬ (1 : Int32) = 0 from by decide)) (fun q => ?_)
  refine q_aload_n X (pc := 6) (i := 0) (zw_dg dk_Str_isLatin1 2 rfl) rfl rfl ?_
  refine q_coder X (pc := 7) kw_2035 (zw_dg dk_Str_isLatin1 3 rfl) ?_
  refine q_if_ne X (pc := 10) (tgt := 17) (zw_dg dk_Str_isLatin1 4 rfl) (by decide) (fun q => absurd (show (0 : Int32) = 0 from by decide) q) (fun q => ?_)
  refine q_iconst X (pc := 13) (v := 1) (zw_dg dk_Str_isLatin1 5 rfl) (by decide) ?_
  refine q_goto X (pc := 14) (tgt := 18) (zw_dg dk_Str_isLatin1 6 rfl) (by decide) ?_
  exact q_zret X (pc := 18) rfl rfl (zw_dg dk_Str_isLatin1 8 rfl)
set_option maxRecDepth 100000 in
theorem km_Str_length {l : Launch} {g : zw_G} {rr : zw_RR} {sh : zw_Sh} {c : zw_Ct} : zw_MetQ l g y_Str_length b_Str_length 1 (some .int) 2 rr sh [.ref (g.2.2.2.1 0)] c 9 := by
  refine zw_MetQ.of (by decide +kernel) (Nat.le_of_ble_eq_true rfl) (fun p e s m args below meth cd X => ?_)
  refine q_eL (L2 := [some (.ref (g.2.2.2.1 0))]) rfl ?_
  refine q_aload_n X (pc := 0) (i := 0) (zw_dg dk_Str_length 0 rfl) rfl rfl ?_
  refine q_value X (pc := 1) kw_2036 (zw_dg dk_Str_length 1 rfl) ?_
  refine q_len X (pc := 4) (zw_dg dk_Str_length 2 rfl) ?_
  refine q_aload_n X (pc := 5) (i := 0) (zw_dg dk_Str_length 3 rfl) rfl rfl ?_
  refine q_callV X (pc := 6) (As := []) (st := [.int 9]) (km_Str_coder) ce_Str_coder kw_602 rfl rfl ⟨Nat.le_of_ble_eq_true rfl, Nat.le_of_ble_eq_true rfl⟩ (Nat.le_of_ble_eq_true rfl) (zw_dg dk_Str_length 4 rfl) ?_
  refine q_ishr X (pc := 9) (zw_dg dk_Str_length 5 rfl) ?_
  refine q_eI (show (9 : Int32) >>> ((0 : Int32) &&& 31) = 9 from by decide) ?_
  exact q_iret X (pc := 10) rfl (zw_dg dk_Str_length 6 rfl)
set_option maxRecDepth 100000 in
theorem km_Lat_canEncodeN {l : Launch} {g : zw_G} {rr : zw_RR} {sh : zw_Sh} {c : zw_Ct} {x : Int32} (h : x < 0) : zw_MetQ l g y_Lat_canEncode b_Lat_canEncode 1 (some .boolean) 1 rr sh [.int x] c 0 := by
  refine zw_MetQ.of (by decide +kernel) (Nat.le_of_ble_eq_true rfl) (fun p e s m args below meth cd X => ?_)
  refine q_eL (L2 := [some (.int x)]) rfl ?_
  refine q_iload_n X (pc := 0) (i := 0) (zw_dg dk_Lat_canEncode 0 rfl) rfl rfl ?_
  refine q_if_lt X (pc := 1) (tgt := 15) (zw_dg dk_Lat_canEncode 1 rfl) (by decide) (fun q => ?_) (fun q => absurd h q)
  refine q_iconst X (pc := 15) (v := 0) (zw_dg dk_Lat_canEncode 7 rfl) (by decide) ?_
  exact q_zret X (pc := 16) rfl rfl (zw_dg dk_Lat_canEncode 8 rfl)
set_option maxRecDepth 100000 in
theorem km_Lat_canEncodeB {l : Launch} {g : zw_G} {rr : zw_RR} {sh : zw_Sh} {c : zw_Ct} {x : Int32} (h0 : ¬ x < 0) (h : 255 < x) : zw_MetQ l g y_Lat_canEncode b_Lat_canEncode 1 (some .boolean) 1 rr sh [.int x] c 0 := by
  refine zw_MetQ.of (by decide +kernel) (Nat.le_of_ble_eq_true rfl) (fun p e s m args below meth cd X => ?_)
  refine q_eL (L2 := [some (.int x)]) rfl ?_
  refine q_iload_n X (pc := 0) (i := 0) (zw_dg dk_Lat_canEncode 0 rfl) rfl rfl ?_
  refine q_if_lt X (pc := 1) (tgt := 15) (zw_dg dk_Lat_canEncode 1 rfl) (by decide) (fun q => absurd q h0) (fun q => ?_)
  refine q_iload_n X (pc := 4) (i := 0) (zw_dg dk_Lat_canEncode 2 rfl) rfl rfl ?_
  refine q_sipush X (pc := 5) (v := 255) (zw_dg dk_Lat_canEncode 3 rfl) (by decide) ?_
  refine q_icmp_gt X (pc := 8) (tgt := 15) (zw_dg dk_Lat_canEncode 4 rfl) (by decide) (fun q => ?_) (fun q => absurd h q)
  refine q_iconst X (pc := 15) (v := 0) (zw_dg dk_Lat_canEncode 7 rfl) (by decide) ?_
  exact q_zret X (pc := 16) rfl rfl (zw_dg dk_Lat_canEncode 8 rfl)
set_option maxRecDepth 100000 in
theorem km_Lat_canEncodeY {l : Launch} {g : zw_G} {rr : zw_RR} {sh : zw_Sh} {c : zw_Ct} {x : Int32} (h0 : ¬ x < 0) (h : ¬ 255 < x) : zw_MetQ l g y_Lat_canEncode b_Lat_canEncode 1 (some .boolean) 1 rr sh [.int x] c 1 := by
  refine zw_MetQ.of (by decide +kernel) (Nat.le_of_ble_eq_true rfl) (fun p e s m args below meth cd X => ?_)
  refine q_eL (L2 := [some (.int x)]) rfl ?_
  refine q_iload_n X (pc := 0) (i := 0) (zw_dg dk_Lat_canEncode 0 rfl) rfl rfl ?_
  refine q_if_lt X (pc := 1) (tgt := 15) (zw_dg dk_Lat_canEncode 1 rfl) (by decide) (fun q => absurd q h0) (fun q => ?_)
  refine q_iload_n X (pc := 4) (i := 0) (zw_dg dk_Lat_canEncode 2 rfl) rfl rfl ?_
  refine q_sipush X (pc := 5) (v := 255) (zw_dg dk_Lat_canEncode 3 rfl) (by decide) ?_
  refine q_icmp_gt X (pc := 8) (tgt := 15) (zw_dg dk_Lat_canEncode 4 rfl) (by decide) (fun q => absurd q h) (fun q => ?_)
  refine q_iconst X (pc := 11) (v := 1) (zw_dg dk_Lat_canEncode 5 rfl) (by decide) ?_
  refine q_goto X (pc := 12) (tgt := 16) (zw_dg dk_Lat_canEncode 6 rfl) (by decide) ?_
  exact q_zret X (pc := 16) rfl rfl (zw_dg dk_Lat_canEncode 8 rfl)
theorem zs_b {x : Int32} (h0 : ¬ x < 0) (h : ¬ 255 < x) : ∃ n : Nat, n < 256 ∧ x = Int32.ofNat n := by
  have a0 := Int32.le_iff_toInt_le.mp (Int32.not_lt.mp h0)
  have a1 := Int32.le_iff_toInt_le.mp (Int32.not_lt.mp h)
  have e0 : (0 : Int32).toInt = 0 := by decide
  have e1 : (255 : Int32).toInt = 255 := by decide
  rw [e0] at a0; rw [e1] at a1
  refine ⟨x.toInt.toNat, by omega, ?_⟩
  apply Int32.toInt_inj.mp
  rw [Int32.toInt_ofNat_of_lt (by omega)]
  omega
theorem zs_bt : ∀ n : Nat, n < 256 → ∀ b ∈ ([113, 115, 109, 120, 116, 117, 101, 110, 100] : List Int32), (b = (Int32.ofNat n).toInt8.toInt32 ↔ Int32.ofNat n = b) := by decide +kernel
theorem zs_e {x : Int32} (h0 : ¬ x < 0) (h : ¬ 255 < x) (b : Int32) (hb : b ∈ ([113, 115, 109, 120, 116, 117, 101, 110, 100] : List Int32)) : b = x.toInt8.toInt32 ↔ x = b := by
  obtain ⟨n, hn, rfl⟩ := zs_b h0 h
  exact zs_bt n hn b hb
theorem fn_ix_out {x : Int32} (h : x < 0 ∨ 255 < x) : fn_ix x = -1 := by
  have e : ∀ b ∈ ([113, 115, 109, 120, 116, 117, 101, 110, 100] : List Int32), ¬ x = b := by
    intro b hb hx
    subst hx
    revert h
    revert x
    decide
  unfold fn_ix
  rw [if_neg (e 113 (by decide)), if_neg (e 115 (by decide)), if_neg (e 109 (by decide)), if_neg (e 120 (by decide)), if_neg (e 116 (by decide)), if_neg (e 117 (by decide)), if_neg (e 101 (by decide)), if_neg (e 110 (by decide)), if_neg (e 100 (by decide))]
set_option maxRecDepth 100000 in
theorem km_Lat_ioc0 {l : Launch} {g : zw_G} {rr : zw_RR} {sh : zw_Sh} {c : zw_Ct} {x : Int32} (h0 : ¬ x < 0) (h : ¬ 255 < x) (hx : x = 113) : zw_MetQ l g y_Lat_indexOfChar b_Lat_indexOfChar 6 (some .int) 1 rr sh [.ref (g.2.2.2.2 0), .int x, .int 0, .int 9] c 0 := by
  refine zw_MetQ.of (by decide +kernel) (Nat.le_of_ble_eq_true rfl) (fun p e s m args below meth cd X => ?_)
  refine q_eL (L2 := [some (.ref (g.2.2.2.2 0)), some (.int x), some (.int 0), some (.int 9), none, none]) rfl ?_
  refine q_iload_n X (pc := 0) (i := 1) (zw_dg dk_Lat_indexOfChar 0 rfl) rfl rfl ?_
  refine q_i2b X (pc := 1) (zw_dg dk_Lat_indexOfChar 1 rfl) ?_
  refine q_istore X (pc := 2) (i := 4) (L2 := [some (.ref (g.2.2.2.2 0)), some (.int x), some (.int 0), some (.int 9), some (.int (x).toInt8.toInt32), none]) (zw_dg dk_Lat_indexOfChar 2 rfl) (by decide) rfl ?_
  refine q_iload_n X (pc := 4) (i := 2) (zw_dg dk_Lat_indexOfChar 3 rfl) rfl rfl ?_
  refine q_istore X (pc := 5) (i := 5) (L2 := [some (.ref (g.2.2.2.2 0)), some (.int x), some (.int 0), some (.int 9), some (.int (x).toInt8.toInt32), some (.int 0)]) (zw_dg dk_Lat_indexOfChar 4 rfl) (by decide) rfl ?_
  refine q_iload X (pc := 7) (i := 5) (zw_dg dk_Lat_indexOfChar 5 rfl) rfl ?_
  refine q_iload_n X (pc := 9) (i := 3) (zw_dg dk_Lat_indexOfChar 6 rfl) rfl rfl ?_
  refine q_icmp_ge X (pc := 10) (tgt := 31) (zw_dg dk_Lat_indexOfChar 7 rfl) (by decide) (fun q => absurd q (show ¬ (9 : Int32) ≤ 0 from by decide)) (fun q => ?_)
  refine q_aload_n X (pc := 13) (i := 0) (zw_dg dk_Lat_indexOfChar 8 rfl) rfl rfl ?_
  refine q_iload X (pc := 14) (i := 5) (zw_dg dk_Lat_indexOfChar 9 rfl) rfl ?_
  refine q_byte X (pc := 16) (x := 113) (show ¬ ((0 : Int32) < 0 ∨ 9 ≤ (0 : Int32).toNatClampNeg) from by decide) rfl (zw_dg dk_Lat_indexOfChar 10 rfl) ?_
  refine q_iload X (pc := 17) (i := 4) (zw_dg dk_Lat_indexOfChar 11 rfl) rfl ?_
  refine q_icmp_ne X (pc := 19) (tgt := 25) (zw_dg dk_Lat_indexOfChar 12 rfl) (by decide) (fun q => absurd ((zs_e h0 h 113 (by decide)).mpr hx) q) (fun q => ?_)
  refine q_iload X (pc := 22) (i := 5) (zw_dg dk_Lat_indexOfChar 13 rfl) rfl ?_
  exact q_iret X (pc := 24) rfl (zw_dg dk_Lat_indexOfChar 14 rfl)
set_option maxRecDepth 100000 in
theorem km_Lat_ioc1 {l : Launch} {g : zw_G} {rr : zw_RR} {sh : zw_Sh} {c : zw_Ct} {x : Int32} (h0 : ¬ x < 0) (h : ¬ 255 < x) (n0 : ¬ x = 113) (hx : x = 115) : zw_MetQ l g y_Lat_indexOfChar b_Lat_indexOfChar 6 (some .int) 1 rr sh [.ref (g.2.2.2.2 0), .int x, .int 0, .int 9] c 1 := by
  refine zw_MetQ.of (by decide +kernel) (Nat.le_of_ble_eq_true rfl) (fun p e s m args below meth cd X => ?_)
  refine q_eL (L2 := [some (.ref (g.2.2.2.2 0)), some (.int x), some (.int 0), some (.int 9), none, none]) rfl ?_
  refine q_iload_n X (pc := 0) (i := 1) (zw_dg dk_Lat_indexOfChar 0 rfl) rfl rfl ?_
  refine q_i2b X (pc := 1) (zw_dg dk_Lat_indexOfChar 1 rfl) ?_
  refine q_istore X (pc := 2) (i := 4) (L2 := [some (.ref (g.2.2.2.2 0)), some (.int x), some (.int 0), some (.int 9), some (.int (x).toInt8.toInt32), none]) (zw_dg dk_Lat_indexOfChar 2 rfl) (by decide) rfl ?_
  refine q_iload_n X (pc := 4) (i := 2) (zw_dg dk_Lat_indexOfChar 3 rfl) rfl rfl ?_
  refine q_istore X (pc := 5) (i := 5) (L2 := [some (.ref (g.2.2.2.2 0)), some (.int x), some (.int 0), some (.int 9), some (.int (x).toInt8.toInt32), some (.int 0)]) (zw_dg dk_Lat_indexOfChar 4 rfl) (by decide) rfl ?_
  refine q_iload X (pc := 7) (i := 5) (zw_dg dk_Lat_indexOfChar 5 rfl) rfl ?_
  refine q_iload_n X (pc := 9) (i := 3) (zw_dg dk_Lat_indexOfChar 6 rfl) rfl rfl ?_
  refine q_icmp_ge X (pc := 10) (tgt := 31) (zw_dg dk_Lat_indexOfChar 7 rfl) (by decide) (fun q => absurd q (show ¬ (9 : Int32) ≤ 0 from by decide)) (fun q => ?_)
  refine q_aload_n X (pc := 13) (i := 0) (zw_dg dk_Lat_indexOfChar 8 rfl) rfl rfl ?_
  refine q_iload X (pc := 14) (i := 5) (zw_dg dk_Lat_indexOfChar 9 rfl) rfl ?_
  refine q_byte X (pc := 16) (x := 113) (show ¬ ((0 : Int32) < 0 ∨ 9 ≤ (0 : Int32).toNatClampNeg) from by decide) rfl (zw_dg dk_Lat_indexOfChar 10 rfl) ?_
  refine q_iload X (pc := 17) (i := 4) (zw_dg dk_Lat_indexOfChar 11 rfl) rfl ?_
  refine q_icmp_ne X (pc := 19) (tgt := 25) (zw_dg dk_Lat_indexOfChar 12 rfl) (by decide) (fun q => ?_) (fun q => absurd ((zs_e h0 h 113 (by decide)).mp q) n0)
  refine q_iinc X (pc := 25) (i := 5) (k := 1) (L2 := [some (.ref (g.2.2.2.2 0)), some (.int x), some (.int 0), some (.int 9), some (.int (x).toInt8.toInt32), some (.int 1)]) (zw_dg dk_Lat_indexOfChar 15 rfl) rfl (by decide) (by decide) rfl ?_
  refine q_goto X (pc := 28) (tgt := 7) (zw_dg dk_Lat_indexOfChar 16 rfl) (by decide) ?_
  refine q_iload X (pc := 7) (i := 5) (zw_dg dk_Lat_indexOfChar 5 rfl) rfl ?_
  refine q_iload_n X (pc := 9) (i := 3) (zw_dg dk_Lat_indexOfChar 6 rfl) rfl rfl ?_
  refine q_icmp_ge X (pc := 10) (tgt := 31) (zw_dg dk_Lat_indexOfChar 7 rfl) (by decide) (fun q => absurd q (show ¬ (9 : Int32) ≤ 1 from by decide)) (fun q => ?_)
  refine q_aload_n X (pc := 13) (i := 0) (zw_dg dk_Lat_indexOfChar 8 rfl) rfl rfl ?_
  refine q_iload X (pc := 14) (i := 5) (zw_dg dk_Lat_indexOfChar 9 rfl) rfl ?_
  refine q_byte X (pc := 16) (x := 115) (show ¬ ((1 : Int32) < 0 ∨ 9 ≤ (1 : Int32).toNatClampNeg) from by decide) rfl (zw_dg dk_Lat_indexOfChar 10 rfl) ?_
  refine q_iload X (pc := 17) (i := 4) (zw_dg dk_Lat_indexOfChar 11 rfl) rfl ?_
  refine q_icmp_ne X (pc := 19) (tgt := 25) (zw_dg dk_Lat_indexOfChar 12 rfl) (by decide) (fun q => absurd ((zs_e h0 h 115 (by decide)).mpr hx) q) (fun q => ?_)
  refine q_iload X (pc := 22) (i := 5) (zw_dg dk_Lat_indexOfChar 13 rfl) rfl ?_
  exact q_iret X (pc := 24) rfl (zw_dg dk_Lat_indexOfChar 14 rfl)
set_option maxRecDepth 100000 in
theorem km_Lat_ioc2 {l : Launch} {g : zw_G} {rr : zw_RR} {sh : zw_Sh} {c : zw_Ct} {x : Int32} (h0 : ¬ x < 0) (h : ¬ 255 < x) (n0 : ¬ x = 113) (n1 : ¬ x = 115) (hx : x = 109) : zw_MetQ l g y_Lat_indexOfChar b_Lat_indexOfChar 6 (some .int) 1 rr sh [.ref (g.2.2.2.2 0), .int x, .int 0, .int 9] c 2 := by
  refine zw_MetQ.of (by decide +kernel) (Nat.le_of_ble_eq_true rfl) (fun p e s m args below meth cd X => ?_)
  refine q_eL (L2 := [some (.ref (g.2.2.2.2 0)), some (.int x), some (.int 0), some (.int 9), none, none]) rfl ?_
  refine q_iload_n X (pc := 0) (i := 1) (zw_dg dk_Lat_indexOfChar 0 rfl) rfl rfl ?_
  refine q_i2b X (pc := 1) (zw_dg dk_Lat_indexOfChar 1 rfl) ?_
  refine q_istore X (pc := 2) (i := 4) (L2 := [some (.ref (g.2.2.2.2 0)), some (.int x), some (.int 0), some (.int 9), some (.int (x).toInt8.toInt32), none]) (zw_dg dk_Lat_indexOfChar 2 rfl) (by decide) rfl ?_
  refine q_iload_n X (pc := 4) (i := 2) (zw_dg dk_Lat_indexOfChar 3 rfl) rfl rfl ?_
  refine q_istore X (pc := 5) (i := 5) (L2 := [some (.ref (g.2.2.2.2 0)), some (.int x), some (.int 0), some (.int 9), some (.int (x).toInt8.toInt32), some (.int 0)]) (zw_dg dk_Lat_indexOfChar 4 rfl) (by decide) rfl ?_
  refine q_iload X (pc := 7) (i := 5) (zw_dg dk_Lat_indexOfChar 5 rfl) rfl ?_
  refine q_iload_n X (pc := 9) (i := 3) (zw_dg dk_Lat_indexOfChar 6 rfl) rfl rfl ?_
  refine q_icmp_ge X (pc := 10) (tgt := 31) (zw_dg dk_Lat_indexOfChar 7 rfl) (by decide) (fun q => absurd q (show ¬ (9 : Int32) ≤ 0 from by decide)) (fun q => ?_)
  refine q_aload_n X (pc := 13) (i := 0) (zw_dg dk_Lat_indexOfChar 8 rfl) rfl rfl ?_
  refine q_iload X (pc := 14) (i := 5) (zw_dg dk_Lat_indexOfChar 9 rfl) rfl ?_
  refine q_byte X (pc := 16) (x := 113) (show ¬ ((0 : Int32) < 0 ∨ 9 ≤ (0 : Int32).toNatClampNeg) from by decide) rfl (zw_dg dk_Lat_indexOfChar 10 rfl) ?_
  refine q_iload X (pc := 17) (i := 4) (zw_dg dk_Lat_indexOfChar 11 rfl) rfl ?_
  refine q_icmp_ne X (pc := 19) (tgt := 25) (zw_dg dk_Lat_indexOfChar 12 rfl) (by decide) (fun q => ?_) (fun q => absurd ((zs_e h0 h 113 (by decide)).mp q) n0)
  refine q_iinc X (pc := 25) (i := 5) (k := 1) (L2 := [some (.ref (g.2.2.2.2 0)), some (.int x), some (.int 0), some (.int 9), some (.int (x).toInt8.toInt32), some (.int 1)]) (zw_dg dk_Lat_indexOfChar 15 rfl) rfl (by decide) (by decide) rfl ?_
  refine q_goto X (pc := 28) (tgt := 7) (zw_dg dk_Lat_indexOfChar 16 rfl) (by decide) ?_
  refine q_iload X (pc := 7) (i := 5) (zw_dg dk_Lat_indexOfChar 5 rfl) rfl ?_
  refine q_iload_n X (pc := 9) (i := 3) (zw_dg dk_Lat_indexOfChar 6 rfl) rfl rfl ?_
  refine q_icmp_ge X (pc := 10) (tgt := 31) (zw_dg dk_Lat_indexOfChar 7 rfl) (by decide) (fun q => absurd q (show ¬ (9 : Int32) ≤ 1 from by decide)) (fun q => ?_)
  refine q_aload_n X (pc := 13) (i := 0) (zw_dg dk_Lat_indexOfChar 8 rfl) rfl rfl ?_
  refine q_iload X (pc := 14) (i := 5) (zw_dg dk_Lat_indexOfChar 9 rfl) rfl ?_
  refine q_byte X (pc := 16) (x := 115) (show ¬ ((1 : Int32) < 0 ∨ 9 ≤ (1 : Int32).toNatClampNeg) from by decide) rfl (zw_dg dk_Lat_indexOfChar 10 rfl) ?_
  refine q_iload X (pc := 17) (i := 4) (zw_dg dk_Lat_indexOfChar 11 rfl) rfl ?_
  refine q_icmp_ne X (pc := 19) (tgt := 25) (zw_dg dk_Lat_indexOfChar 12 rfl) (by decide) (fun q => ?_) (fun q => absurd ((zs_e h0 h 115 (by decide)).mp q) n1)
  refine q_iinc X (pc := 25) (i := 5) (k := 1) (L2 := [some (.ref (g.2.2.2.2 0)), some (.int x), some (.int 0), some (.int 9), some (.int (x).toInt8.toInt32), some (.int 2)]) (zw_dg dk_Lat_indexOfChar 15 rfl) rfl (by decide) (by decide) rfl ?_
  refine q_goto X (pc := 28) (tgt := 7) (zw_dg dk_Lat_indexOfChar 16 rfl) (by decide) ?_
  refine q_iload X (pc := 7) (i := 5) (zw_dg dk_Lat_indexOfChar 5 rfl) rfl ?_
  refine q_iload_n X (pc := 9) (i := 3) (zw_dg dk_Lat_indexOfChar 6 rfl) rfl rfl ?_
  refine q_icmp_ge X (pc := 10) (tgt := 31) (zw_dg dk_Lat_indexOfChar 7 rfl) (by decide) (fun q => absurd q (show ¬ (9 : Int32) ≤ 2 from by decide)) (fun q => ?_)
  refine q_aload_n X (pc := 13) (i := 0) (zw_dg dk_Lat_indexOfChar 8 rfl) rfl rfl ?_
  refine q_iload X (pc := 14) (i := 5) (zw_dg dk_Lat_indexOfChar 9 rfl) rfl ?_
  refine q_byte X (pc := 16) (x := 109) (show ¬ ((2 : Int32) < 0 ∨ 9 ≤ (2 : Int32).toNatClampNeg) from by decide) rfl (zw_dg dk_Lat_indexOfChar 10 rfl) ?_
  refine q_iload X (pc := 17) (i := 4) (zw_dg dk_Lat_indexOfChar 11 rfl) rfl ?_
  refine q_icmp_ne X (pc := 19) (tgt := 25) (zw_dg dk_Lat_indexOfChar 12 rfl) (by decide) (fun q => absurd ((zs_e h0 h 109 (by decide)).mpr hx) q) (fun q => ?_)
  refine q_iload X (pc := 22) (i := 5) (zw_dg dk_Lat_indexOfChar 13 rfl) rfl ?_
  exact q_iret X (pc := 24) rfl (zw_dg dk_Lat_indexOfChar 14 rfl)
set_option maxRecDepth 100000 in
theorem km_Lat_ioc3 {l : Launch} {g : zw_G} {rr : zw_RR} {sh : zw_Sh} {c : zw_Ct} {x : Int32} (h0 : ¬ x < 0) (h : ¬ 255 < x) (n0 : ¬ x = 113) (n1 : ¬ x = 115) (n2 : ¬ x = 109) (hx : x = 120) : zw_MetQ l g y_Lat_indexOfChar b_Lat_indexOfChar 6 (some .int) 1 rr sh [.ref (g.2.2.2.2 0), .int x, .int 0, .int 9] c 3 := by
  refine zw_MetQ.of (by decide +kernel) (Nat.le_of_ble_eq_true rfl) (fun p e s m args below meth cd X => ?_)
  refine q_eL (L2 := [some (.ref (g.2.2.2.2 0)), some (.int x), some (.int 0), some (.int 9), none, none]) rfl ?_
  refine q_iload_n X (pc := 0) (i := 1) (zw_dg dk_Lat_indexOfChar 0 rfl) rfl rfl ?_
  refine q_i2b X (pc := 1) (zw_dg dk_Lat_indexOfChar 1 rfl) ?_
  refine q_istore X (pc := 2) (i := 4) (L2 := [some (.ref (g.2.2.2.2 0)), some (.int x), some (.int 0), some (.int 9), some (.int (x).toInt8.toInt32), none]) (zw_dg dk_Lat_indexOfChar 2 rfl) (by decide) rfl ?_
  refine q_iload_n X (pc := 4) (i := 2) (zw_dg dk_Lat_indexOfChar 3 rfl) rfl rfl ?_
  refine q_istore X (pc := 5) (i := 5) (L2 := [some (.ref (g.2.2.2.2 0)), some (.int x), some (.int 0), some (.int 9), some (.int (x).toInt8.toInt32), some (.int 0)]) (zw_dg dk_Lat_indexOfChar 4 rfl) (by decide) rfl ?_
  refine q_iload X (pc := 7) (i := 5) (zw_dg dk_Lat_indexOfChar 5 rfl) rfl ?_
  refine q_iload_n X (pc := 9) (i := 3) (zw_dg dk_Lat_indexOfChar 6 rfl) rfl rfl ?_
  refine q_icmp_ge X (pc := 10) (tgt := 31) (zw_dg dk_Lat_indexOfChar 7 rfl) (by decide) (fun q => absurd q (show ¬ (9 : Int32) ≤ 0 from by decide)) (fun q => ?_)
  refine q_aload_n X (pc := 13) (i := 0) (zw_dg dk_Lat_indexOfChar 8 rfl) rfl rfl ?_
  refine q_iload X (pc := 14) (i := 5) (zw_dg dk_Lat_indexOfChar 9 rfl) rfl ?_
  refine q_byte X (pc := 16) (x := 113) (show ¬ ((0 : Int32) < 0 ∨ 9 ≤ (0 : Int32).toNatClampNeg) from by decide) rfl (zw_dg dk_Lat_indexOfChar 10 rfl) ?_
  refine q_iload X (pc := 17) (i := 4) (zw_dg dk_Lat_indexOfChar 11 rfl) rfl ?_
  refine q_icmp_ne X (pc := 19) (tgt := 25) (zw_dg dk_Lat_indexOfChar 12 rfl) (by decide) (fun q => ?_) (fun q => absurd ((zs_e h0 h 113 (by decide)).mp q) n0)
  refine q_iinc X (pc := 25) (i := 5) (k := 1) (L2 := [some (.ref (g.2.2.2.2 0)), some (.int x), some (.int 0), some (.int 9), some (.int (x).toInt8.toInt32), some (.int 1)]) (zw_dg dk_Lat_indexOfChar 15 rfl) rfl (by decide) (by decide) rfl ?_
  refine q_goto X (pc := 28) (tgt := 7) (zw_dg dk_Lat_indexOfChar 16 rfl) (by decide) ?_
  refine q_iload X (pc := 7) (i := 5) (zw_dg dk_Lat_indexOfChar 5 rfl) rfl ?_
  refine q_iload_n X (pc := 9) (i := 3) (zw_dg dk_Lat_indexOfChar 6 rfl) rfl rfl ?_
  refine q_icmp_ge X (pc := 10) (tgt := 31) (zw_dg dk_Lat_indexOfChar 7 rfl) (by decide) (fun q => absurd q (show ¬ (9 : Int32) ≤ 1 from by decide)) (fun q => ?_)
  refine q_aload_n X (pc := 13) (i := 0) (zw_dg dk_Lat_indexOfChar 8 rfl) rfl rfl ?_
  refine q_iload X (pc := 14) (i := 5) (zw_dg dk_Lat_indexOfChar 9 rfl) rfl ?_
  refine q_byte X (pc := 16) (x := 115) (show ¬ ((1 : Int32) < 0 ∨ 9 ≤ (1 : Int32).toNatClampNeg) from by decide) rfl (zw_dg dk_Lat_indexOfChar 10 rfl) ?_
  refine q_iload X (pc := 17) (i := 4) (zw_dg dk_Lat_indexOfChar 11 rfl) rfl ?_
  refine q_icmp_ne X (pc := 19) (tgt := 25) (zw_dg dk_Lat_indexOfChar 12 rfl) (by decide) (fun q => ?_) (fun q => absurd ((zs_e h0 h 115 (by decide)).mp q) n1)
  refine q_iinc X (pc := 25) (i := 5) (k := 1) (L2 := [some (.ref (g.2.2.2.2 0)), some (.int x), some (.int 0), some (.int 9), some (.int (x).toInt8.toInt32), some (.int 2)]) (zw_dg dk_Lat_indexOfChar 15 rfl) rfl (by decide) (by decide) rfl ?_
  refine q_goto X (pc := 28) (tgt := 7) (zw_dg dk_Lat_indexOfChar 16 rfl) (by decide) ?_
  refine q_iload X (pc := 7) (i := 5) (zw_dg dk_Lat_indexOfChar 5 rfl) rfl ?_
  refine q_iload_n X (pc := 9) (i := 3) (zw_dg dk_Lat_indexOfChar 6 rfl) rfl rfl ?_
  refine q_icmp_ge X (pc := 10) (tgt := 31) (zw_dg dk_Lat_indexOfChar 7 rfl) (by decide) (fun q => absurd q (show ¬ (9 : Int32) ≤ 2 from by decide)) (fun q => ?_)
  refine q_aload_n X (pc := 13) (i := 0) (zw_dg dk_Lat_indexOfChar 8 rfl) rfl rfl ?_
  refine q_iload X (pc := 14) (i := 5) (zw_dg dk_Lat_indexOfChar 9 rfl) rfl ?_
  refine q_byte X (pc := 16) (x := 109) (show ¬ ((2 : Int32) < 0 ∨ 9 ≤ (2 : Int32).toNatClampNeg) from by decide) rfl (zw_dg dk_Lat_indexOfChar 10 rfl) ?_
  refine q_iload X (pc := 17) (i := 4) (zw_dg dk_Lat_indexOfChar 11 rfl) rfl ?_
  refine q_icmp_ne X (pc := 19) (tgt := 25) (zw_dg dk_Lat_indexOfChar 12 rfl) (by decide) (fun q => ?_) (fun q => absurd ((zs_e h0 h 109 (by decide)).mp q) n2)
  refine q_iinc X (pc := 25) (i := 5) (k := 1) (L2 := [some (.ref (g.2.2.2.2 0)), some (.int x), some (.int 0), some (.int 9), some (.int (x).toInt8.toInt32), some (.int 3)]) (zw_dg dk_Lat_indexOfChar 15 rfl) rfl (by decide) (by decide) rfl ?_
  refine q_goto X (pc := 28) (tgt := 7) (zw_dg dk_Lat_indexOfChar 16 rfl) (by decide) ?_
  refine q_iload X (pc := 7) (i := 5) (zw_dg dk_Lat_indexOfChar 5 rfl) rfl ?_
  refine q_iload_n X (pc := 9) (i := 3) (zw_dg dk_Lat_indexOfChar 6 rfl) rfl rfl ?_
  refine q_icmp_ge X (pc := 10) (tgt := 31) (zw_dg dk_Lat_indexOfChar 7 rfl) (by decide) (fun q => absurd q (show ¬ (9 : Int32) ≤ 3 from by decide)) (fun q => ?_)
  refine q_aload_n X (pc := 13) (i := 0) (zw_dg dk_Lat_indexOfChar 8 rfl) rfl rfl ?_
  refine q_iload X (pc := 14) (i := 5) (zw_dg dk_Lat_indexOfChar 9 rfl) rfl ?_
  refine q_byte X (pc := 16) (x := 120) (show ¬ ((3 : Int32) < 0 ∨ 9 ≤ (3 : Int32).toNatClampNeg) from by decide) rfl (zw_dg dk_Lat_indexOfChar 10 rfl) ?_
  refine q_iload X (pc := 17) (i := 4) (zw_dg dk_Lat_indexOfChar 11 rfl) rfl ?_
  refine q_icmp_ne X (pc := 19) (tgt := 25) (zw_dg dk_Lat_indexOfChar 12 rfl) (by decide) (fun q => absurd ((zs_e h0 h 120 (by decide)).mpr hx) q) (fun q => ?_)
  refine q_iload X (pc := 22) (i := 5) (zw_dg dk_Lat_indexOfChar 13 rfl) rfl ?_
  exact q_iret X (pc := 24) rfl (zw_dg dk_Lat_indexOfChar 14 rfl)
set_option maxRecDepth 100000 in
theorem km_Lat_ioc4 {l : Launch} {g : zw_G} {rr : zw_RR} {sh : zw_Sh} {c : zw_Ct} {x : Int32} (h0 : ¬ x < 0) (h : ¬ 255 < x) (n0 : ¬ x = 113) (n1 : ¬ x = 115) (n2 : ¬ x = 109) (n3 : ¬ x = 120) (hx : x = 116) : zw_MetQ l g y_Lat_indexOfChar b_Lat_indexOfChar 6 (some .int) 1 rr sh [.ref (g.2.2.2.2 0), .int x, .int 0, .int 9] c 4 := by
  refine zw_MetQ.of (by decide +kernel) (Nat.le_of_ble_eq_true rfl) (fun p e s m args below meth cd X => ?_)
  refine q_eL (L2 := [some (.ref (g.2.2.2.2 0)), some (.int x), some (.int 0), some (.int 9), none, none]) rfl ?_
  refine q_iload_n X (pc := 0) (i := 1) (zw_dg dk_Lat_indexOfChar 0 rfl) rfl rfl ?_
  refine q_i2b X (pc := 1) (zw_dg dk_Lat_indexOfChar 1 rfl) ?_
  refine q_istore X (pc := 2) (i := 4) (L2 := [some (.ref (g.2.2.2.2 0)), some (.int x), some (.int 0), some (.int 9), some (.int (x).toInt8.toInt32), none]) (zw_dg dk_Lat_indexOfChar 2 rfl) (by decide) rfl ?_
  refine q_iload_n X (pc := 4) (i := 2) (zw_dg dk_Lat_indexOfChar 3 rfl) rfl rfl ?_
  refine q_istore X (pc := 5) (i := 5) (L2 := [some (.ref (g.2.2.2.2 0)), some (.int x), some (.int 0), some (.int 9), some (.int (x).toInt8.toInt32), some (.int 0)]) (zw_dg dk_Lat_indexOfChar 4 rfl) (by decide) rfl ?_
  refine q_iload X (pc := 7) (i := 5) (zw_dg dk_Lat_indexOfChar 5 rfl) rfl ?_
  refine q_iload_n X (pc := 9) (i := 3) (zw_dg dk_Lat_indexOfChar 6 rfl) rfl rfl ?_
  refine q_icmp_ge X (pc := 10) (tgt := 31) (zw_dg dk_Lat_indexOfChar 7 rfl) (by decide) (fun q => absurd q (show ¬ (9 : Int32) ≤ 0 from by decide)) (fun q => ?_)
  refine q_aload_n X (pc := 13) (i := 0) (zw_dg dk_Lat_indexOfChar 8 rfl) rfl rfl ?_
  refine q_iload X (pc := 14) (i := 5) (zw_dg dk_Lat_indexOfChar 9 rfl) rfl ?_
  refine q_byte X (pc := 16) (x := 113) (show ¬ ((0 : Int32) < 0 ∨ 9 ≤ (0 : Int32).toNatClampNeg) from by decide) rfl (zw_dg dk_Lat_indexOfChar 10 rfl) ?_
  refine q_iload X (pc := 17) (i := 4) (zw_dg dk_Lat_indexOfChar 11 rfl) rfl ?_
  refine q_icmp_ne X (pc := 19) (tgt := 25) (zw_dg dk_Lat_indexOfChar 12 rfl) (by decide) (fun q => ?_) (fun q => absurd ((zs_e h0 h 113 (by decide)).mp q) n0)
  refine q_iinc X (pc := 25) (i := 5) (k := 1) (L2 := [some (.ref (g.2.2.2.2 0)), some (.int x), some (.int 0), some (.int 9), some (.int (x).toInt8.toInt32), some (.int 1)]) (zw_dg dk_Lat_indexOfChar 15 rfl) rfl (by decide) (by decide) rfl ?_
  refine q_goto X (pc := 28) (tgt := 7) (zw_dg dk_Lat_indexOfChar 16 rfl) (by decide) ?_
  refine q_iload X (pc := 7) (i := 5) (zw_dg dk_Lat_indexOfChar 5 rfl) rfl ?_
  refine q_iload_n X (pc := 9) (i := 3) (zw_dg dk_Lat_indexOfChar 6 rfl) rfl rfl ?_
  refine q_icmp_ge X (pc := 10) (tgt := 31) (zw_dg dk_Lat_indexOfChar 7 rfl) (by decide) (fun q => absurd q (show ¬ (9 : Int32) ≤ 1 from by decide)) (fun q => ?_)
  refine q_aload_n X (pc := 13) (i := 0) (zw_dg dk_Lat_indexOfChar 8 rfl) rfl rfl ?_
  refine q_iload X (pc := 14) (i := 5) (zw_dg dk_Lat_indexOfChar 9 rfl) rfl ?_
  refine q_byte X (pc := 16) (x := 115) (show ¬ ((1 : Int32) < 0 ∨ 9 ≤ (1 : Int32).toNatClampNeg) from by decide) rfl (zw_dg dk_Lat_indexOfChar 10 rfl) ?_
  refine q_iload X (pc := 17) (i := 4) (zw_dg dk_Lat_indexOfChar 11 rfl) rfl ?_
  refine q_icmp_ne X (pc := 19) (tgt := 25) (zw_dg dk_Lat_indexOfChar 12 rfl) (by decide) (fun q => ?_) (fun q => absurd ((zs_e h0 h 115 (by decide)).mp q) n1)
  refine q_iinc X (pc := 25) (i := 5) (k := 1) (L2 := [some (.ref (g.2.2.2.2 0)), some (.int x), some (.int 0), some (.int 9), some (.int (x).toInt8.toInt32), some (.int 2)]) (zw_dg dk_Lat_indexOfChar 15 rfl) rfl (by decide) (by decide) rfl ?_
  refine q_goto X (pc := 28) (tgt := 7) (zw_dg dk_Lat_indexOfChar 16 rfl) (by decide) ?_
  refine q_iload X (pc := 7) (i := 5) (zw_dg dk_Lat_indexOfChar 5 rfl) rfl ?_
  refine q_iload_n X (pc := 9) (i := 3) (zw_dg dk_Lat_indexOfChar 6 rfl) rfl rfl ?_
  refine q_icmp_ge X (pc := 10) (tgt := 31) (zw_dg dk_Lat_indexOfChar 7 rfl) (by decide) (fun q => absurd q (show ¬ (9 : Int32) ≤ 2 from by decide)) (fun q => ?_)
  refine q_aload_n X (pc := 13) (i := 0) (zw_dg dk_Lat_indexOfChar 8 rfl) rfl rfl ?_
  refine q_iload X (pc := 14) (i := 5) (zw_dg dk_Lat_indexOfChar 9 rfl) rfl ?_
  refine q_byte X (pc := 16) (x := 109) (show ¬ ((2 : Int32) < 0 ∨ 9 ≤ (2 : Int32).toNatClampNeg) from by decide) rfl (zw_dg dk_Lat_indexOfChar 10 rfl) ?_
  refine q_iload X (pc := 17) (i := 4) (zw_dg dk_Lat_indexOfChar 11 rfl) rfl ?_
  refine q_icmp_ne X (pc := 19) (tgt := 25) (zw_dg dk_Lat_indexOfChar 12 rfl) (by decide) (fun q => ?_) (fun q => absurd ((zs_e h0 h 109 (by decide)).mp q) n2)
  refine q_iinc X (pc := 25) (i := 5) (k := 1) (L2 := [some (.ref (g.2.2.2.2 0)), some (.int x), some (.int 0), some (.int 9), some (.int (x).toInt8.toInt32), some (.int 3)]) (zw_dg dk_Lat_indexOfChar 15 rfl) rfl (by decide) (by decide) rfl ?_
  refine q_goto X (pc := 28) (tgt := 7) (zw_dg dk_Lat_indexOfChar 16 rfl) (by decide) ?_
  refine q_iload X (pc := 7) (i := 5) (zw_dg dk_Lat_indexOfChar 5 rfl) rfl ?_
  refine q_iload_n X (pc := 9) (i := 3) (zw_dg dk_Lat_indexOfChar 6 rfl) rfl rfl ?_
  refine q_icmp_ge X (pc := 10) (tgt := 31) (zw_dg dk_Lat_indexOfChar 7 rfl) (by decide) (fun q => absurd q (show ¬ (9 : Int32) ≤ 3 from by decide)) (fun q => ?_)
  refine q_aload_n X (pc := 13) (i := 0) (zw_dg dk_Lat_indexOfChar 8 rfl) rfl rfl ?_
  refine q_iload X (pc := 14) (i := 5) (zw_dg dk_Lat_indexOfChar 9 rfl) rfl ?_
  refine q_byte X (pc := 16) (x := 120) (show ¬ ((3 : Int32) < 0 ∨ 9 ≤ (3 : Int32).toNatClampNeg) from by decide) rfl (zw_dg dk_Lat_indexOfChar 10 rfl) ?_
  refine q_iload X (pc := 17) (i := 4) (zw_dg dk_Lat_indexOfChar 11 rfl) rfl ?_
  refine q_icmp_ne X (pc := 19) (tgt := 25) (zw_dg dk_Lat_indexOfChar 12 rfl) (by decide) (fun q => ?_) (fun q => absurd ((zs_e h0 h 120 (by decide)).mp q) n3)
  refine q_iinc X (pc := 25) (i := 5) (k := 1) (L2 := [some (.ref (g.2.2.2.2 0)), some (.int x), some (.int 0), some (.int 9), some (.int (x).toInt8.toInt32), some (.int 4)]) (zw_dg dk_Lat_indexOfChar 15 rfl) rfl (by decide) (by decide) rfl ?_
  refine q_goto X (pc := 28) (tgt := 7) (zw_dg dk_Lat_indexOfChar 16 rfl) (by decide) ?_
  refine q_iload X (pc := 7) (i := 5) (zw_dg dk_Lat_indexOfChar 5 rfl) rfl ?_
  refine q_iload_n X (pc := 9) (i := 3) (zw_dg dk_Lat_indexOfChar 6 rfl) rfl rfl ?_
  refine q_icmp_ge X (pc := 10) (tgt := 31) (zw_dg dk_Lat_indexOfChar 7 rfl) (by decide) (fun q => absurd q (show ¬ (9 : Int32) ≤ 4 from by decide)) (fun q => ?_)
  refine q_aload_n X (pc := 13) (i := 0) (zw_dg dk_Lat_indexOfChar 8 rfl) rfl rfl ?_
  refine q_iload X (pc := 14) (i := 5) (zw_dg dk_Lat_indexOfChar 9 rfl) rfl ?_
  refine q_byte X (pc := 16) (x := 116) (show ¬ ((4 : Int32) < 0 ∨ 9 ≤ (4 : Int32).toNatClampNeg) from by decide) rfl (zw_dg dk_Lat_indexOfChar 10 rfl) ?_
  refine q_iload X (pc := 17) (i := 4) (zw_dg dk_Lat_indexOfChar 11 rfl) rfl ?_
  refine q_icmp_ne X (pc := 19) (tgt := 25) (zw_dg dk_Lat_indexOfChar 12 rfl) (by decide) (fun q => absurd ((zs_e h0 h 116 (by decide)).mpr hx) q) (fun q => ?_)
  refine q_iload X (pc := 22) (i := 5) (zw_dg dk_Lat_indexOfChar 13 rfl) rfl ?_
  exact q_iret X (pc := 24) rfl (zw_dg dk_Lat_indexOfChar 14 rfl)
set_option maxRecDepth 100000 in
theorem km_Lat_ioc5 {l : Launch} {g : zw_G} {rr : zw_RR} {sh : zw_Sh} {c : zw_Ct} {x : Int32} (h0 : ¬ x < 0) (h : ¬ 255 < x) (n0 : ¬ x = 113) (n1 : ¬ x = 115) (n2 : ¬ x = 109) (n3 : ¬ x = 120) (n4 : ¬ x = 116) (hx : x = 117) : zw_MetQ l g y_Lat_indexOfChar b_Lat_indexOfChar 6 (some .int) 1 rr sh [.ref (g.2.2.2.2 0), .int x, .int 0, .int 9] c 5 := by
  refine zw_MetQ.of (by decide +kernel) (Nat.le_of_ble_eq_true rfl) (fun p e s m args below meth cd X => ?_)
  refine q_eL (L2 := [some (.ref (g.2.2.2.2 0)), some (.int x), some (.int 0), some (.int 9), none, none]) rfl ?_
  refine q_iload_n X (pc := 0) (i := 1) (zw_dg dk_Lat_indexOfChar 0 rfl) rfl rfl ?_
  refine q_i2b X (pc := 1) (zw_dg dk_Lat_indexOfChar 1 rfl) ?_
  refine q_istore X (pc := 2) (i := 4) (L2 := [some (.ref (g.2.2.2.2 0)), some (.int x), some (.int 0), some (.int 9), some (.int (x).toInt8.toInt32), none]) (zw_dg dk_Lat_indexOfChar 2 rfl) (by decide) rfl ?_
  refine q_iload_n X (pc := 4) (i := 2) (zw_dg dk_Lat_indexOfChar 3 rfl) rfl rfl ?_
  refine q_istore X (pc := 5) (i := 5) (L2 := [some (.ref (g.2.2.2.2 0)), some (.int x), some (.int 0), some (.int 9), some (.int (x).toInt8.toInt32), some (.int 0)]) (zw_dg dk_Lat_indexOfChar 4 rfl) (by decide) rfl ?_
  refine q_iload X (pc := 7) (i := 5) (zw_dg dk_Lat_indexOfChar 5 rfl) rfl ?_
  refine q_iload_n X (pc := 9) (i := 3) (zw_dg dk_Lat_indexOfChar 6 rfl) rfl rfl ?_
  refine q_icmp_ge X (pc := 10) (tgt := 31) (zw_dg dk_Lat_indexOfChar 7 rfl) (by decide) (fun q => absurd q (show ¬ (9 : Int32) ≤ 0 from by decide)) (fun q => ?_)
  refine q_aload_n X (pc := 13) (i := 0) (zw_dg dk_Lat_indexOfChar 8 rfl) rfl rfl ?_
  refine q_iload X (pc := 14) (i := 5) (zw_dg dk_Lat_indexOfChar 9 rfl) rfl ?_
  refine q_byte X (pc := 16) (x := 113) (show ¬ ((0 : Int32) < 0 ∨ 9 ≤ (0 : Int32).toNatClampNeg) from by decide) rfl (zw_dg dk_Lat_indexOfChar 10 rfl) ?_
  refine q_iload X (pc := 17) (i := 4) (zw_dg dk_Lat_indexOfChar 11 rfl) rfl ?_
  refine q_icmp_ne X (pc := 19) (tgt := 25) (zw_dg dk_Lat_indexOfChar 12 rfl) (by decide) (fun q => ?_) (fun q => absurd ((zs_e h0 h 113 (by decide)).mp q) n0)
  refine q_iinc X (pc := 25) (i := 5) (k := 1) (L2 := [some (.ref (g.2.2.2.2 0)), some (.int x), some (.int 0), some (.int 9), some (.int (x).toInt8.toInt32), some (.int 1)]) (zw_dg dk_Lat_indexOfChar 15 rfl) rfl (by decide) (by decide) rfl ?_
  refine q_goto X (pc := 28) (tgt := 7) (zw_dg dk_Lat_indexOfChar 16 rfl) (by decide) ?_
  refine q_iload X (pc := 7) (i := 5) (zw_dg dk_Lat_indexOfChar 5 rfl) rfl ?_
  refine q_iload_n X (pc := 9) (i := 3) (zw_dg dk_Lat_indexOfChar 6 rfl) rfl rfl ?_
  refine q_icmp_ge X (pc := 10) (tgt := 31) (zw_dg dk_Lat_indexOfChar 7 rfl) (by decide) (fun q => absurd q (show ¬ (9 : Int32) ≤ 1 from by decide)) (fun q => ?_)
  refine q_aload_n X (pc := 13) (i := 0) (zw_dg dk_Lat_indexOfChar 8 rfl) rfl rfl ?_
  refine q_iload X (pc := 14) (i := 5) (zw_dg dk_Lat_indexOfChar 9 rfl) rfl ?_
  refine q_byte X (pc := 16) (x := 115) (show ¬ ((1 : Int32) < 0 ∨ 9 ≤ (1 : Int32).toNatClampNeg) from by decide) rfl (zw_dg dk_Lat_indexOfChar 10 rfl) ?_
  refine q_iload X (pc := 17) (i := 4) (zw_dg dk_Lat_indexOfChar 11 rfl) rfl ?_
  refine q_icmp_ne X (pc := 19) (tgt := 25) (zw_dg dk_Lat_indexOfChar 12 rfl) (by decide) (fun q => ?_) (fun q => absurd ((zs_e h0 h 115 (by decide)).mp q) n1)
  refine q_iinc X (pc := 25) (i := 5) (k := 1) (L2 := [some (.ref (g.2.2.2.2 0)), some (.int x), some (.int 0), some (.int 9), some (.int (x).toInt8.toInt32), some (.int 2)]) (zw_dg dk_Lat_indexOfChar 15 rfl) rfl (by decide) (by decide) rfl ?_
  refine q_goto X (pc := 28) (tgt := 7) (zw_dg dk_Lat_indexOfChar 16 rfl) (by decide) ?_
  refine q_iload X (pc := 7) (i := 5) (zw_dg dk_Lat_indexOfChar 5 rfl) rfl ?_
  refine q_iload_n X (pc := 9) (i := 3) (zw_dg dk_Lat_indexOfChar 6 rfl) rfl rfl ?_
  refine q_icmp_ge X (pc := 10) (tgt := 31) (zw_dg dk_Lat_indexOfChar 7 rfl) (by decide) (fun q => absurd q (show ¬ (9 : Int32) ≤ 2 from by decide)) (fun q => ?_)
  refine q_aload_n X (pc := 13) (i := 0) (zw_dg dk_Lat_indexOfChar 8 rfl) rfl rfl ?_
  refine q_iload X (pc := 14) (i := 5) (zw_dg dk_Lat_indexOfChar 9 rfl) rfl ?_
  refine q_byte X (pc := 16) (x := 109) (show ¬ ((2 : Int32) < 0 ∨ 9 ≤ (2 : Int32).toNatClampNeg) from by decide) rfl (zw_dg dk_Lat_indexOfChar 10 rfl) ?_
  refine q_iload X (pc := 17) (i := 4) (zw_dg dk_Lat_indexOfChar 11 rfl) rfl ?_
  refine q_icmp_ne X (pc := 19) (tgt := 25) (zw_dg dk_Lat_indexOfChar 12 rfl) (by decide) (fun q => ?_) (fun q => absurd ((zs_e h0 h 109 (by decide)).mp q) n2)
  refine q_iinc X (pc := 25) (i := 5) (k := 1) (L2 := [some (.ref (g.2.2.2.2 0)), some (.int x), some (.int 0), some (.int 9), some (.int (x).toInt8.toInt32), some (.int 3)]) (zw_dg dk_Lat_indexOfChar 15 rfl) rfl (by decide) (by decide) rfl ?_
  refine q_goto X (pc := 28) (tgt := 7) (zw_dg dk_Lat_indexOfChar 16 rfl) (by decide) ?_
  refine q_iload X (pc := 7) (i := 5) (zw_dg dk_Lat_indexOfChar 5 rfl) rfl ?_
  refine q_iload_n X (pc := 9) (i := 3) (zw_dg dk_Lat_indexOfChar 6 rfl) rfl rfl ?_
  refine q_icmp_ge X (pc := 10) (tgt := 31) (zw_dg dk_Lat_indexOfChar 7 rfl) (by decide) (fun q => absurd q (show ¬ (9 : Int32) ≤ 3 from by decide)) (fun q => ?_)
  refine q_aload_n X (pc := 13) (i := 0) (zw_dg dk_Lat_indexOfChar 8 rfl) rfl rfl ?_
  refine q_iload X (pc := 14) (i := 5) (zw_dg dk_Lat_indexOfChar 9 rfl) rfl ?_
  refine q_byte X (pc := 16) (x := 120) (show ¬ ((3 : Int32) < 0 ∨ 9 ≤ (3 : Int32).toNatClampNeg) from by decide) rfl (zw_dg dk_Lat_indexOfChar 10 rfl) ?_
  refine q_iload X (pc := 17) (i := 4) (zw_dg dk_Lat_indexOfChar 11 rfl) rfl ?_
  refine q_icmp_ne X (pc := 19) (tgt := 25) (zw_dg dk_Lat_indexOfChar 12 rfl) (by decide) (fun q => ?_) (fun q => absurd ((zs_e h0 h 120 (by decide)).mp q) n3)
  refine q_iinc X (pc := 25) (i := 5) (k := 1) (L2 := [some (.ref (g.2.2.2.2 0)), some (.int x), some (.int 0), some (.int 9), some (.int (x).toInt8.toInt32), some (.int 4)]) (zw_dg dk_Lat_indexOfChar 15 rfl) rfl (by decide) (by decide) rfl ?_
  refine q_goto X (pc := 28) (tgt := 7) (zw_dg dk_Lat_indexOfChar 16 rfl) (by decide) ?_
  refine q_iload X (pc := 7) (i := 5) (zw_dg dk_Lat_indexOfChar 5 rfl) rfl ?_
  refine q_iload_n X (pc := 9) (i := 3) (zw_dg dk_Lat_indexOfChar 6 rfl) rfl rfl ?_
  refine q_icmp_ge X (pc := 10) (tgt := 31) (zw_dg dk_Lat_indexOfChar 7 rfl) (by decide) (fun q => absurd q (show ¬ (9 : Int32) ≤ 4 from by decide)) (fun q => ?_)
  refine q_aload_n X (pc := 13) (i := 0) (zw_dg dk_Lat_indexOfChar 8 rfl) rfl rfl ?_
  refine q_iload X (pc := 14) (i := 5) (zw_dg dk_Lat_indexOfChar 9 rfl) rfl ?_
  refine q_byte X (pc := 16) (x := 116) (show ¬ ((4 : Int32) < 0 ∨ 9 ≤ (4 : Int32).toNatClampNeg) from by decide) rfl (zw_dg dk_Lat_indexOfChar 10 rfl) ?_
  refine q_iload X (pc := 17) (i := 4) (zw_dg dk_Lat_indexOfChar 11 rfl) rfl ?_
  refine q_icmp_ne X (pc := 19) (tgt := 25) (zw_dg dk_Lat_indexOfChar 12 rfl) (by decide) (fun q => ?_) (fun q => absurd ((zs_e h0 h 116 (by decide)).mp q) n4)
  refine q_iinc X (pc := 25) (i := 5) (k := 1) (L2 := [some (.ref (g.2.2.2.2 0)), some (.int x), some (.int 0), some (.int 9), some (.int (x).toInt8.toInt32), some (.int 5)]) (zw_dg dk_Lat_indexOfChar 15 rfl) rfl (by decide) (by decide) rfl ?_
  refine q_goto X (pc := 28) (tgt := 7) (zw_dg dk_Lat_indexOfChar 16 rfl) (by decide) ?_
  refine q_iload X (pc := 7) (i := 5) (zw_dg dk_Lat_indexOfChar 5 rfl) rfl ?_
  refine q_iload_n X (pc := 9) (i := 3) (zw_dg dk_Lat_indexOfChar 6 rfl) rfl rfl ?_
  refine q_icmp_ge X (pc := 10) (tgt := 31) (zw_dg dk_Lat_indexOfChar 7 rfl) (by decide) (fun q => absurd q (show ¬ (9 : Int32) ≤ 5 from by decide)) (fun q => ?_)
  refine q_aload_n X (pc := 13) (i := 0) (zw_dg dk_Lat_indexOfChar 8 rfl) rfl rfl ?_
  refine q_iload X (pc := 14) (i := 5) (zw_dg dk_Lat_indexOfChar 9 rfl) rfl ?_
  refine q_byte X (pc := 16) (x := 117) (show ¬ ((5 : Int32) < 0 ∨ 9 ≤ (5 : Int32).toNatClampNeg) from by decide) rfl (zw_dg dk_Lat_indexOfChar 10 rfl) ?_
  refine q_iload X (pc := 17) (i := 4) (zw_dg dk_Lat_indexOfChar 11 rfl) rfl ?_
  refine q_icmp_ne X (pc := 19) (tgt := 25) (zw_dg dk_Lat_indexOfChar 12 rfl) (by decide) (fun q => absurd ((zs_e h0 h 117 (by decide)).mpr hx) q) (fun q => ?_)
  refine q_iload X (pc := 22) (i := 5) (zw_dg dk_Lat_indexOfChar 13 rfl) rfl ?_
  exact q_iret X (pc := 24) rfl (zw_dg dk_Lat_indexOfChar 14 rfl)
set_option maxRecDepth 100000 in
theorem km_Lat_ioc6 {l : Launch} {g : zw_G} {rr : zw_RR} {sh : zw_Sh} {c : zw_Ct} {x : Int32} (h0 : ¬ x < 0) (h : ¬ 255 < x) (n0 : ¬ x = 113) (n1 : ¬ x = 115) (n2 : ¬ x = 109) (n3 : ¬ x = 120) (n4 : ¬ x = 116) (n5 : ¬ x = 117) (hx : x = 101) : zw_MetQ l g y_Lat_indexOfChar b_Lat_indexOfChar 6 (some .int) 1 rr sh [.ref (g.2.2.2.2 0), .int x, .int 0, .int 9] c 6 := by
  refine zw_MetQ.of (by decide +kernel) (Nat.le_of_ble_eq_true rfl) (fun p e s m args below meth cd X => ?_)
  refine q_eL (L2 := [some (.ref (g.2.2.2.2 0)), some (.int x), some (.int 0), some (.int 9), none, none]) rfl ?_
  refine q_iload_n X (pc := 0) (i := 1) (zw_dg dk_Lat_indexOfChar 0 rfl) rfl rfl ?_
  refine q_i2b X (pc := 1) (zw_dg dk_Lat_indexOfChar 1 rfl) ?_
  refine q_istore X (pc := 2) (i := 4) (L2 := [some (.ref (g.2.2.2.2 0)), some (.int x), some (.int 0), some (.int 9), some (.int (x).toInt8.toInt32), none]) (zw_dg dk_Lat_indexOfChar 2 rfl) (by decide) rfl ?_
  refine q_iload_n X (pc := 4) (i := 2) (zw_dg dk_Lat_indexOfChar 3 rfl) rfl rfl ?_
  refine q_istore X (pc := 5) (i := 5) (L2 := [some (.ref (g.2.2.2.2 0)), some (.int x), some (.int 0), some (.int 9), some (.int (x).toInt8.toInt32), some (.int 0)]) (zw_dg dk_Lat_indexOfChar 4 rfl) (by decide) rfl ?_
  refine q_iload X (pc := 7) (i := 5) (zw_dg dk_Lat_indexOfChar 5 rfl) rfl ?_
  refine q_iload_n X (pc := 9) (i := 3) (zw_dg dk_Lat_indexOfChar 6 rfl) rfl rfl ?_
  refine q_icmp_ge X (pc := 10) (tgt := 31) (zw_dg dk_Lat_indexOfChar 7 rfl) (by decide) (fun q => absurd q (show ¬ (9 : Int32) ≤ 0 from by decide)) (fun q => ?_)
  refine q_aload_n X (pc := 13) (i := 0) (zw_dg dk_Lat_indexOfChar 8 rfl) rfl rfl ?_
  refine q_iload X (pc := 14) (i := 5) (zw_dg dk_Lat_indexOfChar 9 rfl) rfl ?_
  refine q_byte X (pc := 16) (x := 113) (show ¬ ((0 : Int32) < 0 ∨ 9 ≤ (0 : Int32).toNatClampNeg) from by decide) rfl (zw_dg dk_Lat_indexOfChar 10 rfl) ?_
  refine q_iload X (pc := 17) (i := 4) (zw_dg dk_Lat_indexOfChar 11 rfl) rfl ?_
  refine q_icmp_ne X (pc := 19) (tgt := 25) (zw_dg dk_Lat_indexOfChar 12 rfl) (by decide) (fun q => ?_) (fun q => absurd ((zs_e h0 h 113 (by decide)).mp q) n0)
  refine q_iinc X (pc := 25) (i := 5) (k := 1) (L2 := [some (.ref (g.2.2.2.2 0)), some (.int x), some (.int 0), some (.int 9), some (.int (x).toInt8.toInt32), some (.int 1)]) (zw_dg dk_Lat_indexOfChar 15 rfl) rfl (by decide) (by decide) rfl ?_
  refine q_goto X (pc := 28) (tgt := 7) (zw_dg dk_Lat_indexOfChar 16 rfl) (by decide) ?_
  refine q_iload X (pc := 7) (i := 5) (zw_dg dk_Lat_indexOfChar 5 rfl) rfl ?_
  refine q_iload_n X (pc := 9) (i := 3) (zw_dg dk_Lat_indexOfChar 6 rfl) rfl rfl ?_
  refine q_icmp_ge X (pc := 10) (tgt := 31) (zw_dg dk_Lat_indexOfChar 7 rfl) (by decide) (fun q => absurd q (show ¬ (9 : Int32) ≤ 1 from by decide)) (fun q => ?_)
  refine q_aload_n X (pc := 13) (i := 0) (zw_dg dk_Lat_indexOfChar 8 rfl) rfl rfl ?_
  refine q_iload X (pc := 14) (i := 5) (zw_dg dk_Lat_indexOfChar 9 rfl) rfl ?_
  refine q_byte X (pc := 16) (x := 115) (show ¬ ((1 : Int32) < 0 ∨ 9 ≤ (1 : Int32).toNatClampNeg) from by decide) rfl (zw_dg dk_Lat_indexOfChar 10 rfl) ?_
  refine q_iload X (pc := 17) (i := 4) (zw_dg dk_Lat_indexOfChar 11 rfl) rfl ?_
  refine q_icmp_ne X (pc := 19) (tgt := 25) (zw_dg dk_Lat_indexOfChar 12 rfl) (by decide) (fun q => ?_) (fun q => absurd ((zs_e h0 h 115 (by decide)).mp q) n1)
  refine q_iinc X (pc := 25) (i := 5) (k := 1) (L2 := [some (.ref (g.2.2.2.2 0)), some (.int x), some (.int 0), some (.int 9), some (.int (x).toInt8.toInt32), some (.int 2)]) (zw_dg dk_Lat_indexOfChar 15 rfl) rfl (by decide) (by decide) rfl ?_
  refine q_goto X (pc := 28) (tgt := 7) (zw_dg dk_Lat_indexOfChar 16 rfl) (by decide) ?_
  refine q_iload X (pc := 7) (i := 5) (zw_dg dk_Lat_indexOfChar 5 rfl) rfl ?_
  refine q_iload_n X (pc := 9) (i := 3) (zw_dg dk_Lat_indexOfChar 6 rfl) rfl rfl ?_
  refine q_icmp_ge X (pc := 10) (tgt := 31) (zw_dg dk_Lat_indexOfChar 7 rfl) (by decide) (fun q => absurd q (show ¬ (9 : Int32) ≤ 2 from by decide)) (fun q => ?_)
  refine q_aload_n X (pc := 13) (i := 0) (zw_dg dk_Lat_indexOfChar 8 rfl) rfl rfl ?_
  refine q_iload X (pc := 14) (i := 5) (zw_dg dk_Lat_indexOfChar 9 rfl) rfl ?_
  refine q_byte X (pc := 16) (x := 109) (show ¬ ((2 : Int32) < 0 ∨ 9 ≤ (2 : Int32).toNatClampNeg) from by decide) rfl (zw_dg dk_Lat_indexOfChar 10 rfl) ?_
  refine q_iload X (pc := 17) (i := 4) (zw_dg dk_Lat_indexOfChar 11 rfl) rfl ?_
  refine q_icmp_ne X (pc := 19) (tgt := 25) (zw_dg dk_Lat_indexOfChar 12 rfl) (by decide) (fun q => ?_) (fun q => absurd ((zs_e h0 h 109 (by decide)).mp q) n2)
  refine q_iinc X (pc := 25) (i := 5) (k := 1) (L2 := [some (.ref (g.2.2.2.2 0)), some (.int x), some (.int 0), some (.int 9), some (.int (x).toInt8.toInt32), some (.int 3)]) (zw_dg dk_Lat_indexOfChar 15 rfl) rfl (by decide) (by decide) rfl ?_
  refine q_goto X (pc := 28) (tgt := 7) (zw_dg dk_Lat_indexOfChar 16 rfl) (by decide) ?_
  refine q_iload X (pc := 7) (i := 5) (zw_dg dk_Lat_indexOfChar 5 rfl) rfl ?_
  refine q_iload_n X (pc := 9) (i := 3) (zw_dg dk_Lat_indexOfChar 6 rfl) rfl rfl ?_
  refine q_icmp_ge X (pc := 10) (tgt := 31) (zw_dg dk_Lat_indexOfChar 7 rfl) (by decide) (fun q => absurd q (show ¬ (9 : Int32) ≤ 3 from by decide)) (fun q => ?_)
  refine q_aload_n X (pc := 13) (i := 0) (zw_dg dk_Lat_indexOfChar 8 rfl) rfl rfl ?_
  refine q_iload X (pc := 14) (i := 5) (zw_dg dk_Lat_indexOfChar 9 rfl) rfl ?_
  refine q_byte X (pc := 16) (x := 120) (show ¬ ((3 : Int32) < 0 ∨ 9 ≤ (3 : Int32).toNatClampNeg) from by decide) rfl (zw_dg dk_Lat_indexOfChar 10 rfl) ?_
  refine q_iload X (pc := 17) (i := 4) (zw_dg dk_Lat_indexOfChar 11 rfl) rfl ?_
  refine q_icmp_ne X (pc := 19) (tgt := 25) (zw_dg dk_Lat_indexOfChar 12 rfl) (by decide) (fun q => ?_) (fun q => absurd ((zs_e h0 h 120 (by decide)).mp q) n3)
  refine q_iinc X (pc := 25) (i := 5) (k := 1) (L2 := [some (.ref (g.2.2.2.2 0)), some (.int x), some (.int 0), some (.int 9), some (.int (x).toInt8.toInt32), some (.int 4)]) (zw_dg dk_Lat_indexOfChar 15 rfl) rfl (by decide) (by decide) rfl ?_
  refine q_goto X (pc := 28) (tgt := 7) (zw_dg dk_Lat_indexOfChar 16 rfl) (by decide) ?_
  refine q_iload X (pc := 7) (i := 5) (zw_dg dk_Lat_indexOfChar 5 rfl) rfl ?_
  refine q_iload_n X (pc := 9) (i := 3) (zw_dg dk_Lat_indexOfChar 6 rfl) rfl rfl ?_
  refine q_icmp_ge X (pc := 10) (tgt := 31) (zw_dg dk_Lat_indexOfChar 7 rfl) (by decide) (fun q => absurd q (show ¬ (9 : Int32) ≤ 4 from by decide)) (fun q => ?_)
  refine q_aload_n X (pc := 13) (i := 0) (zw_dg dk_Lat_indexOfChar 8 rfl) rfl rfl ?_
  refine q_iload X (pc := 14) (i := 5) (zw_dg dk_Lat_indexOfChar 9 rfl) rfl ?_
  refine q_byte X (pc := 16) (x := 116) (show ¬ ((4 : Int32) < 0 ∨ 9 ≤ (4 : Int32).toNatClampNeg) from by decide) rfl (zw_dg dk_Lat_indexOfChar 10 rfl) ?_
  refine q_iload X (pc := 17) (i := 4) (zw_dg dk_Lat_indexOfChar 11 rfl) rfl ?_
  refine q_icmp_ne X (pc := 19) (tgt := 25) (zw_dg dk_Lat_indexOfChar 12 rfl) (by decide) (fun q => ?_) (fun q => absurd ((zs_e h0 h 116 (by decide)).mp q) n4)
  refine q_iinc X (pc := 25) (i := 5) (k := 1) (L2 := [some (.ref (g.2.2.2.2 0)), some (.int x), some (.int 0), some (.int 9), some (.int (x).toInt8.toInt32), some (.int 5)]) (zw_dg dk_Lat_indexOfChar 15 rfl) rfl (by decide) (by decide) rfl ?_
  refine q_goto X (pc := 28) (tgt := 7) (zw_dg dk_Lat_indexOfChar 16 rfl) (by decide) ?_
  refine q_iload X (pc := 7) (i := 5) (zw_dg dk_Lat_indexOfChar 5 rfl) rfl ?_
  refine q_iload_n X (pc := 9) (i := 3) (zw_dg dk_Lat_indexOfChar 6 rfl) rfl rfl ?_
  refine q_icmp_ge X (pc := 10) (tgt := 31) (zw_dg dk_Lat_indexOfChar 7 rfl) (by decide) (fun q => absurd q (show ¬ (9 : Int32) ≤ 5 from by decide)) (fun q => ?_)
  refine q_aload_n X (pc := 13) (i := 0) (zw_dg dk_Lat_indexOfChar 8 rfl) rfl rfl ?_
  refine q_iload X (pc := 14) (i := 5) (zw_dg dk_Lat_indexOfChar 9 rfl) rfl ?_
  refine q_byte X (pc := 16) (x := 117) (show ¬ ((5 : Int32) < 0 ∨ 9 ≤ (5 : Int32).toNatClampNeg) from by decide) rfl (zw_dg dk_Lat_indexOfChar 10 rfl) ?_
  refine q_iload X (pc := 17) (i := 4) (zw_dg dk_Lat_indexOfChar 11 rfl) rfl ?_
  refine q_icmp_ne X (pc := 19) (tgt := 25) (zw_dg dk_Lat_indexOfChar 12 rfl) (by decide) (fun q => ?_) (fun q => absurd ((zs_e h0 h 117 (by decide)).mp q) n5)
  refine q_iinc X (pc := 25) (i := 5) (k := 1) (L2 := [some (.ref (g.2.2.2.2 0)), some (.int x), some (.int 0), some (.int 9), some (.int (x).toInt8.toInt32), some (.int 6)]) (zw_dg dk_Lat_indexOfChar 15 rfl) rfl (by decide) (by decide) rfl ?_
  refine q_goto X (pc := 28) (tgt := 7) (zw_dg dk_Lat_indexOfChar 16 rfl) (by decide) ?_
  refine q_iload X (pc := 7) (i := 5) (zw_dg dk_Lat_indexOfChar 5 rfl) rfl ?_
  refine q_iload_n X (pc := 9) (i := 3) (zw_dg dk_Lat_indexOfChar 6 rfl) rfl rfl ?_
  refine q_icmp_ge X (pc := 10) (tgt := 31) (zw_dg dk_Lat_indexOfChar 7 rfl) (by decide) (fun q => absurd q (show ¬ (9 : Int32) ≤ 6 from by decide)) (fun q => ?_)
  refine q_aload_n X (pc := 13) (i := 0) (zw_dg dk_Lat_indexOfChar 8 rfl) rfl rfl ?_
  refine q_iload X (pc := 14) (i := 5) (zw_dg dk_Lat_indexOfChar 9 rfl) rfl ?_
  refine q_byte X (pc := 16) (x := 101) (show ¬ ((6 : Int32) < 0 ∨ 9 ≤ (6 : Int32).toNatClampNeg) from by decide) rfl (zw_dg dk_Lat_indexOfChar 10 rfl) ?_
  refine q_iload X (pc := 17) (i := 4) (zw_dg dk_Lat_indexOfChar 11 rfl) rfl ?_
  refine q_icmp_ne X (pc := 19) (tgt := 25) (zw_dg dk_Lat_indexOfChar 12 rfl) (by decide) (fun q => absurd ((zs_e h0 h 101 (by decide)).mpr hx) q) (fun q => ?_)
  refine q_iload X (pc := 22) (i := 5) (zw_dg dk_Lat_indexOfChar 13 rfl) rfl ?_
  exact q_iret X (pc := 24) rfl (zw_dg dk_Lat_indexOfChar 14 rfl)
set_option maxRecDepth 100000 in
theorem km_Lat_ioc7 {l : Launch} {g : zw_G} {rr : zw_RR} {sh : zw_Sh} {c : zw_Ct} {x : Int32} (h0 : ¬ x < 0) (h : ¬ 255 < x) (n0 : ¬ x = 113) (n1 : ¬ x = 115) (n2 : ¬ x = 109) (n3 : ¬ x = 120) (n4 : ¬ x = 116) (n5 : ¬ x = 117) (n6 : ¬ x = 101) (hx : x = 110) : zw_MetQ l g y_Lat_indexOfChar b_Lat_indexOfChar 6 (some .int) 1 rr sh [.ref (g.2.2.2.2 0), .int x, .int 0, .int 9] c 7 := by
  refine zw_MetQ.of (by decide +kernel) (Nat.le_of_ble_eq_true rfl) (fun p e s m args below meth cd X => ?_)
  refine q_eL (L2 := [some (.ref (g.2.2.2.2 0)), some (.int x), some (.int 0), some (.int 9), none, none]) rfl ?_
  refine q_iload_n X (pc := 0) (i := 1) (zw_dg dk_Lat_indexOfChar 0 rfl) rfl rfl ?_
  refine q_i2b X (pc := 1) (zw_dg dk_Lat_indexOfChar 1 rfl) ?_
  refine q_istore X (pc := 2) (i := 4) (L2 := [some (.ref (g.2.2.2.2 0)), some (.int x), some (.int 0), some (.int 9), some (.int (x).toInt8.toInt32), none]) (zw_dg dk_Lat_indexOfChar 2 rfl) (by decide) rfl ?_
  refine q_iload_n X (pc := 4) (i := 2) (zw_dg dk_Lat_indexOfChar 3 rfl) rfl rfl ?_
  refine q_istore X (pc := 5) (i := 5) (L2 := [some (.ref (g.2.2.2.2 0)), some (.int x), some (.int 0), some (.int 9), some (.int (x).toInt8.toInt32), some (.int 0)]) (zw_dg dk_Lat_indexOfChar 4 rfl) (by decide) rfl ?_
  refine q_iload X (pc := 7) (i := 5) (zw_dg dk_Lat_indexOfChar 5 rfl) rfl ?_
  refine q_iload_n X (pc := 9) (i := 3) (zw_dg dk_Lat_indexOfChar 6 rfl) rfl rfl ?_
  refine q_icmp_ge X (pc := 10) (tgt := 31) (zw_dg dk_Lat_indexOfChar 7 rfl) (by decide) (fun q => absurd q (show ¬ (9 : Int32) ≤ 0 from by decide)) (fun q => ?_)
  refine q_aload_n X (pc := 13) (i := 0) (zw_dg dk_Lat_indexOfChar 8 rfl) rfl rfl ?_
  refine q_iload X (pc := 14) (i := 5) (zw_dg dk_Lat_indexOfChar 9 rfl) rfl ?_
  refine q_byte X (pc := 16) (x := 113) (show ¬ ((0 : Int32) < 0 ∨ 9 ≤ (0 : Int32).toNatClampNeg) from by decide) rfl (zw_dg dk_Lat_indexOfChar 10 rfl) ?_
  refine q_iload X (pc := 17) (i := 4) (zw_dg dk_Lat_indexOfChar 11 rfl) rfl ?_
  refine q_icmp_ne X (pc := 19) (tgt := 25) (zw_dg dk_Lat_indexOfChar 12 rfl) (by decide) (fun q => ?_) (fun q => absurd ((zs_e h0 h 113 (by decide)).mp q) n0)
  refine q_iinc X (pc := 25) (i := 5) (k := 1) (L2 := [some (.ref (g.2.2.2.2 0)), some (.int x), some (.int 0), some (.int 9), some (.int (x).toInt8.toInt32), some (.int 1)]) (zw_dg dk_Lat_indexOfChar 15 rfl) rfl (by decide) (by decide) rfl ?_
  refine q_goto X (pc := 28) (tgt := 7) (zw_dg dk_Lat_indexOfChar 16 rfl) (by decide) ?_
  refine q_iload X (pc := 7) (i := 5) (zw_dg dk_Lat_indexOfChar 5 rfl) rfl ?_
  refine q_iload_n X (pc := 9) (i := 3) (zw_dg dk_Lat_indexOfChar 6 rfl) rfl rfl ?_
  refine q_icmp_ge X (pc := 10) (tgt := 31) (zw_dg dk_Lat_indexOfChar 7 rfl) (by decide) (fun q => absurd q (show ¬ (9 : Int32) ≤ 1 from by decide)) (fun q => ?_)
  refine q_aload_n X (pc := 13) (i := 0) (zw_dg dk_Lat_indexOfChar 8 rfl) rfl rfl ?_
  refine q_iload X (pc := 14) (i := 5) (zw_dg dk_Lat_indexOfChar 9 rfl) rfl ?_
  refine q_byte X (pc := 16) (x := 115) (show ¬ ((1 : Int32) < 0 ∨ 9 ≤ (1 : Int32).toNatClampNeg) from by decide) rfl (zw_dg dk_Lat_indexOfChar 10 rfl) ?_
  refine q_iload X (pc := 17) (i := 4) (zw_dg dk_Lat_indexOfChar 11 rfl) rfl ?_
  refine q_icmp_ne X (pc := 19) (tgt := 25) (zw_dg dk_Lat_indexOfChar 12 rfl) (by decide) (fun q => ?_) (fun q => absurd ((zs_e h0 h 115 (by decide)).mp q) n1)
  refine q_iinc X (pc := 25) (i := 5) (k := 1) (L2 := [some (.ref (g.2.2.2.2 0)), some (.int x), some (.int 0), some (.int 9), some (.int (x).toInt8.toInt32), some (.int 2)]) (zw_dg dk_Lat_indexOfChar 15 rfl) rfl (by decide) (by decide) rfl ?_
  refine q_goto X (pc := 28) (tgt := 7) (zw_dg dk_Lat_indexOfChar 16 rfl) (by decide) ?_
  refine q_iload X (pc := 7) (i := 5) (zw_dg dk_Lat_indexOfChar 5 rfl) rfl ?_
  refine q_iload_n X (pc := 9) (i := 3) (zw_dg dk_Lat_indexOfChar 6 rfl) rfl rfl ?_
  refine q_icmp_ge X (pc := 10) (tgt := 31) (zw_dg dk_Lat_indexOfChar 7 rfl) (by decide) (fun q => absurd q (show ¬ (9 : Int32) ≤ 2 from by decide)) (fun q => ?_)
  refine q_aload_n X (pc := 13) (i := 0) (zw_dg dk_Lat_indexOfChar 8 rfl) rfl rfl ?_
  refine q_iload X (pc := 14) (i := 5) (zw_dg dk_Lat_indexOfChar 9 rfl) rfl ?_
  refine q_byte X (pc := 16) (x := 109) (show ¬ ((2 : Int32) < 0 ∨ 9 ≤ (2 : Int32).toNatClampNeg) from by decide) rfl (zw_dg dk_Lat_indexOfChar 10 rfl) ?_
  refine q_iload X (pc := 17) (i := 4) (zw_dg dk_Lat_indexOfChar 11 rfl) rfl ?_
  refine q_icmp_ne X (pc := 19) (tgt := 25) (zw_dg dk_Lat_indexOfChar 12 rfl) (by decide) (fun q => ?_) (fun q => absurd ((zs_e h0 h 109 (by decide)).mp q) n2)
  refine q_iinc X (pc := 25) (i := 5) (k := 1) (L2 := [some (.ref (g.2.2.2.2 0)), some (.int x), some (.int 0), some (.int 9), some (.int (x).toInt8.toInt32), some (.int 3)]) (zw_dg dk_Lat_indexOfChar 15 rfl) rfl (by decide) (by decide) rfl ?_
  refine q_goto X (pc := 28) (tgt := 7) (zw_dg dk_Lat_indexOfChar 16 rfl) (by decide) ?_
  refine q_iload X (pc := 7) (i := 5) (zw_dg dk_Lat_indexOfChar 5 rfl) rfl ?_
  refine q_iload_n X (pc := 9) (i := 3) (zw_dg dk_Lat_indexOfChar 6 rfl) rfl rfl ?_
  refine q_icmp_ge X (pc := 10) (tgt := 31) (zw_dg dk_Lat_indexOfChar 7 rfl) (by decide) (fun q => absurd q (show ¬ (9 : Int32) ≤ 3 from by decide)) (fun q => ?_)
  refine q_aload_n X (pc := 13) (i := 0) (zw_dg dk_Lat_indexOfChar 8 rfl) rfl rfl ?_
  refine q_iload X (pc := 14) (i := 5) (zw_dg dk_Lat_indexOfChar 9 rfl) rfl ?_
  refine q_byte X (pc := 16) (x := 120) (show ¬ ((3 : Int32) < 0 ∨ 9 ≤ (3 : Int32).toNatClampNeg) from by decide) rfl (zw_dg dk_Lat_indexOfChar 10 rfl) ?_
  refine q_iload X (pc := 17) (i := 4) (zw_dg dk_Lat_indexOfChar 11 rfl) rfl ?_
  refine q_icmp_ne X (pc := 19) (tgt := 25) (zw_dg dk_Lat_indexOfChar 12 rfl) (by decide) (fun q => ?_) (fun q => absurd ((zs_e h0 h 120 (by decide)).mp q) n3)
  refine q_iinc X (pc := 25) (i := 5) (k := 1) (L2 := [some (.ref (g.2.2.2.2 0)), some (.int x), some (.int 0), some (.int 9), some (.int (x).toInt8.toInt32), some (.int 4)]) (zw_dg dk_Lat_indexOfChar 15 rfl) rfl (by decide) (by decide) rfl ?_
  refine q_goto X (pc := 28) (tgt := 7) (zw_dg dk_Lat_indexOfChar 16 rfl) (by decide) ?_
  refine q_iload X (pc := 7) (i := 5) (zw_dg dk_Lat_indexOfChar 5 rfl) rfl ?_
  refine q_iload_n X (pc := 9) (i := 3) (zw_dg dk_Lat_indexOfChar 6 rfl) rfl rfl ?_
  refine q_icmp_ge X (pc := 10) (tgt := 31) (zw_dg dk_Lat_indexOfChar 7 rfl) (by decide) (fun q => absurd q (show ¬ (9 : Int32) ≤ 4 from by decide)) (fun q => ?_)
  refine q_aload_n X (pc := 13) (i := 0) (zw_dg dk_Lat_indexOfChar 8 rfl) rfl rfl ?_
  refine q_iload X (pc := 14) (i := 5) (zw_dg dk_Lat_indexOfChar 9 rfl) rfl ?_
  refine q_byte X (pc := 16) (x := 116) (show ¬ ((4 : Int32) < 0 ∨ 9 ≤ (4 : Int32).toNatClampNeg) from by decide) rfl (zw_dg dk_Lat_indexOfChar 10 rfl) ?_
  refine q_iload X (pc := 17) (i := 4) (zw_dg dk_Lat_indexOfChar 11 rfl) rfl ?_
  refine q_icmp_ne X (pc := 19) (tgt := 25) (zw_dg dk_Lat_indexOfChar 12 rfl) (by decide) (fun q => ?_) (fun q => absurd ((zs_e h0 h 116 (by decide)).mp q) n4)
  refine q_iinc X (pc := 25) (i := 5) (k := 1) (L2 := [some (.ref (g.2.2.2.2 0)), some (.int x), some (.int 0), some (.int 9), some (.int (x).toInt8.toInt32), some (.int 5)]) (zw_dg dk_Lat_indexOfChar 15 rfl) rfl (by decide) (by decide) rfl ?_
  refine q_goto X (pc := 28) (tgt := 7) (zw_dg dk_Lat_indexOfChar 16 rfl) (by decide) ?_
  refine q_iload X (pc := 7) (i := 5) (zw_dg dk_Lat_indexOfChar 5 rfl) rfl ?_
  refine q_iload_n X (pc := 9) (i := 3) (zw_dg dk_Lat_indexOfChar 6 rfl) rfl rfl ?_
  refine q_icmp_ge X (pc := 10) (tgt := 31) (zw_dg dk_Lat_indexOfChar 7 rfl) (by decide) (fun q => absurd q (show ¬ (9 : Int32) ≤ 5 from by decide)) (fun q => ?_)
  refine q_aload_n X (pc := 13) (i := 0) (zw_dg dk_Lat_indexOfChar 8 rfl) rfl rfl ?_
  refine q_iload X (pc := 14) (i := 5) (zw_dg dk_Lat_indexOfChar 9 rfl) rfl ?_
  refine q_byte X (pc := 16) (x := 117) (show ¬ ((5 : Int32) < 0 ∨ 9 ≤ (5 : Int32).toNatClampNeg) from by decide) rfl (zw_dg dk_Lat_indexOfChar 10 rfl) ?_
  refine q_iload X (pc := 17) (i := 4) (zw_dg dk_Lat_indexOfChar 11 rfl) rfl ?_
  refine q_icmp_ne X (pc := 19) (tgt := 25) (zw_dg dk_Lat_indexOfChar 12 rfl) (by decide) (fun q => ?_) (fun q => absurd ((zs_e h0 h 117 (by decide)).mp q) n5)
  refine q_iinc X (pc := 25) (i := 5) (k := 1) (L2 := [some (.ref (g.2.2.2.2 0)), some (.int x), some (.int 0), some (.int 9), some (.int (x).toInt8.toInt32), some (.int 6)]) (zw_dg dk_Lat_indexOfChar 15 rfl) rfl (by decide) (by decide) rfl ?_
  refine q_goto X (pc := 28) (tgt := 7) (zw_dg dk_Lat_indexOfChar 16 rfl) (by decide) ?_
  refine q_iload X (pc := 7) (i := 5) (zw_dg dk_Lat_indexOfChar 5 rfl) rfl ?_
  refine q_iload_n X (pc := 9) (i := 3) (zw_dg dk_Lat_indexOfChar 6 rfl) rfl rfl ?_
  refine q_icmp_ge X (pc := 10) (tgt := 31) (zw_dg dk_Lat_indexOfChar 7 rfl) (by decide) (fun q => absurd q (show ¬ (9 : Int32) ≤ 6 from by decide)) (fun q => ?_)
  refine q_aload_n X (pc := 13) (i := 0) (zw_dg dk_Lat_indexOfChar 8 rfl) rfl rfl ?_
  refine q_iload X (pc := 14) (i := 5) (zw_dg dk_Lat_indexOfChar 9 rfl) rfl ?_
  refine q_byte X (pc := 16) (x := 101) (show ¬ ((6 : Int32) < 0 ∨ 9 ≤ (6 : Int32).toNatClampNeg) from by decide) rfl (zw_dg dk_Lat_indexOfChar 10 rfl) ?_
  refine q_iload X (pc := 17) (i := 4) (zw_dg dk_Lat_indexOfChar 11 rfl) rfl ?_
  refine q_icmp_ne X (pc := 19) (tgt := 25) (zw_dg dk_Lat_indexOfChar 12 rfl) (by decide) (fun q => ?_) (fun q => absurd ((zs_e h0 h 101 (by decide)).mp q) n6)
  refine q_iinc X (pc := 25) (i := 5) (k := 1) (L2 := [some (.ref (g.2.2.2.2 0)), some (.int x), some (.int 0), some (.int 9), some (.int (x).toInt8.toInt32), some (.int 7)]) (zw_dg dk_Lat_indexOfChar 15 rfl) rfl (by decide) (by decide) rfl ?_
  refine q_goto X (pc := 28) (tgt := 7) (zw_dg dk_Lat_indexOfChar 16 rfl) (by decide) ?_
  refine q_iload X (pc := 7) (i := 5) (zw_dg dk_Lat_indexOfChar 5 rfl) rfl ?_
  refine q_iload_n X (pc := 9) (i := 3) (zw_dg dk_Lat_indexOfChar 6 rfl) rfl rfl ?_
  refine q_icmp_ge X (pc := 10) (tgt := 31) (zw_dg dk_Lat_indexOfChar 7 rfl) (by decide) (fun q => absurd q (show ¬ (9 : Int32) ≤ 7 from by decide)) (fun q => ?_)
  refine q_aload_n X (pc := 13) (i := 0) (zw_dg dk_Lat_indexOfChar 8 rfl) rfl rfl ?_
  refine q_iload X (pc := 14) (i := 5) (zw_dg dk_Lat_indexOfChar 9 rfl) rfl ?_
  refine q_byte X (pc := 16) (x := 110) (show ¬ ((7 : Int32) < 0 ∨ 9 ≤ (7 : Int32).toNatClampNeg) from by decide) rfl (zw_dg dk_Lat_indexOfChar 10 rfl) ?_
  refine q_iload X (pc := 17) (i := 4) (zw_dg dk_Lat_indexOfChar 11 rfl) rfl ?_
  refine q_icmp_ne X (pc := 19) (tgt := 25) (zw_dg dk_Lat_indexOfChar 12 rfl) (by decide) (fun q => absurd ((zs_e h0 h 110 (by decide)).mpr hx) q) (fun q => ?_)
  refine q_iload X (pc := 22) (i := 5) (zw_dg dk_Lat_indexOfChar 13 rfl) rfl ?_
  exact q_iret X (pc := 24) rfl (zw_dg dk_Lat_indexOfChar 14 rfl)
set_option maxRecDepth 100000 in
theorem km_Lat_ioc8 {l : Launch} {g : zw_G} {rr : zw_RR} {sh : zw_Sh} {c : zw_Ct} {x : Int32} (h0 : ¬ x < 0) (h : ¬ 255 < x) (n0 : ¬ x = 113) (n1 : ¬ x = 115) (n2 : ¬ x = 109) (n3 : ¬ x = 120) (n4 : ¬ x = 116) (n5 : ¬ x = 117) (n6 : ¬ x = 101) (n7 : ¬ x = 110) (hx : x = 100) : zw_MetQ l g y_Lat_indexOfChar b_Lat_indexOfChar 6 (some .int) 1 rr sh [.ref (g.2.2.2.2 0), .int x, .int 0, .int 9] c 8 := by
  refine zw_MetQ.of (by decide +kernel) (Nat.le_of_ble_eq_true rfl) (fun p e s m args below meth cd X => ?_)
  refine q_eL (L2 := [some (.ref (g.2.2.2.2 0)), some (.int x), some (.int 0), some (.int 9), none, none]) rfl ?_
  refine q_iload_n X (pc := 0) (i := 1) (zw_dg dk_Lat_indexOfChar 0 rfl) rfl rfl ?_
  refine q_i2b X (pc := 1) (zw_dg dk_Lat_indexOfChar 1 rfl) ?_
  refine q_istore X (pc := 2) (i := 4) (L2 := [some (.ref (g.2.2.2.2 0)), some (.int x), some (.int 0), some (.int 9), some (.int (x).toInt8.toInt32), none]) (zw_dg dk_Lat_indexOfChar 2 rfl) (by decide) rfl ?_
  refine q_iload_n X (pc := 4) (i := 2) (zw_dg dk_Lat_indexOfChar 3 rfl) rfl rfl ?_
  refine q_istore X (pc := 5) (i := 5) (L2 := [some (.ref (g.2.2.2.2 0)), some (.int x), some (.int 0), some (.int 9), some (.int (x).toInt8.toInt32), some (.int 0)]) (zw_dg dk_Lat_indexOfChar 4 rfl) (by decide) rfl ?_
  refine q_iload X (pc := 7) (i := 5) (zw_dg dk_Lat_indexOfChar 5 rfl) rfl ?_
  refine q_iload_n X (pc := 9) (i := 3) (zw_dg dk_Lat_indexOfChar 6 rfl) rfl rfl ?_
  refine q_icmp_ge X (pc := 10) (tgt := 31) (zw_dg dk_Lat_indexOfChar 7 rfl) (by decide) (fun q => absurd q (show ¬ (9 : Int32) ≤ 0 from by decide)) (fun q => ?_)
  refine q_aload_n X (pc := 13) (i := 0) (zw_dg dk_Lat_indexOfChar 8 rfl) rfl rfl ?_
  refine q_iload X (pc := 14) (i := 5) (zw_dg dk_Lat_indexOfChar 9 rfl) rfl ?_
  refine q_byte X (pc := 16) (x := 113) (show ¬ ((0 : Int32) < 0 ∨ 9 ≤ (0 : Int32).toNatClampNeg) from by decide) rfl (zw_dg dk_Lat_indexOfChar 10 rfl) ?_
  refine q_iload X (pc := 17) (i := 4) (zw_dg dk_Lat_indexOfChar 11 rfl) rfl ?_
  refine q_icmp_ne X (pc := 19) (tgt := 25) (zw_dg dk_Lat_indexOfChar 12 rfl) (by decide) (fun q => ?_) (fun q => absurd ((zs_e h0 h 113 (by decide)).mp q) n0)
  refine q_iinc X (pc := 25) (i := 5) (k := 1) (L2 := [some (.ref (g.2.2.2.2 0)), some (.int x), some (.int 0), some (.int 9), some (.int (x).toInt8.toInt32), some (.int 1)]) (zw_dg dk_Lat_indexOfChar 15 rfl) rfl (by decide) (by decide) rfl ?_
  refine q_goto X (pc := 28) (tgt := 7) (zw_dg dk_Lat_indexOfChar 16 rfl) (by decide) ?_
  refine q_iload X (pc := 7) (i := 5) (zw_dg dk_Lat_indexOfChar 5 rfl) rfl ?_
  refine q_iload_n X (pc := 9) (i := 3) (zw_dg dk_Lat_indexOfChar 6 rfl) rfl rfl ?_
  refine q_icmp_ge X (pc := 10) (tgt := 31) (zw_dg dk_Lat_indexOfChar 7 rfl) (by decide) (fun q => absurd q (show ¬ (9 : Int32) ≤ 1 from by decide)) (fun q => ?_)
  refine q_aload_n X (pc := 13) (i := 0) (zw_dg dk_Lat_indexOfChar 8 rfl) rfl rfl ?_
  refine q_iload X (pc := 14) (i := 5) (zw_dg dk_Lat_indexOfChar 9 rfl) rfl ?_
  refine q_byte X (pc := 16) (x := 115) (show ¬ ((1 : Int32) < 0 ∨ 9 ≤ (1 : Int32).toNatClampNeg) from by decide) rfl (zw_dg dk_Lat_indexOfChar 10 rfl) ?_
  refine q_iload X (pc := 17) (i := 4) (zw_dg dk_Lat_indexOfChar 11 rfl) rfl ?_
  refine q_icmp_ne X (pc := 19) (tgt := 25) (zw_dg dk_Lat_indexOfChar 12 rfl) (by decide) (fun q => ?_) (fun q => absurd ((zs_e h0 h 115 (by decide)).mp q) n1)
  refine q_iinc X (pc := 25) (i := 5) (k := 1) (L2 := [some (.ref (g.2.2.2.2 0)), some (.int x), some (.int 0), some (.int 9), some (.int (x).toInt8.toInt32), some (.int 2)]) (zw_dg dk_Lat_indexOfChar 15 rfl) rfl (by decide) (by decide) rfl ?_
  refine q_goto X (pc := 28) (tgt := 7) (zw_dg dk_Lat_indexOfChar 16 rfl) (by decide) ?_
  refine q_iload X (pc := 7) (i := 5) (zw_dg dk_Lat_indexOfChar 5 rfl) rfl ?_
  refine q_iload_n X (pc := 9) (i := 3) (zw_dg dk_Lat_indexOfChar 6 rfl) rfl rfl ?_
  refine q_icmp_ge X (pc := 10) (tgt := 31) (zw_dg dk_Lat_indexOfChar 7 rfl) (by decide) (fun q => absurd q (show ¬ (9 : Int32) ≤ 2 from by decide)) (fun q => ?_)
  refine q_aload_n X (pc := 13) (i := 0) (zw_dg dk_Lat_indexOfChar 8 rfl) rfl rfl ?_
  refine q_iload X (pc := 14) (i := 5) (zw_dg dk_Lat_indexOfChar 9 rfl) rfl ?_
  refine q_byte X (pc := 16) (x := 109) (show ¬ ((2 : Int32) < 0 ∨ 9 ≤ (2 : Int32).toNatClampNeg) from by decide) rfl (zw_dg dk_Lat_indexOfChar 10 rfl) ?_
  refine q_iload X (pc := 17) (i := 4) (zw_dg dk_Lat_indexOfChar 11 rfl) rfl ?_
  refine q_icmp_ne X (pc := 19) (tgt := 25) (zw_dg dk_Lat_indexOfChar 12 rfl) (by decide) (fun q => ?_) (fun q => absurd ((zs_e h0 h 109 (by decide)).mp q) n2)
  refine q_iinc X (pc := 25) (i := 5) (k := 1) (L2 := [some (.ref (g.2.2.2.2 0)), some (.int x), some (.int 0), some (.int 9), some (.int (x).toInt8.toInt32), some (.int 3)]) (zw_dg dk_Lat_indexOfChar 15 rfl) rfl (by decide) (by decide) rfl ?_
  refine q_goto X (pc := 28) (tgt := 7) (zw_dg dk_Lat_indexOfChar 16 rfl) (by decide) ?_
  refine q_iload X (pc := 7) (i := 5) (zw_dg dk_Lat_indexOfChar 5 rfl) rfl ?_
  refine q_iload_n X (pc := 9) (i := 3) (zw_dg dk_Lat_indexOfChar 6 rfl) rfl rfl ?_
  refine q_icmp_ge X (pc := 10) (tgt := 31) (zw_dg dk_Lat_indexOfChar 7 rfl) (by decide) (fun q => absurd q (show ¬ (9 : Int32) ≤ 3 from by decide)) (fun q => ?_)
  refine q_aload_n X (pc := 13) (i := 0) (zw_dg dk_Lat_indexOfChar 8 rfl) rfl rfl ?_
  refine q_iload X (pc := 14) (i := 5) (zw_dg dk_Lat_indexOfChar 9 rfl) rfl ?_
  refine q_byte X (pc := 16) (x := 120) (show ¬ ((3 : Int32) < 0 ∨ 9 ≤ (3 : Int32).toNatClampNeg) from by decide) rfl (zw_dg dk_Lat_indexOfChar 10 rfl) ?_
  refine q_iload X (pc := 17) (i := 4) (zw_dg dk_Lat_indexOfChar 11 rfl) rfl ?_
  refine q_icmp_ne X (pc := 19) (tgt := 25) (zw_dg dk_Lat_indexOfChar 12 rfl) (by decide) (fun q => ?_) (fun q => absurd ((zs_e h0 h 120 (by decide)).mp q) n3)
  refine q_iinc X (pc := 25) (i := 5) (k := 1) (L2 := [some (.ref (g.2.2.2.2 0)), some (.int x), some (.int 0), some (.int 9), some (.int (x).toInt8.toInt32), some (.int 4)]) (zw_dg dk_Lat_indexOfChar 15 rfl) rfl (by decide) (by decide) rfl ?_
  refine q_goto X (pc := 28) (tgt := 7) (zw_dg dk_Lat_indexOfChar 16 rfl) (by decide) ?_
  refine q_iload X (pc := 7) (i := 5) (zw_dg dk_Lat_indexOfChar 5 rfl) rfl ?_
  refine q_iload_n X (pc := 9) (i := 3) (zw_dg dk_Lat_indexOfChar 6 rfl) rfl rfl ?_
  refine q_icmp_ge X (pc := 10) (tgt := 31) (zw_dg dk_Lat_indexOfChar 7 rfl) (by decide) (fun q => absurd q (show ¬ (9 : Int32) ≤ 4 from by decide)) (fun q => ?_)
  refine q_aload_n X (pc := 13) (i := 0) (zw_dg dk_Lat_indexOfChar 8 rfl) rfl rfl ?_
  refine q_iload X (pc := 14) (i := 5) (zw_dg dk_Lat_indexOfChar 9 rfl) rfl ?_
  refine q_byte X (pc := 16) (x := 116) (show ¬ ((4 : Int32) < 0 ∨ 9 ≤ (4 : Int32).toNatClampNeg) from by decide) rfl (zw_dg dk_Lat_indexOfChar 10 rfl) ?_
  refine q_iload X (pc := 17) (i := 4) (zw_dg dk_Lat_indexOfChar 11 rfl) rfl ?_
  refine q_icmp_ne X (pc := 19) (tgt := 25) (zw_dg dk_Lat_indexOfChar 12 rfl) (by decide) (fun q => ?_) (fun q => absurd ((zs_e h0 h 116 (by decide)).mp q) n4)
  refine q_iinc X (pc := 25) (i := 5) (k := 1) (L2 := [some (.ref (g.2.2.2.2 0)), some (.int x), some (.int 0), some (.int 9), some (.int (x).toInt8.toInt32), some (.int 5)]) (zw_dg dk_Lat_indexOfChar 15 rfl) rfl (by decide) (by decide) rfl ?_
  refine q_goto X (pc := 28) (tgt := 7) (zw_dg dk_Lat_indexOfChar 16 rfl) (by decide) ?_
  refine q_iload X (pc := 7) (i := 5) (zw_dg dk_Lat_indexOfChar 5 rfl) rfl ?_
  refine q_iload_n X (pc := 9) (i := 3) (zw_dg dk_Lat_indexOfChar 6 rfl) rfl rfl ?_
  refine q_icmp_ge X (pc := 10) (tgt := 31) (zw_dg dk_Lat_indexOfChar 7 rfl) (by decide) (fun q => absurd q (show ¬ (9 : Int32) ≤ 5 from by decide)) (fun q => ?_)
  refine q_aload_n X (pc := 13) (i := 0) (zw_dg dk_Lat_indexOfChar 8 rfl) rfl rfl ?_
  refine q_iload X (pc := 14) (i := 5) (zw_dg dk_Lat_indexOfChar 9 rfl) rfl ?_
  refine q_byte X (pc := 16) (x := 117) (show ¬ ((5 : Int32) < 0 ∨ 9 ≤ (5 : Int32).toNatClampNeg) from by decide) rfl (zw_dg dk_Lat_indexOfChar 10 rfl) ?_
  refine q_iload X (pc := 17) (i := 4) (zw_dg dk_Lat_indexOfChar 11 rfl) rfl ?_
  refine q_icmp_ne X (pc := 19) (tgt := 25) (zw_dg dk_Lat_indexOfChar 12 rfl) (by decide) (fun q => ?_) (fun q => absurd ((zs_e h0 h 117 (by decide)).mp q) n5)
  refine q_iinc X (pc := 25) (i := 5) (k := 1) (L2 := [some (.ref (g.2.2.2.2 0)), some (.int x), some (.int 0), some (.int 9), some (.int (x).toInt8.toInt32), some (.int 6)]) (zw_dg dk_Lat_indexOfChar 15 rfl) rfl (by decide) (by decide) rfl ?_
  refine q_goto X (pc := 28) (tgt := 7) (zw_dg dk_Lat_indexOfChar 16 rfl) (by decide) ?_
  refine q_iload X (pc := 7) (i := 5) (zw_dg dk_Lat_indexOfChar 5 rfl) rfl ?_
  refine q_iload_n X (pc := 9) (i := 3) (zw_dg dk_Lat_indexOfChar 6 rfl) rfl rfl ?_
  refine q_icmp_ge X (pc := 10) (tgt := 31) (zw_dg dk_Lat_indexOfChar 7 rfl) (by decide) (fun q => absurd q (show ¬ (9 : Int32) ≤ 6 from by decide)) (fun q => ?_)
  refine q_aload_n X (pc := 13) (i := 0) (zw_dg dk_Lat_indexOfChar 8 rfl) rfl rfl ?_
  refine q_iload X (pc := 14) (i := 5) (zw_dg dk_Lat_indexOfChar 9 rfl) rfl ?_
  refine q_byte X (pc := 16) (x := 101) (show ¬ ((6 : Int32) < 0 ∨ 9 ≤ (6 : Int32).toNatClampNeg) from by decide) rfl (zw_dg dk_Lat_indexOfChar 10 rfl) ?_
  refine q_iload X (pc := 17) (i := 4) (zw_dg dk_Lat_indexOfChar 11 rfl) rfl ?_
  refine q_icmp_ne X (pc := 19) (tgt := 25) (zw_dg dk_Lat_indexOfChar 12 rfl) (by decide) (fun q => ?_) (fun q => absurd ((zs_e h0 h 101 (by decide)).mp q) n6)
  refine q_iinc X (pc := 25) (i := 5) (k := 1) (L2 := [some (.ref (g.2.2.2.2 0)), some (.int x), some (.int 0), some (.int 9), some (.int (x).toInt8.toInt32), some (.int 7)]) (zw_dg dk_Lat_indexOfChar 15 rfl) rfl (by decide) (by decide) rfl ?_
  refine q_goto X (pc := 28) (tgt := 7) (zw_dg dk_Lat_indexOfChar 16 rfl) (by decide) ?_
  refine q_iload X (pc := 7) (i := 5) (zw_dg dk_Lat_indexOfChar 5 rfl) rfl ?_
  refine q_iload_n X (pc := 9) (i := 3) (zw_dg dk_Lat_indexOfChar 6 rfl) rfl rfl ?_
  refine q_icmp_ge X (pc := 10) (tgt := 31) (zw_dg dk_Lat_indexOfChar 7 rfl) (by decide) (fun q => absurd q (show ¬ (9 : Int32) ≤ 7 from by decide)) (fun q => ?_)
  refine q_aload_n X (pc := 13) (i := 0) (zw_dg dk_Lat_indexOfChar 8 rfl) rfl rfl ?_
  refine q_iload X (pc := 14) (i := 5) (zw_dg dk_Lat_indexOfChar 9 rfl) rfl ?_
  refine q_byte X (pc := 16) (x := 110) (show ¬ ((7 : Int32) < 0 ∨ 9 ≤ (7 : Int32).toNatClampNeg) from by decide) rfl (zw_dg dk_Lat_indexOfChar 10 rfl) ?_
  refine q_iload X (pc := 17) (i := 4) (zw_dg dk_Lat_indexOfChar 11 rfl) rfl ?_
  refine q_icmp_ne X (pc := 19) (tgt := 25) (zw_dg dk_Lat_indexOfChar 12 rfl) (by decide) (fun q => ?_) (fun q => absurd ((zs_e h0 h 110 (by decide)).mp q) n7)
  refine q_iinc X (pc := 25) (i := 5) (k := 1) (L2 := [some (.ref (g.2.2.2.2 0)), some (.int x), some (.int 0), some (.int 9), some (.int (x).toInt8.toInt32), some (.int 8)]) (zw_dg dk_Lat_indexOfChar 15 rfl) rfl (by decide) (by decide) rfl ?_
  refine q_goto X (pc := 28) (tgt := 7) (zw_dg dk_Lat_indexOfChar 16 rfl) (by decide) ?_
  refine q_iload X (pc := 7) (i := 5) (zw_dg dk_Lat_indexOfChar 5 rfl) rfl ?_
  refine q_iload_n X (pc := 9) (i := 3) (zw_dg dk_Lat_indexOfChar 6 rfl) rfl rfl ?_
  refine q_icmp_ge X (pc := 10) (tgt := 31) (zw_dg dk_Lat_indexOfChar 7 rfl) (by decide) (fun q => absurd q (show ¬ (9 : Int32) ≤ 8 from by decide)) (fun q => ?_)
  refine q_aload_n X (pc := 13) (i := 0) (zw_dg dk_Lat_indexOfChar 8 rfl) rfl rfl ?_
  refine q_iload X (pc := 14) (i := 5) (zw_dg dk_Lat_indexOfChar 9 rfl) rfl ?_
  refine q_byte X (pc := 16) (x := 100) (show ¬ ((8 : Int32) < 0 ∨ 9 ≤ (8 : Int32).toNatClampNeg) from by decide) rfl (zw_dg dk_Lat_indexOfChar 10 rfl) ?_
  refine q_iload X (pc := 17) (i := 4) (zw_dg dk_Lat_indexOfChar 11 rfl) rfl ?_
  refine q_icmp_ne X (pc := 19) (tgt := 25) (zw_dg dk_Lat_indexOfChar 12 rfl) (by decide) (fun q => absurd ((zs_e h0 h 100 (by decide)).mpr hx) q) (fun q => ?_)
  refine q_iload X (pc := 22) (i := 5) (zw_dg dk_Lat_indexOfChar 13 rfl) rfl ?_
  exact q_iret X (pc := 24) rfl (zw_dg dk_Lat_indexOfChar 14 rfl)
set_option maxRecDepth 100000 in
theorem km_Lat_ioc9 {l : Launch} {g : zw_G} {rr : zw_RR} {sh : zw_Sh} {c : zw_Ct} {x : Int32} (h0 : ¬ x < 0) (h : ¬ 255 < x) (n0 : ¬ x = 113) (n1 : ¬ x = 115) (n2 : ¬ x = 109) (n3 : ¬ x = 120) (n4 : ¬ x = 116) (n5 : ¬ x = 117) (n6 : ¬ x = 101) (n7 : ¬ x = 110) (n8 : ¬ x = 100) : zw_MetQ l g y_Lat_indexOfChar b_Lat_indexOfChar 6 (some .int) 1 rr sh [.ref (g.2.2.2.2 0), .int x, .int 0, .int 9] c (-1) := by
  refine zw_MetQ.of (by decide +kernel) (Nat.le_of_ble_eq_true rfl) (fun p e s m args below meth cd X => ?_)
  refine q_eL (L2 := [some (.ref (g.2.2.2.2 0)), some (.int x), some (.int 0), some (.int 9), none, none]) rfl ?_
  refine q_iload_n X (pc := 0) (i := 1) (zw_dg dk_Lat_indexOfChar 0 rfl) rfl rfl ?_
  refine q_i2b X (pc := 1) (zw_dg dk_Lat_indexOfChar 1 rfl) ?_
  refine q_istore X (pc := 2) (i := 4) (L2 := [some (.ref (g.2.2.2.2 0)), some (.int x), some (.int 0), some (.int 9), some (.int (x).toInt8.toInt32), none]) (zw_dg dk_Lat_indexOfChar 2 rfl) (by decide) rfl ?_
  refine q_iload_n X (pc := 4) (i := 2) (zw_dg dk_Lat_indexOfChar 3 rfl) rfl rfl ?_
  refine q_istore X (pc := 5) (i := 5) (L2 := [some (.ref (g.2.2.2.2 0)), some (.int x), some (.int 0), some (.int 9), some (.int (x).toInt8.toInt32), some (.int 0)]) (zw_dg dk_Lat_indexOfChar 4 rfl) (by decide) rfl ?_
  refine q_iload X (pc := 7) (i := 5) (zw_dg dk_Lat_indexOfChar 5 rfl) rfl ?_
  refine q_iload_n X (pc := 9) (i := 3) (zw_dg dk_Lat_indexOfChar 6 rfl) rfl rfl ?_
  refine q_icmp_ge X (pc := 10) (tgt := 31) (zw_dg dk_Lat_indexOfChar 7 rfl) (by decide) (fun q => absurd q (show ¬ (9 : Int32) ≤ 0 from by decide)) (fun q => ?_)
  refine q_aload_n X (pc := 13) (i := 0) (zw_dg dk_Lat_indexOfChar 8 rfl) rfl rfl ?_
  refine q_iload X (pc := 14) (i := 5) (zw_dg dk_Lat_indexOfChar 9 rfl) rfl ?_
  refine q_byte X (pc := 16) (x := 113) (show ¬ ((0 : Int32) < 0 ∨ 9 ≤ (0 : Int32).toNatClampNeg) from by decide) rfl (zw_dg dk_Lat_indexOfChar 10 rfl) ?_
  refine q_iload X (pc := 17) (i := 4) (zw_dg dk_Lat_indexOfChar 11 rfl) rfl ?_
  refine q_icmp_ne X (pc := 19) (tgt := 25) (zw_dg dk_Lat_indexOfChar 12 rfl) (by decide) (fun q => ?_) (fun q => absurd ((zs_e h0 h 113 (by decide)).mp q) n0)
  refine q_iinc X (pc := 25) (i := 5) (k := 1) (L2 := [some (.ref (g.2.2.2.2 0)), some (.int x), some (.int 0), some (.int 9), some (.int (x).toInt8.toInt32), some (.int 1)]) (zw_dg dk_Lat_indexOfChar 15 rfl) rfl (by decide) (by decide) rfl ?_
  refine q_goto X (pc := 28) (tgt := 7) (zw_dg dk_Lat_indexOfChar 16 rfl) (by decide) ?_
  refine q_iload X (pc := 7) (i := 5) (zw_dg dk_Lat_indexOfChar 5 rfl) rfl ?_
  refine q_iload_n X (pc := 9) (i := 3) (zw_dg dk_Lat_indexOfChar 6 rfl) rfl rfl ?_
  refine q_icmp_ge X (pc := 10) (tgt := 31) (zw_dg dk_Lat_indexOfChar 7 rfl) (by decide) (fun q => absurd q (show ¬ (9 : Int32) ≤ 1 from by decide)) (fun q => ?_)
  refine q_aload_n X (pc := 13) (i := 0) (zw_dg dk_Lat_indexOfChar 8 rfl) rfl rfl ?_
  refine q_iload X (pc := 14) (i := 5) (zw_dg dk_Lat_indexOfChar 9 rfl) rfl ?_
  refine q_byte X (pc := 16) (x := 115) (show ¬ ((1 : Int32) < 0 ∨ 9 ≤ (1 : Int32).toNatClampNeg) from by decide) rfl (zw_dg dk_Lat_indexOfChar 10 rfl) ?_
  refine q_iload X (pc := 17) (i := 4) (zw_dg dk_Lat_indexOfChar 11 rfl) rfl ?_
  refine q_icmp_ne X (pc := 19) (tgt := 25) (zw_dg dk_Lat_indexOfChar 12 rfl) (by decide) (fun q => ?_) (fun q => absurd ((zs_e h0 h 115 (by decide)).mp q) n1)
  refine q_iinc X (pc := 25) (i := 5) (k := 1) (L2 := [some (.ref (g.2.2.2.2 0)), some (.int x), some (.int 0), some (.int 9), some (.int (x).toInt8.toInt32), some (.int 2)]) (zw_dg dk_Lat_indexOfChar 15 rfl) rfl (by decide) (by decide) rfl ?_
  refine q_goto X (pc := 28) (tgt := 7) (zw_dg dk_Lat_indexOfChar 16 rfl) (by decide) ?_
  refine q_iload X (pc := 7) (i := 5) (zw_dg dk_Lat_indexOfChar 5 rfl) rfl ?_
  refine q_iload_n X (pc := 9) (i := 3) (zw_dg dk_Lat_indexOfChar 6 rfl) rfl rfl ?_
  refine q_icmp_ge X (pc := 10) (tgt := 31) (zw_dg dk_Lat_indexOfChar 7 rfl) (by decide) (fun q => absurd q (show ¬ (9 : Int32) ≤ 2 from by decide)) (fun q => ?_)
  refine q_aload_n X (pc := 13) (i := 0) (zw_dg dk_Lat_indexOfChar 8 rfl) rfl rfl ?_
  refine q_iload X (pc := 14) (i := 5) (zw_dg dk_Lat_indexOfChar 9 rfl) rfl ?_
  refine q_byte X (pc := 16) (x := 109) (show ¬ ((2 : Int32) < 0 ∨ 9 ≤ (2 : Int32).toNatClampNeg) from by decide) rfl (zw_dg dk_Lat_indexOfChar 10 rfl) ?_
  refine q_iload X (pc := 17) (i := 4) (zw_dg dk_Lat_indexOfChar 11 rfl) rfl ?_
  refine q_icmp_ne X (pc := 19) (tgt := 25) (zw_dg dk_Lat_indexOfChar 12 rfl) (by decide) (fun q => ?_) (fun q => absurd ((zs_e h0 h 109 (by decide)).mp q) n2)
  refine q_iinc X (pc := 25) (i := 5) (k := 1) (L2 := [some (.ref (g.2.2.2.2 0)), some (.int x), some (.int 0), some (.int 9), some (.int (x).toInt8.toInt32), some (.int 3)]) (zw_dg dk_Lat_indexOfChar 15 rfl) rfl (by decide) (by decide) rfl ?_
  refine q_goto X (pc := 28) (tgt := 7) (zw_dg dk_Lat_indexOfChar 16 rfl) (by decide) ?_
  refine q_iload X (pc := 7) (i := 5) (zw_dg dk_Lat_indexOfChar 5 rfl) rfl ?_
  refine q_iload_n X (pc := 9) (i := 3) (zw_dg dk_Lat_indexOfChar 6 rfl) rfl rfl ?_
  refine q_icmp_ge X (pc := 10) (tgt := 31) (zw_dg dk_Lat_indexOfChar 7 rfl) (by decide) (fun q => absurd q (show ¬ (9 : Int32) ≤ 3 from by decide)) (fun q => ?_)
  refine q_aload_n X (pc := 13) (i := 0) (zw_dg dk_Lat_indexOfChar 8 rfl) rfl rfl ?_
  refine q_iload X (pc := 14) (i := 5) (zw_dg dk_Lat_indexOfChar 9 rfl) rfl ?_
  refine q_byte X (pc := 16) (x := 120) (show ¬ ((3 : Int32) < 0 ∨ 9 ≤ (3 : Int32).toNatClampNeg) from by decide) rfl (zw_dg dk_Lat_indexOfChar 10 rfl) ?_
  refine q_iload X (pc := 17) (i := 4) (zw_dg dk_Lat_indexOfChar 11 rfl) rfl ?_
  refine q_icmp_ne X (pc := 19) (tgt := 25) (zw_dg dk_Lat_indexOfChar 12 rfl) (by decide) (fun q => ?_) (fun q => absurd ((zs_e h0 h 120 (by decide)).mp q) n3)
  refine q_iinc X (pc := 25) (i := 5) (k := 1) (L2 := [some (.ref (g.2.2.2.2 0)), some (.int x), some (.int 0), some (.int 9), some (.int (x).toInt8.toInt32), some (.int 4)]) (zw_dg dk_Lat_indexOfChar 15 rfl) rfl (by decide) (by decide) rfl ?_
  refine q_goto X (pc := 28) (tgt := 7) (zw_dg dk_Lat_indexOfChar 16 rfl) (by decide) ?_
  refine q_iload X (pc := 7) (i := 5) (zw_dg dk_Lat_indexOfChar 5 rfl) rfl ?_
  refine q_iload_n X (pc := 9) (i := 3) (zw_dg dk_Lat_indexOfChar 6 rfl) rfl rfl ?_
  refine q_icmp_ge X (pc := 10) (tgt := 31) (zw_dg dk_Lat_indexOfChar 7 rfl) (by decide) (fun q => absurd q (show ¬ (9 : Int32) ≤ 4 from by decide)) (fun q => ?_)
  refine q_aload_n X (pc := 13) (i := 0) (zw_dg dk_Lat_indexOfChar 8 rfl) rfl rfl ?_
  refine q_iload X (pc := 14) (i := 5) (zw_dg dk_Lat_indexOfChar 9 rfl) rfl ?_
  refine q_byte X (pc := 16) (x := 116) (show ¬ ((4 : Int32) < 0 ∨ 9 ≤ (4 : Int32).toNatClampNeg) from by decide) rfl (zw_dg dk_Lat_indexOfChar 10 rfl) ?_
  refine q_iload X (pc := 17) (i := 4) (zw_dg dk_Lat_indexOfChar 11 rfl) rfl ?_
  refine q_icmp_ne X (pc := 19) (tgt := 25) (zw_dg dk_Lat_indexOfChar 12 rfl) (by decide) (fun q => ?_) (fun q => absurd ((zs_e h0 h 116 (by decide)).mp q) n4)
  refine q_iinc X (pc := 25) (i := 5) (k := 1) (L2 := [some (.ref (g.2.2.2.2 0)), some (.int x), some (.int 0), some (.int 9), some (.int (x).toInt8.toInt32), some (.int 5)]) (zw_dg dk_Lat_indexOfChar 15 rfl) rfl (by decide) (by decide) rfl ?_
  refine q_goto X (pc := 28) (tgt := 7) (zw_dg dk_Lat_indexOfChar 16 rfl) (by decide) ?_
  refine q_iload X (pc := 7) (i := 5) (zw_dg dk_Lat_indexOfChar 5 rfl) rfl ?_
  refine q_iload_n X (pc := 9) (i := 3) (zw_dg dk_Lat_indexOfChar 6 rfl) rfl rfl ?_
  refine q_icmp_ge X (pc := 10) (tgt := 31) (zw_dg dk_Lat_indexOfChar 7 rfl) (by decide) (fun q => absurd q (show ¬ (9 : Int32) ≤ 5 from by decide)) (fun q => ?_)
  refine q_aload_n X (pc := 13) (i := 0) (zw_dg dk_Lat_indexOfChar 8 rfl) rfl rfl ?_
  refine q_iload X (pc := 14) (i := 5) (zw_dg dk_Lat_indexOfChar 9 rfl) rfl ?_
  refine q_byte X (pc := 16) (x := 117) (show ¬ ((5 : Int32) < 0 ∨ 9 ≤ (5 : Int32).toNatClampNeg) from by decide) rfl (zw_dg dk_Lat_indexOfChar 10 rfl) ?_
  refine q_iload X (pc := 17) (i := 4) (zw_dg dk_Lat_indexOfChar 11 rfl) rfl ?_
  refine q_icmp_ne X (pc := 19) (tgt := 25) (zw_dg dk_Lat_indexOfChar 12 rfl) (by decide) (fun q => ?_) (fun q => absurd ((zs_e h0 h 117 (by decide)).mp q) n5)
  refine q_iinc X (pc := 25) (i := 5) (k := 1) (L2 := [some (.ref (g.2.2.2.2 0)), some (.int x), some (.int 0), some (.int 9), some (.int (x).toInt8.toInt32), some (.int 6)]) (zw_dg dk_Lat_indexOfChar 15 rfl) rfl (by decide) (by decide) rfl ?_
  refine q_goto X (pc := 28) (tgt := 7) (zw_dg dk_Lat_indexOfChar 16 rfl) (by decide) ?_
  refine q_iload X (pc := 7) (i := 5) (zw_dg dk_Lat_indexOfChar 5 rfl) rfl ?_
  refine q_iload_n X (pc := 9) (i := 3) (zw_dg dk_Lat_indexOfChar 6 rfl) rfl rfl ?_
  refine q_icmp_ge X (pc := 10) (tgt := 31) (zw_dg dk_Lat_indexOfChar 7 rfl) (by decide) (fun q => absurd q (show ¬ (9 : Int32) ≤ 6 from by decide)) (fun q => ?_)
  refine q_aload_n X (pc := 13) (i := 0) (zw_dg dk_Lat_indexOfChar 8 rfl) rfl rfl ?_
  refine q_iload X (pc := 14) (i := 5) (zw_dg dk_Lat_indexOfChar 9 rfl) rfl ?_
  refine q_byte X (pc := 16) (x := 101) (show ¬ ((6 : Int32) < 0 ∨ 9 ≤ (6 : Int32).toNatClampNeg) from by decide) rfl (zw_dg dk_Lat_indexOfChar 10 rfl) ?_
  refine q_iload X (pc := 17) (i := 4) (zw_dg dk_Lat_indexOfChar 11 rfl) rfl ?_
  refine q_icmp_ne X (pc := 19) (tgt := 25) (zw_dg dk_Lat_indexOfChar 12 rfl) (by decide) (fun q => ?_) (fun q => absurd ((zs_e h0 h 101 (by decide)).mp q) n6)
  refine q_iinc X (pc := 25) (i := 5) (k := 1) (L2 := [some (.ref (g.2.2.2.2 0)), some (.int x), some (.int 0), some (.int 9), some (.int (x).toInt8.toInt32), some (.int 7)]) (zw_dg dk_Lat_indexOfChar 15 rfl) rfl (by decide) (by decide) rfl ?_
  refine q_goto X (pc := 28) (tgt := 7) (zw_dg dk_Lat_indexOfChar 16 rfl) (by decide) ?_
  refine q_iload X (pc := 7) (i := 5) (zw_dg dk_Lat_indexOfChar 5 rfl) rfl ?_
  refine q_iload_n X (pc := 9) (i := 3) (zw_dg dk_Lat_indexOfChar 6 rfl) rfl rfl ?_
  refine q_icmp_ge X (pc := 10) (tgt := 31) (zw_dg dk_Lat_indexOfChar 7 rfl) (by decide) (fun q => absurd q (show ¬ (9 : Int32) ≤ 7 from by decide)) (fun q => ?_)
  refine q_aload_n X (pc := 13) (i := 0) (zw_dg dk_Lat_indexOfChar 8 rfl) rfl rfl ?_
  refine q_iload X (pc := 14) (i := 5) (zw_dg dk_Lat_indexOfChar 9 rfl) rfl ?_
  refine q_byte X (pc := 16) (x := 110) (show ¬ ((7 : Int32) < 0 ∨ 9 ≤ (7 : Int32).toNatClampNeg) from by decide) rfl (zw_dg dk_Lat_indexOfChar 10 rfl) ?_
  refine q_iload X (pc := 17) (i := 4) (zw_dg dk_Lat_indexOfChar 11 rfl) rfl ?_
  refine q_icmp_ne X (pc := 19) (tgt := 25) (zw_dg dk_Lat_indexOfChar 12 rfl) (by decide) (fun q => ?_) (fun q => absurd ((zs_e h0 h 110 (by decide)).mp q) n7)
  refine q_iinc X (pc := 25) (i := 5) (k := 1) (L2 := [some (.ref (g.2.2.2.2 0)), some (.int x), some (.int 0), some (.int 9), some (.int (x).toInt8.toInt32), some (.int 8)]) (zw_dg dk_Lat_indexOfChar 15 rfl) rfl (by decide) (by decide) rfl ?_
  refine q_goto X (pc := 28) (tgt := 7) (zw_dg dk_Lat_indexOfChar 16 rfl) (by decide) ?_
  refine q_iload X (pc := 7) (i := 5) (zw_dg dk_Lat_indexOfChar 5 rfl) rfl ?_
  refine q_iload_n X (pc := 9) (i := 3) (zw_dg dk_Lat_indexOfChar 6 rfl) rfl rfl ?_
  refine q_icmp_ge X (pc := 10) (tgt := 31) (zw_dg dk_Lat_indexOfChar 7 rfl) (by decide) (fun q => absurd q (show ¬ (9 : Int32) ≤ 8 from by decide)) (fun q => ?_)
  refine q_aload_n X (pc := 13) (i := 0) (zw_dg dk_Lat_indexOfChar 8 rfl) rfl rfl ?_
  refine q_iload X (pc := 14) (i := 5) (zw_dg dk_Lat_indexOfChar 9 rfl) rfl ?_
  refine q_byte X (pc := 16) (x := 100) (show ¬ ((8 : Int32) < 0 ∨ 9 ≤ (8 : Int32).toNatClampNeg) from by decide) rfl (zw_dg dk_Lat_indexOfChar 10 rfl) ?_
  refine q_iload X (pc := 17) (i := 4) (zw_dg dk_Lat_indexOfChar 11 rfl) rfl ?_
  refine q_icmp_ne X (pc := 19) (tgt := 25) (zw_dg dk_Lat_indexOfChar 12 rfl) (by decide) (fun q => ?_) (fun q => absurd ((zs_e h0 h 100 (by decide)).mp q) n8)
  refine q_iinc X (pc := 25) (i := 5) (k := 1) (L2 := [some (.ref (g.2.2.2.2 0)), some (.int x), some (.int 0), some (.int 9), some (.int (x).toInt8.toInt32), some (.int 9)]) (zw_dg dk_Lat_indexOfChar 15 rfl) rfl (by decide) (by decide) rfl ?_
  refine q_goto X (pc := 28) (tgt := 7) (zw_dg dk_Lat_indexOfChar 16 rfl) (by decide) ?_
  refine q_iload X (pc := 7) (i := 5) (zw_dg dk_Lat_indexOfChar 5 rfl) rfl ?_
  refine q_iload_n X (pc := 9) (i := 3) (zw_dg dk_Lat_indexOfChar 6 rfl) rfl rfl ?_
  refine q_icmp_ge X (pc := 10) (tgt := 31) (zw_dg dk_Lat_indexOfChar 7 rfl) (by decide) (fun q => ?_) (fun q => absurd (show (9 : Int32) ≤ 9 from by decide) q)
  refine q_iconst X (pc := 31) (v := (-1)) (zw_dg dk_Lat_indexOfChar 17 rfl) (by decide) ?_
  exact q_iret X (pc := 32) rfl (zw_dg dk_Lat_indexOfChar 18 rfl)
theorem km_Lat_indexOfChar {l : Launch} {g : zw_G} {rr : zw_RR} {sh : zw_Sh} {c : zw_Ct} {x : Int32} (h0 : ¬ x < 0) (h : ¬ 255 < x) : zw_MetQ l g y_Lat_indexOfChar b_Lat_indexOfChar 6 (some .int) 1 rr sh [.ref (g.2.2.2.2 0), .int x, .int 0, .int 9] c (fn_ix x) := by
  unfold fn_ix
  by_cases n0 : x = 113
  · rw [if_pos n0]; exact km_Lat_ioc0 h0 h n0
  by_cases n1 : x = 115
  · rw [if_neg n0]; rw [if_pos n1]; exact km_Lat_ioc1 h0 h n0 n1
  by_cases n2 : x = 109
  · rw [if_neg n0, if_neg n1]; rw [if_pos n2]; exact km_Lat_ioc2 h0 h n0 n1 n2
  by_cases n3 : x = 120
  · rw [if_neg n0, if_neg n1, if_neg n2]; rw [if_pos n3]; exact km_Lat_ioc3 h0 h n0 n1 n2 n3
  by_cases n4 : x = 116
  · rw [if_neg n0, if_neg n1, if_neg n2, if_neg n3]; rw [if_pos n4]; exact km_Lat_ioc4 h0 h n0 n1 n2 n3 n4
  by_cases n5 : x = 117
  · rw [if_neg n0, if_neg n1, if_neg n2, if_neg n3, if_neg n4]; rw [if_pos n5]; exact km_Lat_ioc5 h0 h n0 n1 n2 n3 n4 n5
  by_cases n6 : x = 101
  · rw [if_neg n0, if_neg n1, if_neg n2, if_neg n3, if_neg n4, if_neg n5]; rw [if_pos n6]; exact km_Lat_ioc6 h0 h n0 n1 n2 n3 n4 n5 n6
  by_cases n7 : x = 110
  · rw [if_neg n0, if_neg n1, if_neg n2, if_neg n3, if_neg n4, if_neg n5, if_neg n6]; rw [if_pos n7]; exact km_Lat_ioc7 h0 h n0 n1 n2 n3 n4 n5 n6 n7
  by_cases n8 : x = 100
  · rw [if_neg n0, if_neg n1, if_neg n2, if_neg n3, if_neg n4, if_neg n5, if_neg n6, if_neg n7]; rw [if_pos n8]; exact km_Lat_ioc8 h0 h n0 n1 n2 n3 n4 n5 n6 n7 n8
  rw [if_neg n0, if_neg n1, if_neg n2, if_neg n3, if_neg n4, if_neg n5, if_neg n6, if_neg n7, if_neg n8]
  exact km_Lat_ioc9 h0 h n0 n1 n2 n3 n4 n5 n6 n7 n8
set_option maxRecDepth 100000 in
theorem km_Lat_indexOfN {l : Launch} {g : zw_G} {rr : zw_RR} {sh : zw_Sh} {c : zw_Ct} {x : Int32} (h : x < 0) : zw_MetQ l g y_Lat_indexOf b_Lat_indexOf 4 (some .int) 2 rr sh [.ref (g.2.2.2.2 0), .int x, .int 0, .int 9] c (-1) := by
  refine zw_MetQ.of (by decide +kernel) (Nat.le_of_ble_eq_true rfl) (fun p e s m args below meth cd X => ?_)
  refine q_eL (L2 := [some (.ref (g.2.2.2.2 0)), some (.int x), some (.int 0), some (.int 9)]) rfl ?_
  refine q_iload_n X (pc := 0) (i := 1) (zw_dg dk_Lat_indexOf 0 rfl) rfl rfl ?_
  refine q_callS X (pc := 1) (As := [.int x]) (st := []) (km_Lat_canEncodeN h) ce_Lat_canEncode kw_609 rfl ⟨Nat.le_of_ble_eq_true rfl, Nat.le_of_ble_eq_true rfl⟩ (Nat.le_of_ble_eq_true rfl) (zw_dg dk_Lat_indexOf 1 rfl) ?_
  refine q_if_ne X (pc := 4) (tgt := 9) (zw_dg dk_Lat_indexOf 2 rfl) (by decide) (fun q => absurd (show (0 : Int32) = 0 from by decide) q) (fun q => ?_)
  refine q_iconst X (pc := 7) (v := (-1)) (zw_dg dk_Lat_indexOf 3 rfl) (by decide) ?_
  exact q_iret X (pc := 8) rfl (zw_dg dk_Lat_indexOf 4 rfl)
set_option maxRecDepth 100000 in
theorem km_Lat_indexOfB {l : Launch} {g : zw_G} {rr : zw_RR} {sh : zw_Sh} {c : zw_Ct} {x : Int32} (h0 : ¬ x < 0) (h : 255 < x) : zw_MetQ l g y_Lat_indexOf b_Lat_indexOf 4 (some .int) 2 rr sh [.ref (g.2.2.2.2 0), .int x, .int 0, .int 9] c (-1) := by
  refine zw_MetQ.of (by decide +kernel) (Nat.le_of_ble_eq_true rfl) (fun p e s m args below meth cd X => ?_)
  refine q_eL (L2 := [some (.ref (g.2.2.2.2 0)), some (.int x), some (.int 0), some (.int 9)]) rfl ?_
  refine q_iload_n X (pc := 0) (i := 1) (zw_dg dk_Lat_indexOf 0 rfl) rfl rfl ?_
  refine q_callS X (pc := 1) (As := [.int x]) (st := []) (km_Lat_canEncodeB h0 h) ce_Lat_canEncode kw_609 rfl ⟨Nat.le_of_ble_eq_true rfl, Nat.le_of_ble_eq_true rfl⟩ (Nat.le_of_ble_eq_true rfl) (zw_dg dk_Lat_indexOf 1 rfl) ?_
  refine q_if_ne X (pc := 4) (tgt := 9) (zw_dg dk_Lat_indexOf 2 rfl) (by decide) (fun q => absurd (show (0 : Int32) = 0 from by decide) q) (fun q => ?_)
  refine q_iconst X (pc := 7) (v := (-1)) (zw_dg dk_Lat_indexOf 3 rfl) (by decide) ?_
  exact q_iret X (pc := 8) rfl (zw_dg dk_Lat_indexOf 4 rfl)
set_option maxRecDepth 100000 in
theorem km_Lat_indexOfY {l : Launch} {g : zw_G} {rr : zw_RR} {sh : zw_Sh} {c : zw_Ct} {x : Int32} (h0 : ¬ x < 0) (h : ¬ 255 < x) : zw_MetQ l g y_Lat_indexOf b_Lat_indexOf 4 (some .int) 2 rr sh [.ref (g.2.2.2.2 0), .int x, .int 0, .int 9] c (fn_ix x) := by
  refine zw_MetQ.of (by decide +kernel) (Nat.le_of_ble_eq_true rfl) (fun p e s m args below meth cd X => ?_)
  refine q_eL (L2 := [some (.ref (g.2.2.2.2 0)), some (.int x), some (.int 0), some (.int 9)]) rfl ?_
  refine q_iload_n X (pc := 0) (i := 1) (zw_dg dk_Lat_indexOf 0 rfl) rfl rfl ?_
  refine q_callS X (pc := 1) (As := [.int x]) (st := []) (km_Lat_canEncodeY h0 h) ce_Lat_canEncode kw_609 rfl ⟨Nat.le_of_ble_eq_true rfl, Nat.le_of_ble_eq_true rfl⟩ (Nat.le_of_ble_eq_true rfl) (zw_dg dk_Lat_indexOf 1 rfl) ?_
  refine q_if_ne X (pc := 4) (tgt := 9) (zw_dg dk_Lat_indexOf 2 rfl) (by decide) (fun q => ?_) (fun q => absurd q (show ¬ (1 : Int32) = 0 from by decide))
  refine q_iload_n X (pc := 9) (i := 2) (zw_dg dk_Lat_indexOf 5 rfl) rfl rfl ?_
  refine q_iconst X (pc := 10) (v := 0) (zw_dg dk_Lat_indexOf 6 rfl) (by decide) ?_
  refine q_mmax X (pc := 11) kw_612 mws_max kwi_math mwc_max ⟨Nat.le_of_ble_eq_true rfl, Nat.le_of_ble_eq_true rfl⟩ (Nat.le_of_ble_eq_true rfl) (zw_dg dk_Lat_indexOf 7 rfl) ?_
  refine q_eI (show (if (0 : Int32) < 0 then (0 : Int32) else 0) = 0 from by decide) ?_
  refine q_istore_n X (pc := 14) (i := 2) (L2 := [some (.ref (g.2.2.2.2 0)), some (.int x), some (.int 0), some (.int 9)]) (zw_dg dk_Lat_indexOf 8 rfl) rfl (by decide) rfl ?_
  refine q_iload_n X (pc := 15) (i := 3) (zw_dg dk_Lat_indexOf 9 rfl) rfl rfl ?_
  refine q_aload_n X (pc := 16) (i := 0) (zw_dg dk_Lat_indexOf 10 rfl) rfl rfl ?_
  refine q_len X (pc := 17) (zw_dg dk_Lat_indexOf 11 rfl) ?_
  refine q_mmin X (pc := 18) kw_613 mws_min kwi_math mwc_min ⟨Nat.le_of_ble_eq_true rfl, Nat.le_of_ble_eq_true rfl⟩ (Nat.le_of_ble_eq_true rfl) (zw_dg dk_Lat_indexOf 12 rfl) ?_
  refine q_eI (show (if (9 : Int32) < 9 then (9 : Int32) else 9) = 9 from by decide) ?_
  refine q_istore_n X (pc := 21) (i := 3) (L2 := [some (.ref (g.2.2.2.2 0)), some (.int x), some (.int 0), some (.int 9)]) (zw_dg dk_Lat_indexOf 13 rfl) rfl (by decide) rfl ?_
  refine q_iload_n X (pc := 22) (i := 2) (zw_dg dk_Lat_indexOf 14 rfl) rfl rfl ?_
  refine q_iload_n X (pc := 23) (i := 3) (zw_dg dk_Lat_indexOf 15 rfl) rfl rfl ?_
  refine q_icmp_lt X (pc := 24) (tgt := 29) (zw_dg dk_Lat_indexOf 16 rfl) (by decide) (fun q => ?_) (fun q => absurd (show (0 : Int32) < 9 from by decide) q)
  refine q_aload_n X (pc := 29) (i := 0) (zw_dg dk_Lat_indexOf 19 rfl) rfl rfl ?_
  refine q_iload_n X (pc := 30) (i := 1) (zw_dg dk_Lat_indexOf 20 rfl) rfl rfl ?_
  refine q_iload_n X (pc := 31) (i := 2) (zw_dg dk_Lat_indexOf 21 rfl) rfl rfl ?_
  refine q_iload_n X (pc := 32) (i := 3) (zw_dg dk_Lat_indexOf 22 rfl) rfl rfl ?_
  refine q_callS X (pc := 33) (As := [.ref (g.2.2.2.2 0), .int x, .int 0, .int 9]) (st := []) (km_Lat_indexOfChar h0 h) ce_Lat_indexOfChar kw_614 rfl ⟨Nat.le_of_ble_eq_true rfl, Nat.le_of_ble_eq_true rfl⟩ (Nat.le_of_ble_eq_true rfl) (zw_dg dk_Lat_indexOf 23 rfl) ?_
  exact q_iret X (pc := 36) rfl (zw_dg dk_Lat_indexOf 24 rfl)
theorem km_Lat_indexOf {l : Launch} {g : zw_G} {rr : zw_RR} {sh : zw_Sh} {c : zw_Ct} {x : Int32} : zw_MetQ l g y_Lat_indexOf b_Lat_indexOf 4 (some .int) 2 rr sh [.ref (g.2.2.2.2 0), .int x, .int 0, .int 9] c (fn_ix x) := by
  by_cases h0 : x < 0
  · rw [fn_ix_out (Or.inl h0)]; exact km_Lat_indexOfN h0
  by_cases h : 255 < x
  · rw [fn_ix_out (Or.inr h)]; exact km_Lat_indexOfB h0 h
  exact km_Lat_indexOfY h0 h
set_option maxRecDepth 100000 in
theorem km_Str_indexOf2 {l : Launch} {g : zw_G} {rr : zw_RR} {sh : zw_Sh} {c : zw_Ct} {x : Int32} : zw_MetQ l g y_Str_indexOf2 b_Str_indexOf2 3 (some .int) 3 rr sh [.ref (g.2.2.2.1 0), .int x, .int 0] c (fn_ix x) := by
  refine zw_MetQ.of (by decide +kernel) (Nat.le_of_ble_eq_true rfl) (fun p e s m args below meth cd X => ?_)
  refine q_eL (L2 := [some (.ref (g.2.2.2.1 0)), some (.int x), some (.int 0)]) rfl ?_
  refine q_aload_n X (pc := 0) (i := 0) (zw_dg dk_Str_indexOf2 0 rfl) rfl rfl ?_
  refine q_callV X (pc := 1) (As := []) (st := []) (km_Str_isLatin1) ce_Str_isLatin1 kw_592 rfl rfl ⟨Nat.le_of_ble_eq_true rfl, Nat.le_of_ble_eq_true rfl⟩ (Nat.le_of_ble_eq_true rfl) (zw_dg dk_Str_indexOf2 1 rfl) ?_
  refine q_if_eq X (pc := 4) (tgt := 23) (zw_dg dk_Str_indexOf2 2 rfl) (by decide) (fun q => absurd q (show ¬ (1 : Int32) = 0 from by decide)) (fun q => ?_)
  refine q_aload_n X (pc := 7) (i := 0) (zw_dg dk_Str_indexOf2 3 rfl) rfl rfl ?_
  refine q_value X (pc := 8) kw_2036 (zw_dg dk_Str_indexOf2 4 rfl) ?_
  refine q_iload_n X (pc := 11) (i := 1) (zw_dg dk_Str_indexOf2 5 rfl) rfl rfl ?_
  refine q_iload_n X (pc := 12) (i := 2) (zw_dg dk_Str_indexOf2 6 rfl) rfl rfl ?_
  refine q_aload_n X (pc := 13) (i := 0) (zw_dg dk_Str_indexOf2 7 rfl) rfl rfl ?_
  refine q_callV X (pc := 14) (As := []) (st := [.int 0, .int x, .ref (g.2.2.2.2 0)]) (km_Str_length) ce_Str_length kw_598 rfl rfl ⟨Nat.le_of_ble_eq_true rfl, Nat.le_of_ble_eq_true rfl⟩ (Nat.le_of_ble_eq_true rfl) (zw_dg dk_Str_indexOf2 8 rfl) ?_
  refine q_callS X (pc := 17) (As := [.ref (g.2.2.2.2 0), .int x, .int 0, .int 9]) (st := []) (km_Lat_indexOf) ce_Lat_indexOf kw_606 rfl ⟨Nat.le_of_ble_eq_true rfl, Nat.le_of_ble_eq_true rfl⟩ (Nat.le_of_ble_eq_true rfl) (zw_dg dk_Str_indexOf2 9 rfl) ?_
  refine q_goto X (pc := 20) (tgt := 36) (zw_dg dk_Str_indexOf2 10 rfl) (by decide) ?_
  exact q_iret X (pc := 36) rfl (zw_dg dk_Str_indexOf2 18 rfl)
set_option maxRecDepth 100000 in
theorem km_Str_indexOf {l : Launch} {g : zw_G} {rr : zw_RR} {sh : zw_Sh} {c : zw_Ct} {x : Int32} : zw_MetQ l g y_Str_indexOf b_Str_indexOf 2 (some .int) 4 rr sh [.ref (g.2.2.2.1 0), .int x] c (fn_ix x) := by
  refine zw_MetQ.of (by decide +kernel) (Nat.le_of_ble_eq_true rfl) (fun p e s m args below meth cd X => ?_)
  refine q_eL (L2 := [some (.ref (g.2.2.2.1 0)), some (.int x)]) rfl ?_
  refine q_aload_n X (pc := 0) (i := 0) (zw_dg dk_Str_indexOf 0 rfl) rfl rfl ?_
  refine q_iload_n X (pc := 1) (i := 1) (zw_dg dk_Str_indexOf 1 rfl) rfl rfl ?_
  refine q_iconst X (pc := 2) (v := 0) (zw_dg dk_Str_indexOf 2 rfl) (by decide) ?_
  refine q_callV X (pc := 3) (As := [.int x, .int 0]) (st := []) (km_Str_indexOf2) ce_Str_indexOf2 kw_588 rfl rfl ⟨Nat.le_of_ble_eq_true rfl, Nat.le_of_ble_eq_true rfl⟩ (Nat.le_of_ble_eq_true rfl) (zw_dg dk_Str_indexOf 3 rfl) ?_
  exact q_iret X (pc := 6) rfl (zw_dg dk_Str_indexOf 4 rfl)
theorem kw_584 : (.methodLink R_Text 77 ⟨"java/lang/String", "indexOf", "(I)I"⟩ : Cond) ∈ ktG := kt_in 584 (by decide +kernel) rfl
section ZXI
variable {p : Program} {l : Launch} {e : Env} {R : Room} {s : State} {m : MethodId} {args : Array Value} {below : List Frame} {meth : Method} {cd : Code} {cells slots : Nat} {Q : State → Prop} {g : zw_G} {cc : ByteArray} {own : String} {ret : Option FieldType} {nL : Nat} {sh : zw_Sh} {rr : zw_RR} {pc : Nat} {L : zw_Lc} {c : zw_Ct} {st : List Value}
theorem r_indexOf (X : zw_FX p R s m args meth cd cells slots g cc R_Text ret nL) {x : Int32} (d1 : decode cc pc = .ok (.ldc 75, 2)) (d2 : decode cc (pc + 2) = .ok (.iload_n 1, 1)) (d3 : decode cc (pc + 3) = .ok (.i2c, 1)) (d4 : decode cc (pc + 4) = .ok (.invokevirtual 77, 3)) (hl : L[1]? = some (some (.int x))) (hR : 5 ≤ R.frames ∧ 8 + (2 + 11) + 48 * 4 ≤ R.locals) (hst : (st.map fun v => v.category).sum ≤ 8) (kk : ZW p l e R s m args below meth cd cells slots Q g nL sh rr (pc + 7) L c (.int (fn_ix (x.toUInt32 % 65536).toInt32) :: st)) : ZW p l e R s m args below meth cd cells slots Q g nL sh rr pc L c st := by
  intro ls H locs h1 h2 h3
  have hM := km_Str_indexOf (l := l) (g := g) (rr := rr) (sh := sh) (c := c) (x := (x.toUInt32 % 65536).toInt32)
  have hG := q_good ce_Str_indexOf kw_584
  unfold zw_MetQ at hM
  rw [zw_map0] at hM
  refine va_ldcS X.1 X.2.1 X.2.2.2.1 X.2.2.2.2.2.2.2.1.2.1 d1 ?_
  refine lv_iload_n X.1 X.2.1 d2 rfl (h1.2.2 1 _ hl) ?_
  refine lv_i2c X.1 X.2.1 d3 rfl ?_
  refine q_call (pc := pc + 4) X (va_runV (As := [.int (x.toUInt32 % 65536).toInt32]) (rest := st.map (zw_cv g.2.2.1)) (n := 1) ⟨X.1, X.2.1, X.2.2.1, X.2.2.2.1, X.2.2.2.2.1⟩ hM (cwV 1 X.2.2.2.2.1 hG rfl rfl rfl ⟨rfl, ce_Str_indexOf.1.2.2⟩ hR) ⟨zw_HR_blind, vk_recv X.2.2.2.2.2.2.2.1.1 (by decide) h3, fun U hU hW => ⟨rfl, zw_HR_at X h2 h3 hU hW⟩⟩ rfl rfl h1.1 rfl (lv_room (zw_cats hst)) d4 ⟨X.2.2.2.2.2.2.2.2.2.2.2.1, X.2.2.2.2.2.2.2.2.2.2.2.2⟩) h3 (fun H1 locs1 a1 a2 => ?_)
  exact kk ls H1 locs1 h1 a1 a2
end ZXI
