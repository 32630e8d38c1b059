/-! rows of the law's own frame: as ZW, and local 0 is the script (by program: wip/whole/gen/law.py, out of the rows of parts 04, 05, 06c) -/
def zl_LR (b nL b0 : Nat) (L : zw_Lc) (ls : Array Slot) : Prop := zw_LR b nL L ls ∧ ls[0]? = some (.val (.ref b0))
def ZL (p : Program) (l : Launch) (e : Env) (R : Room) (s : State) (m : MethodId) (args : Array Value) (below : List Frame) (meth : Method) (cd : Code) (cells slots : Nat) (Q : State → Prop) (g : zw_G) (nL : Nat) (sh : zw_Sh) (rr : zw_RR) (b0 : Nat) (pc : Nat) (L : zw_Lc) (c : zw_Ct) (st : List Value) : Prop :=
  ∀ (ls : Array Slot) (H : Heap) (locs : List Loc), zl_LR g.2.2.1 nL b0 L ls → va_P g.1 classes (zw_ws g rr c sh) H → va_S (fun q => g.2.2.1 ≤ q) s.heap H locs → W p l e R s m args below meth cd H locs cells slots Q (F0 m pc ls (st.map (zw_cv g.2.2.1)))
theorem zl_has {b nL b0 : Nat} {L : zw_Lc} {ls : Array Slot} (h : zl_LR b nL b0 L ls) : lv_has ls nL ((0, .ref b0) :: zw_as b L) := ⟨h.1.1, h.1.2.1, fun q hq => by
  rcases List.mem_cons.mp hq with rfl | hq
  · exact h.2
  · exact (zw_LR_has h.1).2.2 q hq⟩
theorem zl_s1 {b nL b0 i : Nat} {L : zw_Lc} {ls2 : Array Slot} (hi0 : i ≠ 0) (v : Value) (h : lv_has ls2 nL ((i, zw_cv b v) :: (((0, Value.ref b0) :: zw_as b L).filter (fun q => !(q.1 == i) && !(q.1 + 1 == i && q.2.category == 2))))) : zl_LR b nL b0 (zw_s1 L i v) ls2 :=
  ⟨zw_LR_s1 ⟨h.1, h.2.1, fun q hq => h.2.2 q (by
    rcases List.mem_cons.mp hq with rfl | hq
    · exact List.mem_cons_self
    · exact List.mem_cons_of_mem _ (List.mem_filter.mpr ⟨List.mem_cons_of_mem _ (List.mem_filter.mp hq).1, (List.mem_filter.mp hq).2⟩))⟩, h.2.2 (0, .ref b0) (List.mem_cons_of_mem _ (List.mem_filter.mpr ⟨List.mem_cons_self, by simp [Ne.symm hi0, Value.category]⟩))⟩
theorem zl_s2 {b nL b0 i : Nat} {L : zw_Lc} {ls2 : Array Slot} (hi0 : i ≠ 0) (v : Value) (h : lv_has ls2 nL ((i, zw_cv b v) :: (((0, Value.ref b0) :: zw_as b L).filter (fun q => !(q.1 == i) && (!(q.1 == i + 1) && !(q.1 + 1 == i && q.2.category == 2)))))) : zl_LR b nL b0 (zw_s2 L i v) ls2 :=
  ⟨zw_LR_s2 ⟨h.1, h.2.1, fun q hq => h.2.2 q (by
    rcases List.mem_cons.mp hq with rfl | hq
    · exact List.mem_cons_self
    · exact List.mem_cons_of_mem _ (List.mem_filter.mpr ⟨List.mem_cons_of_mem _ (List.mem_filter.mp hq).1, (List.mem_filter.mp hq).2⟩))⟩, h.2.2 (0, .ref b0) (List.mem_cons_of_mem _ (List.mem_filter.mpr ⟨List.mem_cons_self, by simp [Ne.symm hi0, Value.category]⟩))⟩
section ZLR
variable {p : Program} {l : Launch} {e : Env} {R : Room} {s : State} {m : MethodId} {args : Array Value} {below : List Frame} {meth : Method} {cd : Code} {cells slots : Nat} {Q : State → Prop} {g : zw_G} {cc : ByteArray} {own : String} {ret : Option FieldType} {nL : Nat} {sh : zw_Sh} {rr : zw_RR} {pc : Nat} {L : zw_Lc} {c : zw_Ct} {st : List Value}
theorem zl_eL {b0 : Nat} {L2 : zw_Lc} (h : L = L2) (kk : ZL p l e R s m args below meth cd cells slots Q g nL sh rr b0 pc L2 c st) : ZL p l e R s m args below meth cd cells slots Q g nL sh rr b0 pc L c st := by rw [h]; exact kk
theorem zl_wk {b0 : Nat} {L2 : zw_Lc} (h : ∀ (i : Nat) (v : Value), L2[i]? = some (some v) → L[i]? = some (some v)) (kk : ZL p l e R s m args below meth cd cells slots Q g nL sh rr b0 pc L2 c st) : ZL p l e R s m args below meth cd cells slots Q g nL sh rr b0 pc L c st := fun ls H locs h1 h2 h3 => kk ls H locs ⟨⟨h1.1.1, h1.1.2.1, fun i v hv => h1.1.2.2 i v (h i v hv)⟩, h1.2⟩ h2 h3
theorem zl_widen {b0 k n : Nat} (h1 : cells ≤ k) (h2 : slots ≤ n) (kk : ZL p l e R s m args below meth cd k n Q g nL sh rr b0 pc L c st) : ZL p l e R s m args below meth cd cells slots Q g nL sh rr b0 pc L c st := fun ls H locs a1 a2 a3 => W.widen h1 h2 (kk ls H locs a1 a2 a3)
theorem zl_iinc {b0 : Nat} (X : zw_FX p R s m args meth cd cells slots g cc own ret nL) {i : Nat} {n : Int} {x k : Int32} {L2 : zw_Lc} (d : decode cc pc = .ok (.iinc i n, 3)) (hl : L[i]? = some (some (.int x))) (hv : Int32.ofInt n = k) (hn : i < nL) (hi0 : i ≠ 0) (hL : zw_s1 L i (.int (x + k)) = L2) (k2 : ZL p l e R s m args below meth cd cells slots Q g nL sh rr b0 (pc + 3) L2 c st) : ZL p l e R s m args below meth cd cells slots Q g nL sh rr b0 pc L c st := by
  intro ls H locs h1 h2 h3
  have hm : (i, Value.int x) ∈ ((0, Value.ref b0) :: zw_as g.2.2.1 L) := List.mem_cons_of_mem _ (zw_as_mem.mpr ⟨.int x, hl, rfl⟩)
  obtain ⟨kk, hk⟩ := List.getElem?_of_mem hm
  exact lv_iinc X.1 X.2.1 d (zl_has h1) hk (by rw [hv]) hn rfl (fun ls2 h => k2 ls2 H locs (by rw [← hL]; exact zl_s1 hi0 (v := .int (x + k)) h) h2 h3)
theorem zl_iconst {b0 : Nat} (X : zw_FX p R s m args meth cd cells slots g cc own ret nL) {n : Int} {v : Int32} (d : decode cc pc = .ok (.iconst n, 1)) (hv : Int32.ofInt n = v) (k : ZL p l e R s m args below meth cd cells slots Q g nL sh rr b0 (pc + 1) L c (.int v :: st)) : ZL p l e R s m args below meth cd cells slots Q g nL sh rr b0 pc L c st := fun ls H locs h1 h2 h3 => lv_iconst X.1 X.2.1 d hv (k ls H locs h1 h2 h3)
theorem zl_bipush {b0 : Nat} (X : zw_FX p R s m args meth cd cells slots g cc own ret nL) {n : Int} {v : Int32} (d : decode cc pc = .ok (.bipush n, 2)) (hv : (Int8.ofInt n).toInt32 = v) (k : ZL p l e R s m args below meth cd cells slots Q g nL sh rr b0 (pc + 2) L c (.int v :: st)) : ZL p l e R s m args below meth cd cells slots Q g nL sh rr b0 pc L c st := fun ls H locs h1 h2 h3 => lv_bipush X.1 X.2.1 d hv (k ls H locs h1 h2 h3)
theorem zl_iload {b0 : Nat} (X : zw_FX p R s m args meth cd cells slots g cc own ret nL) {i : Nat} {x : Int32} (d : decode cc pc = .ok (.iload i, 2)) (hl : L[i]? = some (some (.int x))) (k : ZL p l e R s m args below meth cd cells slots Q g nL sh rr b0 (pc + 2) L c (.int x :: st)) : ZL p l e R s m args below meth cd cells slots Q g nL sh rr b0 pc L c st := fun ls H locs h1 h2 h3 => lv_iload X.1 X.2.1 d (h1.1.2.2 i _ hl) (k ls H locs h1 h2 h3)
theorem zl_istore {b0 : Nat} (X : zw_FX p R s m args meth cd cells slots g cc own ret nL) {i : Nat} {x : Int32} {L2 : zw_Lc} (d : decode cc pc = .ok (.istore i, 2)) (hn : i < nL) (hi0 : i ≠ 0) (hL : zw_s1 L i (.int x) = L2) (k2 : ZL p l e R s m args below meth cd cells slots Q g nL sh rr b0 (pc + 2) L2 c st) : ZL p l e R s m args below meth cd cells slots Q g nL sh rr b0 pc L c (.int x :: st) := fun ls H locs h1 h2 h3 => lv_istore X.1 X.2.1 d (zl_has h1) hn rfl (fun ls2 h => k2 ls2 H locs (by rw [← hL]; exact zl_s1 hi0 (v := .int x) h) h2 h3)
theorem zl_lload {b0 : Nat} (X : zw_FX p R s m args meth cd cells slots g cc own ret nL) {i : Nat} {x : Int64} (d : decode cc pc = .ok (.lload i, 2)) (hl : L[i]? = some (some (.long x))) (k : ZL p l e R s m args below meth cd cells slots Q g nL sh rr b0 (pc + 2) L c (.long x :: st)) : ZL p l e R s m args below meth cd cells slots Q g nL sh rr b0 pc L c st := fun ls H locs h1 h2 h3 => lv_lload X.1 X.2.1 d (h1.1.2.2 i _ hl) (k ls H locs h1 h2 h3)
theorem zl_lstore {b0 : Nat} (X : zw_FX p R s m args meth cd cells slots g cc own ret nL) {i : Nat} {x : Int64} {L2 : zw_Lc} (d : decode cc pc = .ok (.lstore i, 2)) (hn : i + 1 < nL) (hi0 : i ≠ 0) (hL : zw_s2 L i (.long x) = L2) (k2 : ZL p l e R s m args below meth cd cells slots Q g nL sh rr b0 (pc + 2) L2 c st) : ZL p l e R s m args below meth cd cells slots Q g nL sh rr b0 pc L c (.long x :: st) := fun ls H locs h1 h2 h3 => lv_lstore X.1 X.2.1 d (zl_has h1) hn rfl (fun ls2 h => k2 ls2 H locs (by rw [← hL]; exact zl_s2 hi0 (v := .long x) h) h2 h3)
theorem zl_aload_n {b0 : Nat} (X : zw_FX p R s m args meth cd cells slots g cc own ret nL) {k : Fin 4} {i : Nat} {x : Nat} (d : decode cc pc = .ok (.aload_n k, 1)) (hi : (k : Nat) = i) (hl : L[i]? = some (some (.ref x))) (k : ZL p l e R s m args below meth cd cells slots Q g nL sh rr b0 (pc + 1) L c (.ref x :: st)) : ZL p l e R s m args below meth cd cells slots Q g nL sh rr b0 pc L c st := fun ls H locs h1 h2 h3 => lv_aload_n X.1 X.2.1 d hi (h1.1.2.2 i _ hl) (k ls H locs h1 h2 h3)
theorem zl_astore_n {b0 : Nat} (X : zw_FX p R s m args meth cd cells slots g cc own ret nL) {k : Fin 4} {i : Nat} {x : Nat} {L2 : zw_Lc} (d : decode cc pc = .ok (.astore_n k, 1)) (hi : (k : Nat) = i) (hn : i < nL) (hi0 : i ≠ 0) (hL : zw_s1 L i (.ref x) = L2) (k2 : ZL p l e R s m args below meth cd cells slots Q g nL sh rr b0 (pc + 1) L2 c st) : ZL p l e R s m args below meth cd cells slots Q g nL sh rr b0 pc L c (.ref x :: st) := fun ls H locs h1 h2 h3 => lv_astore_n X.1 X.2.1 d hi (zl_has h1) hn rfl (fun ls2 h => k2 ls2 H locs (by rw [← hL]; exact zl_s1 hi0 (v := .ref x) h) h2 h3)
theorem zl_i2l {b0 : Nat} (X : zw_FX p R s m args meth cd cells slots g cc own ret nL) {x : Int32} (d : decode cc pc = .ok (.i2l, 1)) (k : ZL p l e R s m args below meth cd cells slots Q g nL sh rr b0 (pc + 1) L c (.long x.toInt64 :: st)) : ZL p l e R s m args below meth cd cells slots Q g nL sh rr b0 pc L c (.int x :: st) := fun ls H locs h1 h2 h3 => lv_i2l X.1 X.2.1 d rfl (k ls H locs h1 h2 h3)
theorem zl_iand {b0 : Nat} (X : zw_FX p R s m args meth cd cells slots g cc own ret nL) {x y : Int32} (d : decode cc pc = .ok (.iand, 1)) (k : ZL p l e R s m args below meth cd cells slots Q g nL sh rr b0 (pc + 1) L c (.int (x &&& y) :: st)) : ZL p l e R s m args below meth cd cells slots Q g nL sh rr b0 pc L c (.int y :: .int x :: st) := fun ls H locs h1 h2 h3 => lv_iand X.1 X.2.1 d (k ls H locs h1 h2 h3)
theorem zl_iadd {b0 : Nat} (X : zw_FX p R s m args meth cd cells slots g cc own ret nL) {x y : Int32} (d : decode cc pc = .ok (.iadd, 1)) (k : ZL p l e R s m args below meth cd cells slots Q g nL sh rr b0 (pc + 1) L c (.int (x + y) :: st)) : ZL p l e R s m args below meth cd cells slots Q g nL sh rr b0 pc L c (.int y :: .int x :: st) := fun ls H locs h1 h2 h3 => lv_iadd X.1 X.2.1 d (k ls H locs h1 h2 h3)
theorem zl_isub {b0 : Nat} (X : zw_FX p R s m args meth cd cells slots g cc own ret nL) {x y : Int32} (d : decode cc pc = .ok (.isub, 1)) (k : ZL p l e R s m args below meth cd cells slots Q g nL sh rr b0 (pc + 1) L c (.int (x - y) :: st)) : ZL p l e R s m args below meth cd cells slots Q g nL sh rr b0 pc L c (.int y :: .int x :: st) := fun ls H locs h1 h2 h3 => lv_isub X.1 X.2.1 d (k ls H locs h1 h2 h3)
theorem zl_goto {b0 : Nat} (X : zw_FX p R s m args meth cd cells slots g cc own ret nL) {off : Int} {tgt : Nat} (d : decode cc pc = .ok (.goto off, 3)) (ht : (pc : Int) + off = (tgt : Int)) (k : ZL p l e R s m args below meth cd cells slots Q g nL sh rr b0 tgt L c st) : ZL p l e R s m args below meth cd cells slots Q g nL sh rr b0 pc L c st := fun ls H locs h1 h2 h3 => lv_goto X.1 X.2.1 d ht (k ls H locs h1 h2 h3)
theorem zl_if_ne {b0 : Nat} (X : zw_FX p R s m args meth cd cells slots g cc own ret nL) {x : Int32} {off : Int} {tgt : Nat} (d : decode cc pc = .ok (.ifCond .ne off, 3)) (ht : (pc : Int) + off = (tgt : Int)) (kt : ¬ x = 0 → ZL p l e R s m args below meth cd cells slots Q g nL sh rr b0 tgt L c st) (kf : x = 0 → ZL p l e R s m args below meth cd cells slots Q g nL sh rr b0 (pc + 3) L c st) : ZL p l e R s m args below meth cd cells slots Q g nL sh rr b0 pc L c (.int x :: st) := fun ls H locs h1 h2 h3 => lv_if_ne X.1 X.2.1 d ht (fun q => kt q ls H locs h1 h2 h3) (fun q => kf q ls H locs h1 h2 h3)
theorem zl_icmp_eq {b0 : Nat} (X : zw_FX p R s m args meth cd cells slots g cc own ret nL) {x y : Int32} {off : Int} {tgt : Nat} (d : decode cc pc = .ok (.if_icmp .eq off, 3)) (ht : (pc : Int) + off = (tgt : Int)) (kt : x = y → ZL p l e R s m args below meth cd cells slots Q g nL sh rr b0 tgt L c st) (kf : ¬ x = y → ZL p l e R s m args below meth cd cells slots Q g nL sh rr b0 (pc + 3) L c st) : ZL p l e R s m args below meth cd cells slots Q g nL sh rr b0 pc L c (.int y :: .int x :: st) := fun ls H locs h1 h2 h3 => lv_icmp_eq X.1 X.2.1 d ht (fun q => kt q ls H locs h1 h2 h3) (fun q => kf q ls H locs h1 h2 h3)
theorem zl_icmp_gt {b0 : Nat} (X : zw_FX p R s m args meth cd cells slots g cc own ret nL) {x y : Int32} {off : Int} {tgt : Nat} (d : decode cc pc = .ok (.if_icmp .gt off, 3)) (ht : (pc : Int) + off = (tgt : Int)) (kt : y < x → ZL p l e R s m args below meth cd cells slots Q g nL sh rr b0 tgt L c st) (kf : ¬ y < x → ZL p l e R s m args below meth cd cells slots Q g nL sh rr b0 (pc + 3) L c st) : ZL p l e R s m args below meth cd cells slots Q g nL sh rr b0 pc L c (.int y :: .int x :: st) := fun ls H locs h1 h2 h3 => lv_icmp_gt X.1 X.2.1 d ht (fun q => kt q ls H locs h1 h2 h3) (fun q => kf q ls H locs h1 h2 h3)
theorem zl_lcmp_eq {b0 : Nat} (X : zw_FX p R s m args meth cd cells slots g cc own ret nL) {x y : Int64} {off : Int} {tgt : Nat} (d0 : decode cc pc = .ok (.lcmp, 1)) (d : decode cc (pc + 1) = .ok (.ifCond .eq off, 3)) (ht : ((pc + 1 : Nat) : Int) + off = (tgt : Int)) (kt : x = y → ZL p l e R s m args below meth cd cells slots Q g nL sh rr b0 tgt L c st) (kf : ¬ x = y → ZL p l e R s m args below meth cd cells slots Q g nL sh rr b0 (pc + 1 + 3) L c st) : ZL p l e R s m args below meth cd cells slots Q g nL sh rr b0 pc L c (.long y :: .long x :: st) := fun ls H locs h1 h2 h3 => W.lcmp X.1 X.2.1 d0 (lv_if_eq X.1 X.2.1 d ht (fun q => kt ((lg_cmp_eq x y).mp q) ls H locs h1 h2 h3) (fun q => kf (fun z => q ((lg_cmp_eq x y).mpr z)) ls H locs h1 h2 h3))
theorem zl_lald {b0 : Nat} (X : zw_FX p R s m args meth cd cells slots g cc own ret nL) {a n : Nat} {i : Int32} {x : Int64} (ha : sh[a]? = some (.inl (1, n))) (h : zw_aL n c a i = some x) (d : decode cc pc = .ok (.laload, 1)) (kk : ZL p l e R s m args below meth cd cells slots Q g nL sh rr b0 (pc + 1) L c (.long x :: st)) : ZL p l e R s m args below meth cd cells slots Q g nL sh rr b0 pc L c (.int i :: .ref a :: st) := by
  obtain ⟨hin, rfl⟩ := zw_aL_of h
  exact fun ls H locs h1 h2 h3 => va_lald X.1 X.2.1 X.2.2.2.2.2.1 h2 a 1 (zw_ws_get ha) rfl hin d (kk ls H locs h1 h2 h3)
theorem zl_dup {b0 : Nat} (X : zw_FX p R s m args meth cd cells slots g cc own ret nL) {v : Value} (d : decode cc pc = .ok (.dup, 1)) (hv : v.category = 1) (k : ZL p l e R s m args below meth cd cells slots Q g nL sh rr b0 (pc + 1) L c (v :: v :: st)) : ZL p l e R s m args below meth cd cells slots Q g nL sh rr b0 pc L c (v :: st) := fun ls H locs h1 h2 h3 => lv_dup X.1 X.2.1 d ((zw_cv_cat _ _).trans hv) (k ls H locs h1 h2 h3)
theorem zl_tableIn {b0 : Nat} (X : zw_FX p R s m args meth cd cells slots g cc own ret nL) {dflt lo hi : Int} {offs : Array Int} {len : Nat} {x : Int32} {off : Int} {tgt : Nat} (d : decode cc pc = .ok (.tableswitch dflt lo hi offs, len)) (q1 : ¬ x.toInt < lo) (q2 : ¬ hi < x.toInt) (ho : offs[(x.toInt - lo).toNat]? = some off) (ht : (pc : Int) + off = (tgt : Int)) (k : ZL p l e R s m args below meth cd cells slots Q g nL sh rr b0 tgt L c st) : ZL p l e R s m args below meth cd cells slots Q g nL sh rr b0 pc L c (.int x :: st) := fun ls H locs h1 h2 h3 => lv_tableIn X.1 X.2.1 d q1 q2 ho ht (k ls H locs h1 h2 h3)
theorem zl_tableOut {b0 : Nat} (X : zw_FX p R s m args meth cd cells slots g cc own ret nL) {dflt lo hi : Int} {offs : Array Int} {len : Nat} {x : Int32} {tgt : Nat} (d : decode cc pc = .ok (.tableswitch dflt lo hi offs, len)) (q : x.toInt < lo ∨ hi < x.toInt) (ht : (pc : Int) + dflt = (tgt : Int)) (k : ZL p l e R s m args below meth cd cells slots Q g nL sh rr b0 tgt L c st) : ZL p l e R s m args below meth cd cells slots Q g nL sh rr b0 pc L c (.int x :: st) := fun ls H locs h1 h2 h3 => lv_tableOut X.1 X.2.1 d q ht (k ls H locs h1 h2 h3)
theorem zl_callV {b0 : Nat} (X : zw_FX p R s m args meth cd cells slots g cc own ret nL) {y : MethodName} {bytes : ByteArray} {maxL : Nat} {ret' : Option FieldType} {lv : Nat} {o : Nat} {As : List Value} {r : Option Value} {c2 : zw_Ct} {idx n : Nat} {ci N : Nat} {T : u_T} (hM : zw_Met l g y bytes maxL ret' lv rr sh (.ref o :: As) c r c2) (hce : zw_cev y bytes maxL ret' n) (hlk : Cond.methodLink own idx y ∈ ktG) (ho : sh[o]? = some (.inr ci)) (hc : classes[ci]? = some (y.cls, T, N)) (hn : As.length = n) (hR : lv + 1 ≤ R.frames ∧ 8 + (maxL + 11) + 48 * lv ≤ R.locals) (hst : (st.map fun v => v.category).sum ≤ 8) (d : decode cc pc = .ok (.invokevirtual idx, 3)) (kk : ZL p l e R s m args below meth cd cells slots Q g nL sh rr b0 (pc + 3) L c2 (r.toList ++ st)) : ZL p l e R s m args below meth cd cells slots Q g nL sh rr b0 pc L c (As.reverse ++ .ref o :: st) := by
  intro ls H locs h1 h2 h3
  obtain ⟨⟨hcode, hini, hd⟩, hinst, hsel⟩ := hce
  have hG : GoodIn ktG (wsV own idx y.cls y (.code y bytes maxL ret' :: ktG)) := fun w hw => by
    rcases List.mem_append.mp hw with h | h
    · have : w ∈ ktG := by
        rcases List.mem_cons.mp h with rfl | h
        · exact hlk
        rcases List.mem_cons.mp h with rfl | h
        · exact hinst
        rcases List.mem_cons.mp h with rfl | h
        · exact hsel
        rcases List.mem_cons.mp h with rfl | h
        · exact hini
        · cases h
      exact kt_good w this
    · exact kt_cons hcode w h
  rw [zw_stk]
  refine zw_call (own' := own) X (va_runV (As := As.map (zw_cv g.2.2.1)) (rest := st.map (zw_cv g.2.2.1)) (n := n) ⟨X.1, X.2.1, X.2.2.1, X.2.2.2.1, X.2.2.2.2.1⟩ hM (cwV n X.2.2.2.2.1 hG rfl rfl rfl ⟨rfl, hd⟩ hR) ⟨zw_HR_blind, va_recv X.2.2.2.2.2.1 h2 hc (zw_ws_get ho), fun U hU hW => ⟨rfl, zw_HR_at X h2 h3 hU hW⟩⟩ rfl ((List.length_map ..).trans hn) h1.1.1 rfl (lv_room (zw_cats hst)) d ⟨X.2.2.2.2.2.2.2.2.2.2.2.1, X.2.2.2.2.2.2.2.2.2.2.2.2⟩) h1.1 h3 (fun H1 locs1 a1 a2 => ?_)
  rw [zw_ret_stk]
  exact kk ls H1 locs1 h1 a1 a2
theorem zl_callVi {b0 : Nat} (X : zw_FX p R s m args meth cd cells slots g cc own ret nL) {y : MethodName} {bytes : ByteArray} {maxL : Nat} {ret' : Option FieldType} {lv : Nat} {o : Nat} {As : List Value} {x : Int32} {c2 : zw_Ct} {idx n : Nat} {ci N : Nat} {T : u_T} (hM : zw_Met l g y bytes maxL ret' lv rr sh (.ref o :: As) c (some (.int x)) c2) (hce : zw_cev y bytes maxL ret' n) (hlk : Cond.methodLink own idx y ∈ ktG) (ho : sh[o]? = some (.inr ci)) (hc : classes[ci]? = some (y.cls, T, N)) (hn : As.length = n) (hR : lv + 1 ≤ R.frames ∧ 8 + (maxL + 11) + 48 * lv ≤ R.locals) (hst : (st.map fun v => v.category).sum ≤ 8) (d : decode cc pc = .ok (.invokevirtual idx, 3)) (kk : ZL p l e R s m args below meth cd cells slots Q g nL sh rr b0 (pc + 3) L c2 (.int x :: st)) : ZL p l e R s m args below meth cd cells slots Q g nL sh rr b0 pc L c (As.reverse ++ .ref o :: st) := zl_callV X hM hce hlk ho hc hn hR hst d kk
theorem zl_callVl {b0 : Nat} (X : zw_FX p R s m args meth cd cells slots g cc own ret nL) {y : MethodName} {bytes : ByteArray} {maxL : Nat} {ret' : Option FieldType} {lv : Nat} {o : Nat} {As : List Value} {x : Int64} {c2 : zw_Ct} {idx n : Nat} {ci N : Nat} {T : u_T} (hM : zw_Met l g y bytes maxL ret' lv rr sh (.ref o :: As) c (some (.long x)) c2) (hce : zw_cev y bytes maxL ret' n) (hlk : Cond.methodLink own idx y ∈ ktG) (ho : sh[o]? = some (.inr ci)) (hc : classes[ci]? = some (y.cls, T, N)) (hn : As.length = n) (hR : lv + 1 ≤ R.frames ∧ 8 + (maxL + 11) + 48 * lv ≤ R.locals) (hst : (st.map fun v => v.category).sum ≤ 8) (d : decode cc pc = .ok (.invokevirtual idx, 3)) (kk : ZL p l e R s m args below meth cd cells slots Q g nL sh rr b0 (pc + 3) L c2 (.long x :: st)) : ZL p l e R s m args below meth cd cells slots Q g nL sh rr b0 pc L c (As.reverse ++ .ref o :: st) := zl_callV X hM hce hlk ho hc hn hR hst d kk
theorem zl_newo {b0 : Nat} (X : zw_FX p R s m args meth cd cells slots g cc own ret nL) {ci N idx : Nat} {C : String} {T : u_T} {ty : Nat → FieldType} (hci : zw_CI ci C T N ty) (hcl : Cond.classLink own idx C ∈ ktG) (hinst : Cond.instantiable C N ∈ ktG) (hini : Cond.initialized C ∈ ktG) (hsz : s.heap.size + cells = g.2.2.1 + sh.length) (hdef : ∀ j, j < N → defaultValue (ty j) = vp_V (zw_flds g.2.2.1 rr (zw_z c sh.length) sh.length ci) j) (hcells : cells + 1 ≤ R.cells) (hslots : slots + N ≤ R.slots) (d : decode cc pc = .ok (.new idx, 3)) (kk : zw_FX p R s m args meth cd (cells + 1) (slots + N) g cc own ret nL → ZL p l e R s m args below meth cd (cells + 1) (slots + N) Q g nL (sh ++ [.inr ci]) rr b0 (pc + 3) L (zw_z c sh.length) (.ref sh.length :: st)) : ZL p l e R s m args below meth cd cells slots Q g nL sh rr b0 pc L c st := by
  intro ls H locs h1 h2 h3 T' hT St
  have hH := zw_size (sh := sh) (rr := rr) (c := c) hsz X.2.2.2.2.2.2.2.2.1 h2 h3 hT St
  obtain ⟨hc, hin, hty, hnm, hlen⟩ := hci
  have hKn := X.2.2.2.2.2.1.1 ci _ hc
  refine W.newcK (g := F0 m pc ls (st.map (zw_cv g.2.2.1))) X.1 X.2.1 X.2.2.2.1 (X.2.2.2.2.1 _ hcl) (X.2.2.2.2.1 _ hinst) (X.2.2.2.2.1 _ hini) rfl d hcells hslots hKn.2.1 hH (fun H1 kC hkC e1 z1 o1 => ?_) T' hT St
  have hk : ∀ (k : Nat) (x : Nat × va_E), (zw_ws g rr c sh)[k]? = some x → H1[x.1]? = H[x.1]? := fun k x hx => o1 x.1 (by rw [← hH]; exact (h2 k x hx).lt)
  refine kk ⟨X.1, X.2.1, X.2.2.1, X.2.2.2.1, X.2.2.2.2.1, X.2.2.2.2.2.1, X.2.2.2.2.2.2.1, X.2.2.2.2.2.2.2.1, X.2.2.2.2.2.2.2.2.1, X.2.2.2.2.2.2.2.2.2.1, X.2.2.2.2.2.2.2.2.2.2.1, hcells, hslots⟩ ls H1 locs h1 ?_ ⟨Nat.le_trans h3.1 (by omega), fun x g1 g2 => (o1 x (by rw [← hH]; exact Nat.lt_of_lt_of_le g1 h3.1)).trans (h3.2.1 x g1 g2), h3.2.2⟩
  rw [← zw_ws_push]
  refine (h2.kept hk).app (fun k x hx => ?_)
  have hz : k < 1 := (List.getElem?_eq_some_iff.mp hx).1
  obtain rfl : k = 0 := by omega
  cases hx
  exact ⟨_, hc, (u_born ty X.2.2.2.2.1 hin hKn hkC e1 hty).to hdef⟩
theorem zl_newa {b0 : Nat} (X : zw_FX p R s m args meth cd cells slots g cc own ret nL) {t N : Nat} {atype : ArrayType} {fty : FieldType} {n : Int32} (hty : newarray.typeOf atype = fty) (hra : ∀ cA, va_RA s cA fty → s.vm.findClass ("[" ++ fty.toString) = some cA) (htt : (zw_tys g.2.1)[t]? = some (g.2.1 t, fty)) (harr : Cond.arrayClass (newarray.typeOf atype) ∈ ktG) (hac : ∀ cA : ClassId, vp_cell cA (N, zw_ac g.2.2.1 rr (zw_z c sh.length) sh.length t) = arrV cA N (fun _ => defaultValue (newarray.typeOf atype))) (hn : ¬ n < 0) (hN : n.toNatClampNeg = N) (hby : N * componentBytes (newarray.typeOf atype) ≤ 536870912) (hsz : s.heap.size + cells = g.2.2.1 + sh.length) (hcells : cells + 1 ≤ R.cells) (hslots : slots + N ≤ R.slots) (d : decode cc pc = .ok (.newarray atype, 2)) (kk : zw_FX p R s m args meth cd (cells + 1) (slots + N) g cc own ret nL → ZL p l e R s m args below meth cd (cells + 1) (slots + N) Q g nL (sh ++ [.inl (t, N)]) rr b0 (pc + 2) L (zw_z c sh.length) (.ref sh.length :: st)) : ZL p l e R s m args below meth cd cells slots Q g nL sh rr b0 pc L c (.int n :: st) := by
  intro ls H locs h1 h2 h3 T' hT St
  have hH := zw_size (sh := sh) (rr := rr) (c := c) hsz X.2.2.2.2.2.2.2.2.1 h2 h3 hT St
  refine va_newaK (g := F0 m pc ls (.int n :: st.map (zw_cv g.2.2.1))) X.1 X.2.1 (X.2.2.2.2.1 _ harr) rfl d rfl hn hN hby hcells hslots hH (fun H1 cA e1 z1 o1 hAr hNm => ?_) T' hT St
  have hcA : cA = g.2.1 t := by
    have h5 := hra _ (X.2.2.2.2.2.1.2 t _ htt).2
    rw [hty] at hNm
    exact Option.some.inj (hNm.symm.trans h5)
  subst hcA
  have hk : ∀ (k : Nat) (x : Nat × va_E), (zw_ws g rr c sh)[k]? = some x → H1[x.1]? = H[x.1]? := fun k x hx => o1 x.1 (by rw [← hH]; exact (h2 k x hx).lt)
  refine kk ⟨X.1, X.2.1, X.2.2.1, X.2.2.2.1, X.2.2.2.2.1, X.2.2.2.2.2.1, X.2.2.2.2.2.2.1, X.2.2.2.2.2.2.2.1, X.2.2.2.2.2.2.2.2.1, X.2.2.2.2.2.2.2.2.2.1, X.2.2.2.2.2.2.2.2.2.2.1, hcells, hslots⟩ ls H1 locs h1 ?_ ⟨Nat.le_trans h3.1 (by omega), fun x g1 g2 => (o1 x (by rw [← hH]; exact Nat.lt_of_lt_of_le g1 h3.1)).trans (h3.2.1 x g1 g2), h3.2.2⟩
  rw [← zw_ws_push]
  refine (h2.kept hk).app (fun k x hx => ?_)
  have hz : k < 1 := (List.getElem?_eq_some_iff.mp hx).1
  obtain rfl : k = 0 := by omega
  cases hx
  show H1[g.2.2.1 + sh.length]? = some (vp_cell _ _)
  rw [hac]; exact e1
theorem zl_callI {b0 : Nat} (X : zw_FX p R s m args meth cd cells slots g cc own ret nL) {y : MethodName} {bytes : ByteArray} {maxL lv mc ms o n idx : Nat} {As : List Value} {rr2 : zw_RR} {sh2 : zw_Sh} {c2 : zw_Ct} (hM : zw_MetC l g y bytes maxL lv mc ms rr sh (.ref o :: As) c rr2 sh2 c2) (hce : zw_cec y bytes maxL n) (hlk : Cond.methodLink own idx y ∈ ktG) (hn : As.length = n) (hR : lv + 1 ≤ R.frames ∧ 8 + (maxL + 11) + 48 * lv ≤ R.locals) (hst : (st.map fun v => v.category).sum ≤ 8) (hf : cells + mc ≤ R.cells ∧ slots + ms ≤ R.slots) (hsz : s.heap.size + cells = g.2.2.1 + sh.length) (d : decode cc pc = .ok (.invokespecial idx, 3)) (kk : zw_FX p R s m args meth cd (cells + mc) (slots + ms) g cc own ret nL → ZL p l e R s m args below meth cd (cells + mc) (slots + ms) Q g nL sh2 rr2 b0 (pc + 3) L c2 st) : ZL p l e R s m args below meth cd cells slots Q g nL sh rr b0 pc L c (As.reverse ++ .ref o :: st) := by
  intro ls H locs h1 h2 h3 T' hT St
  have hH := zw_size (sh := sh) (rr := rr) (c := c) hsz X.2.2.2.2.2.2.2.2.1 h2 h3 hT St
  rw [zw_stk]
  refine zw_callC X (va_runI (As := As.map (zw_cv g.2.2.1)) (rest := st.map (zw_cv g.2.2.1)) (n := n) ⟨X.1, X.2.1, X.2.2.1, X.2.2.2.1, X.2.2.2.2.1⟩ hM (cwI n X.2.2.2.2.1 (kt_cons hce.1.1) rfl rfl rfl (X.2.2.2.2.1 _ hce.1.2.1) (X.2.2.2.2.1 _ hlk) (X.2.2.2.2.1 _ hce.2.1) hce.2.2 hce.1.2.2 hR) ⟨zw_MetC_blind, fun U hU hW => ⟨rfl, zw_HR_at X h2 h3 hU hW, by rw [hU]; exact hH⟩⟩ rfl ((List.length_map ..).trans hn) h1.1.1 rfl (lv_room (zw_cats hst)) d hf) h3 (fun H1 locs1 a1 a2 => ?_) T' hT St
  exact kk ⟨X.1, X.2.1, X.2.2.1, X.2.2.2.1, X.2.2.2.2.1, X.2.2.2.2.2.1, X.2.2.2.2.2.2.1, X.2.2.2.2.2.2.2.1, X.2.2.2.2.2.2.2.2.1, X.2.2.2.2.2.2.2.2.2.1, X.2.2.2.2.2.2.2.2.2.2.1, hf.1, hf.2⟩ ls H1 locs1 h1 a1 a2
theorem zl_scr {b0 LL : Nat} {xs : Nat → Int32} (X : zw_FX p R s m args meth cd cells slots g cc own ret nL) (hX : va_X b0 LL xs s s.heap) (hbl : b0 < g.2.2.1) {i v : Int32} {j : Int} (d0 : decode cc pc = .ok (.aload_n 0, 1)) (d1 : decode cc (pc + 1) = .ok (.iload 4, 2)) (d3 : decode cc (pc + 3) = .ok (.iconst j, 1)) (d4 : decode cc (pc + 4) = .ok (.iadd, 1)) (d5 : decode cc (pc + 5) = .ok (.iaload, 1)) (hv : Int32.ofInt j = v) (h4 : L[4]? = some (some (.int i))) (hin : vp_in (i + v) LL) (kk : ZL p l e R s m args below meth cd cells slots Q g nL sh rr b0 (pc + 6) L c (.int (xs (i + v).toNatClampNeg) :: st)) : ZL p l e R s m args below meth cd cells slots Q g nL sh rr b0 pc L c st := by
  intro ls H locs h1 h2 h3
  refine lv_aload_n X.1 X.2.1 d0 rfl h1.2 ?_
  refine lv_iload X.1 X.2.1 d1 (h1.1.2.2 4 _ h4) ?_
  refine lv_iconst X.1 X.2.1 d3 hv ?_
  refine lv_iadd X.1 X.2.1 d4 ?_
  exact va_sld X.1 X.2.1 hX (Nat.lt_of_lt_of_le hbl X.2.2.2.2.2.2.2.2.1) (Nat.not_le.mpr hbl) h3 hin d5 (kk ls H locs h1 h2 h3)
theorem zl_scr0 {b0 LL : Nat} {xs : Nat → Int32} (X : zw_FX p R s m args meth cd cells slots g cc own ret nL) (hX : va_X b0 LL xs s s.heap) (hbl : b0 < g.2.2.1) {i : Int32} (d0 : decode cc pc = .ok (.aload_n 0, 1)) (d1 : decode cc (pc + 1) = .ok (.iload 4, 2)) (d3 : decode cc (pc + 3) = .ok (.iaload, 1)) (h4 : L[4]? = some (some (.int i))) (hin : vp_in i LL) (kk : ZL p l e R s m args below meth cd cells slots Q g nL sh rr b0 (pc + 4) L c (.int (xs i.toNatClampNeg) :: st)) : ZL p l e R s m args below meth cd cells slots Q g nL sh rr b0 pc L c st := by
  intro ls H locs h1 h2 h3
  refine lv_aload_n X.1 X.2.1 d0 rfl h1.2 ?_
  refine lv_iload X.1 X.2.1 d1 (h1.1.2.2 4 _ h4) ?_
  exact va_sld X.1 X.2.1 hX (Nat.lt_of_lt_of_le hbl X.2.2.2.2.2.2.2.2.1) (Nat.not_le.mpr hbl) h3 hin d3 (kk ls H locs h1 h2 h3)
theorem zl_slen {b0 LL : Nat} {xs : Nat → Int32} (X : zw_FX p R s m args meth cd cells slots g cc own ret nL) (hX : va_X b0 LL xs s s.heap) (hbl : b0 < g.2.2.1) (d0 : decode cc pc = .ok (.aload_n 0, 1)) (d1 : decode cc (pc + 1) = .ok (.arraylength, 1)) (kk : ZL p l e R s m args below meth cd cells slots Q g nL sh rr b0 (pc + 2) L c (.int (Int32.ofNat LL) :: st)) : ZL p l e R s m args below meth cd cells slots Q g nL sh rr b0 pc L c st := by
  intro ls H locs h1 h2 h3
  refine lv_aload_n X.1 X.2.1 d0 rfl h1.2 ?_
  exact va_slen X.1 X.2.1 hX (Nat.lt_of_lt_of_le hbl X.2.2.2.2.2.2.2.2.1) (Nat.not_le.mpr hbl) h3 d1 (kk ls H locs h1 h2 h3)
theorem zl_callA {own' : String} (X : zw_FX p R s m args meth cd cells slots g cc own' ret nL) {mc ms : Nat} {r : Option Value} {c2 : zw_Ct} {rest : List Value} {st0 : List Value} {ls : Array Slot} {H : Heap} {locs : List Loc} {a : Array Value} (hr : va_Run p l e R s m args below meth cd H locs cells slots mc ms (F0 m pc ls st0) rest (zw_Q g rr sh r c2 a) (fun q => g.2.2.1 ≤ q)) (hS : va_S (fun q => g.2.2.1 ≤ q) s.heap H locs)
    (kk : ∀ (H1 : Heap) (locs1 : List Loc), va_P g.1 classes (zw_ws g rr c2 sh) H1 → va_S (fun q => g.2.2.1 ≤ q) s.heap H1 locs1 → W p l e R s m args below meth cd H1 locs1 (cells + mc) (slots + ms) Q (F0 m (pc + 3) ls ((r.map (zw_cv g.2.2.1)).toList ++ rest))) : W p l e R s m args below meth cd H locs cells slots Q (F0 m pc ls st0) := by
  intro T hT X'
  obtain ⟨v, st₀, t, T', L', h0, X2, hL, e1, e2, ⟨hv, hH, hz, hk⟩, st⟩ := hr T hT X'
  cases hv
  rw [h0] at hz hk
  obtain ⟨t2, a1, b1⟩ := kk T'.heap (locs ++ L') (by rw [e1]; exact hH.1)
    ⟨Nat.le_trans hS.1 (by rw [e1]; exact hz), fun q g1 g2 => by rw [e1, hk q (Nat.lt_of_lt_of_le g1 hS.1) g2]; exact hS.2.1 q g1 g2, fun q hq => by
      rcases List.mem_append.mp hq with h | h
      · exact hS.2.2 q h
      · exact hL q h⟩ T' rfl X2
  exact ⟨t2, st t2 a1, b1⟩
/-- the law's own static methods with handlers -/
theorem zl_callY {b0 : Nat} (X : zw_FX p R s m args meth cd cells slots g cc own ret nL) (hXS : zx_XS g s s.heap) {y : MethodName} {bytes : ByteArray} {maxL : Nat} {ret' : Option FieldType} {hh : List (Nat × Nat × Nat × Nat)} {lv : Nat} {As : List Value} {x : Int32} {c2 : zw_Ct} {idx n : Nat} (hM : zy_Met l g y bytes maxL ret' hh lv rr sh As c (some (.int x)) c2) (hce : Cond.codeWith y bytes maxL ret' hh ∈ ktG ∧ Cond.initialized y.cls ∈ ktG ∧ Cond.static y ∈ ktG) (hd : y.cls ≠ "java/lang/invoke/MethodHandle" ∧ y.cls ≠ "java/lang/invoke/VarHandle" ∧ (parseMethodDescriptor y.desc).map (fun d => d.parameters.length) = some n) (hlk : Cond.methodLink own idx y ∈ ktG) (hn : As.length = n) (hR : lv + 1 ≤ R.frames ∧ 8 + (maxL + 11) + 48 * lv ≤ R.locals) (hst : (st.map fun v => v.category).sum ≤ 8) (hf : cells + 1 ≤ R.cells ∧ slots + 6 ≤ R.slots) (d : decode cc pc = .ok (.invokestatic idx, 3))
    (kk : zw_FX p R s m args meth cd (cells + 1) (slots + 6) g cc own ret nL → ZL p l e R s m args below meth cd (cells + 1) (slots + 6) Q g nL sh rr b0 (pc + 3) L c2 (.int x :: st)) : ZL p l e R s m args below meth cd cells slots Q g nL sh rr b0 pc L c (As.reverse ++ st) := by
  have X2 : zw_FX p R s m args meth cd (cells + 1) (slots + 6) g cc own ret nL := ⟨X.1, X.2.1, X.2.2.1, X.2.2.2.1, X.2.2.2.2.1, X.2.2.2.2.2.1, X.2.2.2.2.2.2.1, X.2.2.2.2.2.2.2.1, X.2.2.2.2.2.2.2.2.1, X.2.2.2.2.2.2.2.2.2.1, X.2.2.2.2.2.2.2.2.2.2.1, hf.1, hf.2⟩
  intro ls H locs h1 h2 h3
  have hG : GoodIn ktG (va_wsS own idx y (.codeWith y bytes maxL ret' hh :: ktG)) := fun w hw => by
    rcases List.mem_append.mp hw with h | h
    · have : w ∈ ktG := by
        rcases List.mem_cons.mp h with rfl | h
        · exact hlk
        rcases List.mem_cons.mp h with rfl | h
        · exact hce.2.2
        rcases List.mem_cons.mp h with rfl | h
        · exact hce.2.1
        · cases h
      exact kt_good w this
    · exact kt_cons hce.1 w h
  rw [zw_stkS]
  refine zl_callA X (vx_runSW (As := As.map (zw_cv g.2.2.1)) (rest := st.map (zw_cv g.2.2.1)) (n := n) ⟨X.1, X.2.1, X.2.2.1, X.2.2.2.1, X.2.2.2.2.1⟩ hM (vx_cwSW n X.2.2.2.2.1 hG rfl rfl rfl hd hR) ⟨zx_blind, fun U hU hW => ⟨rfl, zw_HR_at X h2 h3 hU hW, by rw [hU]; exact zx_XS_at hW h3 hXS⟩⟩ rfl ((List.length_map ..).trans hn) h1.1.1 rfl (lv_room (zw_cats hst)) d hf) h3 (fun H1 locs1 a1 a2 => ?_)
  exact kk X2 ls H1 locs1 h1 a1 a2
end ZLR
