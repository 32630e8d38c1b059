/-! the methods that throw NoSuchElementException, and the law's own that catch it -/
def zx_isX : Cond → Bool
  | .castable .. => true
  | .declares .. => true
  | _ => false
def zx_xw : List Cond := lw_tbl.filter zx_isX
def zx_ws : List Cond := zx_atS R_P 133 "java/util/NoSuchElementException" 13 prog_30_method_4_code "java/lang/RuntimeException" ["java/lang/Exception"]
theorem zx_wsin : zx_ws.all (fun w => decide (w ∈ lw_tbl) && (goodWord w || zx_isX w)) = true := by decide +kernel
theorem zx_wsot : (Cond.classLink R_P 129 "java/util/NoSuchElementException" :: Cond.initialized "java/util/NoSuchElementException" :: zx_ws).all vx_ot = true := by decide +kernel
theorem zx_k1 : Cond.classLink R_P 129 "java/util/NoSuchElementException" ∈ lw_tbl := by decide +kernel
theorem zx_k2 : Cond.initialized "java/util/NoSuchElementException" ∈ lw_tbl := by decide +kernel
theorem zx_k3 : Cond.castable "java/util/NoSuchElementException" "java/util/NoSuchElementException" ∈ lw_tbl := by decide +kernel
def zx_XS (g : zw_G) (U : State) (H : Heap) : Prop := (∀ w ∈ zx_xw, va_Nw w U) ∧ (∃ a, vk_R R_P 131 "no such part" a U) ∧ (∃ a, vk_R R_P 167 "no such pay, saying or event" a U) ∧ (∃ a, vk_R R_P 376 "no such number" a U) ∧ vx_Zq Bundle.tN "UNASSIGNED_STACK" Bundle.steD (fun q => g.2.2.1 ≤ q) U H ∧ vx_Zq Bundle.tN "SUPPRESSED_SENTINEL" Bundle.listD (fun q => g.2.2.1 ≤ q) U H
theorem zx_xw_warm {s U : State} (hW : s.WarmedH U.vm) {w : Cond} (hw : w ∈ zx_xw) (h : va_Nw w s) : va_Nw w U := by
  have hn := (List.mem_filter.mp hw).2
  cases w with
  | castable C T => exact va_Nw.warmC hW h
  | declares x =>
    have h1 : (Cond.declares x).before #[] (s.setVm U.vm) = true := by
      rw [Cond.declares_setVm hW.alike]; exact h
    exact va_tabs rfl (rfl : (s.setVm U.vm).vm = U.vm) h1
  | _ => cases hn
theorem zx_xw_same {s U : State} (hvm : s.vm = U.vm) {w : Cond} (hw : w ∈ zx_xw) (h : va_Nw w s) : va_Nw w U := by
  have hn := (List.mem_filter.mp hw).2
  cases w with
  | castable C T => exact va_Nw.same rfl hvm h
  | declares x => exact va_Nw.same rfl hvm h
  | _ => cases hn
theorem zx_xw_use {s : State} {args : Array Value} {w : Cond} (hw : w ∈ zx_xw) (h : va_Nw w s) : w.before args s = true := by
  have hn := (List.mem_filter.mp hw).2
  cases w with
  | castable C T => exact va_Nw.use rfl h
  | declares x => exact va_Nw.use rfl h
  | _ => cases hn
theorem zx_XS_at {g : zw_G} {s U : State} {H : Heap} {locs : List Loc} (hW : s.WarmedH U.vm) (hS : va_S (fun q => g.2.2.1 ≤ q) s.heap H locs) (h : zx_XS g s s.heap) : zx_XS g U H := by
  obtain ⟨h1, ⟨a1, h2⟩, ⟨a2, h3⟩, ⟨a3, h4⟩, h5, h6⟩ := h
  exact ⟨fun w hw => zx_xw_warm hW hw (h1 w hw), ⟨a1, h2.warm hW⟩, ⟨a2, h3.warm hW⟩, ⟨a3, h4.warm hW⟩, (h5.moved hW.alike).kept hS.2.1, (h6.moved hW.alike).kept hS.2.1⟩
theorem zx_XS_same {g : zw_G} {U V : State} {H : Heap} (hvm : V.vm = U.vm) (h : zx_XS g U H) : zx_XS g V H := by
  obtain ⟨h1, ⟨a1, h2⟩, ⟨a2, h3⟩, ⟨a3, h4⟩, h5, h6⟩ := h
  have hA : U.vm.Alike V.vm := by rw [hvm]; exact Vm.Alike.refl _
  exact ⟨fun w hw => zx_xw_same hvm.symm hw (h1 w hw), ⟨a1, h2.same hvm⟩, ⟨a2, h3.same hvm⟩, ⟨a3, h4.same hvm⟩, h5.moved hA, h6.moved hA⟩
def zx_Pc (g : zw_G) (rr : zw_RR) (sh : zw_Sh) (c : zw_Ct) (avs : List Value) : Array Value → State → Prop := va_Pc (avs.map (zw_cv g.2.2.1)) (fun U => zw_HR g rr sh c U ∧ zx_XS g U U.heap)
theorem zx_blind {g : zw_G} {rr : zw_RR} {sh : zw_Sh} {c : zw_Ct} {avs : List Value} : FrameBlind (zx_Pc g rr sh c avs) := by
  intro a U fr mk h
  exact ⟨h.1, (zw_HR_blind (av := avs.map (zw_cv g.2.2.1)) a U fr mk ⟨h.1, h.2.1⟩).2, zx_XS_same (V := U.calling fr mk a) (U := U) rfl h.2.2⟩
def zx_Qc (g : zw_G) (rr : zw_RR) (sh : zw_Sh) (r : Option Value) (c' : zw_Ct) : Array Value → State → Outcome → State → Prop := fun a st o t => r.isSome = true ∧ zw_Q g rr sh r c' a st o t
def zx_XC (g : zw_G) (rr : zw_RR) (sh : zw_Sh) (r : Option Value) (c' : zw_Ct) : String → State → State → Prop := fun E st t => r = none ∧ E = "java/util/NoSuchElementException" ∧ va_P g.1 classes (zw_ws g rr c' sh) t.heap ∧ va_F (fun q => g.2.2.1 ≤ q) st t
/-- method y answers r, or throws (r is none), and leaves c' -/
def zx_Met (l : Launch) (g : zw_G) (y : MethodName) (bytes : ByteArray) (maxL : Nat) (ret : Option FieldType) (lv : Nat) (rr : zw_RR) (sh : zw_Sh) (avs : List Value) (c : zw_Ct) (r : Option Value) (c' : zw_Ct) : Prop :=
  vx_Met l y (.code y bytes maxL ret :: ktG) (zw_rmC lv 1 6) (zx_Pc g rr sh c avs) (zx_Qc g rr sh r c') (zx_XC g rr sh r c') 1 6 (fun q => g.2.2.1 ≤ q)
theorem zx_Met.of {l : Launch} {g : zw_G} {y : MethodName} {bytes : ByteArray} {maxL : Nat} {ret : Option FieldType} {lv : Nat} {rr : zw_RR} {sh : zw_Sh} {avs : List Value} {c : zw_Ct} {r : Option Value} {c' : zw_Ct} (hy : plainName y.cls = true) (hsl : (lg_sl (avs.map (zw_cv g.2.2.1))).length ≤ maxL)
    (body : ∀ (p : Program) (e : Env) (s : State) (m : MethodId) (args : Array Value) (below : List Frame) (meth : Method) (cd : Code), zw_FX p (zw_rmC lv 1 6) s m args meth cd 0 0 g bytes y.cls ret maxL → zx_XS g s s.heap → (∀ x ∈ cd.exceptionTable.toList, False) → ZW p l e (zw_rmC lv 1 6) s m args below meth cd 0 0 (vx_MQ below (zx_Qc g rr sh r c') (zx_XC g rr sh r c') args s 1 6 (fun q => g.2.2.1 ≤ q)) g maxL sh rr 0 (zw_entry avs maxL) c []) : zx_Met l g y bytes maxL ret lv rr sh avs c r c' := by
  refine vx_ofW (cc := bytes) (maxL := maxL) (ret := ret) hy rfl ?_
  intro p e s m args below meth cd s₁ B hml ht hv
  obtain ⟨rfl, ⟨h1, h2, h3, h4, h5⟩, h6⟩ := hv
  have hts := atoms_spec (ws := .code y bytes maxL ret :: ktG) B.pre
  have X : zw_FX p (zw_rmC lv 1 6) s m (avs.map (zw_cv g.2.2.1)).toArray meth cd 0 0 g bytes y.cls ret maxL := ⟨B.exec, B.bytes, hml, findClass_of_methodNamed B.named, fun w hw => hts w (List.mem_cons_of_mem _ hw), h2, h3, h5, h4, B.notSynchronized, B.returns, Nat.zero_le _, Nat.zero_le _⟩
  rw [lg_entry_eq]
  exact body p e s m _ below meth cd X h6 ht _ s.heap [] (zw_LR_entry avs maxL hsl) h1 va_S.rf
section ZXM
variable {p : Program} {l : Launch} {e : Env} {R : Room} {s : State} {m : MethodId} {args : Array Value} {below : List Frame} {meth : Method} {cd : Code} {cells slots : Nat} {Q : State → Prop} {g : zw_G} {cc : ByteArray} {own : String} {ret : Option FieldType} {nL : Nat} {sh : zw_Sh} {rr : zw_RR} {pc : Nat} {L : zw_Lc} {c : zw_Ct} {st : List Value}
theorem zx_iret (X : zw_FX p R s m args meth cd cells slots g cc own ret nL) (hr : ret = some .int) (h1c : cells ≤ 1) (h6s : slots ≤ 6) {v : Int32} (d : decode cc pc = .ok (.ireturn, 1)) : ZW p l e R s m args below meth cd cells slots (vx_MQ below (zx_Qc g rr sh (some (.int v)) c) (zx_XC g rr sh (some (.int v)) c) args s 1 6 (fun q => g.2.2.1 ≤ q)) g nL sh rr pc L c ([.int v]) := fun ls H locs h1 h2 h3 => W.widen h1c h6s (vx_ret (W.iret X.1 X.2.1 (by rw [X.2.2.2.2.2.2.2.2.2.2.1, hr]) (fun t ht hW => ⟨rfl, rfl, zw_HR_at X h2 h3 ht hW, h3.F ht⟩) (fun q hq => h3.2.2 q hq) d (hlocks := X.2.2.2.2.2.2.2.2.2.1)))
theorem zx_lret (X : zw_FX p R s m args meth cd cells slots g cc own ret nL) (hr : ret = some .long) (h1c : cells ≤ 1) (h6s : slots ≤ 6) {v : Int64} (d : decode cc pc = .ok (.lreturn, 1)) : ZW p l e R s m args below meth cd cells slots (vx_MQ below (zx_Qc g rr sh (some (.long v)) c) (zx_XC g rr sh (some (.long v)) c) args s 1 6 (fun q => g.2.2.1 ≤ q)) g nL sh rr pc L c ([.long v]) := fun ls H locs h1 h2 h3 => W.widen h1c h6s (vx_ret (W.lret X.1 X.2.1 (by rw [X.2.2.2.2.2.2.2.2.2.2.1, hr]) (fun t ht hW => ⟨rfl, rfl, zw_HR_at X h2 h3 ht hW, h3.F ht⟩) (fun q hq => h3.2.2 q hq) d (hlocks := X.2.2.2.2.2.2.2.2.2.1)))
theorem zx_throw (X : zw_FX p R s m args meth cd 0 0 g cc R_P ret nL) (hl : l.stackTraces = false) (hXS : zx_XS g s s.heap) (ht : ∀ x ∈ cd.exceptionTable.toList, False) {is : Nat} {text : String} (hstr : ∃ a, vk_R R_P is text a s) (hR : 6 ≤ R.frames ∧ 100 ≤ R.locals ∧ 1 ≤ R.cells ∧ 6 ≤ R.slots) (d0 : decode cc pc = .ok (.new 129, 3)) (d3 : decode cc (pc + 3) = .ok (.dup, 1)) (d4 : decode cc (pc + 4) = .ok (.ldc is, 2)) (d6 : decode cc (pc + 6) = .ok (.invokespecial 133, 3)) (d9 : decode cc (pc + 9) = .ok (.athrow, 1)) : ZW p l e R s m args below meth cd 0 0 (vx_MQ below (zx_Qc g rr sh none c) (zx_XC g rr sh none c) args s 1 6 (fun q => g.2.2.1 ≤ q)) g nL sh rr pc L c [] := by
  intro ls H locs h1 h2 h3
  obtain ⟨sa, hstr⟩ := hstr
  have hin := List.all_eq_true.mp zx_wsin
  have hat : ∀ w ∈ zx_ws, w.before args s = true := by
    intro w hw
    have h := hin w hw
    simp only [Bool.and_eq_true, Bool.or_eq_true, decide_eq_true_eq] at h
    rcases h.2 with q | q
    · exact X.2.2.2.2.1 w (List.mem_filter.mpr ⟨h.1, q⟩)
    · have hx : w ∈ zx_xw := List.mem_filter.mpr ⟨h.1, q⟩
      exact zx_xw_use hx (hXS.1 w hx)
  refine zx_makeS X.1 X.2.1 hl (own := R_P) (cls := "java/util/NoSuchElementException") (sup := "java/lang/RuntimeException") (names := ["java/lang/Exception"]) (ik := 129) (is := is) (ic := 133) (ix := 13) (sa := sa) (rx := prog_30_method_4_code) (A := fun q => g.2.2.1 ≤ q) (text := text) X.2.2.2.1 (by decide +kernel) (by decide +kernel) (by decide +kernel) (by decide +kernel) (by decide +kernel) (by decide +kernel) (by decide +kernel) (X.2.2.2.2.1 _ (List.mem_filter.mpr ⟨zx_k1, rfl⟩)) (X.2.2.2.2.1 _ (List.mem_filter.mpr ⟨zx_k2, rfl⟩)) hstr hat (List.all_eq_true.mp zx_wsot) hXS.2.2.2.2.1 hXS.2.2.2.2.2 h3 (h1.1.trans X.2.2.1.symm) d0 d3 d4 d6 (Nat.lt_of_lt_of_le (by decide) hR.1) (Nat.le_trans (by show 0 + (13 * (1 + 2) + 43) ≤ 100; decide) hR.2.1) (Nat.le_trans (by decide) hR.2.2.1) (Nat.le_trans (by decide) hR.2.2.2) (fun q H1 ce a1 a2 a3 a4 a5 a6 => ?_)
  refine vx_athrow X.1 X.2.1 d9 ?_
  refine vx_out (E := "java/util/NoSuchElementException") (fun x hx => (ht x hx).elim) X.2.2.2.2.2.2.2.2.2.1 a1 a2 a3 (fun t ht hW => ⟨rfl, rfl, ?_, ?_⟩) (fun z hz => a6.2.2 z hz) (Nat.le_refl 1) (Nat.le_refl 6)
  · rw [ht]
    exact h2.kept (fun k x hx => a4 x.1 (h2 k x hx).lt)
  · exact a6.F ht
theorem zx_throwW (X : zw_FX p R s m args meth cd 0 0 g cc R_P ret nL) (hl : l.stackTraces = false) (hXS : zx_XS g s s.heap) (ht : ∀ x ∈ cd.exceptionTable.toList, False) {is : Nat} {text : String} (hstr : ∃ a, vk_R R_P is text a s) (hR : 6 ≤ R.frames ∧ 100 ≤ R.locals ∧ 1 ≤ R.cells ∧ 6 ≤ R.slots) (d0 : decode cc pc = .ok (.new 129, 3)) (d3 : decode cc (pc + 3) = .ok (.dup, 1)) (d4 : decode cc (pc + 4) = .ok (.ldc_w is, 3)) (d6 : decode cc (pc + 7) = .ok (.invokespecial 133, 3)) (d9 : decode cc (pc + 10) = .ok (.athrow, 1)) : ZW p l e R s m args below meth cd 0 0 (vx_MQ below (zx_Qc g rr sh none c) (zx_XC g rr sh none c) args s 1 6 (fun q => g.2.2.1 ≤ q)) g nL sh rr pc L c [] := by
  intro ls H locs h1 h2 h3
  obtain ⟨sa, hstr⟩ := hstr
  have hin := List.all_eq_true.mp zx_wsin
  have hat : ∀ w ∈ zx_ws, w.before args s = true := by
    intro w hw
    have h := hin w hw
    simp only [Bool.and_eq_true, Bool.or_eq_true, decide_eq_true_eq] at h
    rcases h.2 with q | q
    · exact X.2.2.2.2.1 w (List.mem_filter.mpr ⟨h.1, q⟩)
    · have hx : w ∈ zx_xw := List.mem_filter.mpr ⟨h.1, q⟩
      exact zx_xw_use hx (hXS.1 w hx)
  refine zx_makeSW X.1 X.2.1 hl (own := R_P) (cls := "java/util/NoSuchElementException") (sup := "java/lang/RuntimeException") (names := ["java/lang/Exception"]) (ik := 129) (is := is) (ic := 133) (ix := 13) (sa := sa) (rx := prog_30_method_4_code) (A := fun q => g.2.2.1 ≤ q) (text := text) X.2.2.2.1 (by decide +kernel) (by decide +kernel) (by decide +kernel) (by decide +kernel) (by decide +kernel) (by decide +kernel) (by decide +kernel) (X.2.2.2.2.1 _ (List.mem_filter.mpr ⟨zx_k1, rfl⟩)) (X.2.2.2.2.1 _ (List.mem_filter.mpr ⟨zx_k2, rfl⟩)) hstr hat (List.all_eq_true.mp zx_wsot) hXS.2.2.2.2.1 hXS.2.2.2.2.2 h3 (h1.1.trans X.2.2.1.symm) d0 d3 d4 d6 (Nat.lt_of_lt_of_le (by decide) hR.1) (Nat.le_trans (by show 0 + (13 * (1 + 2) + 43) ≤ 100; decide) hR.2.1) (Nat.le_trans (by decide) hR.2.2.1) (Nat.le_trans (by decide) hR.2.2.2) (fun q H1 ce a1 a2 a3 a4 a5 a6 => ?_)
  refine vx_athrow X.1 X.2.1 d9 ?_
  refine vx_out (E := "java/util/NoSuchElementException") (fun x hx => (ht x hx).elim) X.2.2.2.2.2.2.2.2.2.1 a1 a2 a3 (fun t ht hW => ⟨rfl, rfl, ?_, ?_⟩) (fun z hz => a6.2.2 z hz) (Nat.le_refl 1) (Nat.le_refl 6)
  · rw [ht]
    exact h2.kept (fun k x hx => a4 x.1 (h2 k x hx).lt)
  · exact a6.F ht
/-- the call of a method that may throw, with the one handler, which drops what it caught -/
theorem zx_call {own' : String} (X : zw_FX p R s m args meth cd cells slots g cc own' ret nL) {mc ms : Nat} {r : Option Value} {c2 : zw_Ct} {rest : List Value} {st0 : List Value} {ls : Array Slot} {H : Heap} {locs : List Loc} {a : Array Value} (hr : vx_Run p l e R s m args below meth cd H locs cells slots mc ms (F0 m pc ls st0) rest (zx_Qc g rr sh r c2 a) (zx_XC g rr sh r c2) (fun q => g.2.2.1 ≤ q)) (hS : va_S (fun q => g.2.2.1 ≤ q) s.heap H locs)
    (kk : ∀ v, r = some v → ∀ (H1 : Heap) (locs1 : List Loc), va_P g.1 classes (zw_ws g rr c2 sh) H1 → va_S (fun q => g.2.2.1 ≤ q) s.heap H1 locs1 → W p l e R s m args below meth cd H1 locs1 (cells + mc) (slots + ms) Q (F0 m (pc + 3) ls (zw_cv g.2.2.1 v :: rest)))
    (kx : r = none → ∀ (q : Nat) (ce : Cell) (H1 : Heap) (locs1 : List Loc), H1[q]? = some ce → ce.vm = .none → s.vm.findClass "java/util/NoSuchElementException" = some ce.cls → va_P g.1 classes (zw_ws g rr c2 sh) H1 → va_S (fun q => g.2.2.1 ≤ q) s.heap H1 locs1 → vx_W p l e R s m args below meth cd H1 locs1 (cells + mc) (slots + ms) Q (F0 m pc ls rest) q) : W p l e R s m args below meth cd H locs cells slots Q (F0 m pc ls st0) := by
  intro T hT X'
  rcases hr T hT X' with ⟨v, st₀, t, T', L', h0, X2, hL, e1, e2, ⟨hsome, hv, hH, hz, hk⟩, st⟩ | ⟨q, st₀, t, T', L', E, ce, h0, X2, hL, e1, e2, ⟨hr0, rfl, hP, hz, hk⟩, hce, hcv, hcl, st⟩
  · cases r with
    | none => cases hsome
    | some w =>
      cases hv
      rw [h0] at hz hk
      obtain ⟨t2, a1, b1⟩ := kk w rfl T'.heap (locs ++ L') (by rw [e1]; exact hH.1)
        ⟨Nat.le_trans hS.1 (by rw [e1]; exact hz), fun q g1 g2 => by rw [e1, hk q (Nat.lt_of_lt_of_le g1 hS.1) g2]; exact hS.2.1 q g1 g2, fun q hq => by
          rcases List.mem_append.mp hq with h | h
          · exact hS.2.2 q h
          · exact hL q h⟩ T' rfl X2
      exact ⟨t2, st t2 a1, b1⟩
  · rw [h0] at hz hk
    obtain ⟨t2, a1, b1⟩ := kx hr0 q ce T'.heap (locs ++ L') (by rw [e1]; exact hce) hcv hcl (by rw [e1]; exact hP)
      ⟨Nat.le_trans hS.1 (by rw [e1]; exact hz), fun q g1 g2 => by rw [e1, hk q (Nat.lt_of_lt_of_le g1 hS.1) g2]; exact hS.2.1 q g1 g2, fun q hq => by
        rcases List.mem_append.mp hq with h | h
        · exact hS.2.2 q h
        · exact hL q h⟩ T' rfl X2
    exact ⟨t2, st.trans a1, b1⟩
theorem r_callX (X : zw_FX p R s m args meth cd cells slots g cc own ret nL) (hXS : zx_XS g s s.heap) {y : MethodName} {bytes : ByteArray} {maxL : Nat} {ret' : Option FieldType} {lv : Nat} {o : Nat} {As : List Value} {r : Option Value} {c2 : zw_Ct} {idx n : Nat} {ci N : Nat} {T : u_T} (hM : zx_Met l g y bytes maxL ret' lv rr sh (.ref o :: As) c r c2) (hce : zw_cev y bytes maxL ret' n) (hlk : Cond.methodLink own idx y ∈ ktG) (ho : sh[o]? = some (.inr ci)) (hc : classes[ci]? = some (y.cls, T, N)) (hn : As.length = n) (hR : lv + 1 ≤ R.frames ∧ 8 + (maxL + 11) + 48 * lv ≤ R.locals) (hst : (st.map fun v => v.category).sum ≤ 8) (hf : cells + 1 ≤ R.cells ∧ slots + 6 ≤ R.slots) (d : decode cc pc = .ok (.invokevirtual idx, 3)) {x : ExceptionTableEntry} (hx : cd.exceptionTable.toList = [x]) (hcov : covers x pc = true) (hx0 : x.catchType ≠ 0) (hxl : Cond.classLink own x.catchType "java/util/NoSuchElementException" ∈ ktG) {i w : Nat} (dx : (decode cc x.handlerPc = .ok (.astore i, 2) ∧ w = 2) ∨ (∃ k : Fin 4, decode cc x.handlerPc = .ok (.astore_n k, 1) ∧ (k : Nat) = i ∧ w = 1)) (hi : i < nL) (hfx : zw_FX p R s m args meth cd (cells + 1) (slots + 6) g cc own ret nL → True)
    (kk : zw_FX p R s m args meth cd (cells + 1) (slots + 6) g cc own ret nL → ∀ v, r = some v → ZW p l e R s m args below meth cd (cells + 1) (slots + 6) Q g nL sh rr (pc + 3) L c2 (v :: st))
    (kx : zw_FX p R s m args meth cd (cells + 1) (slots + 6) g cc own ret nL → r = none → ZW p l e R s m args below meth cd (cells + 1) (slots + 6) Q g nL sh rr (x.handlerPc + w) [] c2 []) : ZW p l e R s m args below meth cd cells slots Q g nL sh rr pc L c (As.reverse ++ .ref o :: st) := by
  have X2 : zw_FX p R s m args meth cd (cells + 1) (slots + 6) g cc own ret nL := ⟨X.1, X.2.1, X.2.2.1, X.2.2.2.1, X.2.2.2.2.1, X.2.2.2.2.2.1, X.2.2.2.2.2.2.1, X.2.2.2.2.2.2.2.1, X.2.2.2.2.2.2.2.2.1, X.2.2.2.2.2.2.2.2.2.1, X.2.2.2.2.2.2.2.2.2.2.1, hf.1, hf.2⟩
  intro ls H locs h1 h2 h3
  obtain ⟨⟨hcode, hini, hd⟩, hinst, hsel⟩ := hce
  have hG : GoodIn ktG (wsV own idx y.cls y (.code y bytes maxL ret' :: ktG)) := fun w hw => by
    rcases List.mem_append.mp hw with h | h
    · have : w ∈ ktG := by
        rcases List.mem_cons.mp h with rfl | h
        · exact hlk
        rcases List.mem_cons.mp h with rfl | h
        · exact hinst
        rcases List.mem_cons.mp h with rfl | h
        · exact hsel
        rcases List.mem_cons.mp h with rfl | h
        · exact hini
        · cases h
      exact kt_good w this
    · exact kt_cons hcode w h
  rw [zw_stk]
  refine zx_call (own' := own) X (vx_runV (As := As.map (zw_cv g.2.2.1)) (rest := st.map (zw_cv g.2.2.1)) (n := n) ⟨X.1, X.2.1, X.2.2.1, X.2.2.2.1, X.2.2.2.2.1⟩ hM (cwV n X.2.2.2.2.1 hG rfl rfl rfl ⟨rfl, hd⟩ hR) ⟨zx_blind, va_recv X.2.2.2.2.2.1 h2 hc (zw_ws_get ho), fun U hU hW => ⟨rfl, zw_HR_at X h2 h3 hU hW, by rw [hU]; exact zx_XS_at hW h3 hXS⟩⟩ rfl ((List.length_map ..).trans hn) h1.1 rfl (lv_room (zw_cats hst)) d hf) h3 (fun v hv H1 locs1 a1 a2 => ?_) (fun hv q ce H1 locs1 q1 q2 q3 a1 a2 => ?_)
  · exact kk X2 v hv ls H1 locs1 h1 a1 a2
  · refine vx_catch (own := own) (name := "java/util/NoSuchElementException") (E := "java/util/NoSuchElementException") X.2.2.2.1 [] x [] hx (fun z hz => nomatch hz) hcov hx0 (X.2.2.2.2.1 _ hxl) (zx_xw_use (List.mem_filter.mpr ⟨zx_k3, rfl⟩) (hXS.1 _ (List.mem_filter.mpr ⟨zx_k3, rfl⟩))) q1 q2 q3 ?_
    have h0 : lv_has ls nL [] := ⟨h1.1, h1.2.1, fun q hq => nomatch hq⟩
    have hLR : ∀ {ls2 : Array Slot} {lv : List (Nat × Value)}, lv_has ls2 nL lv → zw_LR g.2.2.1 nL [] ls2 := fun h => ⟨h.1, h.2.1, fun i v hv => by simp at hv⟩
    rcases dx with ⟨dx, rfl⟩ | ⟨k, dx, hk, rfl⟩
    · exact lv_astore X.1 X.2.1 dx h0 hi rfl (fun ls2 h => kx X2 hv ls2 H1 locs1 (hLR h) a1 a2)
    · exact lv_astore_n X.1 X.2.1 dx hk h0 hi rfl (fun ls2 h => kx X2 hv ls2 H1 locs1 (hLR h) a1 a2)
end ZXM
/-- a method of the law with handlers, which answers always -/
def zy_Met (l : Launch) (g : zw_G) (y : MethodName) (bytes : ByteArray) (maxL : Nat) (ret : Option FieldType) (hh : List (Nat × Nat × Nat × Nat)) (lv : Nat) (rr : zw_RR) (sh : zw_Sh) (avs : List Value) (c : zw_Ct) (r : Option Value) (c' : zw_Ct) : Prop :=
  Met l y (.codeWith y bytes maxL ret hh :: ktG) (zw_rmC lv 1 6) (zx_Pc g rr sh c avs) (zw_Q g rr sh r c') 1 6 (fun q => g.2.2.1 ≤ q)
theorem zy_Met.of {l : Launch} {g : zw_G} {y : MethodName} {bytes : ByteArray} {maxL : Nat} {ret : Option FieldType} {hh : List (Nat × Nat × Nat × Nat)} {lv : Nat} {rr : zw_RR} {sh : zw_Sh} {avs : List Value} {c : zw_Ct} {r : Option Value} {c' : zw_Ct} (hy : plainName y.cls = true) (hsl : (lg_sl (avs.map (zw_cv g.2.2.1))).length ≤ maxL)
    (body : ∀ (p : Program) (e : Env) (s : State) (m : MethodId) (args : Array Value) (below : List Frame) (meth : Method) (cd : Code), zw_FX p (zw_rmC lv 1 6) s m args meth cd 0 0 g bytes y.cls ret maxL → zx_XS g s s.heap → cd.exceptionTable.toList = tableOf hh → ZW p l e (zw_rmC lv 1 6) s m args below meth cd 0 0 (MQ below (zw_Q g rr sh r c') args s 1 6 (fun q => g.2.2.1 ≤ q)) g maxL sh rr 0 (zw_entry avs maxL) c []) : zy_Met l g y bytes maxL ret hh lv rr sh avs c r c' := by
  unfold zy_Met Met
  refine MetFree.of_bodyS (code := bytes) (maxLocals := maxL) (ret := ret) hy ?_ ?_
  · intro args s m h hn
    obtain ⟨m9, meth, c, hn9, h1, h2, h3, h4, -, h5, h6, -⟩ := Cond.codeWith_spec (atoms_spec (ws := .codeWith y bytes maxL ret hh :: ktG) h _ List.mem_cons_self)
    cases hn.symm.trans hn9
    exact ⟨meth, c, h1, h2, h3, h4, h5, h6⟩
  · intro p e s m args below meth cd s₁ B hml hv _
    have hh0 : s₁.heap = s.heap := by rw [B.state]; rfl
    have hts := atoms_spec (ws := .codeWith y bytes maxL ret hh :: ktG) B.pre
    have hT : cd.exceptionTable.toList = tableOf hh := vx_table (x := y) B (hts _ List.mem_cons_self)
    obtain ⟨rfl, ⟨h1, h2, h3, h4, h5⟩, h6⟩ := hv
    have X : zw_FX p (zw_rmC lv 1 6) s m (avs.map (zw_cv g.2.2.1)).toArray meth cd 0 0 g bytes y.cls ret maxL := ⟨B.exec, B.bytes, hml, findClass_of_methodNamed B.named, fun w hw => hts w (List.mem_cons_of_mem _ hw), h2, h3, h5, h4, B.notSynchronized, B.returns, Nat.zero_le _, Nat.zero_le _⟩
    have hW : W p l e (zw_rmC lv 1 6) s m (avs.map (zw_cv g.2.2.1)).toArray below meth cd s.heap [] 0 0 (MQ below (zw_Q g rr sh r c') (avs.map (zw_cv g.2.2.1)).toArray s 1 6 (fun q => g.2.2.1 ≤ q)) (entryFrame m (avs.map (zw_cv g.2.2.1)).toArray maxL) := by
      rw [lg_entry_eq]
      exact body p e s m _ below meth cd X h6 hT _ s.heap [] (zw_LR_entry avs maxL hsl) h1 va_S.rf
    obtain ⟨t, a1, o, b1, b2, b3⟩ := hW s₁ hh0 (Stand.of_body B)
    exact ⟨t, o, a1, b1, b2, ⟨b3.1, b3.2⟩⟩
