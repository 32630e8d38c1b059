/-! the law's end (out of kit/laws/SKELETON.whole, pasted), its loop and its start (by program: wip/whole/gen/law3.py) -/
def R_law : String := "PaidForThinkingLaw"
def lw_P (b : Addr) (xs : List Int32) (args : Array Value) (s : State) : Prop := args = #[.ref b] ∧ s.IntsAt b xs ∧ xs.length ≤ 3072 ∧ (Jvm.Cond.and given_1 narrow_1).before args s = true
def lw_Q (_ : Array Value) (s : State) (o : Outcome) (t : State) : Prop := o = .returned (some (.int 1)) ∧ Framed s o t [] 601024 7293034
def lw_Z (below : List Frame) (a : Array Value) (s : State) : State → Prop := fun t => ∃ o, t.status = .running ∧ Ended t below o ∧ lw_Q a s o t
/-- the law's own end, with 1 on the stack, nothing written that was there before, its room as the claim has it -/
theorem lw_ret {p : Program} {l : Launch} {e : Env} {s : State} {m : MethodId} {below : List Frame} {meth : Method} {c : Code} {b : Nat} (hx : p.tables.exec = Jvm.exec) (hb : c.code = code) (hr : meth.sig.returnType = ret) (hlocks : meth.locks = false) {pc : Nat} {H : Heap} {ls : Array Slot} (hdg : decode code pc = .ok (.ireturn, 1)) : W p l e room_1 s m #[Value.ref b] below meth c H [] 601024 7293034 (lw_Z below #[Value.ref b] s) (F0 m pc ls [.int 1]) := by
  intro T hT X
  obtain ⟨fs, hret, hrun, hended, hW, hframe⟩ := X.leave (v := some (.int 1)) (hlocks := hlocks) (fun h => by rw [hr] at h; cases h)
  have hmeth' : T.vm.method? m = some meth := X.method'
  refine ⟨T.setFrames fs, ?_, .returned (some (.int 1)), hrun, hended, rfl, ⟨_, rfl⟩, hW, hframe⟩
  jvm_step X.here [X.here.top, hx, hb, hdg, hmeth', hr, ret, narrow_b1]
  (try refine ⟨rfl, ?_⟩); (try refine ⟨rfl, ?_⟩)
  first | (intro acts; rw [hret _ acts rfl rfl rfl]) | rw [hret _ _ rfl rfl rfl]
  exact Steps.refl _
/-- what holds at the law's entry: the machine, the code, the tables' words (any of lw_tbl by 'hts w (by decide +kernel)'), the script of L ints xs at the cell b, what the Statement gives of the start (any of its parts by flat_of_before) -/
def lw_At (p : Program) (s : State) (m : MethodId) (meth : Method) (c : Code) (b L : Nat) (xs : Nat → Int32) : Prop :=
  p.tables.exec = Jvm.exec ∧ c.code = code ∧ meth.sig.returnType = ret ∧ c.maxLocals = 8 ∧ s.vm.findClass R_law = some m.cls ∧ (∀ w ∈ lw_tbl, w.before #[Value.ref b] s = true) ∧ va_X b L xs s s.heap ∧ b < s.heap.size ∧ meth.locks = false ∧ (Jvm.Cond.and given_1 narrow_1).before #[Value.ref b] s = true
section ZLS
variable {p : Program} {l : Launch} {e : Env} {R : Room} {s : State} {m : MethodId} {args : Array Value} {below : List Frame} {meth : Method} {cd : Code} {cells slots : Nat} {Q : State → Prop} {g : zw_G} {cc : ByteArray} {own : String} {ret : Option FieldType} {nL : Nat} {sh : zw_Sh} {rr : zw_RR} {pc : Nat} {L : zw_Lc} {c : zw_Ct} {st : List Value}
theorem zl_newo2 {b0 : Nat} (X : zw_FX p R s m args meth cd cells slots g cc own ret nL) {sh2 : zw_Sh} {k k1 k2 : Nat} {ci N idx : Nat} {C : String} {T : u_T} {ty : Nat → FieldType} (hci : zw_CI ci C T N ty) (hcl : Cond.classLink own idx C ∈ ktG) (hinst : Cond.instantiable C N ∈ ktG) (hini : Cond.initialized C ∈ ktG) (hsz : s.heap.size + cells = g.2.2.1 + sh.length) (hk : sh.length = k) (hsh : sh ++ [.inr ci] = sh2) (hdef : ∀ j, j < N → defaultValue (ty j) = vp_V (zw_flds g.2.2.1 rr (zw_z c k) k ci) j) (hcells : k1 ≤ R.cells) (hslots : k2 ≤ R.slots) (d : decode cc pc = .ok (.new idx, 3)) (e1 : cells + 1 = k1) (e2 : slots + N = k2) (kk : zw_FX p R s m args meth cd k1 k2 g cc own ret nL → ZL p l e R s m args below meth cd k1 k2 Q g nL sh2 rr b0 (pc + 3) L (zw_z c k) (.ref k :: st)) : ZL p l e R s m args below meth cd cells slots Q g nL sh rr b0 pc L c st := by
  subst hk; subst hsh; subst e1; subst e2
  exact zl_newo X hci hcl hinst hini hsz hdef hcells hslots d kk
theorem zl_newa2 {b0 : Nat} (X : zw_FX p R s m args meth cd cells slots g cc own ret nL) {sh2 : zw_Sh} {k k1 k2 : Nat} {t N : Nat} {atype : ArrayType} {fty : FieldType} {n : Int32} (hty : newarray.typeOf atype = fty) (hra : ∀ cA, va_RA s cA fty → s.vm.findClass ("[" ++ fty.toString) = some cA) (htt : (zw_tys g.2.1)[t]? = some (g.2.1 t, fty)) (harr : Cond.arrayClass fty ∈ ktG) (hac : ∀ (rr : zw_RR) (c : zw_Ct) (k : Nat) (b : Nat) (N : Nat) (cA : ClassId), vp_cell cA (N, zw_ac b rr (zw_z c k) k t) = arrV cA N (fun _ => defaultValue fty)) (hn : ¬ n < 0) (hN : n.toNatClampNeg = N) (hby : N * componentBytes fty ≤ 536870912) (hsz : s.heap.size + cells = g.2.2.1 + sh.length) (hk : sh.length = k) (hsh : sh ++ [.inl (t, N)] = sh2)  (hcells : k1 ≤ R.cells) (hslots : k2 ≤ R.slots) (d : decode cc pc = .ok (.newarray atype, 2)) (e1 : cells + 1 = k1) (e2 : slots + N = k2) (kk : zw_FX p R s m args meth cd k1 k2 g cc own ret nL → ZL p l e R s m args below meth cd k1 k2 Q g nL sh2 rr b0 (pc + 2) L (zw_z c k) (.ref k :: st)) : ZL p l e R s m args below meth cd cells slots Q g nL sh rr b0 pc L c (.int n :: st) := by
  subst hk; subst hsh; subst e1; subst e2
  exact zl_newa X hty hra htt (by rw [hty]; exact harr) (fun cA => by rw [hty]; exact hac _ _ _ _ _ _) hn hN (by rw [hty]; exact hby) hsz hcells hslots d kk
theorem zl_at {cells2 slots2 : Nat} (X : zw_FX p R s m args meth cd cells slots g cc own ret nL) (h1 : cells2 ≤ R.cells) (h2 : slots2 ≤ R.slots) : zw_FX p R s m args meth cd cells2 slots2 g cc own ret nL := ⟨X.1, X.2.1, X.2.2.1, X.2.2.2.1, X.2.2.2.2.1, X.2.2.2.2.2.1, X.2.2.2.2.2.2.1, X.2.2.2.2.2.2.2.1, X.2.2.2.2.2.2.2.2.1, X.2.2.2.2.2.2.2.2.2.1, X.2.2.2.2.2.2.2.2.2.2.1, h1, h2⟩
end ZLS
theorem zq_and63 (x : Int32) : ∃ k : Nat, k < 64 ∧ x &&& 63 = Int32.ofNat k := by
  refine ⟨(x &&& 63).toBitVec.toNat, ?_, ?_⟩
  · have h : (x &&& 63).toBitVec = x.toBitVec &&& 63#32 := rfl
    rw [h, BitVec.toNat_and]
    exact Nat.lt_of_le_of_lt Nat.and_le_right (by decide)
  · apply Int32.toBitVec_inj.mp
    show _ = BitVec.ofNat 32 _
    rw [BitVec.ofNat_toNat, BitVec.setWidth_eq]
theorem zq_len (LL k : Nat) (hL : LL ≤ 3072) : (LL < 6 * k + 6 → 6 * k ≤ LL → nI LL - 6 < nI (6 * k)) ∧ (6 * k + 6 ≤ LL → ¬ (nI LL - 6 < nI (6 * k))) := by
  have e6 : nI 6 = 6 := by decide
  constructor
  · intro h1 h2
    rcases Nat.lt_or_ge LL 6 with h | h
    · have hk : k = 0 := by omega
      subst hk
      rcases (show LL = 0 ∨ LL = 1 ∨ LL = 2 ∨ LL = 3 ∨ LL = 4 ∨ LL = 5 by omega) with rfl | rfl | rfl | rfl | rfl | rfl <;> decide
    · have e : nI LL - 6 = nI (LL - 6) := by
        rw [show LL = (LL - 6) + 6 by omega, ← nI_add, e6, Int32.add_sub_cancel, Nat.add_sub_cancel]
      rw [e]
      exact (nI_ltI (by omega) (by omega)).mpr (by omega)
  · intro h
    have e : nI LL - 6 = nI (LL - 6) := by
      rw [show LL = (LL - 6) + 6 by omega, ← nI_add, e6, Int32.add_sub_cancel, Nat.add_sub_cancel]
    rw [e]
    exact fun q => absurd ((nI_ltI (by omega) (by omega)).mp q) (by omega)
theorem zq_in5 {LL k : Nat} (hL : LL ≤ 3072) (h : 6 * k + 6 ≤ LL) : ∀ v : Int32, v ∈ ([1, 2, 3, 4, 5] : List Int32) → vp_in (nI (6 * k) + v) LL := by
  intro v hv
  have key : ∀ j : Nat, j < 6 → v = nI j → vp_in (nI (6 * k) + v) LL := fun j hj e => by
    rw [e, nI_add]
    exact nI_in (by omega) (by omega)
  simp only [List.mem_cons, List.not_mem_nil, or_false] at hv
  rcases hv with rfl | rfl | rfl | rfl | rfl
  · exact key 1 (by omega) rfl
  · exact key 2 (by omega) rfl
  · exact key 3 (by omega) rfl
  · exact key 4 (by omega) rfl
  · exact key 5 (by omega) rfl
theorem zq_arr {args : Array Value} {s : State} {ty : FieldType} (h : (Cond.arrayClass ty).before args s = true) : ∃ cA : ClassId, ArrOfT s cA ty ∧ s.vm.findClass ("[" ++ ty.toString) = some cA := by
  obtain ⟨cA, kA, comp, h1, h2, h3⟩ := Cond.arrayClass_spec h
  exact ⟨cA, fun N z => ⟨(fun k h => by cases h), kA, h2, comp, h3⟩, h1⟩
theorem zq_arrA {args : Array Value} {s : State} {ty : FieldType} (h : (Cond.arrayOver (.array ty)).before args s = true) : ∃ cA : ClassId, ArrOfT s cA (.array ty) ∧ va_RA s cA (.array ty) := by
  obtain ⟨comp, cA, kA, h1, h2, h3, h4, h5⟩ := arrayOverA_spec h
  exact ⟨cA, fun N z => ⟨(fun k h => by cases h), kA, h3, comp, h4⟩, h5⟩
theorem zq_arrO {args : Array Value} {s : State} {C : String} (h : (Cond.arrayOver (.object C)).before args s = true) : ∃ cA : ClassId, ArrOfT s cA (.object C) ∧ va_RA s cA (.object C) := by
  obtain ⟨comp, cA, kA, h1, h2, h3, h4, h5⟩ := Cond.arrayOver_spec h
  exact ⟨cA, fun N z => ⟨(fun k h => by cases h), kA, h3, comp, h4⟩, kA, comp, h3, h4, h1, h5⟩
theorem zq_prim {s : State} {cA : ClassId} {ty : FieldType} (hne : ∀ C, ty ≠ .object C) (h : s.vm.findClass ("[" ++ ty.toString) = some cA) : va_RA s cA ty := by
  cases ty with
  | object C => exact absurd rfl (hne C)
  | _ => exact h
def dl_L_head : List (Nat × Instr × Nat) := [(23, .iload 4, 2), (25, .aload_n 0, 1), (26, .arraylength, 1), (27, .bipush 6, 2), (29, .isub, 1), (30, .if_icmp .gt 2451, 3), (33, .aload_n 0, 1), (34, .iload 4, 2), (36, .iaload, 1), (37, .bipush 63, 2), (39, .iand, 1), (40, .tableswitch 2435 0 54 #[236, 273, 334, 402, 439, 500, 525, 550, 575, 655, 680, 729, 766, 815, 840, 865, 902, 939, 976, 1001, 1026, 1051, 1124, 1161, 1210, 1271, 1320, 1369, 1418, 1491, 1516, 1541, 1554, 1603, 1640, 1665, 1714, 1739, 1788, 1849, 1910, 1947, 1996, 2045, 2070, 2119, 2132, 2169, 2194, 2243, 2268, 2305, 2330, 2355, 2380], 236)]
theorem dk_L_head : zw_dk code dl_L_head = true := by decide +kernel
def dl_L_tail : List (Nat × Instr × Nat) := [(2475, .iinc 4 6, 3), (2478, .goto (-2455), 3), (2481, .iconst 1, 1), (2482, .ireturn, 1)]
theorem dk_L_tail : zw_dk code dl_L_tail = true := by decide +kernel
def dl_L_pre : List (Nat × Instr × Nat) := [(0, .new 8, 3), (3, .dup, 1), (4, .invokespecial 23, 3), (7, .astore_n 1, 1), (8, .new 24, 3), (11, .dup, 1), (12, .invokespecial 26, 3), (15, .astore_n 2, 1), (16, .iconst 1, 1), (17, .newarray .long, 2), (19, .astore_n 3, 1), (20, .iconst 0, 1), (21, .istore 4, 2)]
theorem dk_L_pre : zw_dk code dl_L_pre = true := by decide +kernel
set_option maxRecDepth 100000 in
theorem zq_loop {p : Program} {l : Launch} {e : Env} {s : State} {m : MethodId} {args : Array Value} {below : List Frame} {meth : Method} {cd : Code} {Q : State → Prop} {g : zw_G} {sh : zw_Sh} {rr : zw_RR} {b0 LL : Nat} {xs : Nat → Int32} {Rel : Nat → zw_Ct → Prop} (HA : zq_All Rel) (hmono : ∀ n c, Rel n c → Rel (n + 1) c) (hLL : LL ≤ 3072) (hXS : zx_XS g s s.heap) (hS : zw_Ok 0 101 sh rr) (hX : va_X b0 LL xs s s.heap) (hbl : b0 < g.2.2.1) (hl : l.stackTraces = false)
    (hend : ∀ cells slots i c, cells ≤ 601024 → slots ≤ 7293034 → zw_FX p room_1 s m args meth cd cells slots g code "PaidForThinkingLaw" ret 8 → ZL p l e room_1 s m args below meth cd cells slots Q g 8 sh rr b0 2481 (zq_L i) c []) :
    ∀ n k c cells slots, k + n = LL / 6 → cells + n ≤ 601024 → slots + 6 * n ≤ 7293034 → Rel k c → zw_FX p room_1 s m args meth cd cells slots g code "PaidForThinkingLaw" ret 8 → ZL p l e room_1 s m args below meth cd cells slots Q g 8 sh rr b0 23 (zq_L (nI (6 * k))) c [] := by
  obtain ⟨h_table, h_saying, h_part, h_turn, h_sheet, h_sign, h_end, h_pay, h_gets, h_ends, h_mean, h_best, h_loses, h_truly, h_bends, h_could, h_same, h_alike, h_make, h_back, h_take, h_mix, h_lift, h_rank, h_look, h_purse, h_minds, h_lot, h_bribe, h_safe, h_person, h_go, h_prize, h_boast, h_rest, h_agree, h_gain, h_peers, h_decide, h_coin, h_says, h_middle, h_word, h_words, h_evening, h_forget, h_paid, h_first, h_right, h_meant, h_thinks, h_keep, h_again, h_count, h_row⟩ := HA
  intro n
  induction n with
  | zero =>
    intro k c cells slots hk hc hs hR X
    refine zl_iload X (pc := 23) (i := 4) (zw_dg dk_L_head 0 rfl) rfl ?_
    refine zl_slen X hX hbl (pc := 25) (zw_dg dk_L_head 1 rfl) (zw_dg dk_L_head 2 rfl) ?_
    refine zl_bipush X (pc := 27) (v := 6) (zw_dg dk_L_head 3 rfl) (by decide) ?_
    refine zl_isub X (pc := 29) (zw_dg dk_L_head 4 rfl) ?_
    exact zl_icmp_gt X (pc := 30) (tgt := 2481) (zw_dg dk_L_head 5 rfl) (by decide) (fun _ => hend _ _ _ _ (by omega) (by omega) X) (fun q => absurd ((zq_len LL k hLL).1 (by omega) (by omega)) q)
  | succ n ih =>
    intro k c cells slots hk hc hs hR X
    have hk6 : 6 * k + 6 ≤ LL := by omega
    have hk5 : k < 512 := by omega
    have hf : cells + 1 ≤ room_1.cells ∧ slots + 6 ≤ room_1.slots := ⟨Nat.le_trans (by omega) (Nat.le_of_ble_eq_true rfl : 601024 ≤ room_1.cells), Nat.le_trans (by omega) (Nat.le_of_ble_eq_true rfl : 7293034 ≤ room_1.slots)⟩
    have hin := zq_in5 hLL hk6
    have knext : ∀ c2, Rel (k + 1) c2 → ZL p l e room_1 s m args below meth cd (cells + 1) (slots + 6) Q g 8 sh rr b0 2475 (zq_L (nI (6 * k))) c2 [] := fun c2 hR2 => by
      have X2 := zl_at (cells2 := cells + 1) (slots2 := slots + 6) X hf.1 hf.2
      refine zl_iinc X2 (pc := 2475) (i := 4) (k := 6) (L2 := zq_L (nI (6 * (k + 1)))) (zw_dg dk_L_tail 0 rfl) rfl (by decide) (by decide) (by decide) ?_ ?_
      · have e6 : nI (6 * k) + 6 = nI (6 * (k + 1)) := by rw [show (6 : Int32) = nI 6 by decide, nI_add]; rfl
        rw [e6]; rfl
      refine zl_goto X2 (pc := 2478) (tgt := 23) (zw_dg dk_L_tail 1 rfl) (by decide) ?_
      exact ih (k + 1) c2 (cells + 1) (slots + 6) (by omega) (by omega) (by omega) hR2 X2
    refine zl_iload X (pc := 23) (i := 4) (zw_dg dk_L_head 0 rfl) rfl ?_
    refine zl_slen X hX hbl (pc := 25) (zw_dg dk_L_head 1 rfl) (zw_dg dk_L_head 2 rfl) ?_
    refine zl_bipush X (pc := 27) (v := 6) (zw_dg dk_L_head 3 rfl) (by decide) ?_
    refine zl_isub X (pc := 29) (zw_dg dk_L_head 4 rfl) ?_
    refine zl_icmp_gt X (pc := 30) (tgt := 2481) (zw_dg dk_L_head 5 rfl) (by decide) (fun q => absurd q ((zq_len LL k hLL).2 hk6)) (fun _ => ?_)
    refine zl_scr0 X hX hbl (pc := 33) (i := nI (6 * k)) (zw_dg dk_L_head 6 rfl) (zw_dg dk_L_head 7 rfl) (zw_dg dk_L_head 8 rfl) rfl (nI_in (by omega) (by omega)) ?_
    refine zl_bipush X (pc := 37) (v := 63) (zw_dg dk_L_head 9 rfl) (by decide) ?_
    refine zl_iand X (pc := 39) (zw_dg dk_L_head 10 rfl) ?_
    obtain ⟨j, hj, ej⟩ := zq_and63 (xs (nI (6 * k)).toNatClampNeg)
    rw [ej]
    match j, hj with
    | 0, _ =>
      refine zl_tableIn X (pc := 40) (tgt := 276) (zw_dg dk_L_head 11 rfl) (by decide) (by decide) rfl (by decide) ?_
      obtain ⟨r, c1, c2, h1, h2, h5⟩ := h_table k c hk5 hR (xs (nI (6 * k) + 1).toNatClampNeg) (xs (nI (6 * k) + 2).toNatClampNeg)
      exact zq_c_table X hXS hS hX hbl hl hin hf h1 h2 (knext c2 h5)
    | 1, _ =>
      refine zl_tableIn X (pc := 40) (tgt := 313) (zw_dg dk_L_head 11 rfl) (by decide) (by decide) rfl (by decide) ?_
      obtain ⟨r, c2, h1, h2, h5⟩ := h_saying k c hk5 hR (xs (nI (6 * k) + 1).toNatClampNeg) (xs (nI (6 * k) + 2).toNatClampNeg) (xs (nI (6 * k) + 3).toNatClampNeg) (xs (nI (6 * k) + 4).toNatClampNeg)
      exact zq_c_saying (c1 := c) X hXS hS hX hbl hl hin hf h1 h2 (knext c2 h5)
    | 2, _ =>
      refine zl_tableIn X (pc := 40) (tgt := 374) (zw_dg dk_L_head 11 rfl) (by decide) (by decide) rfl (by decide) ?_
      obtain ⟨r, c1, b, c2, h1, h2, h3, h4, h5⟩ := h_part k c hk5 hR (xs (nI (6 * k) + 1).toNatClampNeg) (xs (nI (6 * k) + 2).toNatClampNeg)
      exact zq_c_part X hXS hS hX hbl hl hin hf h1 h2 h3 h4 (knext c2 h5)
    | 3, _ =>
      refine zl_tableIn X (pc := 40) (tgt := 442) (zw_dg dk_L_head 11 rfl) (by decide) (by decide) rfl (by decide) ?_
      obtain ⟨r, c1, c2, h1, h2, h5⟩ := h_turn k c hk5 hR (xs (nI (6 * k) + 1).toNatClampNeg) (xs (nI (6 * k) + 2).toNatClampNeg)
      exact zq_c_turn X hXS hS hX hbl hl hin hf h1 h2 (knext c2 h5)
    | 4, _ =>
      refine zl_tableIn X (pc := 40) (tgt := 479) (zw_dg dk_L_head 11 rfl) (by decide) (by decide) rfl (by decide) ?_
      obtain ⟨r, c1, c2, h1, h2, h5⟩ := h_sheet k c hk5 hR (xs (nI (6 * k) + 1).toNatClampNeg) (xs (nI (6 * k) + 2).toNatClampNeg) (xs (nI (6 * k) + 3).toNatClampNeg) (xs (nI (6 * k) + 4).toNatClampNeg)
      exact zq_c_sheet X hXS hS hX hbl hl hin hf h1 h2 (knext c2 h5)
    | 5, _ =>
      refine zl_tableIn X (pc := 40) (tgt := 540) (zw_dg dk_L_head 11 rfl) (by decide) (by decide) rfl (by decide) ?_
      obtain ⟨r, c1, c2, h1, h2, h5⟩ := h_sign k c hk5 hR (xs (nI (6 * k) + 1).toNatClampNeg)
      exact zq_c_sign X hXS hS hX hbl hl hin hf h1 h2 (knext c2 h5)
    | 6, _ =>
      refine zl_tableIn X (pc := 40) (tgt := 565) (zw_dg dk_L_head 11 rfl) (by decide) (by decide) rfl (by decide) ?_
      obtain ⟨r, c1, c2, h1, h2, h5⟩ := h_end k c hk5 hR (xs (nI (6 * k) + 1).toNatClampNeg)
      exact zq_c_end X hXS hS hX hbl hl hin hf h1 h2 (knext c2 h5)
    | 7, _ =>
      refine zl_tableIn X (pc := 40) (tgt := 590) (zw_dg dk_L_head 11 rfl) (by decide) (by decide) rfl (by decide) ?_
      obtain ⟨r, c1, c2, h1, h2, h5⟩ := h_pay k c hk5 hR (xs (nI (6 * k) + 1).toNatClampNeg)
      exact zq_c_pay X hXS hS hX hbl hl hin hf h1 h2 (knext c2 h5)
    | 8, _ =>
      refine zl_tableIn X (pc := 40) (tgt := 615) (zw_dg dk_L_head 11 rfl) (by decide) (by decide) rfl (by decide) ?_
      obtain ⟨r, c1, b, c2, h1, h2, h3, h4, h5⟩ := h_gets k c hk5 hR (xs (nI (6 * k) + 1).toNatClampNeg) (xs (nI (6 * k) + 2).toNatClampNeg) (xs (nI (6 * k) + 3).toNatClampNeg)
      exact zq_c_gets X hXS hS hX hbl hl hin hf h1 h2 h3 h4 (knext c2 h5)
    | 9, _ =>
      refine zl_tableIn X (pc := 40) (tgt := 695) (zw_dg dk_L_head 11 rfl) (by decide) (by decide) rfl (by decide) ?_
      obtain ⟨r, c1, c2, h1, h2, h5⟩ := h_ends k c hk5 hR (xs (nI (6 * k) + 1).toNatClampNeg)
      exact zq_c_ends X hXS hS hX hbl hl hin hf h1 h2 (knext c2 h5)
    | 10, _ =>
      refine zl_tableIn X (pc := 40) (tgt := 720) (zw_dg dk_L_head 11 rfl) (by decide) (by decide) rfl (by decide) ?_
      obtain ⟨r, c1, c2, h1, h2, h5⟩ := h_mean k c hk5 hR (xs (nI (6 * k) + 1).toNatClampNeg) (xs (nI (6 * k) + 2).toNatClampNeg) (xs (nI (6 * k) + 3).toNatClampNeg)
      exact zq_c_mean X hXS hS hX hbl hl hin hf h1 h2 (knext c2 h5)
    | 11, _ =>
      refine zl_tableIn X (pc := 40) (tgt := 769) (zw_dg dk_L_head 11 rfl) (by decide) (by decide) rfl (by decide) ?_
      obtain ⟨r, c1, c2, h1, h2, h5⟩ := h_best k c hk5 hR (xs (nI (6 * k) + 1).toNatClampNeg) (xs (nI (6 * k) + 2).toNatClampNeg)
      exact zq_c_best X hXS hS hX hbl hl hin hf h1 h2 (knext c2 h5)
    | 12, _ =>
      refine zl_tableIn X (pc := 40) (tgt := 806) (zw_dg dk_L_head 11 rfl) (by decide) (by decide) rfl (by decide) ?_
      obtain ⟨r, c1, c2, h1, h2, h5⟩ := h_loses k c hk5 hR (xs (nI (6 * k) + 1).toNatClampNeg) (xs (nI (6 * k) + 2).toNatClampNeg) (xs (nI (6 * k) + 3).toNatClampNeg)
      exact zq_c_loses X hXS hS hX hbl hl hin hf h1 h2 (knext c2 h5)
    | 13, _ =>
      refine zl_tableIn X (pc := 40) (tgt := 855) (zw_dg dk_L_head 11 rfl) (by decide) (by decide) rfl (by decide) ?_
      obtain ⟨r, c1, c2, h1, h2, h5⟩ := h_truly k c hk5 hR (xs (nI (6 * k) + 1).toNatClampNeg)
      exact zq_c_truly X hXS hS hX hbl hl hin hf h1 h2 (knext c2 h5)
    | 14, _ =>
      refine zl_tableIn X (pc := 40) (tgt := 880) (zw_dg dk_L_head 11 rfl) (by decide) (by decide) rfl (by decide) ?_
      obtain ⟨r, c1, c2, h1, h2, h5⟩ := h_bends k c hk5 hR (xs (nI (6 * k) + 1).toNatClampNeg)
      exact zq_c_bends X hXS hS hX hbl hl hin hf h1 h2 (knext c2 h5)
    | 15, _ =>
      refine zl_tableIn X (pc := 40) (tgt := 905) (zw_dg dk_L_head 11 rfl) (by decide) (by decide) rfl (by decide) ?_
      obtain ⟨r, c1, c2, h1, h2, h5⟩ := h_could k c hk5 hR (xs (nI (6 * k) + 1).toNatClampNeg) (xs (nI (6 * k) + 2).toNatClampNeg)
      exact zq_c_could X hXS hS hX hbl hl hin hf h1 h2 (knext c2 h5)
    | 16, _ =>
      refine zl_tableIn X (pc := 40) (tgt := 942) (zw_dg dk_L_head 11 rfl) (by decide) (by decide) rfl (by decide) ?_
      obtain ⟨r, c1, c2, h1, h2, h5⟩ := h_same k c hk5 hR (xs (nI (6 * k) + 1).toNatClampNeg) (xs (nI (6 * k) + 2).toNatClampNeg)
      exact zq_c_same X hXS hS hX hbl hl hin hf h1 h2 (knext c2 h5)
    | 17, _ =>
      refine zl_tableIn X (pc := 40) (tgt := 979) (zw_dg dk_L_head 11 rfl) (by decide) (by decide) rfl (by decide) ?_
      obtain ⟨r, c1, c2, h1, h2, h5⟩ := h_alike k c hk5 hR (xs (nI (6 * k) + 1).toNatClampNeg) (xs (nI (6 * k) + 2).toNatClampNeg)
      exact zq_c_alike X hXS hS hX hbl hl hin hf h1 h2 (knext c2 h5)
    | 18, _ =>
      refine zl_tableIn X (pc := 40) (tgt := 1016) (zw_dg dk_L_head 11 rfl) (by decide) (by decide) rfl (by decide) ?_
      obtain ⟨r, c1, c2, h1, h2, h5⟩ := h_make k c hk5 hR (xs (nI (6 * k) + 1).toNatClampNeg)
      exact zq_c_make X hXS hS hX hbl hl hin hf h1 h2 (knext c2 h5)
    | 19, _ =>
      refine zl_tableIn X (pc := 40) (tgt := 1041) (zw_dg dk_L_head 11 rfl) (by decide) (by decide) rfl (by decide) ?_
      obtain ⟨r, c1, c2, h1, h2, h5⟩ := h_back k c hk5 hR (xs (nI (6 * k) + 1).toNatClampNeg)
      exact zq_c_back X hXS hS hX hbl hl hin hf h1 h2 (knext c2 h5)
    | 20, _ =>
      refine zl_tableIn X (pc := 40) (tgt := 1066) (zw_dg dk_L_head 11 rfl) (by decide) (by decide) rfl (by decide) ?_
      obtain ⟨r, c1, c2, h1, h2, h5⟩ := h_take k c hk5 hR (xs (nI (6 * k) + 1).toNatClampNeg)
      exact zq_c_take X hXS hS hX hbl hl hin hf h1 h2 (knext c2 h5)
    | 21, _ =>
      refine zl_tableIn X (pc := 40) (tgt := 1091) (zw_dg dk_L_head 11 rfl) (by decide) (by decide) rfl (by decide) ?_
      obtain ⟨r, c1, c2, h1, h2, h5⟩ := h_mix k c hk5 hR (xs (nI (6 * k) + 1).toNatClampNeg) (xs (nI (6 * k) + 2).toNatClampNeg) (xs (nI (6 * k) + 3).toNatClampNeg) (xs (nI (6 * k) + 4).toNatClampNeg) (xs (nI (6 * k) + 5).toNatClampNeg)
      exact zq_c_mix X hXS hS hX hbl hl hin hf h1 h2 (knext c2 h5)
    | 22, _ =>
      refine zl_tableIn X (pc := 40) (tgt := 1164) (zw_dg dk_L_head 11 rfl) (by decide) (by decide) rfl (by decide) ?_
      obtain ⟨r, c1, c2, h1, h2, h5⟩ := h_lift k c hk5 hR (xs (nI (6 * k) + 1).toNatClampNeg) (xs (nI (6 * k) + 2).toNatClampNeg)
      exact zq_c_lift X hXS hS hX hbl hl hin hf h1 h2 (knext c2 h5)
    | 23, _ =>
      refine zl_tableIn X (pc := 40) (tgt := 1201) (zw_dg dk_L_head 11 rfl) (by decide) (by decide) rfl (by decide) ?_
      obtain ⟨r, c1, c2, h1, h2, h5⟩ := h_rank k c hk5 hR (xs (nI (6 * k) + 1).toNatClampNeg) (xs (nI (6 * k) + 2).toNatClampNeg) (xs (nI (6 * k) + 3).toNatClampNeg)
      exact zq_c_rank X hXS hS hX hbl hl hin hf h1 h2 (knext c2 h5)
    | 24, _ =>
      refine zl_tableIn X (pc := 40) (tgt := 1250) (zw_dg dk_L_head 11 rfl) (by decide) (by decide) rfl (by decide) ?_
      obtain ⟨r, c1, c2, h1, h2, h5⟩ := h_look k c hk5 hR (xs (nI (6 * k) + 1).toNatClampNeg) (xs (nI (6 * k) + 2).toNatClampNeg) (xs (nI (6 * k) + 3).toNatClampNeg) (xs (nI (6 * k) + 4).toNatClampNeg)
      exact zq_c_look X hXS hS hX hbl hl hin hf h1 h2 (knext c2 h5)
    | 25, _ =>
      refine zl_tableIn X (pc := 40) (tgt := 1311) (zw_dg dk_L_head 11 rfl) (by decide) (by decide) rfl (by decide) ?_
      obtain ⟨r, c1, c2, h1, h2, h5⟩ := h_purse k c hk5 hR (xs (nI (6 * k) + 1).toNatClampNeg) (xs (nI (6 * k) + 2).toNatClampNeg) (xs (nI (6 * k) + 3).toNatClampNeg)
      exact zq_c_purse X hXS hS hX hbl hl hin hf h1 h2 (knext c2 h5)
    | 26, _ =>
      refine zl_tableIn X (pc := 40) (tgt := 1360) (zw_dg dk_L_head 11 rfl) (by decide) (by decide) rfl (by decide) ?_
      obtain ⟨r, c1, c2, h1, h2, h5⟩ := h_minds k c hk5 hR (xs (nI (6 * k) + 1).toNatClampNeg) (xs (nI (6 * k) + 2).toNatClampNeg) (xs (nI (6 * k) + 3).toNatClampNeg)
      exact zq_c_minds X hXS hS hX hbl hl hin hf h1 h2 (knext c2 h5)
    | 27, _ =>
      refine zl_tableIn X (pc := 40) (tgt := 1409) (zw_dg dk_L_head 11 rfl) (by decide) (by decide) rfl (by decide) ?_
      obtain ⟨r, c1, c2, h1, h2, h5⟩ := h_lot k c hk5 hR (xs (nI (6 * k) + 1).toNatClampNeg) (xs (nI (6 * k) + 2).toNatClampNeg) (xs (nI (6 * k) + 3).toNatClampNeg)
      exact zq_c_lot X hXS hS hX hbl hl hin hf h1 h2 (knext c2 h5)
    | 28, _ =>
      refine zl_tableIn X (pc := 40) (tgt := 1458) (zw_dg dk_L_head 11 rfl) (by decide) (by decide) rfl (by decide) ?_
      obtain ⟨r, c1, c2, h1, h2, h5⟩ := h_bribe k c hk5 hR (xs (nI (6 * k) + 1).toNatClampNeg) (xs (nI (6 * k) + 2).toNatClampNeg) (xs (nI (6 * k) + 3).toNatClampNeg) (xs (nI (6 * k) + 4).toNatClampNeg) (xs (nI (6 * k) + 5).toNatClampNeg)
      exact zq_c_bribe X hXS hS hX hbl hl hin hf h1 h2 (knext c2 h5)
    | 29, _ =>
      refine zl_tableIn X (pc := 40) (tgt := 1531) (zw_dg dk_L_head 11 rfl) (by decide) (by decide) rfl (by decide) ?_
      obtain ⟨r, c1, c2, h1, h2, h5⟩ := h_safe k c hk5 hR (xs (nI (6 * k) + 1).toNatClampNeg)
      exact zq_c_safe X hXS hS hX hbl hl hin hf h1 h2 (knext c2 h5)
    | 30, _ =>
      refine zl_tableIn X (pc := 40) (tgt := 1556) (zw_dg dk_L_head 11 rfl) (by decide) (by decide) rfl (by decide) ?_
      obtain ⟨r, c1, c2, h1, h2, h5⟩ := h_person k c hk5 hR (xs (nI (6 * k) + 1).toNatClampNeg)
      exact zq_c_person X hXS hS hX hbl hl hin hf h1 h2 (knext c2 h5)
    | 31, _ =>
      refine zl_tableIn X (pc := 40) (tgt := 1581) (zw_dg dk_L_head 11 rfl) (by decide) (by decide) rfl (by decide) ?_
      obtain ⟨r, c1, c2, h1, h2, h5⟩ := h_go k c hk5 hR 
      exact zq_c_go X hXS hS hX hbl hl hin hf h1 h2 (knext c2 h5)
    | 32, _ =>
      refine zl_tableIn X (pc := 40) (tgt := 1594) (zw_dg dk_L_head 11 rfl) (by decide) (by decide) rfl (by decide) ?_
      obtain ⟨r, c1, c2, h1, h2, h5⟩ := h_prize k c hk5 hR (xs (nI (6 * k) + 1).toNatClampNeg) (xs (nI (6 * k) + 2).toNatClampNeg) (xs (nI (6 * k) + 3).toNatClampNeg)
      exact zq_c_prize X hXS hS hX hbl hl hin hf h1 h2 (knext c2 h5)
    | 33, _ =>
      refine zl_tableIn X (pc := 40) (tgt := 1643) (zw_dg dk_L_head 11 rfl) (by decide) (by decide) rfl (by decide) ?_
      obtain ⟨r, c1, c2, h1, h2, h5⟩ := h_boast k c hk5 hR (xs (nI (6 * k) + 1).toNatClampNeg) (xs (nI (6 * k) + 2).toNatClampNeg)
      exact zq_c_boast X hXS hS hX hbl hl hin hf h1 h2 (knext c2 h5)
    | 34, _ =>
      refine zl_tableIn X (pc := 40) (tgt := 1680) (zw_dg dk_L_head 11 rfl) (by decide) (by decide) rfl (by decide) ?_
      obtain ⟨r, c1, c2, h1, h2, h5⟩ := h_rest k c hk5 hR (xs (nI (6 * k) + 1).toNatClampNeg)
      exact zq_c_rest X hXS hS hX hbl hl hin hf h1 h2 (knext c2 h5)
    | 35, _ =>
      refine zl_tableIn X (pc := 40) (tgt := 1705) (zw_dg dk_L_head 11 rfl) (by decide) (by decide) rfl (by decide) ?_
      obtain ⟨r, c1, c2, h1, h2, h5⟩ := h_agree k c hk5 hR (xs (nI (6 * k) + 1).toNatClampNeg) (xs (nI (6 * k) + 2).toNatClampNeg) (xs (nI (6 * k) + 3).toNatClampNeg)
      exact zq_c_agree X hXS hS hX hbl hl hin hf h1 h2 (knext c2 h5)
    | 36, _ =>
      refine zl_tableIn X (pc := 40) (tgt := 1754) (zw_dg dk_L_head 11 rfl) (by decide) (by decide) rfl (by decide) ?_
      obtain ⟨r, c1, c2, h1, h2, h5⟩ := h_gain k c hk5 hR (xs (nI (6 * k) + 1).toNatClampNeg)
      exact zq_c_gain X hXS hS hX hbl hl hin hf h1 h2 (knext c2 h5)
    | 37, _ =>
      refine zl_tableIn X (pc := 40) (tgt := 1779) (zw_dg dk_L_head 11 rfl) (by decide) (by decide) rfl (by decide) ?_
      obtain ⟨r, c1, c2, h1, h2, h5⟩ := h_peers k c hk5 hR (xs (nI (6 * k) + 1).toNatClampNeg) (xs (nI (6 * k) + 2).toNatClampNeg) (xs (nI (6 * k) + 3).toNatClampNeg)
      exact zq_c_peers X hXS hS hX hbl hl hin hf h1 h2 (knext c2 h5)
    | 38, _ =>
      refine zl_tableIn X (pc := 40) (tgt := 1828) (zw_dg dk_L_head 11 rfl) (by decide) (by decide) rfl (by decide) ?_
      obtain ⟨r, c1, c2, h1, h2, h5⟩ := h_decide k c hk5 hR (xs (nI (6 * k) + 1).toNatClampNeg) (xs (nI (6 * k) + 2).toNatClampNeg) (xs (nI (6 * k) + 3).toNatClampNeg) (xs (nI (6 * k) + 4).toNatClampNeg)
      exact zq_c_decide X hXS hS hX hbl hl hin hf h1 h2 (knext c2 h5)
    | 39, _ =>
      refine zl_tableIn X (pc := 40) (tgt := 1889) (zw_dg dk_L_head 11 rfl) (by decide) (by decide) rfl (by decide) ?_
      obtain ⟨r, c1, c2, h1, h2, h5⟩ := h_coin k c hk5 hR (xs (nI (6 * k) + 1).toNatClampNeg) (xs (nI (6 * k) + 2).toNatClampNeg) (xs (nI (6 * k) + 3).toNatClampNeg) (xs (nI (6 * k) + 4).toNatClampNeg)
      exact zq_c_coin X hXS hS hX hbl hl hin hf h1 h2 (knext c2 h5)
    | 40, _ =>
      refine zl_tableIn X (pc := 40) (tgt := 1950) (zw_dg dk_L_head 11 rfl) (by decide) (by decide) rfl (by decide) ?_
      obtain ⟨r, c1, c2, h1, h2, h5⟩ := h_says k c hk5 hR (xs (nI (6 * k) + 1).toNatClampNeg) (xs (nI (6 * k) + 2).toNatClampNeg)
      exact zq_c_says X hXS hS hX hbl hl hin hf h1 h2 (knext c2 h5)
    | 41, _ =>
      refine zl_tableIn X (pc := 40) (tgt := 1987) (zw_dg dk_L_head 11 rfl) (by decide) (by decide) rfl (by decide) ?_
      obtain ⟨r, c1, c2, h1, h2, h5⟩ := h_middle k c hk5 hR (xs (nI (6 * k) + 1).toNatClampNeg) (xs (nI (6 * k) + 2).toNatClampNeg) (xs (nI (6 * k) + 3).toNatClampNeg)
      exact zq_c_middle X hXS hS hX hbl hl hin hf h1 h2 (knext c2 h5)
    | 42, _ =>
      refine zl_tableIn X (pc := 40) (tgt := 2036) (zw_dg dk_L_head 11 rfl) (by decide) (by decide) rfl (by decide) ?_
      obtain ⟨r, c1, c2, h1, h2, h5⟩ := h_word k c hk5 hR (xs (nI (6 * k) + 1).toNatClampNeg) (xs (nI (6 * k) + 2).toNatClampNeg) (xs (nI (6 * k) + 3).toNatClampNeg)
      exact zq_c_word X hXS hS hX hbl hl hin hf h1 h2 (knext c2 h5)
    | 43, _ =>
      refine zl_tableIn X (pc := 40) (tgt := 2085) (zw_dg dk_L_head 11 rfl) (by decide) (by decide) rfl (by decide) ?_
      obtain ⟨r, c2, h1, h2, h5⟩ := h_words k c hk5 hR (xs (nI (6 * k) + 1).toNatClampNeg)
      exact zq_c_words (c1 := c) X hXS hS hX hbl hl hin hf h1 h2 (knext c2 h5)
    | 44, _ =>
      refine zl_tableIn X (pc := 40) (tgt := 2110) (zw_dg dk_L_head 11 rfl) (by decide) (by decide) rfl (by decide) ?_
      obtain ⟨r, c1, c2, h1, h2, h5⟩ := h_evening k c hk5 hR (xs (nI (6 * k) + 1).toNatClampNeg) (xs (nI (6 * k) + 2).toNatClampNeg) (xs (nI (6 * k) + 3).toNatClampNeg)
      exact zq_c_evening X hXS hS hX hbl hl hin hf h1 h2 (knext c2 h5)
    | 45, _ =>
      refine zl_tableIn X (pc := 40) (tgt := 2159) (zw_dg dk_L_head 11 rfl) (by decide) (by decide) rfl (by decide) ?_
      obtain ⟨r, c1, c2, h1, h2, h5⟩ := h_forget k c hk5 hR 
      exact zq_c_forget X hXS hS hX hbl hl hin hf h1 h2 (knext c2 h5)
    | 46, _ =>
      refine zl_tableIn X (pc := 40) (tgt := 2172) (zw_dg dk_L_head 11 rfl) (by decide) (by decide) rfl (by decide) ?_
      obtain ⟨r, c1, c2, h1, h2, h5⟩ := h_paid k c hk5 hR (xs (nI (6 * k) + 1).toNatClampNeg) (xs (nI (6 * k) + 2).toNatClampNeg)
      exact zq_c_paid X hXS hS hX hbl hl hin hf h1 h2 (knext c2 h5)
    | 47, _ =>
      refine zl_tableIn X (pc := 40) (tgt := 2209) (zw_dg dk_L_head 11 rfl) (by decide) (by decide) rfl (by decide) ?_
      obtain ⟨r, c1, c2, h1, h2, h5⟩ := h_first k c hk5 hR (xs (nI (6 * k) + 1).toNatClampNeg)
      exact zq_c_first X hXS hS hX hbl hl hin hf h1 h2 (knext c2 h5)
    | 48, _ =>
      refine zl_tableIn X (pc := 40) (tgt := 2234) (zw_dg dk_L_head 11 rfl) (by decide) (by decide) rfl (by decide) ?_
      obtain ⟨r, c1, c2, h1, h2, h5⟩ := h_right k c hk5 hR (xs (nI (6 * k) + 1).toNatClampNeg) (xs (nI (6 * k) + 2).toNatClampNeg) (xs (nI (6 * k) + 3).toNatClampNeg)
      exact zq_c_right X hXS hS hX hbl hl hin hf h1 h2 (knext c2 h5)
    | 49, _ =>
      refine zl_tableIn X (pc := 40) (tgt := 2283) (zw_dg dk_L_head 11 rfl) (by decide) (by decide) rfl (by decide) ?_
      obtain ⟨r, c1, c2, h1, h2, h5⟩ := h_meant k c hk5 hR (xs (nI (6 * k) + 1).toNatClampNeg)
      exact zq_c_meant X hXS hS hX hbl hl hin hf h1 h2 (knext c2 h5)
    | 50, _ =>
      refine zl_tableIn X (pc := 40) (tgt := 2308) (zw_dg dk_L_head 11 rfl) (by decide) (by decide) rfl (by decide) ?_
      obtain ⟨r, c1, c2, h1, h2, h5⟩ := h_thinks k c hk5 hR (xs (nI (6 * k) + 1).toNatClampNeg) (xs (nI (6 * k) + 2).toNatClampNeg)
      exact zq_c_thinks X hXS hS hX hbl hl hin hf h1 h2 (knext c2 h5)
    | 51, _ =>
      refine zl_tableIn X (pc := 40) (tgt := 2345) (zw_dg dk_L_head 11 rfl) (by decide) (by decide) rfl (by decide) ?_
      obtain ⟨r, c1, c2, h1, h2, h5⟩ := h_keep k c hk5 hR (xs (nI (6 * k) + 1).toNatClampNeg)
      exact zq_c_keep X hXS hS hX hbl hl hin hf h1 h2 (knext c2 h5)
    | 52, _ =>
      refine zl_tableIn X (pc := 40) (tgt := 2370) (zw_dg dk_L_head 11 rfl) (by decide) (by decide) rfl (by decide) ?_
      obtain ⟨r, c1, c2, h1, h2, h5⟩ := h_again k c hk5 hR (xs (nI (6 * k) + 1).toNatClampNeg)
      exact zq_c_again X hXS hS hX hbl hl hin hf h1 h2 (knext c2 h5)
    | 53, _ =>
      refine zl_tableIn X (pc := 40) (tgt := 2395) (zw_dg dk_L_head 11 rfl) (by decide) (by decide) rfl (by decide) ?_
      obtain ⟨r, c2, h1, h2, h5⟩ := h_count k c hk5 hR (xs (nI (6 * k) + 1).toNatClampNeg)
      exact zq_c_count (c1 := c) X hXS hS hX hbl hl hin hf h1 h2 (knext c2 h5)
    | 54, _ =>
      refine zl_tableIn X (pc := 40) (tgt := 2420) (zw_dg dk_L_head 11 rfl) (by decide) (by decide) rfl (by decide) ?_
      obtain ⟨r, c1, b, c2, h1, h2, h3, h4, h5⟩ := h_row k c hk5 hR (xs (nI (6 * k) + 1).toNatClampNeg)
      exact zq_c_row X hXS hS hX hbl hl hin hf h1 h2 h3 h4 (knext c2 h5)
    | 55, _ => exact zl_tableOut X (pc := 40) (tgt := 2475) (zw_dg dk_L_head 11 rfl) (Or.inr (by decide)) (by decide) (zl_widen (Nat.le_succ _) (Nat.le_add_right _ _) (knext c (hmono _ _ hR)))
    | 56, _ => exact zl_tableOut X (pc := 40) (tgt := 2475) (zw_dg dk_L_head 11 rfl) (Or.inr (by decide)) (by decide) (zl_widen (Nat.le_succ _) (Nat.le_add_right _ _) (knext c (hmono _ _ hR)))
    | 57, _ => exact zl_tableOut X (pc := 40) (tgt := 2475) (zw_dg dk_L_head 11 rfl) (Or.inr (by decide)) (by decide) (zl_widen (Nat.le_succ _) (Nat.le_add_right _ _) (knext c (hmono _ _ hR)))
    | 58, _ => exact zl_tableOut X (pc := 40) (tgt := 2475) (zw_dg dk_L_head 11 rfl) (Or.inr (by decide)) (by decide) (zl_widen (Nat.le_succ _) (Nat.le_add_right _ _) (knext c (hmono _ _ hR)))
    | 59, _ => exact zl_tableOut X (pc := 40) (tgt := 2475) (zw_dg dk_L_head 11 rfl) (Or.inr (by decide)) (by decide) (zl_widen (Nat.le_succ _) (Nat.le_add_right _ _) (knext c (hmono _ _ hR)))
    | 60, _ => exact zl_tableOut X (pc := 40) (tgt := 2475) (zw_dg dk_L_head 11 rfl) (Or.inr (by decide)) (by decide) (zl_widen (Nat.le_succ _) (Nat.le_add_right _ _) (knext c (hmono _ _ hR)))
    | 61, _ => exact zl_tableOut X (pc := 40) (tgt := 2475) (zw_dg dk_L_head 11 rfl) (Or.inr (by decide)) (by decide) (zl_widen (Nat.le_succ _) (Nat.le_add_right _ _) (knext c (hmono _ _ hR)))
    | 62, _ => exact zl_tableOut X (pc := 40) (tgt := 2475) (zw_dg dk_L_head 11 rfl) (Or.inr (by decide)) (by decide) (zl_widen (Nat.le_succ _) (Nat.le_add_right _ _) (knext c (hmono _ _ hR)))
    | 63, _ => exact zl_tableOut X (pc := 40) (tgt := 2475) (zw_dg dk_L_head 11 rfl) (Or.inr (by decide)) (by decide) (zl_widen (Nat.le_succ _) (Nat.le_add_right _ _) (knext c (hmono _ _ hR)))
    | j + 64, hj => exact absurd hj (by omega)
theorem zq_rrk_0 : rr_0 71 = fun _ => none := rfl
theorem zq_rrk_1 : rr_1 71 = fun _ => none := (zw_ur_ne (by decide)).trans zq_rrk_0
theorem zq_rrk_2 : rr_2 71 = fun _ => none := (zw_ur_ne (by decide)).trans zq_rrk_1
theorem zq_rrk_3 : rr_3 71 = fun _ => none := (zw_ur_ne (by decide)).trans zq_rrk_2
theorem zq_rrk_4 : rr_4 71 = fun _ => none := (zw_ur_ne (by decide)).trans zq_rrk_3
theorem zq_rrk_5 : rr_5 71 = fun _ => none := (zw_ur_ne (by decide)).trans zq_rrk_4
theorem zq_rrk_6 : rr_6 71 = fun _ => none := (zw_ur_ne (by decide)).trans zq_rrk_5
theorem zq_rrk_7 : rr_7 71 = fun _ => none := (zw_ur_ne (by decide)).trans zq_rrk_6
theorem zq_rrk_8 : rr_8 71 = fun _ => none := (zw_ur_ne (by decide)).trans zq_rrk_7
theorem zq_rrk_9 : rr_9 71 = fun _ => none := (zw_ur_ne (by decide)).trans zq_rrk_8
theorem zq_rrk_10 : rr_10 71 = fun _ => none := (zw_ur_ne (by decide)).trans zq_rrk_9
theorem zq_rrk_11 : rr_11 71 = fun _ => none := (zw_ur_ne (by decide)).trans zq_rrk_10
theorem zq_rrk_12 : rr_12 71 = fun _ => none := (zw_ur_ne (by decide)).trans zq_rrk_11
theorem zq_rrk_13 : rr_13 71 = fun _ => none := (zw_ur_ne (by decide)).trans zq_rrk_12
theorem zq_rrk_14 : rr_14 71 = fun _ => none := (zw_ur_ne (by decide)).trans zq_rrk_13
theorem zq_rrk_15 : rr_15 71 = fun _ => none := (zw_ur_ne (by decide)).trans zq_rrk_14
theorem zq_rrk_16 : rr_16 71 = fun _ => none := (zw_ur_ne (by decide)).trans zq_rrk_15
theorem zq_rrk_17 : rr_17 71 = fun _ => none := (zw_ur_ne (by decide)).trans zq_rrk_16
theorem zq_rrk_18 : rr_18 71 = fun _ => none := (zw_ur_ne (by decide)).trans zq_rrk_17
theorem zq_rrk_19 : rr_19 71 = fun _ => none := (zw_ur_ne (by decide)).trans zq_rrk_18
theorem zq_rrk_20 : rr_20 71 = fun _ => none := (zw_ur_ne (by decide)).trans zq_rrk_19
theorem zq_rrk_21 : rr_21 71 = fun _ => none := (zw_ur_ne (by decide)).trans zq_rrk_20
theorem zq_rrk_22 : rr_22 71 = fun _ => none := (zw_ur_ne (by decide)).trans zq_rrk_21
theorem zq_rrk_23 : rr_23 71 = fun _ => none := (zw_ur_ne (by decide)).trans zq_rrk_22
theorem zq_rrk_24 : rr_24 71 = fun _ => none := (zw_ur_ne (by decide)).trans zq_rrk_23
theorem zq_rrk_25 : rr_25 71 = fun _ => none := (zw_ur_ne (by decide)).trans zq_rrk_24
theorem zq_rrk_26 : rr_26 71 = fun _ => none := (zw_ur_ne (by decide)).trans zq_rrk_25
theorem zq_rrk_27 : rr_27 71 = fun _ => none := (zw_ur_ne (by decide)).trans zq_rrk_26
theorem zq_rrk_28 : rr_28 71 = fun _ => none := (zw_ur_ne (by decide)).trans zq_rrk_27
theorem zq_rrk_29 : rr_29 71 = fun _ => none := (zw_ur_ne (by decide)).trans zq_rrk_28
theorem zq_rrk_30 : rr_30 71 = fun _ => none := (zw_ur_ne (by decide)).trans zq_rrk_29
theorem zq_rrk_31 : rr_31 71 = fun _ => none := (zw_ur_ne (by decide)).trans zq_rrk_30
theorem zq_rrk_32 : rr_32 71 = fun _ => none := (zw_ur_ne (by decide)).trans zq_rrk_31
theorem zq_rrk_33 : rr_33 71 = fun _ => none := (zw_ur_ne (by decide)).trans zq_rrk_32
theorem zq_rrk_34 : rr_34 71 = fun _ => none := (zw_ur_ne (by decide)).trans zq_rrk_33
theorem zq_rrk_35 : rr_35 71 = fun _ => none := (zw_ur_ne (by decide)).trans zq_rrk_34
theorem zq_rrk_36 : rr_36 71 = fun _ => none := (zw_ur_ne (by decide)).trans zq_rrk_35
theorem zq_rrk_37 : rr_37 71 = fun _ => none := (zw_ur_ne (by decide)).trans zq_rrk_36
theorem zq_rrk_38 : rr_38 71 = fun _ => none := (zw_ur_ne (by decide)).trans zq_rrk_37
theorem zq_rrk_39 : rr_39 71 = fun _ => none := (zw_ur_ne (by decide)).trans zq_rrk_38
theorem zq_rrk_40 : rr_40 71 = fun _ => none := (zw_ur_ne (by decide)).trans zq_rrk_39
theorem zq_rrk_41 : rr_41 71 = fun _ => none := (zw_ur_ne (by decide)).trans zq_rrk_40
theorem zq_rrk_42 : rr_42 71 = fun _ => none := (zw_ur_ne (by decide)).trans zq_rrk_41
theorem zq_rrk_43 : rr_43 71 = fun _ => none := (zw_ur_ne (by decide)).trans zq_rrk_42
theorem zq_rrk_44 : rr_44 71 = fun _ => none := (zw_ur_ne (by decide)).trans zq_rrk_43
theorem zq_rrk_45 : rr_45 71 = fun _ => none := (zw_ur_ne (by decide)).trans zq_rrk_44
theorem zq_rrk_46 : rr_46 71 = fun _ => none := (zw_ur_ne (by decide)).trans zq_rrk_45
theorem zq_rrk_47 : rr_47 71 = fun _ => none := (zw_ur_ne (by decide)).trans zq_rrk_46
theorem zq_rrk_48 : rr_48 71 = fun _ => none := (zw_ur_ne (by decide)).trans zq_rrk_47
theorem zq_rrk_49 : rr_49 71 = fun _ => none := (zw_ur_ne (by decide)).trans zq_rrk_48
theorem zq_rrk_50 : rr_50 71 = fun _ => none := (zw_ur_ne (by decide)).trans zq_rrk_49
theorem zq_rrk_51 : rr_51 71 = fun _ => none := (zw_ur_ne (by decide)).trans zq_rrk_50
theorem zq_rrk_52 : rr_52 71 = fun _ => none := (zw_ur_ne (by decide)).trans zq_rrk_51
theorem zq_rrk_53 : rr_53 71 = fun _ => none := (zw_ur_ne (by decide)).trans zq_rrk_52
theorem zq_rrk_54 : rr_54 71 = fun _ => none := (zw_ur_ne (by decide)).trans zq_rrk_53
theorem zq_rrk_55 : rr_55 71 = fun _ => none := (zw_ur_ne (by decide)).trans zq_rrk_54
theorem zq_rrk_56 : rr_56 71 = fun _ => none := (zw_ur_ne (by decide)).trans zq_rrk_55
theorem zq_rrk_57 : rr_57 71 = fun _ => none := (zw_ur_ne (by decide)).trans zq_rrk_56
theorem zq_rrk_58 : rr_58 71 = fun _ => none := (zw_ur_ne (by decide)).trans zq_rrk_57
theorem zq_rrk_59 : rr_59 71 = fun _ => none := (zw_ur_ne (by decide)).trans zq_rrk_58
theorem zq_rrk_60 : rr_60 71 = fun _ => none := (zw_ur_ne (by decide)).trans zq_rrk_59
theorem zq_rrk_61 : rr_61 71 = fun _ => none := (zw_ur_ne (by decide)).trans zq_rrk_60
theorem zq_rrk_62 : rr_62 71 = fun _ => none := (zw_ur_ne (by decide)).trans zq_rrk_61
theorem zq_rrk_63 : rr_63 71 = fun _ => none := (zw_ur_ne (by decide)).trans zq_rrk_62
theorem zq_rrk_64 : rr_64 71 = fun _ => none := (zw_ur_ne (by decide)).trans zq_rrk_63
theorem zq_rrk_65 : rr_65 71 = fun _ => none := (zw_ur_ne (by decide)).trans zq_rrk_64
theorem zq_rrk_66 : rr_66 71 = fun _ => none := (zw_ur_ne (by decide)).trans zq_rrk_65
theorem zq_rrk_67 : rr_67 71 = fun _ => none := (zw_ur_ne (by decide)).trans zq_rrk_66
theorem zq_rrk_68 : rr_68 71 = fun _ => none := (zw_ur_ne (by decide)).trans zq_rrk_67
theorem zq_rrk_69 : rr_69 71 = fun _ => none := (zw_ur_ne (by decide)).trans zq_rrk_68
theorem zq_rrk_70 : rr_70 71 = fun _ => none := (zw_ur_ne (by decide)).trans zq_rrk_69
theorem zq_rrk_71 : rr_71 71 = fun _ => none := (zw_ur_ne (by decide)).trans zq_rrk_70
theorem zq_rrk_72 : rr_72 71 = fun _ => none := (zw_ur_ne (by decide)).trans zq_rrk_71
theorem zq_rrk_73 : rr_73 71 = fun _ => none := (zw_ur_ne (by decide)).trans zq_rrk_72
theorem zq_rrk_74 : rr_74 71 = fun _ => none := (zw_ur_ne (by decide)).trans zq_rrk_73
theorem zq_rrk_75 : rr_75 71 = fun _ => none := (zw_ur_ne (by decide)).trans zq_rrk_74
theorem zq_rrk_76 : rr_76 71 = fun _ => none := (zw_ur_ne (by decide)).trans zq_rrk_75
theorem zq_rrk_77 : rr_77 71 = fun _ => none := (zw_ur_ne (by decide)).trans zq_rrk_76
theorem zq_rrk_78 : rr_78 71 = fun _ => none := (zw_ur_ne (by decide)).trans zq_rrk_77
theorem zq_rrk_79 : rr_79 71 = fun _ => none := (zw_ur_ne (by decide)).trans zq_rrk_78
theorem zq_rrk_80 : rr_80 71 = fun _ => none := (zw_ur_ne (by decide)).trans zq_rrk_79
theorem zq_rrk_81 : rr_81 71 = fun _ => none := (zw_ur_ne (by decide)).trans zq_rrk_80
theorem zq_rrk_82 : rr_82 71 = fun _ => none := (zw_ur_ne (by decide)).trans zq_rrk_81
theorem zq_rrk_83 : rr_83 71 = fun _ => none := (zw_ur_ne (by decide)).trans zq_rrk_82
theorem zq_rrk_84 : rr_84 71 = fun _ => none := (zw_ur_ne (by decide)).trans zq_rrk_83
theorem zq_rrk_85 : rr_85 71 = fun _ => none := (zw_ur_ne (by decide)).trans zq_rrk_84
theorem zq_rrk_86 : rr_86 71 = fun _ => none := (zw_ur_ne (by decide)).trans zq_rrk_85
theorem zq_defM0 {b : Nat} {c : zw_Ct} {k : Nat} : ∀ j, j < 42 → defaultValue (t_M j) = vp_V (zw_flds b (fun _ _ => none) (zw_z c k) k 12) j := by
  intro j hj
  have e : ∀ i, (zw_z c k).1 k i = 0 := fun i => if_pos rfl
  have e2 : ∀ i, (zw_z c k).2 k i = 0 := fun i => if_pos rfl
  have hf : ∀ i t, zw_fv b (fun _ _ => none) (zw_z c k) k i t = (match t with | 0 => Value.int 0 | 1 => Value.long 0 | _ => Value.null) := by
    intro i t
    unfold zw_fv
    rw [e, e2]
    match t with
    | 0 => rfl
    | 1 => rfl
    | 2 => rfl
    | t + 3 => rfl
  have hl : zw_flds b (fun _ _ => none) (zw_z c k) k 12 = (zw_ft 12).mapIdx (fun _ t => (match t with | 0 => Value.int 0 | 1 => Value.long 0 | _ => Value.null)) := by
    unfold zw_flds
    exact congrArg (fun f => List.mapIdx f (zw_ft 12)) (funext fun i => funext fun t => hf i t)
  rw [hl]
  have key : (List.range 42).all (fun j => decide (defaultValue (t_M j) = vp_V ((zw_ft 12).mapIdx (fun _ t => (match t with | 0 => Value.int 0 | 1 => Value.long 0 | _ => Value.null))) j)) = true := by decide +kernel
  exact of_decide_eq_true (List.all_eq_true.mp key j (List.mem_range.mpr hj))
theorem zq_defM {b : Nat} {rr : zw_RR} {c : zw_Ct} {k : Nat} (h : rr k = fun _ => none) : ∀ j, j < 42 → defaultValue (t_M j) = vp_V (zw_flds b rr (zw_z c k) k 12) j := by
  have hl : zw_flds b rr (zw_z c k) k 12 = zw_flds b (fun _ _ => none) (zw_z c k) k 12 := by
    unfold zw_flds
    refine congrArg (fun f => List.mapIdx f (zw_ft 12)) (funext fun i => funext fun t => ?_)
    unfold zw_fv
    rw [h]
  rw [hl]
  exact zq_defM0
/-- what the constructors ask and leave -/
def zq_Init (Rel : Nat → zw_Ct → Prop) : Prop := ∃ (c1_1 : zw_Ct) (c3_2 : zw_Ct) (rc3_2 : Int32) (c15_3 : zw_Ct) (rc15_3 : Int32) (c23_4 : zw_Ct) (rc23_4 : Int32) (c31_5 : zw_Ct) (rc31_5 : Int32), fn_Sayings_lay (zw_z (zw_z (zw_z (fun _ _ => 0, fun _ _ => 0) 0) 1) 2) 2 4 = some c1_1 ∧ fn_Held_readSheet 3 (zw_z (zw_z (zw_z (zw_z (zw_z (zw_z (zw_z (zw_z c1_1 3) 4) 5) 6) 7) 8) 9) 10) 0 0 0 0 = some (rc3_2, c3_2) ∧ fn_Held_readSheet 15 (zw_z (zw_z (zw_z (zw_z (zw_z (zw_z (zw_z (zw_z (zw_z (zw_z (zw_z (zw_z c3_2 11) 12) 13) 14) 15) 16) 17) 18) 19) 20) 21) 22) 0 0 0 0 = some (rc15_3, c15_3) ∧ fn_Held_readSheet 23 (zw_z (zw_z (zw_z (zw_z (zw_z (zw_z (zw_z (zw_z c15_3 23) 24) 25) 26) 27) 28) 29) 30) 0 0 0 0 = some (rc23_4, c23_4) ∧ fn_Held_readSheet 31 (zw_z (zw_z (zw_z (zw_z (zw_z (zw_z (zw_z (zw_z c23_4 31) 32) 33) 34) 35) 36) 37) 38) 0 0 0 0 = some (rc31_5, c31_5) ∧ ∃ cP, cP = (zw_z (zw_z (zw_z (zw_z (zw_z (zw_z (zw_z (zw_z (zw_z (zw_z (zw_z (zw_z (zw_z (zw_z (zw_z (zw_z (zw_z (zw_z (zw_z (zw_z (zw_z (zw_z (zw_z (zw_z (zw_z (zw_z (zw_z (zw_z (zw_z (zw_z (zw_z (zw_z c31_5 39) 40) 41) 42) 43) 44) 45) 46) 47) 48) 49) 50) 51) 52) 53) 54) 55) 56) 57) 58) 59) 60) 61) 62) 63) 64) 65) 66) 67) 68) 69) 70) ∧ ∃ c71_6, fn_M_layOut (zw_wI (zw_wI (zw_wI (zw_wI (zw_wI (zw_wI (zw_wI (zw_wI (zw_wI (zw_wI (zw_wI (zw_wI (zw_wI (zw_z (zw_z (zw_z (zw_z (zw_z (zw_z (zw_z (zw_z (zw_z (zw_z (zw_z (zw_z (zw_z (zw_z (zw_z (zw_z (zw_z (zw_z (zw_z (zw_z (zw_z (zw_z (zw_z (zw_z (zw_z (zw_z (zw_z (zw_z (zw_wI (zw_wI (zw_z cP 71) 71 0 2) 71 1 4) 72) 73) 74) 75) 76) 77) 78) 79) 80) 81) 82) 83) 84) 85) 86) 87) 88) 89) 90) 91) 92) 93) 94) 95) 96) 97) 98) 99) 73 0 0) 73 1 1) 73 2 4) 73 3 9) 73 4 16) 73 5 25) 73 6 36) 73 7 49) 73 8 64) 73 9 81) 73 10 100) 73 11 121) 73 12 144) = some c71_6 ∧ Rel 0 (zw_z c71_6 100)
set_option maxRecDepth 100000 in
theorem zq_start {Rel : Nat → zw_Ct → Prop} (HA : zq_All Rel) (hmono : ∀ n c, Rel n c → Rel (n + 1) c) (H0 : zq_Init Rel) {p : Program} {e : Env} {s : State} {m : MethodId} {below : List Frame} {meth : Method} {c : Code} (l : Launch) (hflags : l.flags = flags0) {b L : Nat} {xs : Nat → Int32} (hL : L ≤ 3072) (C0 : lw_At p s m meth c b L xs) : W p l e room_1 s m #[Value.ref b] below meth c s.heap [] 0 0 (lw_Z below #[Value.ref b] s) (entryFrame m ([Value.ref b] : List Value).toArray 8) := by
  obtain ⟨hx, hb, hr, hml, hown, hts, hX, hbl, hlocks, hgv⟩ := id C0
  have hl : l.stackTraces = false := by rw [Launch.stackTraces, hflags]; decide +kernel
  have hg := flat_of_before _ hgv
  have hA : ∀ a : Nat, a < s.heap.size → ¬ (fun q : Nat => s.heap.size ≤ q) a := fun a ha => Nat.not_le.mpr ha
  obtain ⟨k0, i0, hKn0⟩ := u_known (C := R_P) (T := F_P) (N := 12) (n := 12) hts (fun w hw => (List.mem_filter.mp (zw_inOf io_P w hw)).1) (hts (.instantiable R_P 12) (List.mem_of_getElem? (i := 111) (by decide +kernel)))
  obtain ⟨k1, i1, hKn1⟩ := u_known (C := R_Sayings) (T := F_Sayings) (N := 4) (n := 4) hts (fun w hw => (List.mem_filter.mp (zw_inOf io_Sayings w hw)).1) (hts (.instantiable R_Sayings 4) (List.mem_of_getElem? (i := 119) (by decide +kernel)))
  obtain ⟨k2, i2, hKn2⟩ := u_known (C := R_Held) (T := F_Held) (N := 10) (n := 10) hts (fun w hw => (List.mem_filter.mp (zw_inOf io_Held w hw)).1) (hts (.instantiable R_Held 10) (List.mem_of_getElem? (i := 168) (by decide +kernel)))
  obtain ⟨k3, i3, hKn3⟩ := u_known (C := R_Tally) (T := F_Tally) (N := 2) (n := 2) hts (fun w hw => (List.mem_filter.mp (zw_inOf io_Tally w hw)).1) (hts (.instantiable R_Tally 2) (List.mem_of_getElem? (i := 233) (by decide +kernel)))
  obtain ⟨k4, i4, hKn4⟩ := u_known (C := R_Judge) (T := F_Judge) (N := 2) (n := 2) hts (fun w hw => (List.mem_filter.mp (zw_inOf io_Judge w hw)).1) (hts (.instantiable R_Judge 2) (List.mem_of_getElem? (i := 251) (by decide +kernel)))
  obtain ⟨k5, i5, hKn5⟩ := u_known (C := R_Text) (T := F_Text) (N := 10) (n := 10) hts (fun w hw => (List.mem_filter.mp (zw_inOf io_Text w hw)).1) (hts (.instantiable R_Text 10) (List.mem_of_getElem? (i := 265) (by decide +kernel)))
  obtain ⟨k6, i6, hKn6⟩ := u_known (C := R_Pays) (T := F_Pays) (N := 9) (n := 9) hts (fun w hw => (List.mem_filter.mp (zw_inOf io_Pays w hw)).1) (hts (.instantiable R_Pays 9) (List.mem_of_getElem? (i := 306) (by decide +kernel)))
  obtain ⟨k7, i7, hKn7⟩ := u_known (C := R_Row) (T := F_Row) (N := 2) (n := 2) hts (fun w hw => (List.mem_filter.mp (zw_inOf io_Row w hw)).1) (hts (.instantiable R_Row 2) (List.mem_of_getElem? (i := 342) (by decide +kernel)))
  obtain ⟨k8, i8, hKn8⟩ := u_known (C := R_Lures) (T := F_Lures) (N := 7) (n := 7) hts (fun w hw => (List.mem_filter.mp (zw_inOf io_Lures w hw)).1) (hts (.instantiable R_Lures 7) (List.mem_of_getElem? (i := 358) (by decide +kernel)))
  obtain ⟨k9, i9, hKn9⟩ := u_known (C := R_Contest) (T := F_Contest) (N := 4) (n := 4) hts (fun w hw => (List.mem_filter.mp (zw_inOf io_Contest w hw)).1) (hts (.instantiable R_Contest 4) (List.mem_of_getElem? (i := 386) (by decide +kernel)))
  obtain ⟨k10, i10, hKn10⟩ := u_known (C := R_Chooser) (T := F_Chooser) (N := 6) (n := 6) hts (fun w hw => (List.mem_filter.mp (zw_inOf io_Chooser w hw)).1) (hts (.instantiable R_Chooser 6) (List.mem_of_getElem? (i := 405) (by decide +kernel)))
  obtain ⟨k11, i11, hKn11⟩ := u_known (C := R_Ledger) (T := F_Ledger) (N := 5) (n := 5) hts (fun w hw => (List.mem_filter.mp (zw_inOf io_Ledger w hw)).1) (hts (.instantiable R_Ledger 5) (List.mem_of_getElem? (i := 430) (by decide +kernel)))
  obtain ⟨k12, i12, hKn12⟩ := u_known (C := R_M) (T := F_M) (N := 42) (n := 42) hts (fun w hw => (List.mem_filter.mp (zw_inOf io_M w hw)).1) (hts (.instantiable R_M 42) (List.mem_of_getElem? (i := 1445) (by decide +kernel)))
  obtain ⟨dC, dI, hKc⟩ : ∃ (dC : Nat → ClassId) (dI : Nat → Nat → Nat), ∀ (k : Nat) (q : vw_C), classes[k]? = some q → u_Kn s q.1 q.2.1 q.2.2 (dC k) (dI k) := by
    refine ⟨fun k => [k0, k1, k2, k3, k4, k5, k6, k7, k8, k9, k10, k11, k12].getD k k0, fun k => [i0, i1, i2, i3, i4, i5, i6, i7, i8, i9, i10, i11, i12].getD k i0, ?_⟩
    intro k q hq
    match k, hq with
    | 0, hq => cases hq; exact hKn0
    | 1, hq => cases hq; exact hKn1
    | 2, hq => cases hq; exact hKn2
    | 3, hq => cases hq; exact hKn3
    | 4, hq => cases hq; exact hKn4
    | 5, hq => cases hq; exact hKn5
    | 6, hq => cases hq; exact hKn6
    | 7, hq => cases hq; exact hKn7
    | 8, hq => cases hq; exact hKn8
    | 9, hq => cases hq; exact hKn9
    | 10, hq => cases hq; exact hKn10
    | 11, hq => cases hq; exact hKn11
    | 12, hq => cases hq; exact hKn12
    | k + 13, hq => simp [classes] at hq
  obtain ⟨ta0, hta0, htb0⟩ := zq_arr (hts (.arrayClass .int) (List.mem_of_getElem? (i := 166) (by decide +kernel)))
  obtain ⟨ta1, hta1, htb1⟩ := zq_arr (hts (.arrayClass .long) (List.mem_of_getElem? (i := 249) (by decide +kernel)))
  obtain ⟨ta2, hta2, htb2⟩ := zq_arr (hts (.arrayClass .byte) (List.mem_of_getElem? (i := 700) (by decide +kernel)))
  obtain ⟨ta3, hta3, htb3⟩ := zq_arr (hts (.arrayClass .boolean) (List.mem_of_getElem? (i := 304) (by decide +kernel)))
  obtain ⟨ta4, hta4, htb4⟩ := zq_arrA (hts (.arrayOver (.array .int)) (List.mem_of_getElem? (i := 312) (by decide +kernel)))
  obtain ⟨ta5, hta5, htb5⟩ := zq_arrA (hts (.arrayOver (.array .byte)) (List.mem_of_getElem? (i := 1451) (by decide +kernel)))
  obtain ⟨ta6, hta6, htb6⟩ := zq_arrO (hts (.arrayOver (.object R_Held)) (List.mem_of_getElem? (i := 263) (by decide +kernel)))
  obtain ⟨adK, adV, hSt, hSa⟩ := vk_Sof (s := s) (args := #[Value.ref b]) (N := 1) (tm := fun _ => (.string "PaidForThinking$Text" 75)) (len := [9]) (byt := [[113, 115, 109, 120, 116, 117, 101, 110, 100]]) (A := fun q : Nat => s.heap.size ≤ q)
    (fun i hi => by obtain rfl : i = 0 := by omega
                    decide)
    (fun i hi => hg _ (by decide +kernel)) (fun i hi => hg _ (by decide +kernel)) (fun i hi => hg _ (by decide +kernel))
    (fun i hi => by obtain rfl : i = 0 := by omega
                    exact hg _ (by decide +kernel))
    (fun i hi j hj => by
      obtain rfl : i = 0 := by omega
      have hj : j < 9 := hj
      rcases (show j = 0 ∨ j = 1 ∨ j = 2 ∨ j = 3 ∨ j = 4 ∨ j = 5 ∨ j = 6 ∨ j = 7 ∨ j = 8 by omega) with rfl | rfl | rfl | rfl | rfl | rfl | rfl | rfl | rfl <;> exact hg _ (by decide +kernel))
    (fun i j hi hj hne => absurd (show i = j by omega) hne) hA
  obtain ⟨g, hgd⟩ : ∃ g : zw_G, g = ((dC, dI), (fun k => [ta0, ta1, ta2, ta3, ta4, ta5, ta6].getD k ta0), s.heap.size, adK, adV) := ⟨_, rfl⟩
  have hgb : g.2.2.1 = s.heap.size := by rw [hgd]
  have hK : va_K g.1 classes (zw_tys g.2.1) s := by
    rw [hgd]
    refine ⟨hKc, fun k q h => ?_⟩
    match k, h with
    | 0, h => cases h; exact ⟨hta0, zq_prim (fun C h => by cases h) htb0⟩
    | 1, h => cases h; exact ⟨hta1, zq_prim (fun C h => by cases h) htb1⟩
    | 2, h => cases h; exact ⟨hta2, zq_prim (fun C h => by cases h) htb2⟩
    | 3, h => cases h; exact ⟨hta3, zq_prim (fun C h => by cases h) htb3⟩
    | 4, h => cases h; exact ⟨hta4, htb4⟩
    | 5, h => cases h; exact ⟨hta5, htb5⟩
    | 6, h => cases h; exact ⟨hta6, htb6⟩
    | k + 7, h => simp [zw_tys] at h
  have hnw : ∀ w ∈ nwt, va_Nw w s := by
    intro w hw
    obtain ⟨h1, h2⟩ := List.mem_filter.mp hw
    have h3 := hts w h1
    cases w with
    | fieldLinkNest => exact va_Nw.of rfl h3
    | methodLinkNest => exact va_Nw.of rfl h3
    | arrayOver ty => exact h3
    | _ => cases h2
  have hxw : ∀ w ∈ zx_xw, va_Nw w s := by
    intro w hw
    obtain ⟨h1, h2⟩ := List.mem_filter.mp hw
    have h3 := hts w h1
    cases w with
    | castable => exact va_Nw.of rfl h3
    | declares => exact va_Nw.of rfl h3
    | _ => cases h2
  have hSC : zw_SC g s s.heap := by
    rw [hgd]
    refine ⟨hSt, vk_R.of (hts (.stringRef "PaidForThinking$Text" 75 "qsmxtuend") (List.mem_of_getElem? (i := 583) (by decide +kernel))) (hSa 0 (by omega)), ?_⟩
    exact va_Zof (hts (.laysStatic "java/lang/String" "COMPACT_STRINGS" "Z") (List.mem_of_getElem? (i := 597) (by decide +kernel))) (hts (.initialized "java/lang/String") (List.mem_of_getElem? (i := 103) (by decide +kernel))) (va_eqt (hg (.eq (.static "java/lang/String" "COMPACT_STRINGS" "Z") (.int 1)) (by decide +kernel))) hA
  have hstr : ∀ (k : Nat) (tx : String), (Cond.stringRef R_P k tx).before #[Value.ref b] s = true → (Cond.exactly (.string R_P k) "java/lang/String").before #[Value.ref b] s = true → ∃ a, vk_R R_P k tx a s := fun k tx h1 h2 => by
    obtain ⟨a, c9, cA, kA, q1, -⟩ := Cond.exactly_spec (args := #[Value.ref b]) (first := s) (o := none) (s := s) (idx := []) h2
    exact ⟨a, vk_R.of h1 q1⟩
  have hXS : zx_XS g s s.heap := by
    refine ⟨hxw, hstr 131 _ (hts _ (List.mem_of_getElem? (i := 1402) (by decide +kernel))) (hg _ (by decide +kernel)), hstr 167 _ (hts _ (List.mem_of_getElem? (i := 1435) (by decide +kernel))) (hg _ (by decide +kernel)), hstr 376 _ (hts _ (List.mem_of_getElem? (i := 1443) (by decide +kernel))) (hg _ (by decide +kernel)), ?_, ?_⟩
    · rw [hgb]; exact vx_Zqof (hts (.laysStatic Bundle.tN "UNASSIGNED_STACK" Bundle.steD) (List.mem_of_getElem? (i := 1390) (by decide +kernel))) (hts (.initialized Bundle.tN) (List.mem_of_getElem? (i := 99) (by decide +kernel))) (hg _ (by decide +kernel)) hA
    · rw [hgb]; exact vx_Zqof (hts (.laysStatic Bundle.tN "SUPPRESSED_SENTINEL" Bundle.listD) (List.mem_of_getElem? (i := 1392) (by decide +kernel))) (hts (.initialized Bundle.tN) (List.mem_of_getElem? (i := 99) (by decide +kernel))) (hg _ (by decide +kernel)) hA
  have hktG : ∀ w ∈ ktG, w.before #[Value.ref b] s = true := fun w hw => hts w (List.mem_filter.mp hw).1
  have X0 : zw_FX p room_1 s m #[Value.ref b] meth c 0 0 g code "PaidForThinkingLaw" ret 8 := ⟨hx, hb, hml, hown, hktG, hK, hnw, hSC, Nat.le_of_eq hgb, hlocks, hr, Nat.zero_le _, Nat.zero_le _⟩
  have hbl2 : b < g.2.2.1 := by rw [hgb]; exact hbl
  obtain ⟨c1_1, c3_2, rc3_2, c15_3, rc15_3, c23_4, rc23_4, c31_5, rc31_5, hc1_1, hc3_2, hc15_3, hc23_4, hc31_5, cP, hcP, c71_6, hM0, hRel⟩ := H0
  have hZ : ZL p l e room_1 s m #[Value.ref b] below meth c 0 0 (lw_Z below #[Value.ref b] s) g 8 [] rr_0 b 0 [none, none, none, none, none, none, none, none] (fun _ _ => 0, fun _ _ => 0) [] := by

    refine zl_newo2 X0 (pc := 0) (sh2 := SH.take 1) (k := 0) (k1 := 1) (k2 := 12) ci_P (kt_in 110 (by decide +kernel) rfl) (kt_in 111 (by decide +kernel) rfl) (kt_in 85 (by decide +kernel) rfl) (show s.heap.size + 0 = g.2.2.1 + 0 from by rw [hgb]) rfl rfl (fun j hj => by rcases (show j = 0 ∨ j = 1 ∨ j = 2 ∨ j = 3 ∨ j = 4 ∨ j = 5 ∨ j = 6 ∨ j = 7 ∨ j = 8 ∨ j = 9 ∨ j = 10 ∨ j = 11 by omega) with rfl | rfl | rfl | rfl | rfl | rfl | rfl | rfl | rfl | rfl | rfl | rfl <;> rfl) (Nat.le_of_ble_eq_true rfl) (Nat.le_of_ble_eq_true rfl) (zw_dg dk_L_pre 0 rfl) rfl rfl (fun X => ?_)
    refine zl_dup X (pc := 3) (zw_dg dk_L_pre 1 rfl) rfl ?_
    refine zl_callI X (pc := 4) (As := []) (st := [.ref 0]) (km_P_init_0 hc1_1 hc3_2 hc15_3 hc23_4 hc31_5) ce_P_init (kt_in 112 (by decide +kernel) rfl) rfl ⟨Nat.le_of_ble_eq_true rfl, Nat.le_of_ble_eq_true rfl⟩ (Nat.le_of_ble_eq_true rfl) ⟨Nat.le_of_ble_eq_true rfl, Nat.le_of_ble_eq_true rfl⟩ (show s.heap.size + 1 = g.2.2.1 + (SH.take 1).length from by rw [hgb]; rfl) (zw_dg dk_L_pre 2 rfl) (fun X => ?_)
    rw [← hcP]
    refine zl_astore_n X (pc := 7) (i := 1) (zw_dg dk_L_pre 3 rfl) rfl (by decide) (by decide) rfl ?_
    refine zl_eL (L2 := [none, some (.ref 0), none, none, none, none, none, none]) rfl ?_
    refine zl_newo2 X (pc := 8) (sh2 := SH.take 72) (k := 71) (k1 := 72) (k2 := 10879) ci_M (kt_in 1444 (by decide +kernel) rfl) (kt_in 1445 (by decide +kernel) rfl) (kt_in 98 (by decide +kernel) rfl) (show s.heap.size + 71 = g.2.2.1 + (SH.take 71).length from by rw [hgb]; rfl) rfl rfl (zq_defM zq_rrk_86) (Nat.le_of_ble_eq_true rfl) (Nat.le_of_ble_eq_true rfl) (zw_dg dk_L_pre 4 rfl) rfl rfl (fun X => ?_)
    refine zl_dup X (pc := 11) (zw_dg dk_L_pre 5 rfl) rfl ?_
    refine zl_callI X (pc := 12) (As := []) (st := [.ref 71]) (km_M_init_71 hM0) ce_M_init (kt_in 1446 (by decide +kernel) rfl) rfl ⟨Nat.le_of_ble_eq_true rfl, Nat.le_of_ble_eq_true rfl⟩ (Nat.le_of_ble_eq_true rfl) ⟨Nat.le_of_ble_eq_true rfl, Nat.le_of_ble_eq_true rfl⟩ (show s.heap.size + 72 = g.2.2.1 + (SH.take 72).length from by rw [hgb]; rfl) (zw_dg dk_L_pre 6 rfl) (fun X => ?_)
    refine zl_astore_n X (pc := 15) (i := 2) (zw_dg dk_L_pre 7 rfl) rfl (by decide) (by decide) rfl ?_
    refine zl_eL (L2 := [none, some (.ref 0), some (.ref 71), none, none, none, none, none]) rfl ?_
    refine zl_iconst X (pc := 16) (v := 1) (zw_dg dk_L_pre 8 rfl) (by decide) ?_
    refine zl_newa2 X (pc := 17) (sh2 := SH) (k := 100) (t := 1) (N := 1) (fty := .long) (k1 := 101) (k2 := 24626) rfl (fun _ h => h) rfl kw_249 zw_hac1 (by decide) (by decide) (by decide) (show s.heap.size + 100 = g.2.2.1 + (SH.take 100).length from by rw [hgb]; rfl) rfl rfl (Nat.le_of_ble_eq_true rfl) (Nat.le_of_ble_eq_true rfl) (zw_dg dk_L_pre 9 rfl) rfl rfl (fun X => ?_)
    refine zl_astore_n X (pc := 19) (i := 3) (zw_dg dk_L_pre 10 rfl) rfl (by decide) (by decide) rfl ?_
    refine zl_eL (L2 := [none, some (.ref 0), some (.ref 71), some (.ref 100), none, none, none, none]) rfl ?_
    refine zl_iconst X (pc := 20) (v := 0) (zw_dg dk_L_pre 11 rfl) (by decide) ?_
    refine zl_istore X (pc := 21) (i := 4) (zw_dg dk_L_pre 12 rfl) (by decide) (by decide) rfl ?_
    refine zl_eL (L2 := zq_L (nI (6 * 0))) rfl ?_
    refine zq_loop HA hmono hL hXS zw_ok_end hX hbl2 hl (fun cells slots i c9 hc hs X => ?_) (L / 6) 0 _ 101 24626 (by omega) (by omega) (by omega) hRel X
    refine zl_iconst X (pc := 2481) (v := 1) (zw_dg dk_L_tail 2 rfl) (by decide) ?_
    intro ls H locs h1 h2 h3
    refine W.widen hc hs ?_
    intro T hT Y
    have Y0 := Stand.forget (locs := []) (extra := locs) Y (fun y hy => by rw [← hgb]; exact h3.2.2 y hy)
    exact lw_ret hx hb hr hlocks (zw_dg dk_L_tail 3 rfl) T hT Y0
  rw [lg_entry_eq]
  obtain ⟨e1, e2, e3⟩ := lv_entry ([.ref b]) (n := 8) (Nat.le_of_ble_eq_true rfl)
  exact hZ _ s.heap [] ⟨⟨e1, e2, fun i v hv => by
    match i, hv with
    | 0, hv => cases hv
    | 1, hv => cases hv
    | 2, hv => cases hv
    | 3, hv => cases hv
    | 4, hv => cases hv
    | 5, hv => cases hv
    | 6, hv => cases hv
    | 7, hv => cases hv
    | i + 8, hv => cases hv⟩, e3 (0, .ref b) List.mem_cons_self⟩ (fun k q h => by simp [zw_ws] at h) va_S.rf
