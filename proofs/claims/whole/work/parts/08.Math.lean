/-! java/lang/Math: names, functions, contracts (by program: wip/whole/gen) -/
def y_Math_floorDivL : MethodName := ⟨"java/lang/Math", "floorDiv", "(JJ)J"⟩
abbrev b_Math_floorDivL : ByteArray := prog_20_method_49_code
def dl_Math_floorDivL : List (Nat × Instr × Nat) := [(0, .lload_n 0, 1), (1, .lload_n 2, 1), (2, .ldiv, 1), (3, .lstore 4, 2), (5, .lload_n 0, 1), (6, .lload_n 2, 1), (7, .lxor, 1), (8, .lconst 0, 1), (9, .lcmp, 1), (10, .ifCond .ge 17, 3), (13, .lload 4, 2), (15, .lload_n 2, 1), (16, .lmul, 1), (17, .lload_n 0, 1), (18, .lcmp, 1), (19, .ifCond .eq 8, 3), (22, .lload 4, 2), (24, .lconst 1, 1), (25, .lsub, 1), (26, .lreturn, 1), (27, .lload 4, 2), (29, .lreturn, 1)]
theorem dk_Math_floorDivL : zw_dk b_Math_floorDivL dl_Math_floorDivL = true := by decide +kernel
theorem ce_Math_floorDivL : zw_ces y_Math_floorDivL b_Math_floorDivL 6 (some .long) 2 := ⟨⟨kt_in 1857 (by decide +kernel) rfl, kt_in 88 (by decide +kernel) rfl, by decide +kernel⟩, kt_in 1856 (by decide +kernel) rfl⟩
def fn_Math_floorDivL (x1 : Int64) (y2 : Int64) : Option Int64 :=
  (zw_dvL x1 y2).bind fun d3 =>
  if (((x1 ^^^ y2) < 0) ∧ (¬ (d3 * y2) = x1)) then
  (some (d3 - 1))
  else
  (some d3)
set_option maxRecDepth 100000 in
theorem km_Math_floorDivL {l : Launch} {g : zw_G} {rr : zw_RR} {sh : zw_Sh} {c : zw_Ct} {x1 : Int64} {y2 : Int64} {r : Int64}  (hsem : fn_Math_floorDivL x1 y2 = some r) : zw_Met l g y_Math_floorDivL b_Math_floorDivL 6 (some .long) 1 rr sh [.long x1, .long y2] c (some (.long r)) c := by
  unfold fn_Math_floorDivL at hsem
  refine zw_Met.ofF (by decide +kernel) (Nat.le_of_ble_eq_true rfl) (fun p e s m args below meth cd X => ?_)
  refine zw_eL (L2 := [some (.long x1), none, some (.long y2), none, none, none]) rfl ?_
  refine r_lload_n X (pc := 0) (i := 0) (zw_dg dk_Math_floorDivL 0 rfl) rfl rfl ?_
  refine r_lload_n X (pc := 1) (i := 2) (zw_dg dk_Math_floorDivL 1 rfl) rfl rfl ?_
  obtain ⟨d3, hd3, hsem⟩ := zw_bd hsem
  obtain ⟨hyd3, hd3⟩ := zw_dvL_of hd3
  refine r_ldiv X (pc := 2) (zw_dg dk_Math_floorDivL 2 rfl) hyd3 ?_
  refine zw_eqtJ hd3 ?_
  refine r_lstore X (pc := 3) (i := 4) (L2 := [some (.long x1), none, some (.long y2), none, some (.long d3), none]) (zw_dg dk_Math_floorDivL 3 rfl) (by decide) rfl ?_
  refine zw_cnd (P := (((x1 ^^^ y2) < 0) ∧ (¬ (d3 * y2) = x1))) (J1 := 22) (J2 := 27) (st2 := []) (fun jT jF => ?_) (fun p4 => ?_) (fun p4 => ?_)
  · --
    refine r_lload_n X (pc := 5) (i := 0) (zw_dg dk_Math_floorDivL 4 rfl) rfl rfl ?_
    refine r_lload_n X (pc := 6) (i := 2) (zw_dg dk_Math_floorDivL 5 rfl) rfl rfl ?_
    refine r_lxor X (pc := 7) (zw_dg dk_Math_floorDivL 6 rfl)  ?_
    refine r_lconst X (pc := 8) (v := 0) (zw_dg dk_Math_floorDivL 7 rfl) (by decide) ?_
    refine r_lcmp_ge X (pc := 9) (tgt := 27) (zw_dg dk_Math_floorDivL 8 rfl) (zw_dg dk_Math_floorDivL 9 rfl) (by decide) (fun q5 => ?_) (fun q5 => ?_)
    · --
      exact jF (fun q => (Int64.not_lt.mpr q5) q.1)
    · --
      refine r_lload X (pc := 13) (i := 4) (zw_dg dk_Math_floorDivL 10 rfl) rfl ?_
      refine r_lload_n X (pc := 15) (i := 2) (zw_dg dk_Math_floorDivL 11 rfl) rfl rfl ?_
      refine r_lmul X (pc := 16) (zw_dg dk_Math_floorDivL 12 rfl)  ?_
      refine r_lload_n X (pc := 17) (i := 0) (zw_dg dk_Math_floorDivL 13 rfl) rfl rfl ?_
      refine r_lcmp_eq X (pc := 18) (tgt := 27) (zw_dg dk_Math_floorDivL 14 rfl) (zw_dg dk_Math_floorDivL 15 rfl) (by decide) (fun q6 => ?_) (fun q6 => ?_)
      · --
        exact jF (fun q => (fun z => z q6) q.2)
      · --
        exact jT ⟨(Int64.not_le.mp q5), q6⟩
  · --
    have hsem := zw_ifp p4 hsem
    refine r_lload X (pc := 22) (i := 4) (zw_dg dk_Math_floorDivL 16 rfl) rfl ?_
    refine r_lconst X (pc := 24) (v := 1) (zw_dg dk_Math_floorDivL 17 rfl) (by decide) ?_
    refine r_lsub X (pc := 25) (zw_dg dk_Math_floorDivL 18 rfl)  ?_
    cases hsem
    exact r_lret X (pc := 26) rfl (zw_dg dk_Math_floorDivL 19 rfl)
  · --
    have hsem := zw_ifn p4 hsem
    refine r_lload X (pc := 27) (i := 4) (zw_dg dk_Math_floorDivL 20 rfl) rfl ?_
    cases hsem
    exact r_lret X (pc := 29) rfl (zw_dg dk_Math_floorDivL 21 rfl)
def y_Math_floorDiv : MethodName := ⟨"java/lang/Math", "floorDiv", "(JI)J"⟩
abbrev b_Math_floorDiv : ByteArray := prog_20_method_48_code
def dl_Math_floorDiv : List (Nat × Instr × Nat) := [(0, .lload_n 0, 1), (1, .iload_n 2, 1), (2, .i2l, 1), (3, .invokestatic 143, 3), (6, .lreturn, 1)]
theorem dk_Math_floorDiv : zw_dk b_Math_floorDiv dl_Math_floorDiv = true := by decide +kernel
theorem ce_Math_floorDiv : zw_ces y_Math_floorDiv b_Math_floorDiv 3 (some .long) 2 := ⟨⟨kt_in 1854 (by decide +kernel) rfl, kt_in 88 (by decide +kernel) rfl, by decide +kernel⟩, kt_in 1853 (by decide +kernel) rfl⟩
def fn_Math_floorDiv (x1 : Int64) (y2 : Int32) : Option Int64 :=
  (fn_Math_floorDivL x1 y2.toInt64).bind fun r3 =>
  some r3
set_option maxRecDepth 100000 in
theorem km_Math_floorDiv {l : Launch} {g : zw_G} {rr : zw_RR} {sh : zw_Sh} {c : zw_Ct} {x1 : Int64} {y2 : Int32} {r : Int64}  (hsem : fn_Math_floorDiv x1 y2 = some r) : zw_Met l g y_Math_floorDiv b_Math_floorDiv 3 (some .long) 2 rr sh [.long x1, .int y2] c (some (.long r)) c := by
  unfold fn_Math_floorDiv at hsem
  refine zw_Met.ofF (by decide +kernel) (Nat.le_of_ble_eq_true rfl) (fun p e s m args below meth cd X => ?_)
  refine zw_eL (L2 := [some (.long x1), none, some (.int y2)]) rfl ?_
  refine r_lload_n X (pc := 0) (i := 0) (zw_dg dk_Math_floorDiv 0 rfl) rfl rfl ?_
  refine r_iload_n X (pc := 1) (i := 2) (zw_dg dk_Math_floorDiv 1 rfl) rfl rfl ?_
  refine r_i2l X (pc := 2) (zw_dg dk_Math_floorDiv 2 rfl)  ?_
  obtain ⟨r3, hr3, hsem⟩ := zw_bd hsem
  refine r_callSl X (pc := 3) (As := [_, _]) (st := []) (km_Math_floorDivL hr3) ce_Math_floorDivL kw_1855 rfl ⟨Nat.le_of_ble_eq_true rfl, Nat.le_of_ble_eq_true rfl⟩ (Nat.le_of_ble_eq_true rfl) (zw_dg dk_Math_floorDiv 3 rfl) ?_
  cases hsem
  exact r_lret X (pc := 6) rfl (zw_dg dk_Math_floorDiv 4 rfl)
