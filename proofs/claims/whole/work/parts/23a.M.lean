/-! PaidForThinkingModel: names, functions, contracts (by program: wip/whole/gen) -/
def y_M_thrown : MethodName := ⟨R_M, "thrown", "()I"⟩
abbrev b_M_thrown : ByteArray := prog_14_method_2_code
def dl_M_thrown : List (Nat × Instr × Nat) := [(0, .aload_n 0, 1), (1, .getfield 97, 3), (4, .ireturn, 1)]
theorem dk_M_thrown : zw_dk b_M_thrown dl_M_thrown = true := by decide +kernel
theorem ce_M_thrown : zw_cev y_M_thrown b_M_thrown 1 (some .int) 0 := ⟨⟨kt_in 1590 (by decide +kernel) rfl, kt_in 98 (by decide +kernel) rfl, by decide +kernel⟩, kt_in 1588 (by decide +kernel) rfl, kt_in 1589 (by decide +kernel) rfl⟩
def fn_M_thrown (c : zw_Ct) : Int32 :=
  (c.1 71 9)
set_option maxRecDepth 100000 in
theorem km_M_thrown {l : Launch} {g : zw_G} {rr : zw_RR} {sh : zw_Sh} {c : zw_Ct} {r : Int32} (hS : zw_Ok 0 101 sh rr) (hsem : fn_M_thrown c = r) : zw_Met l g y_M_thrown b_M_thrown 1 (some .int) 1 rr sh [.ref 71] c (some (.int r)) c := by
  unfold fn_M_thrown at hsem
  refine zw_Met.of (by decide +kernel) (Nat.le_of_ble_eq_true rfl) (fun p e s m args below meth cd X => ?_)
  refine zw_eL (L2 := [some (.ref 71)]) rfl ?_
  refine r_aload_n X (pc := 0) (i := 0) (zw_dg dk_M_thrown 0 rfl) rfl rfl ?_
  refine r_getI X (pc := 1) ci_M (zo hS 71 rfl rfl) rfl lk_M_97 (zw_dg dk_M_thrown 1 rfl) ?_
  have hsem : ((c.1 71 9) : _) = r := hsem
  cases hsem
  exact r_iret X (pc := 4) rfl (zw_dg dk_M_thrown 2 rfl)
def y_M_in : MethodName := ⟨R_M, "in", "(JJJ)Z"⟩
abbrev b_M_in : ByteArray := prog_14_method_3_code
def dl_M_in : List (Nat × Instr × Nat) := [(0, .lload_n 0, 1), (1, .lload_n 2, 1), (2, .lcmp, 1), (3, .ifCond .lt 14, 3), (6, .lload_n 0, 1), (7, .lload 4, 2), (9, .lcmp, 1), (10, .ifCond .gt 7, 3), (13, .iconst 1, 1), (14, .goto 4, 3), (17, .iconst 0, 1), (18, .ireturn, 1)]
theorem dk_M_in : zw_dk b_M_in dl_M_in = true := by decide +kernel
theorem ce_M_in : zw_ces y_M_in b_M_in 6 (some .boolean) 3 := ⟨⟨kt_in 1599 (by decide +kernel) rfl, kt_in 98 (by decide +kernel) rfl, by decide +kernel⟩, kt_in 1598 (by decide +kernel) rfl⟩
def fn_M_in (v1 : Int64) (low2 : Int64) (high3 : Int64) : Int32 :=
  (if ((low2 ≤ v1) ∧ (v1 ≤ high3)) then (1 : Int32) else 0)
theorem kb_M_in (v1 : Int64) (low2 : Int64) (high3 : Int64) : fn_M_in v1 low2 high3 = 0 ∨ fn_M_in v1 low2 high3 = 1 := by
  unfold fn_M_in
  first | exact zw_ite01
set_option maxRecDepth 100000 in
theorem km_M_in {l : Launch} {g : zw_G} {rr : zw_RR} {sh : zw_Sh} {c : zw_Ct} {v1 : Int64} {low2 : Int64} {high3 : Int64} {r : Int32} (hS : zw_Ok 0 101 sh rr) (hsem : fn_M_in v1 low2 high3 = r) : zw_Met l g y_M_in b_M_in 6 (some .boolean) 1 rr sh [.long v1, .long low2, .long high3] c (some (.int r)) c := by
  unfold fn_M_in at hsem
  refine zw_Met.of (by decide +kernel) (Nat.le_of_ble_eq_true rfl) (fun p e s m args below meth cd X => ?_)
  refine zw_eL (L2 := [some (.long v1), none, some (.long low2), none, some (.long high3), none]) rfl ?_
  refine zw_ter (P := ((low2 ≤ v1) ∧ (v1 ≤ high3))) (f := Value.int) (x := 1) (y := 0) (J := 18) (st2 := []) (fun jT jF => ?_) ?_
  · --
    refine r_lload_n X (pc := 0) (i := 0) (zw_dg dk_M_in 0 rfl) rfl rfl ?_
    refine r_lload_n X (pc := 1) (i := 2) (zw_dg dk_M_in 1 rfl) rfl rfl ?_
    refine r_lcmp_lt X (pc := 2) (tgt := 17) (zw_dg dk_M_in 2 rfl) (zw_dg dk_M_in 3 rfl) (by decide) (fun q4 => ?_) (fun q4 => ?_)
    · --
      refine r_iconst X (pc := 17) (v := 0) (zw_dg dk_M_in 10 rfl) (by decide) ?_
      exact jF (fun q => (Int64.not_le.mpr q4) q.1)
    · --
      refine r_lload_n X (pc := 6) (i := 0) (zw_dg dk_M_in 4 rfl) rfl rfl ?_
      refine r_lload X (pc := 7) (i := 4) (zw_dg dk_M_in 5 rfl) rfl ?_
      refine r_lcmp_gt X (pc := 9) (tgt := 17) (zw_dg dk_M_in 6 rfl) (zw_dg dk_M_in 7 rfl) (by decide) (fun q5 => ?_) (fun q5 => ?_)
      · --
        refine r_iconst X (pc := 17) (v := 0) (zw_dg dk_M_in 10 rfl) (by decide) ?_
        exact jF (fun q => (Int64.not_le.mpr q5) q.2)
      · --
        refine r_iconst X (pc := 13) (v := 1) (zw_dg dk_M_in 8 rfl) (by decide) ?_
        refine r_goto X (pc := 14) (tgt := 18) (zw_dg dk_M_in 9 rfl) (by decide) ?_
        exact jT ⟨(Int64.not_lt.mp q4), (Int64.not_lt.mp q5)⟩
  have hsem : ((if ((low2 ≤ v1) ∧ (v1 ≤ high3)) then (1 : Int32) else 0) : _) = r := hsem
  have hbz : ((if ((low2 ≤ v1) ∧ (v1 ≤ high3)) then (1 : Int32) else 0) : Int32) = 0 ∨ ((if ((low2 ≤ v1) ∧ (v1 ≤ high3)) then (1 : Int32) else 0) : Int32) = 1 := zw_ite01
  cases hsem
  exact r_zret X (pc := 18) rfl (zw_bzn hbz).1 (zw_dg dk_M_in 11 rfl)
def y_M_lost : MethodName := ⟨R_M, "lost", "()I"⟩
abbrev b_M_lost : ByteArray := prog_14_method_4_code
def dl_M_lost : List (Nat × Instr × Nat) := [(0, .aload_n 0, 1), (1, .iconst 1, 1), (2, .putfield 97, 3), (5, .iconst 0, 1), (6, .ireturn, 1)]
theorem dk_M_lost : zw_dk b_M_lost dl_M_lost = true := by decide +kernel
theorem ce_M_lost : zw_cev y_M_lost b_M_lost 1 (some .int) 0 := ⟨⟨kt_in 1620 (by decide +kernel) rfl, kt_in 98 (by decide +kernel) rfl, by decide +kernel⟩, kt_in 1619 (by decide +kernel) rfl, kt_in 43 (by decide +kernel) rfl⟩
def fn_M_lost (c : zw_Ct) : Option (Int32 × zw_Ct) :=
  (some (zw_wI c 71 9 1)).bind fun c3 =>
  some (0, c3)
set_option maxRecDepth 100000 in
theorem km_M_lost {l : Launch} {g : zw_G} {rr : zw_RR} {sh : zw_Sh} {c : zw_Ct} {r : Int32} {c2 : zw_Ct} (hS : zw_Ok 0 101 sh rr) (hsem : fn_M_lost c = some (r, c2)) : zw_Met l g y_M_lost b_M_lost 1 (some .int) 1 rr sh [.ref 71] c (some (.int r)) c2 := by
  unfold fn_M_lost at hsem
  refine zw_Met.of (by decide +kernel) (Nat.le_of_ble_eq_true rfl) (fun p e s m args below meth cd X => ?_)
  refine zw_eL (L2 := [some (.ref 71)]) rfl ?_
  refine r_aload_n X (pc := 0) (i := 0) (zw_dg dk_M_lost 0 rfl) rfl rfl ?_
  refine r_iconst X (pc := 1) (v := 1) (zw_dg dk_M_lost 1 rfl) (by decide) ?_
  refine r_putI X (pc := 2) ci_M (zo hS 71 rfl rfl) rfl lk_M_97 rfl ⟨rfl, rfl⟩ (zw_dg dk_M_lost 2 rfl) ?_
  obtain ⟨c3, hc3, hsem⟩ := zw_bd hsem
  refine zw_topC hc3 ?_
  refine r_iconst X (pc := 5) (v := 0) (zw_dg dk_M_lost 3 rfl) (by decide) ?_
  obtain ⟨rfl, rfl⟩ := zw_in2 hsem
  exact r_iret X (pc := 6) rfl (zw_dg dk_M_lost 4 rfl)
def y_M_tell : MethodName := ⟨R_M, "tell", "(J)V"⟩
abbrev b_M_tell : ByteArray := prog_14_method_5_code
def dl_M_tell : List (Nat × Instr × Nat) := [(0, .aload_n 0, 1), (1, .getfield 27, 3), (4, .aload_n 0, 1), (5, .getfield 100, 3), (8, .lload_n 1, 1), (9, .lastore, 1), (10, .aload_n 0, 1), (11, .dup, 1), (12, .getfield 100, 3), (15, .iconst 1, 1), (16, .iadd, 1), (17, .putfield 100, 3), (20, .return_, 1)]
theorem dk_M_tell : zw_dk b_M_tell dl_M_tell = true := by decide +kernel
theorem ce_M_tell : zw_cev y_M_tell b_M_tell 3 (none) 1 := ⟨⟨kt_in 1707 (by decide +kernel) rfl, kt_in 98 (by decide +kernel) rfl, by decide +kernel⟩, kt_in 1706 (by decide +kernel) rfl, kt_in 56 (by decide +kernel) rfl⟩
def fn_M_tell (c : zw_Ct) (v1 : Int64) : Option zw_Ct :=
  (zw_uL 24 c 75 (c.1 71 8) v1).bind fun c3 =>
  (some (zw_wI c3 71 8 ((c3.1 71 8) + 1))).bind fun c4 =>
  some c4
set_option maxRecDepth 100000 in
theorem km_M_tell {l : Launch} {g : zw_G} {rr : zw_RR} {sh : zw_Sh} {c : zw_Ct} {v1 : Int64} {c2 : zw_Ct} (hS : zw_Ok 0 101 sh rr) (hsem : fn_M_tell c v1 = some c2) : zw_Met l g y_M_tell b_M_tell 3 (none) 1 rr sh [.ref 71, .long v1] c none c2 := by
  unfold fn_M_tell at hsem
  refine zw_Met.of (by decide +kernel) (Nat.le_of_ble_eq_true rfl) (fun p e s m args below meth cd X => ?_)
  refine zw_eL (L2 := [some (.ref 71), some (.long v1), none]) rfl ?_
  refine r_aload_n X (pc := 0) (i := 0) (zw_dg dk_M_tell 0 rfl) rfl rfl ?_
  refine r_getR X (pc := 1) (r := 75) ci_M (zo hS 71 rfl rfl) rfl (zr hS 71 7 rfl rfl) lk_M_27 (zw_dg dk_M_tell 1 rfl) ?_
  refine r_aload_n X (pc := 4) (i := 0) (zw_dg dk_M_tell 2 rfl) rfl rfl ?_
  refine r_getI X (pc := 5) ci_M (zo hS 71 rfl rfl) rfl lk_M_100 (zw_dg dk_M_tell 3 rfl) ?_
  refine r_lload_n X (pc := 8) (i := 1) (zw_dg dk_M_tell 4 rfl) rfl rfl ?_
  obtain ⟨c3, hc3, hsem⟩ := zw_bd hsem
  refine r_last X (pc := 9) (zo hS 75 rfl rfl) hc3 (zw_dg dk_M_tell 5 rfl) ?_
  refine r_aload_n X (pc := 10) (i := 0) (zw_dg dk_M_tell 6 rfl) rfl rfl ?_
  refine r_dup X (pc := 11) (zw_dg dk_M_tell 7 rfl) rfl ?_
  refine r_getI X (pc := 12) ci_M (zo hS 71 rfl rfl) rfl lk_M_100 (zw_dg dk_M_tell 8 rfl) ?_
  refine r_iconst X (pc := 15) (v := 1) (zw_dg dk_M_tell 9 rfl) (by decide) ?_
  refine r_iadd X (pc := 16) (zw_dg dk_M_tell 10 rfl)  ?_
  refine r_putI X (pc := 17) ci_M (zo hS 71 rfl rfl) rfl lk_M_100 rfl ⟨rfl, rfl⟩ (zw_dg dk_M_tell 11 rfl) ?_
  obtain ⟨c4, hc4, hsem⟩ := zw_bd hsem
  refine zw_topC hc4 ?_
  cases hsem
  exact r_vret X (pc := 20) rfl (zw_dg dk_M_tell 12 rfl)
def y_M_tellPart : MethodName := ⟨R_M, "tellPart", "(JJ)V"⟩
abbrev b_M_tellPart : ByteArray := prog_14_method_6_code
def dl_M_tellPart : List (Nat × Instr × Nat) := [(0, .lload_n 1, 1), (1, .invokestatic 103, 3), (4, .lstore 5, 2), (6, .lload_n 3, 1), (7, .lstore 7, 2), (9, .lload 7, 2), (11, .lconst 0, 1), (12, .lcmp, 1), (13, .ifCond .eq 21, 3), (16, .lload 5, 2), (18, .lload 7, 2), (20, .lrem, 1), (21, .lstore 9, 2), (23, .lload 7, 2), (25, .lstore 5, 2), (27, .lload 9, 2), (29, .lstore 7, 2), (31, .goto (-22), 3), (34, .aload_n 0, 1), (35, .lload_n 1, 1), (36, .lload 5, 2), (38, .ldiv, 1), (39, .invokevirtual 109, 3), (42, .aload_n 0, 1), (43, .lload_n 3, 1), (44, .lload 5, 2), (46, .ldiv, 1), (47, .invokevirtual 109, 3), (50, .return_, 1)]
theorem dk_M_tellPart : zw_dk b_M_tellPart dl_M_tellPart = true := by decide +kernel
theorem ce_M_tellPart : zw_cev y_M_tellPart b_M_tellPart 11 (none) 2 := ⟨⟨kt_in 1719 (by decide +kernel) rfl, kt_in 98 (by decide +kernel) rfl, by decide +kernel⟩, kt_in 1718 (by decide +kernel) rfl, kt_in 58 (by decide +kernel) rfl⟩
def fn_M_tellPart_l1  : Int64 × Int64 → Option ((Int64 × Int64) ⊕ (Int64 × Int64)) := fun (x4, y5) =>
  if (¬ y5 = 0) then
  ((zw_rmL x4 y5).bind fun d11 =>
  some (.inr (y5, d11)))
  else
  (some (.inl (x4, y5)))
def fn_M_tellPart (c : zw_Ct) (a1 : Int64) (b2 : Int64) : Option zw_Ct :=
  (some ((if 0 < a1 then a1 else -a1) : Int64)).bind fun x3 =>
  (zw_whl (fn_M_tellPart_l1) zw_F (x3, b2)).bind fun (x6, y7) =>
  (zw_dvL a1 x6).bind fun d12 =>
  (fn_M_tell c d12).bind fun c13 =>
  (zw_dvL b2 x6).bind fun d14 =>
  (fn_M_tell c13 d14).bind fun c15 =>
  some c15
set_option maxRecDepth 100000 in
theorem km_M_tellPart {l : Launch} {g : zw_G} {rr : zw_RR} {sh : zw_Sh} {c : zw_Ct} {a1 : Int64} {b2 : Int64} {c2 : zw_Ct} (hS : zw_Ok 0 101 sh rr) (hsem : fn_M_tellPart c a1 b2 = some c2) : zw_Met l g y_M_tellPart b_M_tellPart 11 (none) 2 rr sh [.ref 71, .long a1, .long b2] c none c2 := by
  unfold fn_M_tellPart at hsem
  refine zw_Met.of (by decide +kernel) (Nat.le_of_ble_eq_true rfl) (fun p e s m args below meth cd X => ?_)
  refine zw_eL (L2 := [some (.ref 71), some (.long a1), none, some (.long b2), none, none, none, none, none, none, none]) rfl ?_
  refine r_lload_n X (pc := 0) (i := 1) (zw_dg dk_M_tellPart 0 rfl) rfl rfl ?_
  refine r_mabsl X (pc := 1) kw_1720 mws_absl kw_88 mwc_absl ⟨Nat.le_of_ble_eq_true rfl, Nat.le_of_ble_eq_true rfl⟩ (st := []) (Nat.le_of_ble_eq_true rfl) (zw_dg dk_M_tellPart 1 rfl) ?_
  obtain ⟨x3, hx3, hsem⟩ := zw_bd hsem
  refine zw_topJ hx3 ?_
  refine r_lstore X (pc := 4) (i := 5) (L2 := [some (.ref 71), some (.long a1), none, some (.long b2), none, some (.long x3), none, none, none, none, none]) (zw_dg dk_M_tellPart 2 rfl) (by decide) rfl ?_
  refine r_lload_n X (pc := 6) (i := 3) (zw_dg dk_M_tellPart 3 rfl) rfl rfl ?_
  refine r_lstore X (pc := 7) (i := 7) (L2 := [some (.ref 71), some (.long a1), none, some (.long b2), none, some (.long x3), none, some (.long b2), none, none, none]) (zw_dg dk_M_tellPart 4 rfl) (by decide) rfl ?_
  obtain ⟨l8, hl8, hsl8⟩ := zw_bd hsem
  refine r_loop (pc := 9) (pce := 34) hl8 (fun (x4, y5) => [some (.ref 71), some (.long a1), none, some (.long b2), none, some (.long x4), none, some (.long y5), none, none, none] : Int64 × Int64 → zw_Lc) (fun (x4, y5) => c : Int64 × Int64 → zw_Ct) (fun (x6, y7) => [some (.ref 71), some (.long a1), none, some (.long b2), none, some (.long x6), none, some (.long y7), none, none, none] : Int64 × Int64 → zw_Lc) (fun (x6, y7) => c : Int64 × Int64 → zw_Ct) ?_ rfl rfl ?_
  · rintro ⟨x4, y5⟩ rr hsem hK hP
    try unfold fn_M_tellPart_l1 at hsem
    refine r_lload X (pc := 9) (i := 7) (zw_dg dk_M_tellPart 5 rfl) rfl ?_
    refine r_lconst X (pc := 11) (v := 0) (zw_dg dk_M_tellPart 6 rfl) (by decide) ?_
    refine r_lcmp_eq X (pc := 12) (tgt := 34) (zw_dg dk_M_tellPart 7 rfl) (zw_dg dk_M_tellPart 8 rfl) (by decide) (fun q10 => ?_) (fun q10 => ?_)
    · --
      have p9 : ¬ (¬ y5 = 0) := (fun z => z q10)
      have hsem := zw_ifn p9 hsem
      have jj := hK _ (Option.some.inj hsem).symm
      exact (r_fgt [] rfl jj)
    · --
      have p9 : (¬ y5 = 0) := q10
      have hsem := zw_ifp p9 hsem
      refine r_lload X (pc := 16) (i := 5) (zw_dg dk_M_tellPart 9 rfl) rfl ?_
      refine r_lload X (pc := 18) (i := 7) (zw_dg dk_M_tellPart 10 rfl) rfl ?_
      obtain ⟨d11, hd11, hsem⟩ := zw_bd hsem
      obtain ⟨hyd11, hd11⟩ := zw_rmL_of hd11
      refine r_lrem X (pc := 20) (zw_dg dk_M_tellPart 11 rfl) hyd11 ?_
      refine zw_eqtJ hd11 ?_
      refine r_lstore X (pc := 21) (i := 9) (L2 := [some (.ref 71), some (.long a1), none, some (.long b2), none, some (.long x4), none, some (.long y5), none, some (.long d11), none]) (zw_dg dk_M_tellPart 12 rfl) (by decide) rfl ?_
      refine r_lload X (pc := 23) (i := 7) (zw_dg dk_M_tellPart 13 rfl) rfl ?_
      refine r_lstore X (pc := 25) (i := 5) (L2 := [some (.ref 71), some (.long a1), none, some (.long b2), none, some (.long y5), none, some (.long y5), none, some (.long d11), none]) (zw_dg dk_M_tellPart 14 rfl) (by decide) rfl ?_
      refine r_lload X (pc := 27) (i := 9) (zw_dg dk_M_tellPart 15 rfl) rfl ?_
      refine r_lstore X (pc := 29) (i := 7) (L2 := [some (.ref 71), some (.long a1), none, some (.long b2), none, some (.long y5), none, some (.long d11), none, some (.long d11), none]) (zw_dg dk_M_tellPart 16 rfl) (by decide) rfl ?_
      refine r_goto X (pc := 31) (tgt := 9) (zw_dg dk_M_tellPart 17 rfl) (by decide) ?_
      have jj := hP _ (Option.some.inj hsem).symm
      exact (r_fgt [9] rfl jj)
  obtain ⟨x6, y7⟩ := l8
  have hsem := hsl8
  refine r_aload_n X (pc := 34) (i := 0) (zw_dg dk_M_tellPart 18 rfl) rfl rfl ?_
  refine r_lload_n X (pc := 35) (i := 1) (zw_dg dk_M_tellPart 19 rfl) rfl rfl ?_
  refine r_lload X (pc := 36) (i := 5) (zw_dg dk_M_tellPart 20 rfl) rfl ?_
  obtain ⟨d12, hd12, hsem⟩ := zw_bd hsem
  obtain ⟨hyd12, hd12⟩ := zw_dvL_of hd12
  refine r_ldiv X (pc := 38) (zw_dg dk_M_tellPart 21 rfl) hyd12 ?_
  refine zw_eqtJ hd12 ?_
  obtain ⟨c13, hc13, hsem⟩ := zw_bd hsem
  refine r_callVv X (pc := 39) (As := [_]) (st := []) (km_M_tell hS hc13) ce_M_tell kw_1704 (zo hS 71 rfl rfl) rfl rfl ⟨Nat.le_of_ble_eq_true rfl, Nat.le_of_ble_eq_true rfl⟩ (Nat.le_of_ble_eq_true rfl) (zw_dg dk_M_tellPart 22 rfl) ?_
  refine r_aload_n X (pc := 42) (i := 0) (zw_dg dk_M_tellPart 23 rfl) rfl rfl ?_
  refine r_lload_n X (pc := 43) (i := 3) (zw_dg dk_M_tellPart 24 rfl) rfl rfl ?_
  refine r_lload X (pc := 44) (i := 5) (zw_dg dk_M_tellPart 25 rfl) rfl ?_
  obtain ⟨d14, hd14, hsem⟩ := zw_bd hsem
  obtain ⟨hyd14, hd14⟩ := zw_dvL_of hd14
  refine r_ldiv X (pc := 46) (zw_dg dk_M_tellPart 26 rfl) hyd14 ?_
  refine zw_eqtJ hd14 ?_
  obtain ⟨c15, hc15, hsem⟩ := zw_bd hsem
  refine r_callVv X (pc := 47) (As := [_]) (st := []) (km_M_tell hS hc15) ce_M_tell kw_1704 (zo hS 71 rfl rfl) rfl rfl ⟨Nat.le_of_ble_eq_true rfl, Nat.le_of_ble_eq_true rfl⟩ (Nat.le_of_ble_eq_true rfl) (zw_dg dk_M_tellPart 27 rfl) ?_
  cases hsem
  exact r_vret X (pc := 50) rfl (zw_dg dk_M_tellPart 28 rfl)
def y_M_lay : MethodName := ⟨R_M, "lay", "(IIII)V"⟩
abbrev b_M_lay : ByteArray := prog_14_method_8_code
def dl_M_lay : List (Nat × Instr × Nat) := [(0, .iconst 4, 1), (1, .aload_n 0, 1), (2, .getfield 113, 3), (5, .imul, 1), (6, .istore 5, 2), (8, .aload_n 0, 1), (9, .getfield 16, 3), (12, .iload 5, 2), (14, .iload_n 1, 1), (15, .iastore, 1), (16, .aload_n 0, 1), (17, .getfield 16, 3), (20, .iload 5, 2), (22, .iconst 1, 1), (23, .iadd, 1), (24, .iload_n 2, 1), (25, .iastore, 1), (26, .aload_n 0, 1), (27, .getfield 16, 3), (30, .iload 5, 2), (32, .iconst 2, 1), (33, .iadd, 1), (34, .iload_n 3, 1), (35, .iastore, 1), (36, .aload_n 0, 1), (37, .getfield 16, 3), (40, .iload 5, 2), (42, .iconst 3, 1), (43, .iadd, 1), (44, .iload 4, 2), (46, .iastore, 1), (47, .aload_n 0, 1), (48, .dup, 1), (49, .getfield 113, 3), (52, .iconst 1, 1), (53, .iadd, 1), (54, .putfield 113, 3), (57, .return_, 1)]
theorem dk_M_lay : zw_dk b_M_lay dl_M_lay = true := by decide +kernel
theorem ce_M_lay : zw_cev y_M_lay b_M_lay 6 (none) 4 := ⟨⟨kt_in 1459 (by decide +kernel) rfl, kt_in 98 (by decide +kernel) rfl, by decide +kernel⟩, kt_in 1458 (by decide +kernel) rfl, kt_in 40 (by decide +kernel) rfl⟩
def fn_M_lay (c : zw_Ct) (a1 : Int32) (b2 : Int32) (c3 : Int32) (d4 : Int32) : Option zw_Ct :=
  (some ((4 * (c.1 71 2)) : Int32)).bind fun k5 =>
  (zw_uI 1820 c 72 k5 a1).bind fun c6 =>
  (zw_uI 1820 c6 72 (k5 + 1) b2).bind fun c7 =>
  (zw_uI 1820 c7 72 (k5 + 2) c3).bind fun c8 =>
  (zw_uI 1820 c8 72 (k5 + 3) d4).bind fun c9 =>
  (some (zw_wI c9 71 2 ((c9.1 71 2) + 1))).bind fun c10 =>
  some c10
set_option maxRecDepth 100000 in
theorem km_M_lay {l : Launch} {g : zw_G} {rr : zw_RR} {sh : zw_Sh} {c : zw_Ct} {a1 : Int32} {b2 : Int32} {c3 : Int32} {d4 : Int32} {c2 : zw_Ct} (hS : zw_Ok 71 100 sh rr) (hsem : fn_M_lay c a1 b2 c3 d4 = some c2) : zw_Met l g y_M_lay b_M_lay 6 (none) 1 rr sh [.ref 71, .int a1, .int b2, .int c3, .int d4] c none c2 := by
  unfold fn_M_lay at hsem
  refine zw_Met.of (by decide +kernel) (Nat.le_of_ble_eq_true rfl) (fun p e s m args below meth cd X => ?_)
  refine zw_eL (L2 := [some (.ref 71), some (.int a1), some (.int b2), some (.int c3), some (.int d4), none]) rfl ?_
  refine r_iconst X (pc := 0) (v := 4) (zw_dg dk_M_lay 0 rfl) (by decide) ?_
  refine r_aload_n X (pc := 1) (i := 0) (zw_dg dk_M_lay 1 rfl) rfl rfl ?_
  refine r_getI X (pc := 2) ci_M (zo hS 71 rfl rfl) rfl lk_M_113 (zw_dg dk_M_lay 2 rfl) ?_
  refine r_imul X (pc := 5) (zw_dg dk_M_lay 3 rfl)  ?_
  obtain ⟨k5, hk5, hsem⟩ := zw_bd hsem
  refine zw_topI hk5 ?_
  refine r_istore X (pc := 6) (i := 5) (zw_dg dk_M_lay 4 rfl) (by decide) rfl ?_
  refine r_aload_n X (pc := 8) (i := 0) (zw_dg dk_M_lay 5 rfl) rfl rfl ?_
  refine r_getR X (pc := 9) (r := 72) ci_M (zo hS 71 rfl rfl) rfl (zr hS 71 3 rfl rfl) lk_M_16 (zw_dg dk_M_lay 6 rfl) ?_
  refine r_iload X (pc := 12) (i := 5) (zw_dg dk_M_lay 7 rfl) rfl ?_
  refine r_iload_n X (pc := 14) (i := 1) (zw_dg dk_M_lay 8 rfl) rfl rfl ?_
  obtain ⟨c6, hc6, hsem⟩ := zw_bd hsem
  refine r_iast X (pc := 15) (zo hS 72 rfl rfl) hc6 (zw_dg dk_M_lay 9 rfl) ?_
  refine r_aload_n X (pc := 16) (i := 0) (zw_dg dk_M_lay 10 rfl) rfl rfl ?_
  refine r_getR X (pc := 17) (r := 72) ci_M (zo hS 71 rfl rfl) rfl (zr hS 71 3 rfl rfl) lk_M_16 (zw_dg dk_M_lay 11 rfl) ?_
  refine r_iload X (pc := 20) (i := 5) (zw_dg dk_M_lay 12 rfl) rfl ?_
  refine r_iconst X (pc := 22) (v := 1) (zw_dg dk_M_lay 13 rfl) (by decide) ?_
  refine r_iadd X (pc := 23) (zw_dg dk_M_lay 14 rfl)  ?_
  refine r_iload_n X (pc := 24) (i := 2) (zw_dg dk_M_lay 15 rfl) rfl rfl ?_
  obtain ⟨c7, hc7, hsem⟩ := zw_bd hsem
  refine r_iast X (pc := 25) (zo hS 72 rfl rfl) hc7 (zw_dg dk_M_lay 16 rfl) ?_
  refine r_aload_n X (pc := 26) (i := 0) (zw_dg dk_M_lay 17 rfl) rfl rfl ?_
  refine r_getR X (pc := 27) (r := 72) ci_M (zo hS 71 rfl rfl) rfl (zr hS 71 3 rfl rfl) lk_M_16 (zw_dg dk_M_lay 18 rfl) ?_
  refine r_iload X (pc := 30) (i := 5) (zw_dg dk_M_lay 19 rfl) rfl ?_
  refine r_iconst X (pc := 32) (v := 2) (zw_dg dk_M_lay 20 rfl) (by decide) ?_
  refine r_iadd X (pc := 33) (zw_dg dk_M_lay 21 rfl)  ?_
  refine r_iload_n X (pc := 34) (i := 3) (zw_dg dk_M_lay 22 rfl) rfl rfl ?_
  obtain ⟨c8, hc8, hsem⟩ := zw_bd hsem
  refine r_iast X (pc := 35) (zo hS 72 rfl rfl) hc8 (zw_dg dk_M_lay 23 rfl) ?_
  refine r_aload_n X (pc := 36) (i := 0) (zw_dg dk_M_lay 24 rfl) rfl rfl ?_
  refine r_getR X (pc := 37) (r := 72) ci_M (zo hS 71 rfl rfl) rfl (zr hS 71 3 rfl rfl) lk_M_16 (zw_dg dk_M_lay 25 rfl) ?_
  refine r_iload X (pc := 40) (i := 5) (zw_dg dk_M_lay 26 rfl) rfl ?_
  refine r_iconst X (pc := 42) (v := 3) (zw_dg dk_M_lay 27 rfl) (by decide) ?_
  refine r_iadd X (pc := 43) (zw_dg dk_M_lay 28 rfl)  ?_
  refine r_iload X (pc := 44) (i := 4) (zw_dg dk_M_lay 29 rfl) rfl ?_
  obtain ⟨c9, hc9, hsem⟩ := zw_bd hsem
  refine r_iast X (pc := 46) (zo hS 72 rfl rfl) hc9 (zw_dg dk_M_lay 30 rfl) ?_
  refine r_aload_n X (pc := 47) (i := 0) (zw_dg dk_M_lay 31 rfl) rfl rfl ?_
  refine r_dup X (pc := 48) (zw_dg dk_M_lay 32 rfl) rfl ?_
  refine r_getI X (pc := 49) ci_M (zo hS 71 rfl rfl) rfl lk_M_113 (zw_dg dk_M_lay 33 rfl) ?_
  refine r_iconst X (pc := 52) (v := 1) (zw_dg dk_M_lay 34 rfl) (by decide) ?_
  refine r_iadd X (pc := 53) (zw_dg dk_M_lay 35 rfl)  ?_
  refine r_putI X (pc := 54) ci_M (zo hS 71 rfl rfl) rfl lk_M_113 rfl ⟨rfl, rfl⟩ (zw_dg dk_M_lay 36 rfl) ?_
  obtain ⟨c10, hc10, hsem⟩ := zw_bd hsem
  refine zw_topC hc10 ?_
  cases hsem
  exact r_vret X (pc := 57) rfl (zw_dg dk_M_lay 37 rfl)
def y_M_layOut : MethodName := ⟨R_M, "layOut", "()V"⟩
abbrev b_M_layOut : ByteArray := prog_14_method_7_code
def dl_M_layOut : List (Nat × Instr × Nat) := [(0, .aload_n 0, 1), (1, .iconst 0, 1), (2, .putfield 113, 3), (5, .iconst 0, 1), (6, .istore_n 1, 1), (7, .iload_n 1, 1), (8, .aload_n 0, 1), (9, .getfield 13, 3), (12, .if_icmp .gt 96, 3), (15, .iconst 0, 1), (16, .istore_n 2, 1), (17, .iload_n 1, 1), (18, .iload_n 2, 1), (19, .iadd, 1), (20, .aload_n 0, 1), (21, .getfield 13, 3), (24, .if_icmp .gt 78, 3), (27, .iconst 0, 1), (28, .istore_n 3, 1), (29, .iload_n 1, 1), (30, .iload_n 2, 1), (31, .iadd, 1), (32, .iload_n 3, 1), (33, .iadd, 1), (34, .aload_n 0, 1), (35, .getfield 13, 3), (38, .if_icmp .gt 58, 3), (41, .aload_n 0, 1), (42, .getfield 13, 3), (45, .iload_n 1, 1), (46, .isub, 1), (47, .iload_n 2, 1), (48, .isub, 1), (49, .iload_n 3, 1), (50, .isub, 1), (51, .istore 4, 2), (53, .aload_n 0, 1), (54, .getfield 9, 3), (57, .iconst 4, 1), (58, .if_icmp .ge 8, 3), (61, .iload 4, 2), (63, .ifCond .gt 27, 3), (66, .aload_n 0, 1), (67, .getfield 9, 3), (70, .iconst 3, 1), (71, .if_icmp .ge 10, 3), (74, .iload_n 3, 1), (75, .ifCond .le 6, 3), (78, .goto 12, 3), (81, .aload_n 0, 1), (82, .iload_n 1, 1), (83, .iload_n 2, 1), (84, .iload_n 3, 1), (85, .iload 4, 2), (87, .invokevirtual 116, 3), (90, .iinc 3 1, 3), (93, .goto (-64), 3), (96, .iinc 2 1, 3), (99, .goto (-82), 3), (102, .iinc 1 1, 3), (105, .goto (-98), 3), (108, .return_, 1)]
theorem dk_M_layOut : zw_dk b_M_layOut dl_M_layOut = true := by decide +kernel
theorem ce_M_layOut : zw_cev y_M_layOut b_M_layOut 5 (none) 0 := ⟨⟨kt_in 1455 (by decide +kernel) rfl, kt_in 98 (by decide +kernel) rfl, by decide +kernel⟩, kt_in 1454 (by decide +kernel) rfl, kt_in 39 (by decide +kernel) rfl⟩
def fn_M_layOut_l3 (a4 : Int32) (b10 : Int32) : Int32 × zw_Ct → Option ((zw_Ct) ⊕ (Int32 × zw_Ct)) := fun (c16, c17) =>
  if (((a4 + b10) + c16) ≤ (c17.1 71 1)) then
  ((some (((((c17.1 71 1) - a4) - b10) - c16) : Int32)).bind fun d22 =>
  if ((((c17.1 71 0) < 4) ∧ (0 < d22)) ∨ (((c17.1 71 0) < 3) ∧ (0 < c16))) then
  (some (.inr ((c16 + 1), c17)))
  else
  ((fn_M_lay c17 a4 b10 c16 d22).bind fun c30 =>
  some (.inr ((c16 + 1), c30))))
  else
  (some (.inl c17))
def fn_M_layOut_l2 (a4 : Int32) : Int32 × zw_Ct → Option ((zw_Ct) ⊕ (Int32 × zw_Ct)) := fun (b10, c11) =>
  if ((a4 + b10) ≤ (c11.1 71 1)) then
  ((zw_whl (fn_M_layOut_l3 a4 b10) zw_F (0, c11)).bind fun c18 =>
  some (.inr ((b10 + 1), c18)))
  else
  (some (.inl c11))
def fn_M_layOut_l1  : Int32 × zw_Ct → Option ((zw_Ct) ⊕ (Int32 × zw_Ct)) := fun (a4, c5) =>
  if (a4 ≤ (c5.1 71 1)) then
  ((zw_whl (fn_M_layOut_l2 a4) zw_F (0, c5)).bind fun c12 =>
  some (.inr ((a4 + 1), c12)))
  else
  (some (.inl c5))
def fn_M_layOut (c : zw_Ct) : Option zw_Ct :=
  (some (zw_wI c 71 2 0)).bind fun c3 =>
  (zw_whl (fn_M_layOut_l1) zw_F (0, c3)).bind fun c6 =>
  some c6
set_option maxRecDepth 100000 in
theorem km_M_layOut {l : Launch} {g : zw_G} {rr : zw_RR} {sh : zw_Sh} {c : zw_Ct} {c2 : zw_Ct} (hS : zw_Ok 71 100 sh rr) (hsem : fn_M_layOut c = some c2) : zw_Met l g y_M_layOut b_M_layOut 5 (none) 2 rr sh [.ref 71] c none c2 := by
  unfold fn_M_layOut at hsem
  refine zw_Met.of (by decide +kernel) (Nat.le_of_ble_eq_true rfl) (fun p e s m args below meth cd X => ?_)
  refine zw_eL (L2 := [some (.ref 71), none, none, none, none]) rfl ?_
  refine r_aload_n X (pc := 0) (i := 0) (zw_dg dk_M_layOut 0 rfl) rfl rfl ?_
  refine r_iconst X (pc := 1) (v := 0) (zw_dg dk_M_layOut 1 rfl) (by decide) ?_
  refine r_putI X (pc := 2) ci_M (zo hS 71 rfl rfl) rfl lk_M_113 rfl ⟨rfl, rfl⟩ (zw_dg dk_M_layOut 2 rfl) ?_
  obtain ⟨c3, hc3, hsem⟩ := zw_bd hsem
  refine zw_topC hc3 ?_
  refine r_iconst X (pc := 5) (v := 0) (zw_dg dk_M_layOut 3 rfl) (by decide) ?_
  refine r_istore_n X (pc := 6) (i := 1) (zw_dg dk_M_layOut 4 rfl) rfl (by decide) rfl ?_
  obtain ⟨c6, hl7, hsl7⟩ := zw_bd hsem
  refine r_loop (pc := 7) (pce := 108) hl7 (fun (a4, c5) => [some (.ref 71), some (.int a4), none, none, none] : Int32 × zw_Ct → zw_Lc) (fun (a4, c5) => c5 : Int32 × zw_Ct → zw_Ct) (fun c6 => [some (.ref 71), none, none, none, none] : zw_Ct → zw_Lc) (fun c6 => c6 : zw_Ct → zw_Ct) ?_ rfl rfl ?_
  · rintro ⟨a4, c5⟩ rr hsem hK hP
    try unfold fn_M_layOut_l1 at hsem
    refine r_iload_n X (pc := 7) (i := 1) (zw_dg dk_M_layOut 5 rfl) rfl rfl ?_
    refine r_aload_n X (pc := 8) (i := 0) (zw_dg dk_M_layOut 6 rfl) rfl rfl ?_
    refine r_getI X (pc := 9) ci_M (zo hS 71 rfl rfl) rfl lk_M_13 (zw_dg dk_M_layOut 7 rfl) ?_
    refine r_icmp_gt X (pc := 12) (tgt := 108) (zw_dg dk_M_layOut 8 rfl) (by decide) (fun q9 => ?_) (fun q9 => ?_)
    · --
      have p8 : ¬ (a4 ≤ (c5.1 71 1)) := (Int32.not_le.mpr q9)
      have hsem := zw_ifn p8 hsem
      have jj := hK _ (Option.some.inj hsem).symm
      exact (r_fgt [1] rfl jj)
    · --
      have p8 : (a4 ≤ (c5.1 71 1)) := (Int32.not_lt.mp q9)
      have hsem := zw_ifp p8 hsem
      refine r_iconst X (pc := 15) (v := 0) (zw_dg dk_M_layOut 9 rfl) (by decide) ?_
      refine r_istore_n X (pc := 16) (i := 2) (zw_dg dk_M_layOut 10 rfl) rfl (by decide) rfl ?_
      obtain ⟨c12, hl13, hsl13⟩ := zw_bd hsem
      refine r_loop (pc := 17) (pce := 102) hl13 (fun (b10, c11) => [some (.ref 71), some (.int a4), some (.int b10), none, none] : Int32 × zw_Ct → zw_Lc) (fun (b10, c11) => c11 : Int32 × zw_Ct → zw_Ct) (fun c12 => [some (.ref 71), some (.int a4), none, none, none] : zw_Ct → zw_Lc) (fun c12 => c12 : zw_Ct → zw_Ct) ?_ rfl rfl ?_
      · rintro ⟨b10, c11⟩ rr hsem hK hP
        try unfold fn_M_layOut_l2 at hsem
        refine r_iload_n X (pc := 17) (i := 1) (zw_dg dk_M_layOut 11 rfl) rfl rfl ?_
        refine r_iload_n X (pc := 18) (i := 2) (zw_dg dk_M_layOut 12 rfl) rfl rfl ?_
        refine r_iadd X (pc := 19) (zw_dg dk_M_layOut 13 rfl)  ?_
        refine r_aload_n X (pc := 20) (i := 0) (zw_dg dk_M_layOut 14 rfl) rfl rfl ?_
        refine r_getI X (pc := 21) ci_M (zo hS 71 rfl rfl) rfl lk_M_13 (zw_dg dk_M_layOut 15 rfl) ?_
        refine r_icmp_gt X (pc := 24) (tgt := 102) (zw_dg dk_M_layOut 16 rfl) (by decide) (fun q15 => ?_) (fun q15 => ?_)
        · --
          have p14 : ¬ ((a4 + b10) ≤ (c11.1 71 1)) := (Int32.not_le.mpr q15)
          have hsem := zw_ifn p14 hsem
          have jj := hK _ (Option.some.inj hsem).symm
          exact (r_fgt [2] rfl jj)
        · --
          have p14 : ((a4 + b10) ≤ (c11.1 71 1)) := (Int32.not_lt.mp q15)
          have hsem := zw_ifp p14 hsem
          refine r_iconst X (pc := 27) (v := 0) (zw_dg dk_M_layOut 17 rfl) (by decide) ?_
          refine r_istore_n X (pc := 28) (i := 3) (zw_dg dk_M_layOut 18 rfl) rfl (by decide) rfl ?_
          obtain ⟨c18, hl19, hsl19⟩ := zw_bd hsem
          refine r_loop (pc := 29) (pce := 96) hl19 (fun (c16, c17) => [some (.ref 71), some (.int a4), some (.int b10), some (.int c16), none] : Int32 × zw_Ct → zw_Lc) (fun (c16, c17) => c17 : Int32 × zw_Ct → zw_Ct) (fun c18 => [some (.ref 71), some (.int a4), some (.int b10), none, none] : zw_Ct → zw_Lc) (fun c18 => c18 : zw_Ct → zw_Ct) ?_ rfl rfl ?_
          · rintro ⟨c16, c17⟩ rr hsem hK hP
            try unfold fn_M_layOut_l3 at hsem
            refine r_iload_n X (pc := 29) (i := 1) (zw_dg dk_M_layOut 19 rfl) rfl rfl ?_
            refine r_iload_n X (pc := 30) (i := 2) (zw_dg dk_M_layOut 20 rfl) rfl rfl ?_
            refine r_iadd X (pc := 31) (zw_dg dk_M_layOut 21 rfl)  ?_
            refine r_iload_n X (pc := 32) (i := 3) (zw_dg dk_M_layOut 22 rfl) rfl rfl ?_
            refine r_iadd X (pc := 33) (zw_dg dk_M_layOut 23 rfl)  ?_
            refine r_aload_n X (pc := 34) (i := 0) (zw_dg dk_M_layOut 24 rfl) rfl rfl ?_
            refine r_getI X (pc := 35) ci_M (zo hS 71 rfl rfl) rfl lk_M_13 (zw_dg dk_M_layOut 25 rfl) ?_
            refine r_icmp_gt X (pc := 38) (tgt := 96) (zw_dg dk_M_layOut 26 rfl) (by decide) (fun q21 => ?_) (fun q21 => ?_)
            · --
              have p20 : ¬ (((a4 + b10) + c16) ≤ (c17.1 71 1)) := (Int32.not_le.mpr q21)
              have hsem := zw_ifn p20 hsem
              have jj := hK _ (Option.some.inj hsem).symm
              exact (r_fgt [3] rfl jj)
            · --
              have p20 : (((a4 + b10) + c16) ≤ (c17.1 71 1)) := (Int32.not_lt.mp q21)
              have hsem := zw_ifp p20 hsem
              refine r_aload_n X (pc := 41) (i := 0) (zw_dg dk_M_layOut 27 rfl) rfl rfl ?_
              refine r_getI X (pc := 42) ci_M (zo hS 71 rfl rfl) rfl lk_M_13 (zw_dg dk_M_layOut 28 rfl) ?_
              refine r_iload_n X (pc := 45) (i := 1) (zw_dg dk_M_layOut 29 rfl) rfl rfl ?_
              refine r_isub X (pc := 46) (zw_dg dk_M_layOut 30 rfl)  ?_
              refine r_iload_n X (pc := 47) (i := 2) (zw_dg dk_M_layOut 31 rfl) rfl rfl ?_
              refine r_isub X (pc := 48) (zw_dg dk_M_layOut 32 rfl)  ?_
              refine r_iload_n X (pc := 49) (i := 3) (zw_dg dk_M_layOut 33 rfl) rfl rfl ?_
              refine r_isub X (pc := 50) (zw_dg dk_M_layOut 34 rfl)  ?_
              obtain ⟨d22, hd22, hsem⟩ := zw_bd hsem
              refine zw_topI hd22 ?_
              refine r_istore X (pc := 51) (i := 4) (zw_dg dk_M_layOut 35 rfl) (by decide) rfl ?_
              refine zw_cnd (P := ((((c17.1 71 0) < 4) ∧ (0 < d22)) ∨ (((c17.1 71 0) < 3) ∧ (0 < c16)))) (J1 := 90) (J2 := 81) (st2 := []) (fun jT jF => ?_) (fun p23 => ?_) (fun p23 => ?_)
              · --
                refine r_aload_n X (pc := 53) (i := 0) (zw_dg dk_M_layOut 36 rfl) rfl rfl ?_
                refine r_getI X (pc := 54) ci_M (zo hS 71 rfl rfl) rfl lk_M_9 (zw_dg dk_M_layOut 37 rfl) ?_
                refine r_iconst X (pc := 57) (v := 4) (zw_dg dk_M_layOut 38 rfl) (by decide) ?_
                refine r_icmp_ge X (pc := 58) (tgt := 66) (zw_dg dk_M_layOut 39 rfl) (by decide) (fun q24 => ?_) (fun q24 => ?_)
                · --
                  refine r_aload_n X (pc := 66) (i := 0) (zw_dg dk_M_layOut 42 rfl) rfl rfl ?_
                  refine r_getI X (pc := 67) ci_M (zo hS 71 rfl rfl) rfl lk_M_9 (zw_dg dk_M_layOut 43 rfl) ?_
                  refine r_iconst X (pc := 70) (v := 3) (zw_dg dk_M_layOut 44 rfl) (by decide) ?_
                  refine r_icmp_ge X (pc := 71) (tgt := 81) (zw_dg dk_M_layOut 45 rfl) (by decide) (fun q25 => ?_) (fun q25 => ?_)
                  · --
                    exact jF (fun q => q.elim (fun q => (Int32.not_lt.mpr q24) q.1) (fun q => (Int32.not_lt.mpr q25) q.1))
                  · --
                    refine r_iload_n X (pc := 74) (i := 3) (zw_dg dk_M_layOut 46 rfl) rfl rfl ?_
                    refine r_if_le X (pc := 75) (tgt := 81) (zw_dg dk_M_layOut 47 rfl) (by decide) (fun q26 => ?_) (fun q26 => ?_)
                    · --
                      exact jF (fun q => q.elim (fun q => (Int32.not_lt.mpr q24) q.1) (fun q => (Int32.not_lt.mpr q26) q.2))
                    · --
                      refine r_goto X (pc := 78) (tgt := 90) (zw_dg dk_M_layOut 48 rfl) (by decide) ?_
                      exact jT (Or.inr ⟨(Int32.not_le.mp q25), (Int32.not_le.mp q26)⟩)
                · --
                  refine r_iload X (pc := 61) (i := 4) (zw_dg dk_M_layOut 40 rfl) rfl ?_
                  refine r_if_gt X (pc := 63) (tgt := 90) (zw_dg dk_M_layOut 41 rfl) (by decide) (fun q27 => ?_) (fun q27 => ?_)
                  · --
                    exact jT (Or.inl ⟨(Int32.not_le.mp q24), q27⟩)
                  · --
                    refine r_aload_n X (pc := 66) (i := 0) (zw_dg dk_M_layOut 42 rfl) rfl rfl ?_
                    refine r_getI X (pc := 67) ci_M (zo hS 71 rfl rfl) rfl lk_M_9 (zw_dg dk_M_layOut 43 rfl) ?_
                    refine r_iconst X (pc := 70) (v := 3) (zw_dg dk_M_layOut 44 rfl) (by decide) ?_
                    refine r_icmp_ge X (pc := 71) (tgt := 81) (zw_dg dk_M_layOut 45 rfl) (by decide) (fun q28 => ?_) (fun q28 => ?_)
                    · --
                      exact jF (fun q => q.elim (fun q => q27 q.2) (fun q => (Int32.not_lt.mpr q28) q.1))
                    · --
                      refine r_iload_n X (pc := 74) (i := 3) (zw_dg dk_M_layOut 46 rfl) rfl rfl ?_
                      refine r_if_le X (pc := 75) (tgt := 81) (zw_dg dk_M_layOut 47 rfl) (by decide) (fun q29 => ?_) (fun q29 => ?_)
                      · --
                        exact jF (fun q => q.elim (fun q => q27 q.2) (fun q => (Int32.not_lt.mpr q29) q.2))
                      · --
                        refine r_goto X (pc := 78) (tgt := 90) (zw_dg dk_M_layOut 48 rfl) (by decide) ?_
                        exact jT (Or.inr ⟨(Int32.not_le.mp q28), (Int32.not_le.mp q29)⟩)
              · --
                have hsem := zw_ifp p23 hsem
                refine r_iinc X (pc := 90) (i := 3) (k := 1) (zw_dg dk_M_layOut 55 rfl) rfl (by decide) (by decide) rfl ?_
                refine r_goto X (pc := 93) (tgt := 29) (zw_dg dk_M_layOut 56 rfl) (by decide) ?_
                have jj := hP _ (Option.some.inj hsem).symm
                exact (r_fgt [4] rfl jj)
              · --
                have hsem := zw_ifn p23 hsem
                refine r_aload_n X (pc := 81) (i := 0) (zw_dg dk_M_layOut 49 rfl) rfl rfl ?_
                refine r_iload_n X (pc := 82) (i := 1) (zw_dg dk_M_layOut 50 rfl) rfl rfl ?_
                refine r_iload_n X (pc := 83) (i := 2) (zw_dg dk_M_layOut 51 rfl) rfl rfl ?_
                refine r_iload_n X (pc := 84) (i := 3) (zw_dg dk_M_layOut 52 rfl) rfl rfl ?_
                refine r_iload X (pc := 85) (i := 4) (zw_dg dk_M_layOut 53 rfl) rfl ?_
                obtain ⟨c30, hc30, hsem⟩ := zw_bd hsem
                refine r_callVv X (pc := 87) (As := [_, _, _, _]) (st := []) (km_M_lay hS hc30) ce_M_lay kw_1456 (zo hS 71 rfl rfl) rfl rfl ⟨Nat.le_of_ble_eq_true rfl, Nat.le_of_ble_eq_true rfl⟩ (Nat.le_of_ble_eq_true rfl) (zw_dg dk_M_layOut 54 rfl) ?_
                refine r_iinc X (pc := 90) (i := 3) (k := 1) (zw_dg dk_M_layOut 55 rfl) rfl (by decide) (by decide) rfl ?_
                refine r_goto X (pc := 93) (tgt := 29) (zw_dg dk_M_layOut 56 rfl) (by decide) ?_
                have jj := hP _ (Option.some.inj hsem).symm
                exact (r_fgt [4] rfl jj)
          have hsem := hsl19
          refine r_iinc X (pc := 96) (i := 2) (k := 1) (zw_dg dk_M_layOut 57 rfl) rfl (by decide) (by decide) rfl ?_
          refine r_goto X (pc := 99) (tgt := 17) (zw_dg dk_M_layOut 58 rfl) (by decide) ?_
          have jj := hP _ (Option.some.inj hsem).symm
          exact (r_fgt [] rfl jj)
      have hsem := hsl13
      refine r_iinc X (pc := 102) (i := 1) (k := 1) (zw_dg dk_M_layOut 59 rfl) rfl (by decide) (by decide) rfl ?_
      refine r_goto X (pc := 105) (tgt := 7) (zw_dg dk_M_layOut 60 rfl) (by decide) ?_
      have jj := hP _ (Option.some.inj hsem).symm
      exact (r_fgt [] rfl jj)
  have hsem := hsl7
  cases hsem
  exact r_vret X (pc := 108) rfl (zw_dg dk_M_layOut 61 rfl)
def y_M_isSaying : MethodName := ⟨R_M, "isSaying", "(I)Z"⟩
abbrev b_M_isSaying : ByteArray := prog_14_method_9_code
def dl_M_isSaying : List (Nat × Instr × Nat) := [(0, .iload_n 1, 1), (1, .i2l, 1), (2, .lconst 0, 1), (3, .aload_n 0, 1), (4, .getfield 113, 3), (7, .iconst 1, 1), (8, .isub, 1), (9, .i2l, 1), (10, .invokestatic 120, 3), (13, .ireturn, 1)]
theorem dk_M_isSaying : zw_dk b_M_isSaying dl_M_isSaying = true := by decide +kernel
theorem ce_M_isSaying : zw_cev y_M_isSaying b_M_isSaying 2 (some .boolean) 1 := ⟨⟨kt_in 1612 (by decide +kernel) rfl, kt_in 98 (by decide +kernel) rfl, by decide +kernel⟩, kt_in 1611 (by decide +kernel) rfl, kt_in 41 (by decide +kernel) rfl⟩
def fn_M_isSaying (c : zw_Ct) (s1 : Int32) : Int32 :=
  (fn_M_in s1.toInt64 0 (((c.1 71 2) - 1)).toInt64)
theorem kb_M_isSaying (c : zw_Ct) (s1 : Int32) : fn_M_isSaying c s1 = 0 ∨ fn_M_isSaying c s1 = 1 := by
  unfold fn_M_isSaying
  first | exact zw_ite01 | exact kb_M_in ..
set_option maxRecDepth 100000 in
theorem km_M_isSaying {l : Launch} {g : zw_G} {rr : zw_RR} {sh : zw_Sh} {c : zw_Ct} {s1 : Int32} {r : Int32} (hS : zw_Ok 0 101 sh rr) (hsem : fn_M_isSaying c s1 = r) : zw_Met l g y_M_isSaying b_M_isSaying 2 (some .boolean) 2 rr sh [.ref 71, .int s1] c (some (.int r)) c := by
  unfold fn_M_isSaying at hsem
  refine zw_Met.of (by decide +kernel) (Nat.le_of_ble_eq_true rfl) (fun p e s m args below meth cd X => ?_)
  refine zw_eL (L2 := [some (.ref 71), some (.int s1)]) rfl ?_
  refine r_iload_n X (pc := 0) (i := 1) (zw_dg dk_M_isSaying 0 rfl) rfl rfl ?_
  refine r_i2l X (pc := 1) (zw_dg dk_M_isSaying 1 rfl)  ?_
  refine r_lconst X (pc := 2) (v := 0) (zw_dg dk_M_isSaying 2 rfl) (by decide) ?_
  refine r_aload_n X (pc := 3) (i := 0) (zw_dg dk_M_isSaying 3 rfl) rfl rfl ?_
  refine r_getI X (pc := 4) ci_M (zo hS 71 rfl rfl) rfl lk_M_113 (zw_dg dk_M_isSaying 4 rfl) ?_
  refine r_iconst X (pc := 7) (v := 1) (zw_dg dk_M_isSaying 5 rfl) (by decide) ?_
  refine r_isub X (pc := 8) (zw_dg dk_M_isSaying 6 rfl)  ?_
  refine r_i2l X (pc := 9) (zw_dg dk_M_isSaying 7 rfl)  ?_
  refine r_callSi X (pc := 10) (As := [_, _, _]) (st := []) (km_M_in hS rfl) ce_M_in kw_1597 rfl ⟨Nat.le_of_ble_eq_true rfl, Nat.le_of_ble_eq_true rfl⟩ (Nat.le_of_ble_eq_true rfl) (zw_dg dk_M_isSaying 8 rfl) ?_
  have hsem : ((fn_M_in s1.toInt64 0 (((c.1 71 2) - 1)).toInt64) : _) = r := hsem
  have hbz : ((fn_M_in s1.toInt64 0 (((c.1 71 2) - 1)).toInt64) : Int32) = 0 ∨ ((fn_M_in s1.toInt64 0 (((c.1 71 2) - 1)).toInt64) : Int32) = 1 := (kb_M_in _ _ _)
  cases hsem
  exact r_zret X (pc := 13) rfl (zw_bzn hbz).1 (zw_dg dk_M_isSaying 9 rfl)
def y_M_isEvent : MethodName := ⟨R_M, "isEvent", "(I)Z"⟩
abbrev b_M_isEvent : ByteArray := prog_14_method_10_code
def dl_M_isEvent : List (Nat × Instr × Nat) := [(0, .iload_n 1, 1), (1, .i2l, 1), (2, .lconst 0, 1), (3, .aload_n 0, 1), (4, .getfield 9, 3), (7, .iconst 1, 1), (8, .isub, 1), (9, .i2l, 1), (10, .invokestatic 120, 3), (13, .ireturn, 1)]
theorem dk_M_isEvent : zw_dk b_M_isEvent dl_M_isEvent = true := by decide +kernel
theorem ce_M_isEvent : zw_cev y_M_isEvent b_M_isEvent 2 (some .boolean) 1 := ⟨⟨kt_in 1616 (by decide +kernel) rfl, kt_in 98 (by decide +kernel) rfl, by decide +kernel⟩, kt_in 1615 (by decide +kernel) rfl, kt_in 42 (by decide +kernel) rfl⟩
def fn_M_isEvent (c : zw_Ct) (e2 : Int32) : Int32 :=
  (fn_M_in e2.toInt64 0 (((c.1 71 0) - 1)).toInt64)
theorem kb_M_isEvent (c : zw_Ct) (e2 : Int32) : fn_M_isEvent c e2 = 0 ∨ fn_M_isEvent c e2 = 1 := by
  unfold fn_M_isEvent
  first | exact zw_ite01 | exact kb_M_in ..
set_option maxRecDepth 100000 in
theorem km_M_isEvent {l : Launch} {g : zw_G} {rr : zw_RR} {sh : zw_Sh} {c : zw_Ct} {e2 : Int32} {r : Int32} (hS : zw_Ok 0 101 sh rr) (hsem : fn_M_isEvent c e2 = r) : zw_Met l g y_M_isEvent b_M_isEvent 2 (some .boolean) 2 rr sh [.ref 71, .int e2] c (some (.int r)) c := by
  unfold fn_M_isEvent at hsem
  refine zw_Met.of (by decide +kernel) (Nat.le_of_ble_eq_true rfl) (fun p e s m args below meth cd X => ?_)
  refine zw_eL (L2 := [some (.ref 71), some (.int e2)]) rfl ?_
  refine r_iload_n X (pc := 0) (i := 1) (zw_dg dk_M_isEvent 0 rfl) rfl rfl ?_
  refine r_i2l X (pc := 1) (zw_dg dk_M_isEvent 1 rfl)  ?_
  refine r_lconst X (pc := 2) (v := 0) (zw_dg dk_M_isEvent 2 rfl) (by decide) ?_
  refine r_aload_n X (pc := 3) (i := 0) (zw_dg dk_M_isEvent 3 rfl) rfl rfl ?_
  refine r_getI X (pc := 4) ci_M (zo hS 71 rfl rfl) rfl lk_M_9 (zw_dg dk_M_isEvent 4 rfl) ?_
  refine r_iconst X (pc := 7) (v := 1) (zw_dg dk_M_isEvent 5 rfl) (by decide) ?_
  refine r_isub X (pc := 8) (zw_dg dk_M_isEvent 6 rfl)  ?_
  refine r_i2l X (pc := 9) (zw_dg dk_M_isEvent 7 rfl)  ?_
  refine r_callSi X (pc := 10) (As := [_, _, _]) (st := []) (km_M_in hS rfl) ce_M_in kw_1597 rfl ⟨Nat.le_of_ble_eq_true rfl, Nat.le_of_ble_eq_true rfl⟩ (Nat.le_of_ble_eq_true rfl) (zw_dg dk_M_isEvent 8 rfl) ?_
  have hsem : ((fn_M_in e2.toInt64 0 (((c.1 71 0) - 1)).toInt64) : _) = r := hsem
  have hbz : ((fn_M_in e2.toInt64 0 (((c.1 71 0) - 1)).toInt64) : Int32) = 0 ∨ ((fn_M_in e2.toInt64 0 (((c.1 71 0) - 1)).toInt64) : Int32) = 1 := (kb_M_in _ _ _)
  cases hsem
  exact r_zret X (pc := 13) rfl (zw_bzn hbz).1 (zw_dg dk_M_isEvent 9 rfl)
def y_M_table : MethodName := ⟨R_M, "table", "(II)I"⟩
abbrev b_M_table : ByteArray := prog_14_method_11_code
def dl_M_table : List (Nat × Instr × Nat) := [(0, .aload_n 0, 1), (1, .iconst 0, 1), (2, .putfield 97, 3), (5, .iload_n 1, 1), (6, .i2l, 1), (7, .ldc2_w 124, 3), (10, .ldc2_w 126, 3), (13, .invokestatic 120, 3), (16, .ifCond .eq 15, 3), (19, .iload_n 2, 1), (20, .i2l, 1), (21, .lconst 1, 1), (22, .ldc2_w 128, 3), (25, .invokestatic 120, 3), (28, .ifCond .ne 5, 3), (31, .iconst (-1), 1), (32, .ireturn, 1), (33, .aload_n 0, 1), (34, .iload_n 1, 1), (35, .putfield 9, 3), (38, .aload_n 0, 1), (39, .iload_n 2, 1), (40, .putfield 13, 3), (43, .aload_n 0, 1), (44, .invokevirtual 94, 3), (47, .aload_n 0, 1), (48, .iconst 0, 1), (49, .putfield 130, 3), (52, .aload_n 0, 1), (53, .iconst 0, 1), (54, .putfield 133, 3), (57, .aload_n 0, 1), (58, .iconst 0, 1), (59, .putfield 136, 3), (62, .iconst 0, 1), (63, .istore_n 3, 1), (64, .iload_n 3, 1), (65, .iconst 4, 1), (66, .if_icmp .ge 16, 3), (69, .aload_n 0, 1), (70, .getfield 39, 3), (73, .iload_n 3, 1), (74, .iconst 0, 1), (75, .bastore, 1), (76, .iinc 3 1, 3), (79, .goto (-15), 3), (82, .aload_n 0, 1), (83, .dup, 1), (84, .getfield 139, 3), (87, .iconst 1, 1), (88, .iadd, 1), (89, .putfield 139, 3), (92, .aload_n 0, 1), (93, .getfield 113, 3), (96, .ireturn, 1)]
theorem dk_M_table : zw_dk b_M_table dl_M_table = true := by decide +kernel
theorem ce_M_table : zw_cev y_M_table b_M_table 4 (some .int) 2 := ⟨⟨kt_in 1594 (by decide +kernel) rfl, kt_in 98 (by decide +kernel) rfl, by decide +kernel⟩, kt_in 1592 (by decide +kernel) rfl, kt_in 1593 (by decide +kernel) rfl⟩
def fn_M_table_l1  : Int32 × zw_Ct → Option ((zw_Ct) ⊕ (Int32 × zw_Ct)) := fun (p14, c15) =>
  if (p14 < 4) then
  ((zw_uI 4 c15 82 p14 0).bind fun c20 =>
  some (.inr ((p14 + 1), c20)))
  else
  (some (.inl c15))
def fn_M_table (c : zw_Ct) (e2 : Int32) (s3 : Int32) : Option (Int32 × zw_Ct) :=
  (some (zw_wI c 71 9 0)).bind fun c4 =>
  if ((¬ (¬ (fn_M_in e2.toInt64 2 4) = 0)) ∨ (¬ (¬ (fn_M_in s3.toInt64 1 12) = 0))) then
  (some ((-1), c4))
  else
  ((some (zw_wI c4 71 0 e2)).bind fun c8 =>
  (some (zw_wI c8 71 1 s3)).bind fun c9 =>
  (fn_M_layOut c9).bind fun c10 =>
  (some (zw_wI c10 71 26 0)).bind fun c11 =>
  (some (zw_wI c11 71 33 0)).bind fun c12 =>
  (some (zw_wI c12 71 30 0)).bind fun c13 =>
  (zw_whl (fn_M_table_l1) zw_F (0, c13)).bind fun c16 =>
  (some (zw_wI c16 71 10 ((c16.1 71 10) + 1))).bind fun c21 =>
  some ((c21.1 71 2), c21))
set_option maxRecDepth 100000 in
theorem km_M_table {l : Launch} {g : zw_G} {rr : zw_RR} {sh : zw_Sh} {c : zw_Ct} {e2 : Int32} {s3 : Int32} {r : Int32} {c2 : zw_Ct} (hS : zw_Ok 0 101 sh rr) (hsem : fn_M_table c e2 s3 = some (r, c2)) : zw_Met l g y_M_table b_M_table 4 (some .int) 3 rr sh [.ref 71, .int e2, .int s3] c (some (.int r)) c2 := by
  unfold fn_M_table at hsem
  refine zw_Met.of (by decide +kernel) (Nat.le_of_ble_eq_true rfl) (fun p e s m args below meth cd X => ?_)
  refine zw_eL (L2 := [some (.ref 71), some (.int e2), some (.int s3), none]) rfl ?_
  refine r_aload_n X (pc := 0) (i := 0) (zw_dg dk_M_table 0 rfl) rfl rfl ?_
  refine r_iconst X (pc := 1) (v := 0) (zw_dg dk_M_table 1 rfl) (by decide) ?_
  refine r_putI X (pc := 2) ci_M (zo hS 71 rfl rfl) rfl lk_M_97 rfl ⟨rfl, rfl⟩ (zw_dg dk_M_table 2 rfl) ?_
  obtain ⟨c4, hc4, hsem⟩ := zw_bd hsem
  refine zw_topC hc4 ?_
  refine zw_cnd (P := ((¬ (¬ (fn_M_in e2.toInt64 2 4) = 0)) ∨ (¬ (¬ (fn_M_in s3.toInt64 1 12) = 0)))) (J1 := 31) (J2 := 33) (st2 := []) (fun jT jF => ?_) (fun p5 => ?_) (fun p5 => ?_)
  · --
    refine r_iload_n X (pc := 5) (i := 1) (zw_dg dk_M_table 3 rfl) rfl rfl ?_
    refine r_i2l X (pc := 6) (zw_dg dk_M_table 4 rfl)  ?_
    refine r_ldc2 X (pc := 7) (v := 2) kw_1595 (zw_dg dk_M_table 5 rfl) ?_
    refine r_ldc2 X (pc := 10) (v := 4) kw_1596 (zw_dg dk_M_table 6 rfl) ?_
    refine r_callSi X (pc := 13) (As := [_, _, _]) (st := []) (km_M_in hS rfl) ce_M_in kw_1597 rfl ⟨Nat.le_of_ble_eq_true rfl, Nat.le_of_ble_eq_true rfl⟩ (Nat.le_of_ble_eq_true rfl) (zw_dg dk_M_table 7 rfl) ?_
    refine r_if_eq X (pc := 16) (tgt := 31) (zw_dg dk_M_table 8 rfl) (by decide) (fun q6 => ?_) (fun q6 => ?_)
    · --
      exact jT (Or.inl (fun z => z q6))
    · --
      refine r_iload_n X (pc := 19) (i := 2) (zw_dg dk_M_table 9 rfl) rfl rfl ?_
      refine r_i2l X (pc := 20) (zw_dg dk_M_table 10 rfl)  ?_
      refine r_lconst X (pc := 21) (v := 1) (zw_dg dk_M_table 11 rfl) (by decide) ?_
      refine r_ldc2 X (pc := 22) (v := 12) kw_1600 (zw_dg dk_M_table 12 rfl) ?_
      refine r_callSi X (pc := 25) (As := [_, _, _]) (st := []) (km_M_in hS rfl) ce_M_in kw_1597 rfl ⟨Nat.le_of_ble_eq_true rfl, Nat.le_of_ble_eq_true rfl⟩ (Nat.le_of_ble_eq_true rfl) (zw_dg dk_M_table 13 rfl) ?_
      refine r_if_ne X (pc := 28) (tgt := 33) (zw_dg dk_M_table 14 rfl) (by decide) (fun q7 => ?_) (fun q7 => ?_)
      · --
        exact jF (fun q => q.elim (fun q => q q6) (fun q => q q7))
      · --
        exact jT (Or.inr (fun z => z q7))
  · --
    have hsem := zw_ifp p5 hsem
    refine r_iconst X (pc := 31) (v := (-1)) (zw_dg dk_M_table 15 rfl) (by decide) ?_
    obtain ⟨rfl, rfl⟩ := zw_in2 hsem
    exact r_iret X (pc := 32) rfl (zw_dg dk_M_table 16 rfl)
  · --
    have hsem := zw_ifn p5 hsem
    refine r_aload_n X (pc := 33) (i := 0) (zw_dg dk_M_table 17 rfl) rfl rfl ?_
    refine r_iload_n X (pc := 34) (i := 1) (zw_dg dk_M_table 18 rfl) rfl rfl ?_
    refine r_putI X (pc := 35) ci_M (zo hS 71 rfl rfl) rfl lk_M_9 rfl ⟨rfl, rfl⟩ (zw_dg dk_M_table 19 rfl) ?_
    obtain ⟨c8, hc8, hsem⟩ := zw_bd hsem
    refine zw_topC hc8 ?_
    refine r_aload_n X (pc := 38) (i := 0) (zw_dg dk_M_table 20 rfl) rfl rfl ?_
    refine r_iload_n X (pc := 39) (i := 2) (zw_dg dk_M_table 21 rfl) rfl rfl ?_
    refine r_putI X (pc := 40) ci_M (zo hS 71 rfl rfl) rfl lk_M_13 rfl ⟨rfl, rfl⟩ (zw_dg dk_M_table 22 rfl) ?_
    obtain ⟨c9, hc9, hsem⟩ := zw_bd hsem
    refine zw_topC hc9 ?_
    refine r_aload_n X (pc := 43) (i := 0) (zw_dg dk_M_table 23 rfl) rfl rfl ?_
    obtain ⟨c10, hc10, hsem⟩ := zw_bd hsem
    refine r_callVv X (pc := 44) (As := []) (st := []) (km_M_layOut (hS.mono (by decide) (by decide)) hc10) ce_M_layOut kw_1452 (zo hS 71 rfl rfl) rfl rfl ⟨Nat.le_of_ble_eq_true rfl, Nat.le_of_ble_eq_true rfl⟩ (Nat.le_of_ble_eq_true rfl) (zw_dg dk_M_table 24 rfl) ?_
    refine r_aload_n X (pc := 47) (i := 0) (zw_dg dk_M_table 25 rfl) rfl rfl ?_
    refine r_iconst X (pc := 48) (v := 0) (zw_dg dk_M_table 26 rfl) (by decide) ?_
    refine r_putI X (pc := 49) ci_M (zo hS 71 rfl rfl) rfl lk_M_130 rfl ⟨rfl, rfl⟩ (zw_dg dk_M_table 27 rfl) ?_
    obtain ⟨c11, hc11, hsem⟩ := zw_bd hsem
    refine zw_topC hc11 ?_
    refine r_aload_n X (pc := 52) (i := 0) (zw_dg dk_M_table 28 rfl) rfl rfl ?_
    refine r_iconst X (pc := 53) (v := 0) (zw_dg dk_M_table 29 rfl) (by decide) ?_
    refine r_putI X (pc := 54) ci_M (zo hS 71 rfl rfl) rfl lk_M_133 rfl ⟨rfl, rfl⟩ (zw_dg dk_M_table 30 rfl) ?_
    obtain ⟨c12, hc12, hsem⟩ := zw_bd hsem
    refine zw_topC hc12 ?_
    refine r_aload_n X (pc := 57) (i := 0) (zw_dg dk_M_table 31 rfl) rfl rfl ?_
    refine r_iconst X (pc := 58) (v := 0) (zw_dg dk_M_table 32 rfl) (by decide) ?_
    refine r_putI X (pc := 59) ci_M (zo hS 71 rfl rfl) rfl lk_M_136 rfl ⟨rfl, rfl⟩ (zw_dg dk_M_table 33 rfl) ?_
    obtain ⟨c13, hc13, hsem⟩ := zw_bd hsem
    refine zw_topC hc13 ?_
    refine r_iconst X (pc := 62) (v := 0) (zw_dg dk_M_table 34 rfl) (by decide) ?_
    refine r_istore_n X (pc := 63) (i := 3) (zw_dg dk_M_table 35 rfl) rfl (by decide) rfl ?_
    obtain ⟨c16, hl17, hsl17⟩ := zw_bd hsem
    refine r_loop (pc := 64) (pce := 82) hl17 (fun (p14, c15) => [some (.ref 71), some (.int e2), some (.int s3), some (.int p14)] : Int32 × zw_Ct → zw_Lc) (fun (p14, c15) => c15 : Int32 × zw_Ct → zw_Ct) (fun c16 => [some (.ref 71), some (.int e2), some (.int s3), none] : zw_Ct → zw_Lc) (fun c16 => c16 : zw_Ct → zw_Ct) ?_ rfl rfl ?_
    · rintro ⟨p14, c15⟩ rr hsem hK hP
      try unfold fn_M_table_l1 at hsem
      refine r_iload_n X (pc := 64) (i := 3) (zw_dg dk_M_table 36 rfl) rfl rfl ?_
      refine r_iconst X (pc := 65) (v := 4) (zw_dg dk_M_table 37 rfl) (by decide) ?_
      refine r_icmp_ge X (pc := 66) (tgt := 82) (zw_dg dk_M_table 38 rfl) (by decide) (fun q19 => ?_) (fun q19 => ?_)
      · --
        have p18 : ¬ (p14 < 4) := (Int32.not_lt.mpr q19)
        have hsem := zw_ifn p18 hsem
        have jj := hK _ (Option.some.inj hsem).symm
        exact (r_fgt [3] rfl jj)
      · --
        have p18 : (p14 < 4) := (Int32.not_le.mp q19)
        have hsem := zw_ifp p18 hsem
        refine r_aload_n X (pc := 69) (i := 0) (zw_dg dk_M_table 39 rfl) rfl rfl ?_
        refine r_getR X (pc := 70) (r := 82) ci_M (zo hS 71 rfl rfl) rfl (zr hS 71 13 rfl rfl) lk_M_39 (zw_dg dk_M_table 40 rfl) ?_
        refine r_iload_n X (pc := 73) (i := 3) (zw_dg dk_M_table 41 rfl) rfl rfl ?_
        refine r_iconst X (pc := 74) (v := 0) (zw_dg dk_M_table 42 rfl) (by decide) ?_
        obtain ⟨c20, hc20, hsem⟩ := zw_bd hsem
        refine r_zast X (pc := 75) (zo hS 82 rfl rfl) (by rw [(zw_bzn (by decide)).2.2]; exact hc20) (zw_dg dk_M_table 43 rfl) ?_
        refine r_iinc X (pc := 76) (i := 3) (k := 1) (zw_dg dk_M_table 44 rfl) rfl (by decide) (by decide) rfl ?_
        refine r_goto X (pc := 79) (tgt := 64) (zw_dg dk_M_table 45 rfl) (by decide) ?_
        have jj := hP _ (Option.some.inj hsem).symm
        exact (r_fgt [] rfl jj)
    have hsem := hsl17
    refine r_aload_n X (pc := 82) (i := 0) (zw_dg dk_M_table 46 rfl) rfl rfl ?_
    refine r_dup X (pc := 83) (zw_dg dk_M_table 47 rfl) rfl ?_
    refine r_getI X (pc := 84) ci_M (zo hS 71 rfl rfl) rfl lk_M_139 (zw_dg dk_M_table 48 rfl) ?_
    refine r_iconst X (pc := 87) (v := 1) (zw_dg dk_M_table 49 rfl) (by decide) ?_
    refine r_iadd X (pc := 88) (zw_dg dk_M_table 50 rfl)  ?_
    refine r_putI X (pc := 89) ci_M (zo hS 71 rfl rfl) rfl lk_M_139 rfl ⟨rfl, rfl⟩ (zw_dg dk_M_table 51 rfl) ?_
    obtain ⟨c21, hc21, hsem⟩ := zw_bd hsem
    refine zw_topC hc21 ?_
    refine r_aload_n X (pc := 92) (i := 0) (zw_dg dk_M_table 52 rfl) rfl rfl ?_
    refine r_getI X (pc := 93) ci_M (zo hS 71 rfl rfl) rfl lk_M_113 (zw_dg dk_M_table 53 rfl) ?_
    obtain ⟨rfl, rfl⟩ := zw_in2 hsem
    exact r_iret X (pc := 96) rfl (zw_dg dk_M_table 54 rfl)
def y_M_saying : MethodName := ⟨R_M, "saying", "(IIII)I"⟩
abbrev b_M_saying : ByteArray := prog_14_method_12_code
def dl_M_saying : List (Nat × Instr × Nat) := [(0, .aload_n 0, 1), (1, .iconst 0, 1), (2, .putfield 97, 3), (5, .iconst 0, 1), (6, .istore 5, 2), (8, .iload 5, 2), (10, .aload_n 0, 1), (11, .getfield 113, 3), (14, .if_icmp .ge 69, 3), (17, .iconst 4, 1), (18, .iload 5, 2), (20, .imul, 1), (21, .istore 6, 2), (23, .aload_n 0, 1), (24, .getfield 16, 3), (27, .iload 6, 2), (29, .iaload, 1), (30, .iload_n 1, 1), (31, .if_icmp .ne 46, 3), (34, .aload_n 0, 1), (35, .getfield 16, 3), (38, .iload 6, 2), (40, .iconst 1, 1), (41, .iadd, 1), (42, .iaload, 1), (43, .iload_n 2, 1), (44, .if_icmp .ne 33, 3), (47, .aload_n 0, 1), (48, .getfield 16, 3), (51, .iload 6, 2), (53, .iconst 2, 1), (54, .iadd, 1), (55, .iaload, 1), (56, .iload_n 3, 1), (57, .if_icmp .ne 20, 3), (60, .aload_n 0, 1), (61, .getfield 16, 3), (64, .iload 6, 2), (66, .iconst 3, 1), (67, .iadd, 1), (68, .iaload, 1), (69, .iload 4, 2), (71, .if_icmp .ne 6, 3), (74, .iload 5, 2), (76, .ireturn, 1), (77, .iinc 5 1, 3), (80, .goto (-72), 3), (83, .iconst (-1), 1), (84, .ireturn, 1)]
theorem dk_M_saying : zw_dk b_M_saying dl_M_saying = true := by decide +kernel
theorem ce_M_saying : zw_cev y_M_saying b_M_saying 7 (some .int) 4 := ⟨⟨kt_in 1604 (by decide +kernel) rfl, kt_in 98 (by decide +kernel) rfl, by decide +kernel⟩, kt_in 1602 (by decide +kernel) rfl, kt_in 1603 (by decide +kernel) rfl⟩
def fn_M_saying_l1 (c5 : zw_Ct) (a1 : Int32) (b2 : Int32) (c3 : Int32) (d4 : Int32) : Int32 → Option (((Int32 × zw_Ct) ⊕ (Unit)) ⊕ (Int32)) := fun s6 =>
  if (s6 < (c5.1 71 2)) then
  ((some ((4 * s6) : Int32)).bind fun k10 =>
  (zw_aI 1820 c5 72 k10).bind fun x11 =>
  (if (x11 = a1) then
  ((zw_aI 1820 c5 72 (k10 + 1)).bind fun x14 =>
  if (x14 = b2) then
  ((zw_aI 1820 c5 72 (k10 + 2)).bind fun x16 =>
  if (x16 = c3) then
  ((zw_aI 1820 c5 72 (k10 + 3)).bind fun x18 =>
  some (decide (x18 = d4)))
  else some false)
  else some false)
  else some false).bind fun b12 =>
  if b12 = true then
  (some (.inl (.inl (s6, c5))))
  else
  (some (.inr (s6 + 1))))
  else
  (some (.inl (.inr ())))
def fn_M_saying (c : zw_Ct) (a1 : Int32) (b2 : Int32) (c3 : Int32) (d4 : Int32) : Option (Int32 × zw_Ct) :=
  (some (zw_wI c 71 9 0)).bind fun c5 =>
  (zw_whl (fn_M_saying_l1 c5 a1 b2 c3 d4) zw_F 0).bind fun q => match q with
    | .inl w => some w
    | .inr _ =>
    some ((-1), c5)
set_option maxRecDepth 100000 in
theorem km_M_saying {l : Launch} {g : zw_G} {rr : zw_RR} {sh : zw_Sh} {c : zw_Ct} {a1 : Int32} {b2 : Int32} {c3 : Int32} {d4 : Int32} {r : Int32} {c2 : zw_Ct} (hS : zw_Ok 0 101 sh rr) (hsem : fn_M_saying c a1 b2 c3 d4 = some (r, c2)) : zw_Met l g y_M_saying b_M_saying 7 (some .int) 1 rr sh [.ref 71, .int a1, .int b2, .int c3, .int d4] c (some (.int r)) c2 := by
  unfold fn_M_saying at hsem
  refine zw_Met.of (by decide +kernel) (Nat.le_of_ble_eq_true rfl) (fun p e s m args below meth cd X => ?_)
  refine zw_eL (L2 := [some (.ref 71), some (.int a1), some (.int b2), some (.int c3), some (.int d4), none, none]) rfl ?_
  refine r_aload_n X (pc := 0) (i := 0) (zw_dg dk_M_saying 0 rfl) rfl rfl ?_
  refine r_iconst X (pc := 1) (v := 0) (zw_dg dk_M_saying 1 rfl) (by decide) ?_
  refine r_putI X (pc := 2) ci_M (zo hS 71 rfl rfl) rfl lk_M_97 rfl ⟨rfl, rfl⟩ (zw_dg dk_M_saying 2 rfl) ?_
  obtain ⟨c5, hc5, hsem⟩ := zw_bd hsem
  refine zw_topC hc5 ?_
  refine r_iconst X (pc := 5) (v := 0) (zw_dg dk_M_saying 3 rfl) (by decide) ?_
  refine r_istore X (pc := 6) (i := 5) (zw_dg dk_M_saying 4 rfl) (by decide) rfl ?_
  obtain ⟨l7, hl7, hsl7⟩ := zw_bd hsem
  refine r_loopR (pc := 8) (pce := 83) hl7 (fun s6 => [some (.ref 71), some (.int a1), some (.int b2), some (.int c3), some (.int d4), some (.int s6), none] : Int32 → zw_Lc) (fun s6 => c5 : Int32 → zw_Ct) (fun (_ : Unit) => [some (.ref 71), some (.int a1), some (.int b2), some (.int c3), some (.int d4), none, none] : Unit → zw_Lc) (fun (_ : Unit) => c5 : Unit → zw_Ct) (fun w => w = (r, c2)) ?_ rfl rfl ?_ ?_
  · rintro s6 rr hsem hR hK hP
    try unfold fn_M_saying_l1 at hsem
    refine r_iload X (pc := 8) (i := 5) (zw_dg dk_M_saying 5 rfl) rfl ?_
    refine r_aload_n X (pc := 10) (i := 0) (zw_dg dk_M_saying 6 rfl) rfl rfl ?_
    refine r_getI X (pc := 11) ci_M (zo hS 71 rfl rfl) rfl lk_M_113 (zw_dg dk_M_saying 7 rfl) ?_
    refine r_icmp_ge X (pc := 14) (tgt := 83) (zw_dg dk_M_saying 8 rfl) (by decide) (fun q9 => ?_) (fun q9 => ?_)
    · --
      have p8 : ¬ (s6 < (c5.1 71 2)) := (Int32.not_lt.mpr q9)
      have hsem := zw_ifn p8 hsem
      have jj := hK _ (Option.some.inj hsem).symm
      exact (r_fgt [5] rfl jj)
    · --
      have p8 : (s6 < (c5.1 71 2)) := (Int32.not_le.mp q9)
      have hsem := zw_ifp p8 hsem
      refine r_iconst X (pc := 17) (v := 4) (zw_dg dk_M_saying 9 rfl) (by decide) ?_
      refine r_iload X (pc := 18) (i := 5) (zw_dg dk_M_saying 10 rfl) rfl ?_
      refine r_imul X (pc := 20) (zw_dg dk_M_saying 11 rfl)  ?_
      obtain ⟨k10, hk10, hsem⟩ := zw_bd hsem
      refine zw_topI hk10 ?_
      refine r_istore X (pc := 21) (i := 6) (zw_dg dk_M_saying 12 rfl) (by decide) rfl ?_
      refine r_aload_n X (pc := 23) (i := 0) (zw_dg dk_M_saying 13 rfl) rfl rfl ?_
      refine r_getR X (pc := 24) (r := 72) ci_M (zo hS 71 rfl rfl) rfl (zr hS 71 3 rfl rfl) lk_M_16 (zw_dg dk_M_saying 14 rfl) ?_
      refine r_iload X (pc := 27) (i := 6) (zw_dg dk_M_saying 15 rfl) rfl ?_
      obtain ⟨x11, hx11, hsem⟩ := zw_bd hsem
      refine r_iald X (pc := 29) (zo hS 72 rfl rfl) hx11 (zw_dg dk_M_saying 16 rfl) ?_
      refine r_iload_n X (pc := 30) (i := 1) (zw_dg dk_M_saying 17 rfl) rfl rfl ?_
      obtain ⟨b12, hb12, hsb12⟩ := zw_bd hsem
      refine zw_cndB (b := b12) (J1 := 74) (J2 := 77) (st2 := []) (fun jT jF => ?_) (fun hbb12 => ?_) (fun hbb12 => ?_)
      · have hsem := hb12
        refine r_icmp_ne X (pc := 31) (tgt := 77) (zw_dg dk_M_saying 18 rfl) (by decide) (fun q13 => ?_) (fun q13 => ?_)
        · --
          have hsem := zw_ifn q13 hsem
          exact jF (Option.some.inj hsem).symm
        · --
          have hsem := zw_ifp q13 hsem
          refine r_aload_n X (pc := 34) (i := 0) (zw_dg dk_M_saying 19 rfl) rfl rfl ?_
          refine r_getR X (pc := 35) (r := 72) ci_M (zo hS 71 rfl rfl) rfl (zr hS 71 3 rfl rfl) lk_M_16 (zw_dg dk_M_saying 20 rfl) ?_
          refine r_iload X (pc := 38) (i := 6) (zw_dg dk_M_saying 21 rfl) rfl ?_
          refine r_iconst X (pc := 40) (v := 1) (zw_dg dk_M_saying 22 rfl) (by decide) ?_
          refine r_iadd X (pc := 41) (zw_dg dk_M_saying 23 rfl)  ?_
          obtain ⟨x14, hx14, hsem⟩ := zw_bd hsem
          refine r_iald X (pc := 42) (zo hS 72 rfl rfl) hx14 (zw_dg dk_M_saying 24 rfl) ?_
          refine r_iload_n X (pc := 43) (i := 2) (zw_dg dk_M_saying 25 rfl) rfl rfl ?_
          refine r_icmp_ne X (pc := 44) (tgt := 77) (zw_dg dk_M_saying 26 rfl) (by decide) (fun q15 => ?_) (fun q15 => ?_)
          · --
            have hsem := zw_ifn q15 hsem
            exact jF (Option.some.inj hsem).symm
          · --
            have hsem := zw_ifp q15 hsem
            refine r_aload_n X (pc := 47) (i := 0) (zw_dg dk_M_saying 27 rfl) rfl rfl ?_
            refine r_getR X (pc := 48) (r := 72) ci_M (zo hS 71 rfl rfl) rfl (zr hS 71 3 rfl rfl) lk_M_16 (zw_dg dk_M_saying 28 rfl) ?_
            refine r_iload X (pc := 51) (i := 6) (zw_dg dk_M_saying 29 rfl) rfl ?_
            refine r_iconst X (pc := 53) (v := 2) (zw_dg dk_M_saying 30 rfl) (by decide) ?_
            refine r_iadd X (pc := 54) (zw_dg dk_M_saying 31 rfl)  ?_
            obtain ⟨x16, hx16, hsem⟩ := zw_bd hsem
            refine r_iald X (pc := 55) (zo hS 72 rfl rfl) hx16 (zw_dg dk_M_saying 32 rfl) ?_
            refine r_iload_n X (pc := 56) (i := 3) (zw_dg dk_M_saying 33 rfl) rfl rfl ?_
            refine r_icmp_ne X (pc := 57) (tgt := 77) (zw_dg dk_M_saying 34 rfl) (by decide) (fun q17 => ?_) (fun q17 => ?_)
            · --
              have hsem := zw_ifn q17 hsem
              exact jF (Option.some.inj hsem).symm
            · --
              have hsem := zw_ifp q17 hsem
              refine r_aload_n X (pc := 60) (i := 0) (zw_dg dk_M_saying 35 rfl) rfl rfl ?_
              refine r_getR X (pc := 61) (r := 72) ci_M (zo hS 71 rfl rfl) rfl (zr hS 71 3 rfl rfl) lk_M_16 (zw_dg dk_M_saying 36 rfl) ?_
              refine r_iload X (pc := 64) (i := 6) (zw_dg dk_M_saying 37 rfl) rfl ?_
              refine r_iconst X (pc := 66) (v := 3) (zw_dg dk_M_saying 38 rfl) (by decide) ?_
              refine r_iadd X (pc := 67) (zw_dg dk_M_saying 39 rfl)  ?_
              obtain ⟨x18, hx18, hsem⟩ := zw_bd hsem
              refine r_iald X (pc := 68) (zo hS 72 rfl rfl) hx18 (zw_dg dk_M_saying 40 rfl) ?_
              refine r_iload X (pc := 69) (i := 4) (zw_dg dk_M_saying 41 rfl) rfl ?_
              refine r_icmp_ne X (pc := 71) (tgt := 77) (zw_dg dk_M_saying 42 rfl) (by decide) (fun q19 => ?_) (fun q19 => ?_)
              · --
                exact jF (zw_dF hsem q19)
              · --
                exact jT (zw_dT hsem q19)
      · have hsem := zw_ifp hbb12 hsb12
        refine r_iload X (pc := 74) (i := 5) (zw_dg dk_M_saying 43 rfl) rfl ?_
        have hret := hR _ (Option.some.inj hsem).symm
        cases hret
        exact r_iret X (pc := 76) rfl (zw_dg dk_M_saying 44 rfl)
      · have hsem := zw_ifn (by rw [hbb12]; exact Bool.false_ne_true) hsb12
        refine r_iinc X (pc := 77) (i := 5) (k := 1) (zw_dg dk_M_saying 45 rfl) rfl (by decide) (by decide) rfl ?_
        refine r_goto X (pc := 80) (tgt := 8) (zw_dg dk_M_saying 46 rfl) (by decide) ?_
        have jj := hP _ (Option.some.inj hsem).symm
        exact (r_fgt [6] rfl jj)
  · intro w hw
    subst hw
    exact Option.some.inj hsl7
  rintro _u hw
  subst hw
  have hsem := hsl7
  refine r_iconst X (pc := 83) (v := (-1)) (zw_dg dk_M_saying 47 rfl) (by decide) ?_
  obtain ⟨rfl, rfl⟩ := zw_in2 hsem
  exact r_iret X (pc := 84) rfl (zw_dg dk_M_saying 48 rfl)
def y_M_part : MethodName := ⟨R_M, "part", "(II)I"⟩
abbrev b_M_part : ByteArray := prog_14_method_13_code
def dl_M_part : List (Nat × Instr × Nat) := [(0, .aload_n 0, 1), (1, .iconst 0, 1), (2, .putfield 97, 3), (5, .aload_n 0, 1), (6, .iload_n 1, 1), (7, .invokevirtual 142, 3), (10, .ifCond .eq 24, 3), (13, .aload_n 0, 1), (14, .iload_n 2, 1), (15, .invokevirtual 146, 3), (18, .ifCond .eq 16, 3), (21, .aload_n 0, 1), (22, .getfield 16, 3), (25, .iconst 4, 1), (26, .iload_n 1, 1), (27, .imul, 1), (28, .iload_n 2, 1), (29, .iadd, 1), (30, .iaload, 1), (31, .goto 7, 3), (34, .aload_n 0, 1), (35, .invokevirtual 149, 3), (38, .ireturn, 1)]
theorem dk_M_part : zw_dk b_M_part dl_M_part = true := by decide +kernel
theorem ce_M_part : zw_cev y_M_part b_M_part 3 (some .int) 2 := ⟨⟨kt_in 1608 (by decide +kernel) rfl, kt_in 98 (by decide +kernel) rfl, by decide +kernel⟩, kt_in 1606 (by decide +kernel) rfl, kt_in 1607 (by decide +kernel) rfl⟩
def fn_M_part (c : zw_Ct) (s1 : Int32) (e2 : Int32) : Option (Int32 × zw_Ct) :=
  (some (zw_wI c 71 9 0)).bind fun c3 =>
  (if ((¬ (fn_M_isSaying c3 s1) = 0) ∧ (¬ (fn_M_isEvent c3 e2) = 0)) then
  ((zw_aI 1820 c3 72 ((4 * s1) + e2)).bind fun x9 =>
  some ((x9 : Int32), c3))
  else
  ((fn_M_lost c3).bind fun (r10, c11) =>
  some ((r10 : Int32), c11))).bind fun (v4, c5) =>
  some (v4, c5)
set_option maxRecDepth 100000 in
theorem km_M_part {l : Launch} {g : zw_G} {rr : zw_RR} {sh : zw_Sh} {c : zw_Ct} {s1 : Int32} {e2 : Int32} {r : Int32} {c2 : zw_Ct} (hS : zw_Ok 0 101 sh rr) (hsem : fn_M_part c s1 e2 = some (r, c2)) : zw_Met l g y_M_part b_M_part 3 (some .int) 3 rr sh [.ref 71, .int s1, .int e2] c (some (.int r)) c2 := by
  unfold fn_M_part at hsem
  refine zw_Met.of (by decide +kernel) (Nat.le_of_ble_eq_true rfl) (fun p e s m args below meth cd X => ?_)
  refine zw_eL (L2 := [some (.ref 71), some (.int s1), some (.int e2)]) rfl ?_
  refine r_aload_n X (pc := 0) (i := 0) (zw_dg dk_M_part 0 rfl) rfl rfl ?_
  refine r_iconst X (pc := 1) (v := 0) (zw_dg dk_M_part 1 rfl) (by decide) ?_
  refine r_putI X (pc := 2) ci_M (zo hS 71 rfl rfl) rfl lk_M_97 rfl ⟨rfl, rfl⟩ (zw_dg dk_M_part 2 rfl) ?_
  obtain ⟨c3, hc3, hsem⟩ := zw_bd hsem
  refine zw_topC hc3 ?_
  obtain ⟨⟨v4, c5⟩, hv4, hsv4⟩ := zw_bd hsem
  refine zw_terO (f := Value.int) (v := v4) (J := 38) (st2 := []) (c2 := c5) (fun jj => ?_) ?_
  · have hsem := hv4
    refine zw_cnd (P := ((¬ (fn_M_isSaying c3 s1) = 0) ∧ (¬ (fn_M_isEvent c3 e2) = 0))) (J1 := 21) (J2 := 34) (st2 := []) (fun jT jF => ?_) (fun p6 => ?_) (fun p6 => ?_)
    · --
      refine r_aload_n X (pc := 5) (i := 0) (zw_dg dk_M_part 3 rfl) rfl rfl ?_
      refine r_iload_n X (pc := 6) (i := 1) (zw_dg dk_M_part 4 rfl) rfl rfl ?_
      refine r_callVi X (pc := 7) (As := [_]) (st := []) (km_M_isSaying hS rfl) ce_M_isSaying kw_1609 (zo hS 71 rfl rfl) rfl rfl ⟨Nat.le_of_ble_eq_true rfl, Nat.le_of_ble_eq_true rfl⟩ (Nat.le_of_ble_eq_true rfl) (zw_dg dk_M_part 5 rfl) ?_
      refine r_if_eq X (pc := 10) (tgt := 34) (zw_dg dk_M_part 6 rfl) (by decide) (fun q7 => ?_) (fun q7 => ?_)
      · --
        exact jF (fun q => (fun z => z q7) q.1)
      · --
        refine r_aload_n X (pc := 13) (i := 0) (zw_dg dk_M_part 7 rfl) rfl rfl ?_
        refine r_iload_n X (pc := 14) (i := 2) (zw_dg dk_M_part 8 rfl) rfl rfl ?_
        refine r_callVi X (pc := 15) (As := [_]) (st := []) (km_M_isEvent hS rfl) ce_M_isEvent kw_1613 (zo hS 71 rfl rfl) rfl rfl ⟨Nat.le_of_ble_eq_true rfl, Nat.le_of_ble_eq_true rfl⟩ (Nat.le_of_ble_eq_true rfl) (zw_dg dk_M_part 9 rfl) ?_
        refine r_if_eq X (pc := 18) (tgt := 34) (zw_dg dk_M_part 10 rfl) (by decide) (fun q8 => ?_) (fun q8 => ?_)
        · --
          exact jF (fun q => (fun z => z q8) q.2)
        · --
          exact jT ⟨q7, q8⟩
    · --
      have hsem := zw_ifp p6 hsem
      refine r_aload_n X (pc := 21) (i := 0) (zw_dg dk_M_part 11 rfl) rfl rfl ?_
      refine r_getR X (pc := 22) (r := 72) ci_M (zo hS 71 rfl rfl) rfl (zr hS 71 3 rfl rfl) lk_M_16 (zw_dg dk_M_part 12 rfl) ?_
      refine r_iconst X (pc := 25) (v := 4) (zw_dg dk_M_part 13 rfl) (by decide) ?_
      refine r_iload_n X (pc := 26) (i := 1) (zw_dg dk_M_part 14 rfl) rfl rfl ?_
      refine r_imul X (pc := 27) (zw_dg dk_M_part 15 rfl)  ?_
      refine r_iload_n X (pc := 28) (i := 2) (zw_dg dk_M_part 16 rfl) rfl rfl ?_
      refine r_iadd X (pc := 29) (zw_dg dk_M_part 17 rfl)  ?_
      obtain ⟨x9, hx9, hsem⟩ := zw_bd hsem
      refine r_iald X (pc := 30) (zo hS 72 rfl rfl) hx9 (zw_dg dk_M_part 18 rfl) ?_
      refine r_goto X (pc := 31) (tgt := 38) (zw_dg dk_M_part 19 rfl) (by decide) ?_
      cases hsem; exact jj
    · --
      have hsem := zw_ifn p6 hsem
      refine r_aload_n X (pc := 34) (i := 0) (zw_dg dk_M_part 20 rfl) rfl rfl ?_
      obtain ⟨⟨r10, c11⟩, hr10_c11, hsem⟩ := zw_bd hsem
      refine r_callVi X (pc := 35) (As := []) (st := []) (km_M_lost hS hr10_c11) ce_M_lost kw_1617 (zo hS 71 rfl rfl) rfl rfl ⟨Nat.le_of_ble_eq_true rfl, Nat.le_of_ble_eq_true rfl⟩ (Nat.le_of_ble_eq_true rfl) (zw_dg dk_M_part 21 rfl) ?_
      cases hsem; exact jj
  have hsem := hsv4
  obtain ⟨rfl, rfl⟩ := zw_in2 hsem
  exact r_iret X (pc := 38) rfl (zw_dg dk_M_part 22 rfl)
def y_M_turn : MethodName := ⟨R_M, "turn", "(II)I"⟩
abbrev b_M_turn : ByteArray := prog_14_method_14_code
def dl_M_turn : List (Nat × Instr × Nat) := [(0, .aload_n 0, 1), (1, .iconst 0, 1), (2, .putfield 97, 3), (5, .iload_n 1, 1), (6, .i2l, 1), (7, .lconst 0, 1), (8, .ldc2_w 128, 3), (11, .invokestatic 120, 3), (14, .ifCond .eq 17, 3), (17, .iload_n 2, 1), (18, .i2l, 1), (19, .ldc2_w 153, 3), (22, .ldc2_w 155, 3), (25, .invokestatic 120, 3), (28, .ifCond .ne 5, 3), (31, .iconst (-1), 1), (32, .ireturn, 1), (33, .aload_n 0, 1), (34, .getfield 20, 3), (37, .iload_n 1, 1), (38, .iaload, 1), (39, .istore_n 3, 1), (40, .aload_n 0, 1), (41, .getfield 20, 3), (44, .iload_n 1, 1), (45, .iload_n 2, 1), (46, .iastore, 1), (47, .iload_n 3, 1), (48, .ireturn, 1)]
theorem dk_M_turn : zw_dk b_M_turn dl_M_turn = true := by decide +kernel
theorem ce_M_turn : zw_cev y_M_turn b_M_turn 4 (some .int) 2 := ⟨⟨kt_in 1624 (by decide +kernel) rfl, kt_in 98 (by decide +kernel) rfl, by decide +kernel⟩, kt_in 1622 (by decide +kernel) rfl, kt_in 1623 (by decide +kernel) rfl⟩
def fn_M_turn (c : zw_Ct) (at1 : Int32) (v2 : Int32) : Option (Int32 × zw_Ct) :=
  (some (zw_wI c 71 9 0)).bind fun c3 =>
  if ((¬ (¬ (fn_M_in at1.toInt64 0 12) = 0)) ∨ (¬ (¬ (fn_M_in v2.toInt64 (-9999) 9999) = 0))) then
  (some ((-1), c3))
  else
  ((zw_aI 13 c3 73 at1).bind fun x7 =>
  (zw_uI 13 c3 73 at1 v2).bind fun c8 =>
  some (x7, c8))
set_option maxRecDepth 100000 in
theorem km_M_turn {l : Launch} {g : zw_G} {rr : zw_RR} {sh : zw_Sh} {c : zw_Ct} {at1 : Int32} {v2 : Int32} {r : Int32} {c2 : zw_Ct} (hS : zw_Ok 0 101 sh rr) (hsem : fn_M_turn c at1 v2 = some (r, c2)) : zw_Met l g y_M_turn b_M_turn 4 (some .int) 2 rr sh [.ref 71, .int at1, .int v2] c (some (.int r)) c2 := by
  unfold fn_M_turn at hsem
  refine zw_Met.of (by decide +kernel) (Nat.le_of_ble_eq_true rfl) (fun p e s m args below meth cd X => ?_)
  refine zw_eL (L2 := [some (.ref 71), some (.int at1), some (.int v2), none]) rfl ?_
  refine r_aload_n X (pc := 0) (i := 0) (zw_dg dk_M_turn 0 rfl) rfl rfl ?_
  refine r_iconst X (pc := 1) (v := 0) (zw_dg dk_M_turn 1 rfl) (by decide) ?_
  refine r_putI X (pc := 2) ci_M (zo hS 71 rfl rfl) rfl lk_M_97 rfl ⟨rfl, rfl⟩ (zw_dg dk_M_turn 2 rfl) ?_
  obtain ⟨c3, hc3, hsem⟩ := zw_bd hsem
  refine zw_topC hc3 ?_
  refine zw_cnd (P := ((¬ (¬ (fn_M_in at1.toInt64 0 12) = 0)) ∨ (¬ (¬ (fn_M_in v2.toInt64 (-9999) 9999) = 0)))) (J1 := 31) (J2 := 33) (st2 := []) (fun jT jF => ?_) (fun p4 => ?_) (fun p4 => ?_)
  · --
    refine r_iload_n X (pc := 5) (i := 1) (zw_dg dk_M_turn 3 rfl) rfl rfl ?_
    refine r_i2l X (pc := 6) (zw_dg dk_M_turn 4 rfl)  ?_
    refine r_lconst X (pc := 7) (v := 0) (zw_dg dk_M_turn 5 rfl) (by decide) ?_
    refine r_ldc2 X (pc := 8) (v := 12) kw_1600 (zw_dg dk_M_turn 6 rfl) ?_
    refine r_callSi X (pc := 11) (As := [_, _, _]) (st := []) (km_M_in hS rfl) ce_M_in kw_1597 rfl ⟨Nat.le_of_ble_eq_true rfl, Nat.le_of_ble_eq_true rfl⟩ (Nat.le_of_ble_eq_true rfl) (zw_dg dk_M_turn 7 rfl) ?_
    refine r_if_eq X (pc := 14) (tgt := 31) (zw_dg dk_M_turn 8 rfl) (by decide) (fun q5 => ?_) (fun q5 => ?_)
    · --
      exact jT (Or.inl (fun z => z q5))
    · --
      refine r_iload_n X (pc := 17) (i := 2) (zw_dg dk_M_turn 9 rfl) rfl rfl ?_
      refine r_i2l X (pc := 18) (zw_dg dk_M_turn 10 rfl)  ?_
      refine r_ldc2 X (pc := 19) (v := (-9999)) kw_1625 (zw_dg dk_M_turn 11 rfl) ?_
      refine r_ldc2 X (pc := 22) (v := 9999) kw_1626 (zw_dg dk_M_turn 12 rfl) ?_
      refine r_callSi X (pc := 25) (As := [_, _, _]) (st := []) (km_M_in hS rfl) ce_M_in kw_1597 rfl ⟨Nat.le_of_ble_eq_true rfl, Nat.le_of_ble_eq_true rfl⟩ (Nat.le_of_ble_eq_true rfl) (zw_dg dk_M_turn 13 rfl) ?_
      refine r_if_ne X (pc := 28) (tgt := 33) (zw_dg dk_M_turn 14 rfl) (by decide) (fun q6 => ?_) (fun q6 => ?_)
      · --
        exact jF (fun q => q.elim (fun q => q q5) (fun q => q q6))
      · --
        exact jT (Or.inr (fun z => z q6))
  · --
    have hsem := zw_ifp p4 hsem
    refine r_iconst X (pc := 31) (v := (-1)) (zw_dg dk_M_turn 15 rfl) (by decide) ?_
    obtain ⟨rfl, rfl⟩ := zw_in2 hsem
    exact r_iret X (pc := 32) rfl (zw_dg dk_M_turn 16 rfl)
  · --
    have hsem := zw_ifn p4 hsem
    refine r_aload_n X (pc := 33) (i := 0) (zw_dg dk_M_turn 17 rfl) rfl rfl ?_
    refine r_getR X (pc := 34) (r := 73) ci_M (zo hS 71 rfl rfl) rfl (zr hS 71 4 rfl rfl) lk_M_20 (zw_dg dk_M_turn 18 rfl) ?_
    refine r_iload_n X (pc := 37) (i := 1) (zw_dg dk_M_turn 19 rfl) rfl rfl ?_
    obtain ⟨x7, hx7, hsem⟩ := zw_bd hsem
    refine r_iald X (pc := 38) (zo hS 73 rfl rfl) hx7 (zw_dg dk_M_turn 20 rfl) ?_
    refine r_istore_n X (pc := 39) (i := 3) (zw_dg dk_M_turn 21 rfl) rfl (by decide) rfl ?_
    refine r_aload_n X (pc := 40) (i := 0) (zw_dg dk_M_turn 22 rfl) rfl rfl ?_
    refine r_getR X (pc := 41) (r := 73) ci_M (zo hS 71 rfl rfl) rfl (zr hS 71 4 rfl rfl) lk_M_20 (zw_dg dk_M_turn 23 rfl) ?_
    refine r_iload_n X (pc := 44) (i := 1) (zw_dg dk_M_turn 24 rfl) rfl rfl ?_
    refine r_iload_n X (pc := 45) (i := 2) (zw_dg dk_M_turn 25 rfl) rfl rfl ?_
    obtain ⟨c8, hc8, hsem⟩ := zw_bd hsem
    refine r_iast X (pc := 46) (zo hS 73 rfl rfl) hc8 (zw_dg dk_M_turn 26 rfl) ?_
    refine r_iload_n X (pc := 47) (i := 3) (zw_dg dk_M_turn 27 rfl) rfl rfl ?_
    obtain ⟨rfl, rfl⟩ := zw_in2 hsem
    exact r_iret X (pc := 48) rfl (zw_dg dk_M_turn 28 rfl)
def y_M_sheet : MethodName := ⟨R_M, "sheet", "(IIII)I"⟩
abbrev b_M_sheet : ByteArray := prog_14_method_15_code
def dl_M_sheet : List (Nat × Instr × Nat) := [(0, .aload_n 0, 1), (1, .iconst 0, 1), (2, .putfield 97, 3), (5, .iload_n 1, 1), (6, .i2l, 1), (7, .lconst 0, 1), (8, .ldc2_w 157, 3), (11, .invokestatic 120, 3), (14, .ifCond .eq 9, 3), (17, .iload_n 2, 1), (18, .bipush 13, 2), (20, .if_icmp .le 5, 3), (23, .iconst (-1), 1), (24, .ireturn, 1), (25, .iload_n 1, 1), (26, .iconst 3, 1), (27, .if_icmp .ge 10, 3), (30, .iload_n 2, 1), (31, .ifCond .ge 6, 3), (34, .bipush (-2), 2), (36, .ireturn, 1), (37, .iconst 0, 1), (38, .istore 5, 2), (40, .iload_n 3, 1), (41, .istore 6, 2), (43, .iconst 0, 1), (44, .istore 7, 2), (46, .iload 7, 2), (48, .bipush 13, 2), (50, .if_icmp .ge 93, 3), (53, .iload_n 1, 1), (54, .ifCond .ne 9, 3), (57, .iload 6, 2), (59, .i2b, 1), (60, .goto 16, 3), (63, .iload_n 1, 1), (64, .iconst 1, 1), (65, .if_icmp .ne 9, 3), (68, .iload 6, 2), (70, .i2s, 1), (71, .goto 5, 3), (74, .iload 6, 2), (76, .istore 8, 2), (78, .aload_n 0, 1), (79, .getfield 20, 3), (82, .iload 7, 2), (84, .iload_n 1, 1), (85, .iconst 3, 1), (86, .if_icmp .eq 9, 3), (89, .iload 7, 2), (91, .iload_n 2, 1), (92, .if_icmp .lt 11, 3), (95, .iload 7, 2), (97, .iload 7, 2), (99, .imul, 1), (100, .goto 17, 3), (103, .sipush (-9999), 3), (106, .sipush 9999, 3), (109, .iload 8, 2), (111, .invokestatic 159, 3), (114, .invokestatic 163, 3), (117, .iastore, 1), (118, .iload 5, 2), (120, .aload_n 0, 1), (121, .getfield 20, 3), (124, .iload 7, 2), (126, .iaload, 1), (127, .iadd, 1), (128, .istore 5, 2), (130, .iload 6, 2), (132, .iload 4, 2), (134, .iadd, 1), (135, .istore 6, 2), (137, .iinc 7 1, 3), (140, .goto (-94), 3), (143, .iload_n 1, 1), (144, .iconst 3, 1), (145, .if_icmp .ne 8, 3), (148, .bipush (-3), 2), (150, .goto 5, 3), (153, .iload 5, 2), (155, .ireturn, 1)]
theorem dk_M_sheet : zw_dk b_M_sheet dl_M_sheet = true := by decide +kernel
theorem ce_M_sheet : zw_cev y_M_sheet b_M_sheet 9 (some .int) 4 := ⟨⟨kt_in 1630 (by decide +kernel) rfl, kt_in 98 (by decide +kernel) rfl, by decide +kernel⟩, kt_in 1628 (by decide +kernel) rfl, kt_in 1629 (by decide +kernel) rfl⟩
def fn_M_sheet_l1 (kind1 : Int32) (n2 : Int32) (step4 : Int32) : Int32 × Int32 × Int32 × zw_Ct → Option ((Int32 × Int32 × zw_Ct) ⊕ (Int32 × Int32 × Int32 × zw_Ct)) := fun (sum12, v13, k14, c15) =>
  if (k14 < 13) then
  ((some ((if (kind1 = 0) then (v13.toInt8.toInt32 : Int32) else (if (kind1 = 1) then (v13.toInt16.toInt32 : Int32) else v13)) : Int32)).bind fun e24 =>
  (zw_uI 13 c15 73 k14 (if ((kind1 = 3) ∨ (n2 ≤ k14)) then ((k14 * k14) : Int32) else (if (-9999) < (if e24 < 9999 then e24 else 9999) then (if e24 < 9999 then e24 else 9999) else (-9999)))).bind fun c27 =>
  (zw_aI 13 c27 73 k14).bind fun x28 =>
  (some ((sum12 + x28) : Int32)).bind fun sum29 =>
  (some ((v13 + step4) : Int32)).bind fun v30 =>
  some (.inr (sum29, v30, (k14 + 1), c27)))
  else
  (some (.inl (sum12, v13, c15)))
def fn_M_sheet (c : zw_Ct) (kind1 : Int32) (n2 : Int32) (f3 : Int32) (step4 : Int32) : Option (Int32 × zw_Ct) :=
  (some (zw_wI c 71 9 0)).bind fun c5 =>
  if ((¬ (¬ (fn_M_in kind1.toInt64 0 3) = 0)) ∨ (13 < n2)) then
  (some ((-1), c5))
  else
  (if ((kind1 < 3) ∧ (n2 < 0)) then
  (some ((-2), c5))
  else
  ((zw_whl (fn_M_sheet_l1 kind1 n2 step4) zw_F (0, f3, 0, c5)).bind fun (sum16, v17, c18) =>
  some ((if (kind1 = 3) then ((-3) : Int32) else sum16), c18)))
set_option maxRecDepth 100000 in
theorem km_M_sheet {l : Launch} {g : zw_G} {rr : zw_RR} {sh : zw_Sh} {c : zw_Ct} {kind1 : Int32} {n2 : Int32} {f3 : Int32} {step4 : Int32} {r : Int32} {c2 : zw_Ct} (hS : zw_Ok 0 101 sh rr) (hsem : fn_M_sheet c kind1 n2 f3 step4 = some (r, c2)) : zw_Met l g y_M_sheet b_M_sheet 9 (some .int) 2 rr sh [.ref 71, .int kind1, .int n2, .int f3, .int step4] c (some (.int r)) c2 := by
  unfold fn_M_sheet at hsem
  refine zw_Met.of (by decide +kernel) (Nat.le_of_ble_eq_true rfl) (fun p e s m args below meth cd X => ?_)
  refine zw_eL (L2 := [some (.ref 71), some (.int kind1), some (.int n2), some (.int f3), some (.int step4), none, none, none, none]) rfl ?_
  refine r_aload_n X (pc := 0) (i := 0) (zw_dg dk_M_sheet 0 rfl) rfl rfl ?_
  refine r_iconst X (pc := 1) (v := 0) (zw_dg dk_M_sheet 1 rfl) (by decide) ?_
  refine r_putI X (pc := 2) ci_M (zo hS 71 rfl rfl) rfl lk_M_97 rfl ⟨rfl, rfl⟩ (zw_dg dk_M_sheet 2 rfl) ?_
  obtain ⟨c5, hc5, hsem⟩ := zw_bd hsem
  refine zw_topC hc5 ?_
  refine zw_cnd (P := ((¬ (¬ (fn_M_in kind1.toInt64 0 3) = 0)) ∨ (13 < n2))) (J1 := 23) (J2 := 25) (st2 := []) (fun jT jF => ?_) (fun p6 => ?_) (fun p6 => ?_)
  · --
    refine r_iload_n X (pc := 5) (i := 1) (zw_dg dk_M_sheet 3 rfl) rfl rfl ?_
    refine r_i2l X (pc := 6) (zw_dg dk_M_sheet 4 rfl)  ?_
    refine r_lconst X (pc := 7) (v := 0) (zw_dg dk_M_sheet 5 rfl) (by decide) ?_
    refine r_ldc2 X (pc := 8) (v := 3) kw_1631 (zw_dg dk_M_sheet 6 rfl) ?_
    refine r_callSi X (pc := 11) (As := [_, _, _]) (st := []) (km_M_in hS rfl) ce_M_in kw_1597 rfl ⟨Nat.le_of_ble_eq_true rfl, Nat.le_of_ble_eq_true rfl⟩ (Nat.le_of_ble_eq_true rfl) (zw_dg dk_M_sheet 7 rfl) ?_
    refine r_if_eq X (pc := 14) (tgt := 23) (zw_dg dk_M_sheet 8 rfl) (by decide) (fun q7 => ?_) (fun q7 => ?_)
    · --
      exact jT (Or.inl (fun z => z q7))
    · --
      refine r_iload_n X (pc := 17) (i := 2) (zw_dg dk_M_sheet 9 rfl) rfl rfl ?_
      refine r_bipush X (pc := 18) (v := 13) (zw_dg dk_M_sheet 10 rfl) (by decide) ?_
      refine r_icmp_le X (pc := 20) (tgt := 25) (zw_dg dk_M_sheet 11 rfl) (by decide) (fun q8 => ?_) (fun q8 => ?_)
      · --
        exact jF (fun q => q.elim (fun q => q q7) (Int32.not_lt.mpr q8))
      · --
        exact jT (Or.inr (Int32.not_le.mp q8))
  · --
    have hsem := zw_ifp p6 hsem
    refine r_iconst X (pc := 23) (v := (-1)) (zw_dg dk_M_sheet 12 rfl) (by decide) ?_
    obtain ⟨rfl, rfl⟩ := zw_in2 hsem
    exact r_iret X (pc := 24) rfl (zw_dg dk_M_sheet 13 rfl)
  · --
    have hsem := zw_ifn p6 hsem
    refine zw_cnd (P := ((kind1 < 3) ∧ (n2 < 0))) (J1 := 34) (J2 := 37) (st2 := []) (fun jT jF => ?_) (fun p9 => ?_) (fun p9 => ?_)
    · --
      refine r_iload_n X (pc := 25) (i := 1) (zw_dg dk_M_sheet 14 rfl) rfl rfl ?_
      refine r_iconst X (pc := 26) (v := 3) (zw_dg dk_M_sheet 15 rfl) (by decide) ?_
      refine r_icmp_ge X (pc := 27) (tgt := 37) (zw_dg dk_M_sheet 16 rfl) (by decide) (fun q10 => ?_) (fun q10 => ?_)
      · --
        exact jF (fun q => (Int32.not_lt.mpr q10) q.1)
      · --
        refine r_iload_n X (pc := 30) (i := 2) (zw_dg dk_M_sheet 17 rfl) rfl rfl ?_
        refine r_if_ge X (pc := 31) (tgt := 37) (zw_dg dk_M_sheet 18 rfl) (by decide) (fun q11 => ?_) (fun q11 => ?_)
        · --
          exact jF (fun q => (Int32.not_lt.mpr q11) q.2)
        · --
          exact jT ⟨(Int32.not_le.mp q10), (Int32.not_le.mp q11)⟩
    · --
      have hsem := zw_ifp p9 hsem
      refine r_bipush X (pc := 34) (v := (-2)) (zw_dg dk_M_sheet 19 rfl) (by decide) ?_
      obtain ⟨rfl, rfl⟩ := zw_in2 hsem
      exact r_iret X (pc := 36) rfl (zw_dg dk_M_sheet 20 rfl)
    · --
      have hsem := zw_ifn p9 hsem
      refine r_iconst X (pc := 37) (v := 0) (zw_dg dk_M_sheet 21 rfl) (by decide) ?_
      refine r_istore X (pc := 38) (i := 5) (zw_dg dk_M_sheet 22 rfl) (by decide) rfl ?_
      refine r_iload_n X (pc := 40) (i := 3) (zw_dg dk_M_sheet 23 rfl) rfl rfl ?_
      refine r_istore X (pc := 41) (i := 6) (zw_dg dk_M_sheet 24 rfl) (by decide) rfl ?_
      refine r_iconst X (pc := 43) (v := 0) (zw_dg dk_M_sheet 25 rfl) (by decide) ?_
      refine r_istore X (pc := 44) (i := 7) (zw_dg dk_M_sheet 26 rfl) (by decide) rfl ?_
      obtain ⟨l19, hl19, hsl19⟩ := zw_bd hsem
      refine r_loop (pc := 46) (pce := 143) hl19 (fun (sum12, v13, k14, c15) => [some (.ref 71), some (.int kind1), some (.int n2), some (.int f3), some (.int step4), some (.int sum12), some (.int v13), some (.int k14), none] : Int32 × Int32 × Int32 × zw_Ct → zw_Lc) (fun (sum12, v13, k14, c15) => c15 : Int32 × Int32 × Int32 × zw_Ct → zw_Ct) (fun (sum16, v17, c18) => [some (.ref 71), some (.int kind1), some (.int n2), some (.int f3), some (.int step4), some (.int sum16), some (.int v17), none, none] : Int32 × Int32 × zw_Ct → zw_Lc) (fun (sum16, v17, c18) => c18 : Int32 × Int32 × zw_Ct → zw_Ct) ?_ rfl rfl ?_
      · rintro ⟨sum12, v13, k14, c15⟩ rr hsem hK hP
        try unfold fn_M_sheet_l1 at hsem
        refine r_iload X (pc := 46) (i := 7) (zw_dg dk_M_sheet 27 rfl) rfl ?_
        refine r_bipush X (pc := 48) (v := 13) (zw_dg dk_M_sheet 28 rfl) (by decide) ?_
        refine r_icmp_ge X (pc := 50) (tgt := 143) (zw_dg dk_M_sheet 29 rfl) (by decide) (fun q21 => ?_) (fun q21 => ?_)
        · --
          have p20 : ¬ (k14 < 13) := (Int32.not_lt.mpr q21)
          have hsem := zw_ifn p20 hsem
          have jj := hK _ (Option.some.inj hsem).symm
          exact (r_fgt [7] rfl jj)
        · --
          have p20 : (k14 < 13) := (Int32.not_le.mp q21)
          have hsem := zw_ifp p20 hsem
          refine zw_ter (P := (kind1 = 0)) (f := Value.int) (x := v13.toInt8.toInt32) (y := (if (kind1 = 1) then (v13.toInt16.toInt32 : Int32) else v13)) (J := 76) (st2 := []) (fun jT jF => ?_) ?_
          · --
            refine r_iload_n X (pc := 53) (i := 1) (zw_dg dk_M_sheet 30 rfl) rfl rfl ?_
            refine r_if_ne X (pc := 54) (tgt := 63) (zw_dg dk_M_sheet 31 rfl) (by decide) (fun q22 => ?_) (fun q22 => ?_)
            · --
              refine zw_ter (P := (kind1 = 1)) (f := Value.int) (x := v13.toInt16.toInt32) (y := v13) (J := 76) (st2 := []) (fun jT jF => ?_) ?_
              · --
                refine r_iload_n X (pc := 63) (i := 1) (zw_dg dk_M_sheet 35 rfl) rfl rfl ?_
                refine r_iconst X (pc := 64) (v := 1) (zw_dg dk_M_sheet 36 rfl) (by decide) ?_
                refine r_icmp_ne X (pc := 65) (tgt := 74) (zw_dg dk_M_sheet 37 rfl) (by decide) (fun q23 => ?_) (fun q23 => ?_)
                · --
                  refine r_iload X (pc := 74) (i := 6) (zw_dg dk_M_sheet 41 rfl) rfl ?_
                  exact jF q23
                · --
                  refine r_iload X (pc := 68) (i := 6) (zw_dg dk_M_sheet 38 rfl) rfl ?_
                  refine r_i2s X (pc := 70) (zw_dg dk_M_sheet 39 rfl)  ?_
                  refine r_goto X (pc := 71) (tgt := 76) (zw_dg dk_M_sheet 40 rfl) (by decide) ?_
                  exact jT q23
              exact jF q22
            · --
              refine r_iload X (pc := 57) (i := 6) (zw_dg dk_M_sheet 32 rfl) rfl ?_
              refine r_i2b X (pc := 59) (zw_dg dk_M_sheet 33 rfl)  ?_
              refine r_goto X (pc := 60) (tgt := 76) (zw_dg dk_M_sheet 34 rfl) (by decide) ?_
              exact jT q22
          obtain ⟨e24, he24, hsem⟩ := zw_bd hsem
          refine zw_topI he24 ?_
          refine r_istore X (pc := 76) (i := 8) (zw_dg dk_M_sheet 42 rfl) (by decide) rfl ?_
          refine r_aload_n X (pc := 78) (i := 0) (zw_dg dk_M_sheet 43 rfl) rfl rfl ?_
          refine r_getR X (pc := 79) (r := 73) ci_M (zo hS 71 rfl rfl) rfl (zr hS 71 4 rfl rfl) lk_M_20 (zw_dg dk_M_sheet 44 rfl) ?_
          refine r_iload X (pc := 82) (i := 7) (zw_dg dk_M_sheet 45 rfl) rfl ?_
          refine zw_ter (P := ((kind1 = 3) ∨ (n2 ≤ k14))) (f := Value.int) (x := (k14 * k14)) (y := (if (-9999) < (if e24 < 9999 then e24 else 9999) then (if e24 < 9999 then e24 else 9999) else (-9999))) (J := 117) (st2 := [.int k14, .ref 73]) (fun jT jF => ?_) ?_
          · --
            refine r_iload_n X (pc := 84) (i := 1) (zw_dg dk_M_sheet 46 rfl) rfl rfl ?_
            refine r_iconst X (pc := 85) (v := 3) (zw_dg dk_M_sheet 47 rfl) (by decide) ?_
            refine r_icmp_eq X (pc := 86) (tgt := 95) (zw_dg dk_M_sheet 48 rfl) (by decide) (fun q25 => ?_) (fun q25 => ?_)
            · --
              refine r_iload X (pc := 95) (i := 7) (zw_dg dk_M_sheet 52 rfl) rfl ?_
              refine r_iload X (pc := 97) (i := 7) (zw_dg dk_M_sheet 53 rfl) rfl ?_
              refine r_imul X (pc := 99) (zw_dg dk_M_sheet 54 rfl)  ?_
              refine r_goto X (pc := 100) (tgt := 117) (zw_dg dk_M_sheet 55 rfl) (by decide) ?_
              exact jT (Or.inl q25)
            · --
              refine r_iload X (pc := 89) (i := 7) (zw_dg dk_M_sheet 49 rfl) rfl ?_
              refine r_iload_n X (pc := 91) (i := 2) (zw_dg dk_M_sheet 50 rfl) rfl rfl ?_
              refine r_icmp_lt X (pc := 92) (tgt := 103) (zw_dg dk_M_sheet 51 rfl) (by decide) (fun q26 => ?_) (fun q26 => ?_)
              · --
                refine r_sipush X (pc := 103) (v := (-9999)) (zw_dg dk_M_sheet 56 rfl) (by decide) ?_
                refine r_sipush X (pc := 106) (v := 9999) (zw_dg dk_M_sheet 57 rfl) (by decide) ?_
                refine r_iload X (pc := 109) (i := 8) (zw_dg dk_M_sheet 58 rfl) rfl ?_
                refine r_mmin X (pc := 111) kw_1632 mws_min kw_88 mwc_min ⟨Nat.le_of_ble_eq_true rfl, Nat.le_of_ble_eq_true rfl⟩ (st := [.int (-9999), .int k14, .ref 73]) (Nat.le_of_ble_eq_true rfl) (zw_dg dk_M_sheet 59 rfl) ?_
                refine r_mmax X (pc := 114) kw_1633 mws_max kw_88 mwc_max ⟨Nat.le_of_ble_eq_true rfl, Nat.le_of_ble_eq_true rfl⟩ (st := [.int k14, .ref 73]) (Nat.le_of_ble_eq_true rfl) (zw_dg dk_M_sheet 60 rfl) ?_
                exact jF (fun q => q.elim q25 (Int32.not_le.mpr q26))
              · --
                refine r_iload X (pc := 95) (i := 7) (zw_dg dk_M_sheet 52 rfl) rfl ?_
                refine r_iload X (pc := 97) (i := 7) (zw_dg dk_M_sheet 53 rfl) rfl ?_
                refine r_imul X (pc := 99) (zw_dg dk_M_sheet 54 rfl)  ?_
                refine r_goto X (pc := 100) (tgt := 117) (zw_dg dk_M_sheet 55 rfl) (by decide) ?_
                exact jT (Or.inr (Int32.not_lt.mp q26))
          obtain ⟨c27, hc27, hsem⟩ := zw_bd hsem
          refine r_iast X (pc := 117) (zo hS 73 rfl rfl) hc27 (zw_dg dk_M_sheet 61 rfl) ?_
          refine r_iload X (pc := 118) (i := 5) (zw_dg dk_M_sheet 62 rfl) rfl ?_
          refine r_aload_n X (pc := 120) (i := 0) (zw_dg dk_M_sheet 63 rfl) rfl rfl ?_
          refine r_getR X (pc := 121) (r := 73) ci_M (zo hS 71 rfl rfl) rfl (zr hS 71 4 rfl rfl) lk_M_20 (zw_dg dk_M_sheet 64 rfl) ?_
          refine r_iload X (pc := 124) (i := 7) (zw_dg dk_M_sheet 65 rfl) rfl ?_
          obtain ⟨x28, hx28, hsem⟩ := zw_bd hsem
          refine r_iald X (pc := 126) (zo hS 73 rfl rfl) hx28 (zw_dg dk_M_sheet 66 rfl) ?_
          refine r_iadd X (pc := 127) (zw_dg dk_M_sheet 67 rfl)  ?_
          obtain ⟨sum29, hsum29, hsem⟩ := zw_bd hsem
          refine zw_topI hsum29 ?_
          refine r_istore X (pc := 128) (i := 5) (zw_dg dk_M_sheet 68 rfl) (by decide) rfl ?_
          refine r_iload X (pc := 130) (i := 6) (zw_dg dk_M_sheet 69 rfl) rfl ?_
          refine r_iload X (pc := 132) (i := 4) (zw_dg dk_M_sheet 70 rfl) rfl ?_
          refine r_iadd X (pc := 134) (zw_dg dk_M_sheet 71 rfl)  ?_
          obtain ⟨v30, hv30, hsem⟩ := zw_bd hsem
          refine zw_topI hv30 ?_
          refine r_istore X (pc := 135) (i := 6) (zw_dg dk_M_sheet 72 rfl) (by decide) rfl ?_
          refine r_iinc X (pc := 137) (i := 7) (k := 1) (zw_dg dk_M_sheet 73 rfl) rfl (by decide) (by decide) rfl ?_
          refine r_goto X (pc := 140) (tgt := 46) (zw_dg dk_M_sheet 74 rfl) (by decide) ?_
          have jj := hP _ (Option.some.inj hsem).symm
          exact (r_fgt [8] rfl jj)
      obtain ⟨sum16, v17, c18⟩ := l19
      have hsem := hsl19
      refine zw_ter (P := (kind1 = 3)) (f := Value.int) (x := (-3)) (y := sum16) (J := 155) (st2 := []) (fun jT jF => ?_) ?_
      · --
        refine r_iload_n X (pc := 143) (i := 1) (zw_dg dk_M_sheet 75 rfl) rfl rfl ?_
        refine r_iconst X (pc := 144) (v := 3) (zw_dg dk_M_sheet 76 rfl) (by decide) ?_
        refine r_icmp_ne X (pc := 145) (tgt := 153) (zw_dg dk_M_sheet 77 rfl) (by decide) (fun q31 => ?_) (fun q31 => ?_)
        · --
          refine r_iload X (pc := 153) (i := 5) (zw_dg dk_M_sheet 80 rfl) rfl ?_
          exact jF q31
        · --
          refine r_bipush X (pc := 148) (v := (-3)) (zw_dg dk_M_sheet 78 rfl) (by decide) ?_
          refine r_goto X (pc := 150) (tgt := 155) (zw_dg dk_M_sheet 79 rfl) (by decide) ?_
          exact jT q31
      obtain ⟨rfl, rfl⟩ := zw_in2 hsem
      exact r_iret X (pc := 155) rfl (zw_dg dk_M_sheet 81 rfl)
def y_M_isPay : MethodName := ⟨R_M, "isPay", "(I)Z"⟩
abbrev b_M_isPay : ByteArray := prog_14_method_16_code
def dl_M_isPay : List (Nat × Instr × Nat) := [(0, .iload_n 1, 1), (1, .i2l, 1), (2, .lconst 0, 1), (3, .ldc2_w 157, 3), (6, .invokestatic 120, 3), (9, .ifCond .eq 25, 3), (12, .aload_n 0, 1), (13, .getfield 39, 3), (16, .iload_n 1, 1), (17, .baload, 1), (18, .ifCond .ne 12, 3), (21, .aload_n 0, 1), (22, .getfield 36, 3), (25, .iload_n 1, 1), (26, .iaload, 1), (27, .ifCond .le 7, 3), (30, .iconst 1, 1), (31, .goto 4, 3), (34, .iconst 0, 1), (35, .ireturn, 1)]
theorem dk_M_isPay : zw_dk b_M_isPay dl_M_isPay = true := by decide +kernel
theorem ce_M_isPay : zw_cev y_M_isPay b_M_isPay 2 (some .boolean) 1 := ⟨⟨kt_in 1691 (by decide +kernel) rfl, kt_in 98 (by decide +kernel) rfl, by decide +kernel⟩, kt_in 1690 (by decide +kernel) rfl, kt_in 53 (by decide +kernel) rfl⟩
def fn_M_isPay (c : zw_Ct) (p1 : Int32) : Option Int32 :=
  (if (¬ (fn_M_in p1.toInt64 0 3) = 0) then
  ((zw_aI 4 c 82 p1).bind fun x4 =>
  if (¬ x4 = 0) then some true else
  ((zw_aI 4 c 81 p1).bind fun x6 =>
  some (decide (0 < x6))))
  else some false).bind fun b2 =>
  some (if b2 = true then (1 : Int32) else 0)
set_option maxRecDepth 100000 in
theorem km_M_isPay {l : Launch} {g : zw_G} {rr : zw_RR} {sh : zw_Sh} {c : zw_Ct} {p1 : Int32} {r : Int32} (hS : zw_Ok 0 101 sh rr) (hsem : fn_M_isPay c p1 = some r) : zw_Met l g y_M_isPay b_M_isPay 2 (some .boolean) 2 rr sh [.ref 71, .int p1] c (some (.int r)) c := by
  unfold fn_M_isPay at hsem
  refine zw_Met.of (by decide +kernel) (Nat.le_of_ble_eq_true rfl) (fun p e s m args below meth cd X => ?_)
  refine zw_eL (L2 := [some (.ref 71), some (.int p1)]) rfl ?_
  obtain ⟨b2, hb2, hsb2⟩ := zw_bd hsem
  refine zw_terO (f := Value.int) (v := if b2 = true then 1 else 0) (J := 35) (st2 := []) (c2 := c) (fun jj => ?_) ?_
  · have hsem := hb2
    refine r_iload_n X (pc := 0) (i := 1) (zw_dg dk_M_isPay 0 rfl) rfl rfl ?_
    refine r_i2l X (pc := 1) (zw_dg dk_M_isPay 1 rfl)  ?_
    refine r_lconst X (pc := 2) (v := 0) (zw_dg dk_M_isPay 2 rfl) (by decide) ?_
    refine r_ldc2 X (pc := 3) (v := 3) kw_1631 (zw_dg dk_M_isPay 3 rfl) ?_
    refine r_callSi X (pc := 6) (As := [_, _, _]) (st := []) (km_M_in hS rfl) ce_M_in kw_1597 rfl ⟨Nat.le_of_ble_eq_true rfl, Nat.le_of_ble_eq_true rfl⟩ (Nat.le_of_ble_eq_true rfl) (zw_dg dk_M_isPay 4 rfl) ?_
    refine r_if_eq X (pc := 9) (tgt := 34) (zw_dg dk_M_isPay 5 rfl) (by decide) (fun q3 => ?_) (fun q3 => ?_)
    · --
      have hsem := zw_ifn (fun z => z q3) hsem
      have hb_ := (Option.some.inj hsem).symm
      refine r_iconst X (pc := 34) (v := 0) (zw_dg dk_M_isPay 18 rfl) (by decide) ?_
      rw [hb_] at jj; exact jj
    · --
      have hsem := zw_ifp q3 hsem
      refine r_aload_n X (pc := 12) (i := 0) (zw_dg dk_M_isPay 6 rfl) rfl rfl ?_
      refine r_getR X (pc := 13) (r := 82) ci_M (zo hS 71 rfl rfl) rfl (zr hS 71 13 rfl rfl) lk_M_39 (zw_dg dk_M_isPay 7 rfl) ?_
      refine r_iload_n X (pc := 16) (i := 1) (zw_dg dk_M_isPay 8 rfl) rfl rfl ?_
      obtain ⟨x4, hx4, hsem⟩ := zw_bd hsem
      refine r_zald X (pc := 17) (zo hS 82 rfl rfl) hx4 (zw_dg dk_M_isPay 9 rfl) ?_
      refine r_if_ne X (pc := 18) (tgt := 30) (zw_dg dk_M_isPay 10 rfl) (by decide) (fun q5 => ?_) (fun q5 => ?_)
      · --
        have hsem := zw_ifp q5 hsem
        have hb_ := (Option.some.inj hsem).symm
        refine r_iconst X (pc := 30) (v := 1) (zw_dg dk_M_isPay 16 rfl) (by decide) ?_
        refine r_goto X (pc := 31) (tgt := 35) (zw_dg dk_M_isPay 17 rfl) (by decide) ?_
        rw [hb_] at jj; exact jj
      · --
        have hsem := zw_ifn (fun z => z q5) hsem
        refine r_aload_n X (pc := 21) (i := 0) (zw_dg dk_M_isPay 11 rfl) rfl rfl ?_
        refine r_getR X (pc := 22) (r := 81) ci_M (zo hS 71 rfl rfl) rfl (zr hS 71 12 rfl rfl) lk_M_36 (zw_dg dk_M_isPay 12 rfl) ?_
        refine r_iload_n X (pc := 25) (i := 1) (zw_dg dk_M_isPay 13 rfl) rfl rfl ?_
        obtain ⟨x6, hx6, hsem⟩ := zw_bd hsem
        refine r_iald X (pc := 26) (zo hS 81 rfl rfl) hx6 (zw_dg dk_M_isPay 14 rfl) ?_
        refine r_if_le X (pc := 27) (tgt := 34) (zw_dg dk_M_isPay 15 rfl) (by decide) (fun q7 => ?_) (fun q7 => ?_)
        · --
          have hb_ := (zw_dF hsem (Int32.not_lt.mpr q7))
          refine r_iconst X (pc := 34) (v := 0) (zw_dg dk_M_isPay 18 rfl) (by decide) ?_
          rw [hb_] at jj; exact jj
        · --
          have hb_ := (zw_dT hsem (Int32.not_le.mp q7))
          refine r_iconst X (pc := 30) (v := 1) (zw_dg dk_M_isPay 16 rfl) (by decide) ?_
          refine r_goto X (pc := 31) (tgt := 35) (zw_dg dk_M_isPay 17 rfl) (by decide) ?_
          rw [hb_] at jj; exact jj
  have hsem := hsb2
  have hbz : ((if b2 = true then (1 : Int32) else 0) : Int32) = 0 ∨ ((if b2 = true then (1 : Int32) else 0) : Int32) = 1 := zw_ite01
  cases hsem
  exact r_zret X (pc := 35) rfl (zw_bzn hbz).1 (zw_dg dk_M_isPay 19 rfl)
def y_M_sign : MethodName := ⟨R_M, "sign", "(I)I"⟩
abbrev b_M_sign : ByteArray := prog_14_method_17_code
def dl_M_sign : List (Nat × Instr × Nat) := [(0, .aload_n 0, 1), (1, .iconst 0, 1), (2, .putfield 97, 3), (5, .aload_n 0, 1), (6, .getfield 166, 3), (9, .iconst 4, 1), (10, .iadd, 1), (11, .bipush 80, 2), (13, .if_icmp .le 5, 3), (16, .iconst (-1), 1), (17, .ireturn, 1), (18, .iconst 3, 1), (19, .istore_n 2, 1), (20, .iload_n 2, 1), (21, .ifCond .lt 32, 3), (24, .aload_n 0, 1), (25, .getfield 23, 3), (28, .aload_n 0, 1), (29, .dup, 1), (30, .getfield 166, 3), (33, .dup_x1, 1), (34, .iconst 1, 1), (35, .iadd, 1), (36, .putfield 166, 3), (39, .iload_n 1, 1), (40, .bipush 8, 2), (42, .iload_n 2, 1), (43, .imul, 1), (44, .ishr, 1), (45, .i2b, 1), (46, .bastore, 1), (47, .iinc 2 (-1), 3), (50, .goto (-30), 3), (53, .aload_n 0, 1), (54, .getfield 166, 3), (57, .ireturn, 1)]
theorem dk_M_sign : zw_dk b_M_sign dl_M_sign = true := by decide +kernel
theorem ce_M_sign : zw_cev y_M_sign b_M_sign 3 (some .int) 1 := ⟨⟨kt_in 1637 (by decide +kernel) rfl, kt_in 98 (by decide +kernel) rfl, by decide +kernel⟩, kt_in 1635 (by decide +kernel) rfl, kt_in 1636 (by decide +kernel) rfl⟩
def fn_M_sign_l1 (v1 : Int32) : Int32 × zw_Ct → Option ((zw_Ct) ⊕ (Int32 × zw_Ct)) := fun (k6, c7) =>
  if (0 ≤ k6) then
  ((some (zw_wI c7 71 6 ((c7.1 71 6) + 1))).bind fun c12 =>
  (zw_uI 80 c12 74 (c7.1 71 6) (vp_nar .byte (v1 >>> ((8 * k6) &&& 31)).toInt8.toInt32)).bind fun c13 =>
  some (.inr ((k6 + (-1)), c13)))
  else
  (some (.inl c7))
def fn_M_sign (c : zw_Ct) (v1 : Int32) : Option (Int32 × zw_Ct) :=
  (some (zw_wI c 71 9 0)).bind fun c3 =>
  if (80 < ((c3.1 71 6) + 4)) then
  (some ((-1), c3))
  else
  ((zw_whl (fn_M_sign_l1 v1) zw_F (3, c3)).bind fun c8 =>
  some ((c8.1 71 6), c8))
set_option maxRecDepth 100000 in
theorem km_M_sign {l : Launch} {g : zw_G} {rr : zw_RR} {sh : zw_Sh} {c : zw_Ct} {v1 : Int32} {r : Int32} {c2 : zw_Ct} (hS : zw_Ok 0 101 sh rr) (hsem : fn_M_sign c v1 = some (r, c2)) : zw_Met l g y_M_sign b_M_sign 3 (some .int) 1 rr sh [.ref 71, .int v1] c (some (.int r)) c2 := by
  unfold fn_M_sign at hsem
  refine zw_Met.of (by decide +kernel) (Nat.le_of_ble_eq_true rfl) (fun p e s m args below meth cd X => ?_)
  refine zw_eL (L2 := [some (.ref 71), some (.int v1), none]) rfl ?_
  refine r_aload_n X (pc := 0) (i := 0) (zw_dg dk_M_sign 0 rfl) rfl rfl ?_
  refine r_iconst X (pc := 1) (v := 0) (zw_dg dk_M_sign 1 rfl) (by decide) ?_
  refine r_putI X (pc := 2) ci_M (zo hS 71 rfl rfl) rfl lk_M_97 rfl ⟨rfl, rfl⟩ (zw_dg dk_M_sign 2 rfl) ?_
  obtain ⟨c3, hc3, hsem⟩ := zw_bd hsem
  refine zw_topC hc3 ?_
  refine r_aload_n X (pc := 5) (i := 0) (zw_dg dk_M_sign 3 rfl) rfl rfl ?_
  refine r_getI X (pc := 6) ci_M (zo hS 71 rfl rfl) rfl lk_M_166 (zw_dg dk_M_sign 4 rfl) ?_
  refine r_iconst X (pc := 9) (v := 4) (zw_dg dk_M_sign 5 rfl) (by decide) ?_
  refine r_iadd X (pc := 10) (zw_dg dk_M_sign 6 rfl)  ?_
  refine r_bipush X (pc := 11) (v := 80) (zw_dg dk_M_sign 7 rfl) (by decide) ?_
  refine r_icmp_le X (pc := 13) (tgt := 18) (zw_dg dk_M_sign 8 rfl) (by decide) (fun q5 => ?_) (fun q5 => ?_)
  · --
    have p4 : ¬ (80 < ((c3.1 71 6) + 4)) := (Int32.not_lt.mpr q5)
    have hsem := zw_ifn p4 hsem
    refine r_iconst X (pc := 18) (v := 3) (zw_dg dk_M_sign 11 rfl) (by decide) ?_
    refine r_istore_n X (pc := 19) (i := 2) (zw_dg dk_M_sign 12 rfl) rfl (by decide) rfl ?_
    obtain ⟨c8, hl9, hsl9⟩ := zw_bd hsem
    refine r_loop (pc := 20) (pce := 53) hl9 (fun (k6, c7) => [some (.ref 71), some (.int v1), some (.int k6)] : Int32 × zw_Ct → zw_Lc) (fun (k6, c7) => c7 : Int32 × zw_Ct → zw_Ct) (fun c8 => [some (.ref 71), some (.int v1), none] : zw_Ct → zw_Lc) (fun c8 => c8 : zw_Ct → zw_Ct) ?_ rfl rfl ?_
    · rintro ⟨k6, c7⟩ rr hsem hK hP
      try unfold fn_M_sign_l1 at hsem
      refine r_iload_n X (pc := 20) (i := 2) (zw_dg dk_M_sign 13 rfl) rfl rfl ?_
      refine r_if_lt X (pc := 21) (tgt := 53) (zw_dg dk_M_sign 14 rfl) (by decide) (fun q11 => ?_) (fun q11 => ?_)
      · --
        have p10 : ¬ (0 ≤ k6) := (Int32.not_le.mpr q11)
        have hsem := zw_ifn p10 hsem
        have jj := hK _ (Option.some.inj hsem).symm
        exact (r_fgt [2] rfl jj)
      · --
        have p10 : (0 ≤ k6) := (Int32.not_lt.mp q11)
        have hsem := zw_ifp p10 hsem
        refine r_aload_n X (pc := 24) (i := 0) (zw_dg dk_M_sign 15 rfl) rfl rfl ?_
        refine r_getR X (pc := 25) (r := 74) ci_M (zo hS 71 rfl rfl) rfl (zr hS 71 5 rfl rfl) lk_M_23 (zw_dg dk_M_sign 16 rfl) ?_
        refine r_aload_n X (pc := 28) (i := 0) (zw_dg dk_M_sign 17 rfl) rfl rfl ?_
        refine r_dup X (pc := 29) (zw_dg dk_M_sign 18 rfl) rfl ?_
        refine r_getI X (pc := 30) ci_M (zo hS 71 rfl rfl) rfl lk_M_166 (zw_dg dk_M_sign 19 rfl) ?_
        refine r_dup_x1 X (pc := 33) (zw_dg dk_M_sign 20 rfl) rfl rfl ?_
        refine r_iconst X (pc := 34) (v := 1) (zw_dg dk_M_sign 21 rfl) (by decide) ?_
        refine r_iadd X (pc := 35) (zw_dg dk_M_sign 22 rfl)  ?_
        refine r_putI X (pc := 36) ci_M (zo hS 71 rfl rfl) rfl lk_M_166 rfl ⟨rfl, rfl⟩ (zw_dg dk_M_sign 23 rfl) ?_
        obtain ⟨c12, hc12, hsem⟩ := zw_bd hsem
        refine zw_topC hc12 ?_
        refine r_iload_n X (pc := 39) (i := 1) (zw_dg dk_M_sign 24 rfl) rfl rfl ?_
        refine r_bipush X (pc := 40) (v := 8) (zw_dg dk_M_sign 25 rfl) (by decide) ?_
        refine r_iload_n X (pc := 42) (i := 2) (zw_dg dk_M_sign 26 rfl) rfl rfl ?_
        refine r_imul X (pc := 43) (zw_dg dk_M_sign 27 rfl)  ?_
        refine r_ishr X (pc := 44) (zw_dg dk_M_sign 28 rfl)  ?_
        refine r_i2b X (pc := 45) (zw_dg dk_M_sign 29 rfl)  ?_
        obtain ⟨c13, hc13, hsem⟩ := zw_bd hsem
        refine r_bast X (pc := 46) (zo hS 74 rfl rfl) hc13 (zw_dg dk_M_sign 30 rfl) ?_
        refine r_iinc X (pc := 47) (i := 2) (k := (-1)) (zw_dg dk_M_sign 31 rfl) rfl (by decide) (by decide) rfl ?_
        refine r_goto X (pc := 50) (tgt := 20) (zw_dg dk_M_sign 32 rfl) (by decide) ?_
        have jj := hP _ (Option.some.inj hsem).symm
        exact (r_fgt [] rfl jj)
    have hsem := hsl9
    refine r_aload_n X (pc := 53) (i := 0) (zw_dg dk_M_sign 33 rfl) rfl rfl ?_
    refine r_getI X (pc := 54) ci_M (zo hS 71 rfl rfl) rfl lk_M_166 (zw_dg dk_M_sign 34 rfl) ?_
    obtain ⟨rfl, rfl⟩ := zw_in2 hsem
    exact r_iret X (pc := 57) rfl (zw_dg dk_M_sign 35 rfl)
  · --
    have p4 : (80 < ((c3.1 71 6) + 4)) := (Int32.not_le.mp q5)
    have hsem := zw_ifp p4 hsem
    refine r_iconst X (pc := 16) (v := (-1)) (zw_dg dk_M_sign 9 rfl) (by decide) ?_
    obtain ⟨rfl, rfl⟩ := zw_in2 hsem
    exact r_iret X (pc := 17) rfl (zw_dg dk_M_sign 10 rfl)
def y_M_end : MethodName := ⟨R_M, "end", "(I)Z"⟩
abbrev b_M_end : ByteArray := prog_14_method_18_code
def dl_M_end : List (Nat × Instr × Nat) := [(0, .aload_n 0, 1), (1, .iconst 0, 1), (2, .putfield 97, 3), (5, .iload_n 1, 1), (6, .i2l, 1), (7, .lconst 0, 1), (8, .aload_n 0, 1), (9, .getfield 166, 3), (12, .i2l, 1), (13, .invokestatic 120, 3), (16, .ifCond .ne 5, 3), (19, .iconst 0, 1), (20, .ireturn, 1), (21, .aload_n 0, 1), (22, .iload_n 1, 1), (23, .putfield 166, 3), (26, .iconst 1, 1), (27, .ireturn, 1)]
theorem dk_M_end : zw_dk b_M_end dl_M_end = true := by decide +kernel
theorem ce_M_end : zw_cev y_M_end b_M_end 2 (some .boolean) 1 := ⟨⟨kt_in 1641 (by decide +kernel) rfl, kt_in 98 (by decide +kernel) rfl, by decide +kernel⟩, kt_in 1639 (by decide +kernel) rfl, kt_in 1640 (by decide +kernel) rfl⟩
def fn_M_end (c : zw_Ct) (n1 : Int32) : Option (Int32 × zw_Ct) :=
  (some (zw_wI c 71 9 0)).bind fun c3 =>
  if (¬ (¬ (fn_M_in n1.toInt64 0 ((c3.1 71 6)).toInt64) = 0)) then
  (some (0, c3))
  else
  ((some (zw_wI c3 71 6 n1)).bind fun c6 =>
  some (1, c6))
set_option maxRecDepth 100000 in
theorem km_M_end {l : Launch} {g : zw_G} {rr : zw_RR} {sh : zw_Sh} {c : zw_Ct} {n1 : Int32} {r : Int32} {c2 : zw_Ct} (hS : zw_Ok 0 101 sh rr) (hsem : fn_M_end c n1 = some (r, c2)) : zw_Met l g y_M_end b_M_end 2 (some .boolean) 2 rr sh [.ref 71, .int n1] c (some (.int r)) c2 := by
  unfold fn_M_end at hsem
  refine zw_Met.of (by decide +kernel) (Nat.le_of_ble_eq_true rfl) (fun p e s m args below meth cd X => ?_)
  refine zw_eL (L2 := [some (.ref 71), some (.int n1)]) rfl ?_
  refine r_aload_n X (pc := 0) (i := 0) (zw_dg dk_M_end 0 rfl) rfl rfl ?_
  refine r_iconst X (pc := 1) (v := 0) (zw_dg dk_M_end 1 rfl) (by decide) ?_
  refine r_putI X (pc := 2) ci_M (zo hS 71 rfl rfl) rfl lk_M_97 rfl ⟨rfl, rfl⟩ (zw_dg dk_M_end 2 rfl) ?_
  obtain ⟨c3, hc3, hsem⟩ := zw_bd hsem
  refine zw_topC hc3 ?_
  refine r_iload_n X (pc := 5) (i := 1) (zw_dg dk_M_end 3 rfl) rfl rfl ?_
  refine r_i2l X (pc := 6) (zw_dg dk_M_end 4 rfl)  ?_
  refine r_lconst X (pc := 7) (v := 0) (zw_dg dk_M_end 5 rfl) (by decide) ?_
  refine r_aload_n X (pc := 8) (i := 0) (zw_dg dk_M_end 6 rfl) rfl rfl ?_
  refine r_getI X (pc := 9) ci_M (zo hS 71 rfl rfl) rfl lk_M_166 (zw_dg dk_M_end 7 rfl) ?_
  refine r_i2l X (pc := 12) (zw_dg dk_M_end 8 rfl)  ?_
  refine r_callSi X (pc := 13) (As := [_, _, _]) (st := []) (km_M_in hS rfl) ce_M_in kw_1597 rfl ⟨Nat.le_of_ble_eq_true rfl, Nat.le_of_ble_eq_true rfl⟩ (Nat.le_of_ble_eq_true rfl) (zw_dg dk_M_end 9 rfl) ?_
  refine r_if_ne X (pc := 16) (tgt := 21) (zw_dg dk_M_end 10 rfl) (by decide) (fun q5 => ?_) (fun q5 => ?_)
  · --
    have p4 : ¬ (¬ (¬ (fn_M_in n1.toInt64 0 ((c3.1 71 6)).toInt64) = 0)) := (fun q => q q5)
    have hsem := zw_ifn p4 hsem
    refine r_aload_n X (pc := 21) (i := 0) (zw_dg dk_M_end 13 rfl) rfl rfl ?_
    refine r_iload_n X (pc := 22) (i := 1) (zw_dg dk_M_end 14 rfl) rfl rfl ?_
    refine r_putI X (pc := 23) ci_M (zo hS 71 rfl rfl) rfl lk_M_166 rfl ⟨rfl, rfl⟩ (zw_dg dk_M_end 15 rfl) ?_
    obtain ⟨c6, hc6, hsem⟩ := zw_bd hsem
    refine zw_topC hc6 ?_
    refine r_iconst X (pc := 26) (v := 1) (zw_dg dk_M_end 16 rfl) (by decide) ?_
    have hbz : (1 : Int32) = 0 ∨ (1 : Int32) = 1 := (by decide)
    obtain ⟨rfl, rfl⟩ := zw_in2 hsem
    exact r_zret X (pc := 27) rfl (zw_bzn hbz).1 (zw_dg dk_M_end 17 rfl)
  · --
    have p4 : (¬ (¬ (fn_M_in n1.toInt64 0 ((c3.1 71 6)).toInt64) = 0)) := (fun z => z q5)
    have hsem := zw_ifp p4 hsem
    refine r_iconst X (pc := 19) (v := 0) (zw_dg dk_M_end 11 rfl) (by decide) ?_
    have hbz : (0 : Int32) = 0 ∨ (0 : Int32) = 1 := (by decide)
    obtain ⟨rfl, rfl⟩ := zw_in2 hsem
    exact r_zret X (pc := 20) rfl (zw_bzn hbz).1 (zw_dg dk_M_end 12 rfl)
def y_M_here : MethodName := ⟨R_M, "here", "()I"⟩
abbrev b_M_here : ByteArray := prog_14_method_19_code
def dl_M_here : List (Nat × Instr × Nat) := [(0, .aload_n 0, 1), (1, .getfield 169, 3), (4, .aload_n 0, 1), (5, .getfield 172, 3), (8, .if_icmp .ge 24, 3), (11, .aload_n 0, 1), (12, .getfield 169, 3), (15, .bipush 60, 2), (17, .if_icmp .ge 15, 3), (20, .aload_n 0, 1), (21, .getfield 175, 3), (24, .aload_n 0, 1), (25, .getfield 169, 3), (28, .baload, 1), (29, .goto 4, 3), (32, .iconst (-1), 1), (33, .ireturn, 1)]
theorem dk_M_here : zw_dk b_M_here dl_M_here = true := by decide +kernel
theorem ce_M_here : zw_cev y_M_here b_M_here 1 (some .int) 0 := ⟨⟨kt_in 1673 (by decide +kernel) rfl, kt_in 98 (by decide +kernel) rfl, by decide +kernel⟩, kt_in 1672 (by decide +kernel) rfl, kt_in 50 (by decide +kernel) rfl⟩
def fn_M_here (c : zw_Ct) : Option Int32 :=
  (if (((c.1 71 17) < (c.1 71 16)) ∧ ((c.1 71 17) < 60)) then
  (((if c.1 71 15 ≤ 0 then none else some (c.1 71 15).toNatClampNeg)).bind fun a5 =>
  (zw_dI SH 2 c a5 (c.1 71 17)).bind fun x6 =>
  some (x6 : Int32))
  else
  (some ((-1) : Int32))).bind fun v1 =>
  some v1
set_option maxRecDepth 100000 in
theorem km_M_here {l : Launch} {g : zw_G} {rr : zw_RR} {sh : zw_Sh} {c : zw_Ct} {r : Int32} (hS : zw_Ok 0 101 sh rr) (hsem : fn_M_here c = some r) : zw_Met l g y_M_here b_M_here 1 (some .int) 1 rr sh [.ref 71] c (some (.int r)) c := by
  unfold fn_M_here at hsem
  refine zw_Met.of (by decide +kernel) (Nat.le_of_ble_eq_true rfl) (fun p e s m args below meth cd X => ?_)
  refine zw_eL (L2 := [some (.ref 71)]) rfl ?_
  obtain ⟨v1, hv1, hsv1⟩ := zw_bd hsem
  refine zw_terO (f := Value.int) (v := v1) (J := 33) (st2 := []) (c2 := c) (fun jj => ?_) ?_
  · have hsem := hv1
    refine zw_cnd (P := (((c.1 71 17) < (c.1 71 16)) ∧ ((c.1 71 17) < 60))) (J1 := 20) (J2 := 32) (st2 := []) (fun jT jF => ?_) (fun p2 => ?_) (fun p2 => ?_)
    · --
      refine r_aload_n X (pc := 0) (i := 0) (zw_dg dk_M_here 0 rfl) rfl rfl ?_
      refine r_getI X (pc := 1) ci_M (zo hS 71 rfl rfl) rfl lk_M_169 (zw_dg dk_M_here 1 rfl) ?_
      refine r_aload_n X (pc := 4) (i := 0) (zw_dg dk_M_here 2 rfl) rfl rfl ?_
      refine r_getI X (pc := 5) ci_M (zo hS 71 rfl rfl) rfl lk_M_172 (zw_dg dk_M_here 3 rfl) ?_
      refine r_icmp_ge X (pc := 8) (tgt := 32) (zw_dg dk_M_here 4 rfl) (by decide) (fun q3 => ?_) (fun q3 => ?_)
      · --
        exact jF (fun q => (Int32.not_lt.mpr q3) q.1)
      · --
        refine r_aload_n X (pc := 11) (i := 0) (zw_dg dk_M_here 5 rfl) rfl rfl ?_
        refine r_getI X (pc := 12) ci_M (zo hS 71 rfl rfl) rfl lk_M_169 (zw_dg dk_M_here 6 rfl) ?_
        refine r_bipush X (pc := 15) (v := 60) (zw_dg dk_M_here 7 rfl) (by decide) ?_
        refine r_icmp_ge X (pc := 17) (tgt := 32) (zw_dg dk_M_here 8 rfl) (by decide) (fun q4 => ?_) (fun q4 => ?_)
        · --
          exact jF (fun q => (Int32.not_lt.mpr q4) q.2)
        · --
          exact jT ⟨(Int32.not_le.mp q3), (Int32.not_le.mp q4)⟩
    · --
      have hsem := zw_ifp p2 hsem
      refine r_aload_n X (pc := 20) (i := 0) (zw_dg dk_M_here 9 rfl) rfl rfl ?_
      refine r_getM X (pc := 21) ci_M (zo hS 71 rfl rfl) rfl lk_M_175 (zw_dg dk_M_here 10 rfl) ?_
      obtain ⟨a5, ha5, hsem⟩ := zw_bd hsem
      refine zw_topO ha5 ?_
      refine r_aload_n X (pc := 24) (i := 0) (zw_dg dk_M_here 11 rfl) rfl rfl ?_
      refine r_getI X (pc := 25) ci_M (zo hS 71 rfl rfl) rfl lk_M_169 (zw_dg dk_M_here 12 rfl) ?_
      obtain ⟨x6, hx6, hsem⟩ := zw_bd hsem
      obtain ⟨_, hnx6, hx6⟩ := zw_bd hx6
      refine r_bald X (pc := 28) (zd hS (zw_len_of hnx6)) hx6 (zw_dg dk_M_here 13 rfl) ?_
      refine r_goto X (pc := 29) (tgt := 33) (zw_dg dk_M_here 14 rfl) (by decide) ?_
      cases hsem; exact jj
    · --
      have hsem := zw_ifn p2 hsem
      refine r_iconst X (pc := 32) (v := (-1)) (zw_dg dk_M_here 15 rfl) (by decide) ?_
      cases hsem; exact jj
  have hsem := hsv1
  cases hsem
  exact r_iret X (pc := 33) rfl (zw_dg dk_M_here 16 rfl)
def y_M_fine : MethodName := ⟨R_M, "fine", "()Z"⟩
abbrev b_M_fine : ByteArray := prog_14_method_20_code
def dl_M_fine : List (Nat × Instr × Nat) := [(0, .aload_n 0, 1), (1, .getfield 178, 3), (4, .iconst (-1), 1), (5, .if_icmp .ne 7, 3), (8, .iconst 1, 1), (9, .goto 4, 3), (12, .iconst 0, 1), (13, .ireturn, 1)]
theorem dk_M_fine : zw_dk b_M_fine dl_M_fine = true := by decide +kernel
theorem ce_M_fine : zw_cev y_M_fine b_M_fine 1 (some .boolean) 0 := ⟨⟨kt_in 1669 (by decide +kernel) rfl, kt_in 98 (by decide +kernel) rfl, by decide +kernel⟩, kt_in 1668 (by decide +kernel) rfl, kt_in 49 (by decide +kernel) rfl⟩
def fn_M_fine (c : zw_Ct) : Int32 :=
  (if ((c.1 71 18) = (-1)) then (1 : Int32) else 0)
theorem kb_M_fine (c : zw_Ct) : fn_M_fine c = 0 ∨ fn_M_fine c = 1 := by
  unfold fn_M_fine
  first | exact zw_ite01 | exact kb_M_in ..
set_option maxRecDepth 100000 in
theorem km_M_fine {l : Launch} {g : zw_G} {rr : zw_RR} {sh : zw_Sh} {c : zw_Ct} {r : Int32} (hS : zw_Ok 0 101 sh rr) (hsem : fn_M_fine c = r) : zw_Met l g y_M_fine b_M_fine 1 (some .boolean) 1 rr sh [.ref 71] c (some (.int r)) c := by
  unfold fn_M_fine at hsem
  refine zw_Met.of (by decide +kernel) (Nat.le_of_ble_eq_true rfl) (fun p e s m args below meth cd X => ?_)
  refine zw_eL (L2 := [some (.ref 71)]) rfl ?_
  refine zw_ter (P := ((c.1 71 18) = (-1))) (f := Value.int) (x := 1) (y := 0) (J := 13) (st2 := []) (fun jT jF => ?_) ?_
  · --
    refine r_aload_n X (pc := 0) (i := 0) (zw_dg dk_M_fine 0 rfl) rfl rfl ?_
    refine r_getI X (pc := 1) ci_M (zo hS 71 rfl rfl) rfl lk_M_178 (zw_dg dk_M_fine 1 rfl) ?_
    refine r_iconst X (pc := 4) (v := (-1)) (zw_dg dk_M_fine 2 rfl) (by decide) ?_
    refine r_icmp_ne X (pc := 5) (tgt := 12) (zw_dg dk_M_fine 3 rfl) (by decide) (fun q1 => ?_) (fun q1 => ?_)
    · --
      refine r_iconst X (pc := 12) (v := 0) (zw_dg dk_M_fine 6 rfl) (by decide) ?_
      exact jF q1
    · --
      refine r_iconst X (pc := 8) (v := 1) (zw_dg dk_M_fine 4 rfl) (by decide) ?_
      refine r_goto X (pc := 9) (tgt := 13) (zw_dg dk_M_fine 5 rfl) (by decide) ?_
      exact jT q1
  have hsem : ((if ((c.1 71 18) = (-1)) then (1 : Int32) else 0) : _) = r := hsem
  have hbz : ((if ((c.1 71 18) = (-1)) then (1 : Int32) else 0) : Int32) = 0 ∨ ((if ((c.1 71 18) = (-1)) then (1 : Int32) else 0) : Int32) = 1 := zw_ite01
  cases hsem
  exact r_zret X (pc := 13) rfl (zw_bzn hbz).1 (zw_dg dk_M_fine 7 rfl)
def y_M_isWrong : MethodName := ⟨R_M, "isWrong", "()V"⟩
abbrev b_M_isWrong : ByteArray := prog_14_method_21_code
def dl_M_isWrong : List (Nat × Instr × Nat) := [(0, .aload_n 0, 1), (1, .invokevirtual 181, 3), (4, .ifCond .eq 11, 3), (7, .aload_n 0, 1), (8, .aload_n 0, 1), (9, .getfield 169, 3), (12, .putfield 178, 3), (15, .return_, 1)]
theorem dk_M_isWrong : zw_dk b_M_isWrong dl_M_isWrong = true := by decide +kernel
theorem ce_M_isWrong : zw_cev y_M_isWrong b_M_isWrong 1 (none) 0 := ⟨⟨kt_in 1677 (by decide +kernel) rfl, kt_in 98 (by decide +kernel) rfl, by decide +kernel⟩, kt_in 1676 (by decide +kernel) rfl, kt_in 51 (by decide +kernel) rfl⟩
def fn_M_isWrong (c : zw_Ct) : Option zw_Ct :=
  (if (¬ (fn_M_fine c) = 0) then
  ((some (zw_wI c 71 18 (c.1 71 17))).bind fun c6 =>
  some c6)
  else
  (some c)).bind fun c3 =>
  some c3
set_option maxRecDepth 100000 in
theorem km_M_isWrong {l : Launch} {g : zw_G} {rr : zw_RR} {sh : zw_Sh} {c : zw_Ct} {c2 : zw_Ct} (hS : zw_Ok 0 101 sh rr) (hsem : fn_M_isWrong c = some c2) : zw_Met l g y_M_isWrong b_M_isWrong 1 (none) 2 rr sh [.ref 71] c none c2 := by
  unfold fn_M_isWrong at hsem
  refine zw_Met.of (by decide +kernel) (Nat.le_of_ble_eq_true rfl) (fun p e s m args below meth cd X => ?_)
  refine zw_eL (L2 := [some (.ref 71)]) rfl ?_
  obtain ⟨c3, ht15, hs15⟩ := zw_bd hsem
  refine zw_jn (J := 15) (L2 := [some (.ref 71)]) (c2 := c3) (fun jj => ?_) ?_
  · have hsem := ht15
    refine r_aload_n X (pc := 0) (i := 0) (zw_dg dk_M_isWrong 0 rfl) rfl rfl ?_
    refine r_callVi X (pc := 1) (As := []) (st := []) (km_M_fine hS rfl) ce_M_fine kw_1666 (zo hS 71 rfl rfl) rfl rfl ⟨Nat.le_of_ble_eq_true rfl, Nat.le_of_ble_eq_true rfl⟩ (Nat.le_of_ble_eq_true rfl) (zw_dg dk_M_isWrong 1 rfl) ?_
    refine r_if_eq X (pc := 4) (tgt := 15) (zw_dg dk_M_isWrong 2 rfl) (by decide) (fun q5 => ?_) (fun q5 => ?_)
    · --
      have p4 : ¬ (¬ (fn_M_fine c) = 0) := (fun z => z q5)
      have hsem := zw_ifn p4 hsem
      cases hsem
      exact (r_fgt [] rfl jj)
    · --
      have p4 : (¬ (fn_M_fine c) = 0) := q5
      have hsem := zw_ifp p4 hsem
      refine r_aload_n X (pc := 7) (i := 0) (zw_dg dk_M_isWrong 3 rfl) rfl rfl ?_
      refine r_aload_n X (pc := 8) (i := 0) (zw_dg dk_M_isWrong 4 rfl) rfl rfl ?_
      refine r_getI X (pc := 9) ci_M (zo hS 71 rfl rfl) rfl lk_M_169 (zw_dg dk_M_isWrong 5 rfl) ?_
      refine r_putI X (pc := 12) ci_M (zo hS 71 rfl rfl) rfl lk_M_178 rfl ⟨rfl, rfl⟩ (zw_dg dk_M_isWrong 6 rfl) ?_
      obtain ⟨c6, hc6, hsem⟩ := zw_bd hsem
      refine zw_topC hc6 ?_
      cases hsem
      exact (r_fgt [] rfl jj)
  have hsem := hs15
  cases hsem
  exact r_vret X (pc := 15) rfl (zw_dg dk_M_isWrong 7 rfl)
def y_M_passes : MethodName := ⟨R_M, "passes", "(C)Z"⟩
abbrev b_M_passes : ByteArray := prog_14_method_22_code
def dl_M_passes : List (Nat × Instr × Nat) := [(0, .aload_n 0, 1), (1, .invokevirtual 181, 3), (4, .ifCond .eq 11, 3), (7, .aload_n 0, 1), (8, .invokevirtual 185, 3), (11, .iload_n 1, 1), (12, .if_icmp .eq 5, 3), (15, .iconst 0, 1), (16, .ireturn, 1), (17, .aload_n 0, 1), (18, .dup, 1), (19, .getfield 169, 3), (22, .iconst 1, 1), (23, .iadd, 1), (24, .putfield 169, 3), (27, .iconst 1, 1), (28, .ireturn, 1)]
theorem dk_M_passes : zw_dk b_M_passes dl_M_passes = true := by decide +kernel
theorem ce_M_passes : zw_cev y_M_passes b_M_passes 2 (some .boolean) 1 := ⟨⟨kt_in 1665 (by decide +kernel) rfl, kt_in 98 (by decide +kernel) rfl, by decide +kernel⟩, kt_in 1664 (by decide +kernel) rfl, kt_in 48 (by decide +kernel) rfl⟩
def fn_M_passes (c : zw_Ct) (c3 : Int32) : Option (Int32 × zw_Ct) :=
  if (¬ (¬ (fn_M_fine c) = 0)) then
  (some (0, c))
  else
  ((fn_M_here c).bind fun r6 =>
  if (¬ r6 = c3) then
  (some (0, c))
  else
  ((some (zw_wI c 71 17 ((c.1 71 17) + 1))).bind fun c9 =>
  some (1, c9)))
set_option maxRecDepth 100000 in
theorem km_M_passes {l : Launch} {g : zw_G} {rr : zw_RR} {sh : zw_Sh} {c : zw_Ct} {c3 : Int32} {r : Int32} {c2 : zw_Ct} (hS : zw_Ok 0 101 sh rr) (hsem : fn_M_passes c c3 = some (r, c2)) : zw_Met l g y_M_passes b_M_passes 2 (some .boolean) 2 rr sh [.ref 71, .int c3] c (some (.int r)) c2 := by
  unfold fn_M_passes at hsem
  refine zw_Met.of (by decide +kernel) (Nat.le_of_ble_eq_true rfl) (fun p e s m args below meth cd X => ?_)
  refine zw_eL (L2 := [some (.ref 71), some (.int c3)]) rfl ?_
  refine r_aload_n X (pc := 0) (i := 0) (zw_dg dk_M_passes 0 rfl) rfl rfl ?_
  refine r_callVi X (pc := 1) (As := []) (st := []) (km_M_fine hS rfl) ce_M_fine kw_1666 (zo hS 71 rfl rfl) rfl rfl ⟨Nat.le_of_ble_eq_true rfl, Nat.le_of_ble_eq_true rfl⟩ (Nat.le_of_ble_eq_true rfl) (zw_dg dk_M_passes 1 rfl) ?_
  refine r_if_eq X (pc := 4) (tgt := 15) (zw_dg dk_M_passes 2 rfl) (by decide) (fun q5 => ?_) (fun q5 => ?_)
  · --
    have p4 : (¬ (¬ (fn_M_fine c) = 0)) := (fun z => z q5)
    have hsem := zw_ifp p4 hsem
    refine r_iconst X (pc := 15) (v := 0) (zw_dg dk_M_passes 7 rfl) (by decide) ?_
    have hbz : (0 : Int32) = 0 ∨ (0 : Int32) = 1 := (by decide)
    obtain ⟨rfl, rfl⟩ := zw_in2 hsem
    exact r_zret X (pc := 16) rfl (zw_bzn hbz).1 (zw_dg dk_M_passes 8 rfl)
  · --
    have p4 : ¬ (¬ (¬ (fn_M_fine c) = 0)) := (fun q => q q5)
    have hsem := zw_ifn p4 hsem
    refine r_aload_n X (pc := 7) (i := 0) (zw_dg dk_M_passes 3 rfl) rfl rfl ?_
    obtain ⟨r6, hr6, hsem⟩ := zw_bd hsem
    refine r_callVi X (pc := 8) (As := []) (st := []) (km_M_here hS hr6) ce_M_here kw_1670 (zo hS 71 rfl rfl) rfl rfl ⟨Nat.le_of_ble_eq_true rfl, Nat.le_of_ble_eq_true rfl⟩ (Nat.le_of_ble_eq_true rfl) (zw_dg dk_M_passes 4 rfl) ?_
    refine r_iload_n X (pc := 11) (i := 1) (zw_dg dk_M_passes 5 rfl) rfl rfl ?_
    refine r_icmp_eq X (pc := 12) (tgt := 17) (zw_dg dk_M_passes 6 rfl) (by decide) (fun q8 => ?_) (fun q8 => ?_)
    · --
      have p7 : ¬ (¬ r6 = c3) := (fun z => z q8)
      have hsem := zw_ifn p7 hsem
      refine r_aload_n X (pc := 17) (i := 0) (zw_dg dk_M_passes 9 rfl) rfl rfl ?_
      refine r_dup X (pc := 18) (zw_dg dk_M_passes 10 rfl) rfl ?_
      refine r_getI X (pc := 19) ci_M (zo hS 71 rfl rfl) rfl lk_M_169 (zw_dg dk_M_passes 11 rfl) ?_
      refine r_iconst X (pc := 22) (v := 1) (zw_dg dk_M_passes 12 rfl) (by decide) ?_
      refine r_iadd X (pc := 23) (zw_dg dk_M_passes 13 rfl)  ?_
      refine r_putI X (pc := 24) ci_M (zo hS 71 rfl rfl) rfl lk_M_169 rfl ⟨rfl, rfl⟩ (zw_dg dk_M_passes 14 rfl) ?_
      obtain ⟨c9, hc9, hsem⟩ := zw_bd hsem
      refine zw_topC hc9 ?_
      refine r_iconst X (pc := 27) (v := 1) (zw_dg dk_M_passes 15 rfl) (by decide) ?_
      have hbz : (1 : Int32) = 0 ∨ (1 : Int32) = 1 := (by decide)
      obtain ⟨rfl, rfl⟩ := zw_in2 hsem
      exact r_zret X (pc := 28) rfl (zw_bzn hbz).1 (zw_dg dk_M_passes 16 rfl)
    · --
      have p7 : (¬ r6 = c3) := q8
      have hsem := zw_ifp p7 hsem
      refine r_iconst X (pc := 15) (v := 0) (zw_dg dk_M_passes 7 rfl) (by decide) ?_
      have hbz : (0 : Int32) = 0 ∨ (0 : Int32) = 1 := (by decide)
      obtain ⟨rfl, rfl⟩ := zw_in2 hsem
      exact r_zret X (pc := 16) rfl (zw_bzn hbz).1 (zw_dg dk_M_passes 8 rfl)
def y_M_letter : MethodName := ⟨R_M, "letter", "(C)I"⟩
abbrev b_M_letter : ByteArray := prog_14_method_27_code
def dl_M_letter : List (Nat × Instr × Nat) := [(0, .iconst 0, 1), (1, .istore_n 2, 1), (2, .iconst 0, 1), (3, .istore_n 3, 1), (4, .iconst 0, 1), (5, .istore 4, 2), (7, .iconst 0, 1), (8, .istore 5, 2), (10, .iload 5, 2), (12, .aload_n 0, 1), (13, .getfield 9, 3), (16, .if_icmp .ge 52, 3), (19, .aload_n 0, 1), (20, .getfield 16, 3), (23, .iconst 4, 1), (24, .aload_n 0, 1), (25, .getfield 212, 3), (28, .imul, 1), (29, .iload 5, 2), (31, .iadd, 1), (32, .iaload, 1), (33, .istore 6, 2), (35, .iload_n 2, 1), (36, .iload 6, 2), (38, .iload 6, 2), (40, .imul, 1), (41, .iadd, 1), (42, .istore_n 2, 1), (43, .iload_n 3, 1), (44, .iload 6, 2), (46, .invokestatic 163, 3), (49, .istore_n 3, 1), (50, .iload 4, 2), (52, .aload_n 0, 1), (53, .getfield 20, 3), (56, .iload 6, 2), (58, .iaload, 1), (59, .iadd, 1), (60, .istore 4, 2), (62, .iinc 5 1, 3), (65, .goto (-55), 3), (68, .aload_n 0, 1), (69, .getfield 16, 3), (72, .iconst 4, 1), (73, .aload_n 0, 1), (74, .getfield 212, 3), (77, .imul, 1), (78, .aload_n 0, 1), (79, .getfield 219, 3), (82, .iadd, 1), (83, .iaload, 1), (84, .istore 5, 2), (86, .iload_n 1, 1), (87, .tableswitch 133 101 120 #[123, 133, 133, 133, 133, 133, 133, 133, 98, 128, 133, 133, 93, 133, 96, 112, 120, 133, 133, 100], 93), (180, .iload 5, 2), (182, .ireturn, 1), (183, .iload_n 2, 1), (184, .ireturn, 1), (185, .iload_n 3, 1), (186, .ireturn, 1), (187, .iload 5, 2), (189, .iload_n 3, 1), (190, .if_icmp .ne 7, 3), (193, .iconst 1, 1), (194, .goto 4, 3), (197, .iconst 0, 1), (198, .ireturn, 1), (199, .aload_n 0, 1), (200, .getfield 20, 3), (203, .iload 5, 2), (205, .iaload, 1), (206, .ireturn, 1), (207, .iload 4, 2), (209, .ireturn, 1), (210, .aload_n 0, 1), (211, .getfield 219, 3), (214, .ireturn, 1), (215, .aload_n 0, 1), (216, .getfield 9, 3), (219, .ireturn, 1), (220, .aload_n 0, 1), (221, .getfield 13, 3), (224, .ireturn, 1)]
theorem dk_M_letter : zw_dk b_M_letter dl_M_letter = true := by decide +kernel
theorem ce_M_letter : zw_cev y_M_letter b_M_letter 7 (some .int) 1 := ⟨⟨kt_in 1683 (by decide +kernel) rfl, kt_in 98 (by decide +kernel) rfl, by decide +kernel⟩, kt_in 1682 (by decide +kernel) rfl, kt_in 52 (by decide +kernel) rfl⟩
def fn_M_letter_l1 (c : zw_Ct) : Int32 × Int32 × Int32 × Int32 → Option ((Int32 × Int32 × Int32) ⊕ (Int32 × Int32 × Int32 × Int32)) := fun (squares4, most5, turns6, e7) =>
  if (e7 < (c.1 71 0)) then
  ((zw_aI 1820 c 72 ((4 * (c.1 71 19)) + e7)).bind fun x14 =>
  (some ((squares4 + (x14 * x14)) : Int32)).bind fun squares15 =>
  (some ((if most5 < x14 then x14 else most5) : Int32)).bind fun most16 =>
  (zw_aI 13 c 73 x14).bind fun x17 =>
  (some ((turns6 + x17) : Int32)).bind fun turns18 =>
  some (.inr (squares15, most16, turns18, (e7 + 1))))
  else
  (some (.inl (squares4, most5, turns6)))
def fn_M_letter (c : zw_Ct) (c3 : Int32) : Option Int32 :=
  (zw_whl (fn_M_letter_l1 c) zw_F (0, 0, 0, 0)).bind fun (squares8, most9, turns10) =>
  (zw_aI 1820 c 72 ((4 * (c.1 71 19)) + (c.1 71 20))).bind fun x19 =>
  if c3 = 113 then
  (some x19)
  else
  (if c3 = 115 then
  (some squares8)
  else
  (if c3 = 109 then
  (some most9)
  else
  (if c3 = 120 then
  (some (if (x19 = most9) then (1 : Int32) else 0))
  else
  (if c3 = 116 then
  ((zw_aI 13 c 73 x19).bind fun x26 =>
  some x26)
  else
  (if c3 = 117 then
  (some turns10)
  else
  (if c3 = 101 then
  (some (c.1 71 20))
  else
  (if c3 = 110 then
  (some (c.1 71 0))
  else
  (some (c.1 71 1)))))))))
set_option maxRecDepth 100000 in
theorem km_M_letter {l : Launch} {g : zw_G} {rr : zw_RR} {sh : zw_Sh} {c : zw_Ct} {c3 : Int32} {r : Int32} (hS : zw_Ok 0 101 sh rr) (hsem : fn_M_letter c c3 = some r) : zw_Met l g y_M_letter b_M_letter 7 (some .int) 1 rr sh [.ref 71, .int c3] c (some (.int r)) c := by
  unfold fn_M_letter at hsem
  refine zw_Met.of (by decide +kernel) (Nat.le_of_ble_eq_true rfl) (fun p e s m args below meth cd X => ?_)
  refine zw_eL (L2 := [some (.ref 71), some (.int c3), none, none, none, none, none]) rfl ?_
  refine r_iconst X (pc := 0) (v := 0) (zw_dg dk_M_letter 0 rfl) (by decide) ?_
  refine r_istore_n X (pc := 1) (i := 2) (zw_dg dk_M_letter 1 rfl) rfl (by decide) rfl ?_
  refine r_iconst X (pc := 2) (v := 0) (zw_dg dk_M_letter 2 rfl) (by decide) ?_
  refine r_istore_n X (pc := 3) (i := 3) (zw_dg dk_M_letter 3 rfl) rfl (by decide) rfl ?_
  refine r_iconst X (pc := 4) (v := 0) (zw_dg dk_M_letter 4 rfl) (by decide) ?_
  refine r_istore X (pc := 5) (i := 4) (zw_dg dk_M_letter 5 rfl) (by decide) rfl ?_
  refine r_iconst X (pc := 7) (v := 0) (zw_dg dk_M_letter 6 rfl) (by decide) ?_
  refine r_istore X (pc := 8) (i := 5) (zw_dg dk_M_letter 7 rfl) (by decide) rfl ?_
  obtain ⟨l11, hl11, hsl11⟩ := zw_bd hsem
  refine r_loop (pc := 10) (pce := 68) hl11 (fun (squares4, most5, turns6, e7) => [some (.ref 71), some (.int c3), some (.int squares4), some (.int most5), some (.int turns6), some (.int e7), none] : Int32 × Int32 × Int32 × Int32 → zw_Lc) (fun (squares4, most5, turns6, e7) => c : Int32 × Int32 × Int32 × Int32 → zw_Ct) (fun (squares8, most9, turns10) => [some (.ref 71), some (.int c3), some (.int squares8), some (.int most9), some (.int turns10), none, none] : Int32 × Int32 × Int32 → zw_Lc) (fun (squares8, most9, turns10) => c : Int32 × Int32 × Int32 → zw_Ct) ?_ rfl rfl ?_
  · rintro ⟨squares4, most5, turns6, e7⟩ rr hsem hK hP
    try unfold fn_M_letter_l1 at hsem
    refine r_iload X (pc := 10) (i := 5) (zw_dg dk_M_letter 8 rfl) rfl ?_
    refine r_aload_n X (pc := 12) (i := 0) (zw_dg dk_M_letter 9 rfl) rfl rfl ?_
    refine r_getI X (pc := 13) ci_M (zo hS 71 rfl rfl) rfl lk_M_9 (zw_dg dk_M_letter 10 rfl) ?_
    refine r_icmp_ge X (pc := 16) (tgt := 68) (zw_dg dk_M_letter 11 rfl) (by decide) (fun q13 => ?_) (fun q13 => ?_)
    · --
      have p12 : ¬ (e7 < (c.1 71 0)) := (Int32.not_lt.mpr q13)
      have hsem := zw_ifn p12 hsem
      have jj := hK _ (Option.some.inj hsem).symm
      exact (r_fgt [5] rfl jj)
    · --
      have p12 : (e7 < (c.1 71 0)) := (Int32.not_le.mp q13)
      have hsem := zw_ifp p12 hsem
      refine r_aload_n X (pc := 19) (i := 0) (zw_dg dk_M_letter 12 rfl) rfl rfl ?_
      refine r_getR X (pc := 20) (r := 72) ci_M (zo hS 71 rfl rfl) rfl (zr hS 71 3 rfl rfl) lk_M_16 (zw_dg dk_M_letter 13 rfl) ?_
      refine r_iconst X (pc := 23) (v := 4) (zw_dg dk_M_letter 14 rfl) (by decide) ?_
      refine r_aload_n X (pc := 24) (i := 0) (zw_dg dk_M_letter 15 rfl) rfl rfl ?_
      refine r_getI X (pc := 25) ci_M (zo hS 71 rfl rfl) rfl lk_M_212 (zw_dg dk_M_letter 16 rfl) ?_
      refine r_imul X (pc := 28) (zw_dg dk_M_letter 17 rfl)  ?_
      refine r_iload X (pc := 29) (i := 5) (zw_dg dk_M_letter 18 rfl) rfl ?_
      refine r_iadd X (pc := 31) (zw_dg dk_M_letter 19 rfl)  ?_
      obtain ⟨x14, hx14, hsem⟩ := zw_bd hsem
      refine r_iald X (pc := 32) (zo hS 72 rfl rfl) hx14 (zw_dg dk_M_letter 20 rfl) ?_
      refine r_istore X (pc := 33) (i := 6) (zw_dg dk_M_letter 21 rfl) (by decide) rfl ?_
      refine r_iload_n X (pc := 35) (i := 2) (zw_dg dk_M_letter 22 rfl) rfl rfl ?_
      refine r_iload X (pc := 36) (i := 6) (zw_dg dk_M_letter 23 rfl) rfl ?_
      refine r_iload X (pc := 38) (i := 6) (zw_dg dk_M_letter 24 rfl) rfl ?_
      refine r_imul X (pc := 40) (zw_dg dk_M_letter 25 rfl)  ?_
      refine r_iadd X (pc := 41) (zw_dg dk_M_letter 26 rfl)  ?_
      obtain ⟨squares15, hsquares15, hsem⟩ := zw_bd hsem
      refine zw_topI hsquares15 ?_
      refine r_istore_n X (pc := 42) (i := 2) (zw_dg dk_M_letter 27 rfl) rfl (by decide) rfl ?_
      refine r_iload_n X (pc := 43) (i := 3) (zw_dg dk_M_letter 28 rfl) rfl rfl ?_
      refine r_iload X (pc := 44) (i := 6) (zw_dg dk_M_letter 29 rfl) rfl ?_
      refine r_mmax X (pc := 46) kw_1633 mws_max kw_88 mwc_max ⟨Nat.le_of_ble_eq_true rfl, Nat.le_of_ble_eq_true rfl⟩ (st := []) (Nat.le_of_ble_eq_true rfl) (zw_dg dk_M_letter 30 rfl) ?_
      obtain ⟨most16, hmost16, hsem⟩ := zw_bd hsem
      refine zw_topI hmost16 ?_
      refine r_istore_n X (pc := 49) (i := 3) (zw_dg dk_M_letter 31 rfl) rfl (by decide) rfl ?_
      refine r_iload X (pc := 50) (i := 4) (zw_dg dk_M_letter 32 rfl) rfl ?_
      refine r_aload_n X (pc := 52) (i := 0) (zw_dg dk_M_letter 33 rfl) rfl rfl ?_
      refine r_getR X (pc := 53) (r := 73) ci_M (zo hS 71 rfl rfl) rfl (zr hS 71 4 rfl rfl) lk_M_20 (zw_dg dk_M_letter 34 rfl) ?_
      refine r_iload X (pc := 56) (i := 6) (zw_dg dk_M_letter 35 rfl) rfl ?_
      obtain ⟨x17, hx17, hsem⟩ := zw_bd hsem
      refine r_iald X (pc := 58) (zo hS 73 rfl rfl) hx17 (zw_dg dk_M_letter 36 rfl) ?_
      refine r_iadd X (pc := 59) (zw_dg dk_M_letter 37 rfl)  ?_
      obtain ⟨turns18, hturns18, hsem⟩ := zw_bd hsem
      refine zw_topI hturns18 ?_
      refine r_istore X (pc := 60) (i := 4) (zw_dg dk_M_letter 38 rfl) (by decide) rfl ?_
      refine r_iinc X (pc := 62) (i := 5) (k := 1) (zw_dg dk_M_letter 39 rfl) rfl (by decide) (by decide) rfl ?_
      refine r_goto X (pc := 65) (tgt := 10) (zw_dg dk_M_letter 40 rfl) (by decide) ?_
      have jj := hP _ (Option.some.inj hsem).symm
      exact (r_fgt [6] rfl jj)
  obtain ⟨squares8, most9, turns10⟩ := l11
  have hsem := hsl11
  refine r_aload_n X (pc := 68) (i := 0) (zw_dg dk_M_letter 41 rfl) rfl rfl ?_
  refine r_getR X (pc := 69) (r := 72) ci_M (zo hS 71 rfl rfl) rfl (zr hS 71 3 rfl rfl) lk_M_16 (zw_dg dk_M_letter 42 rfl) ?_
  refine r_iconst X (pc := 72) (v := 4) (zw_dg dk_M_letter 43 rfl) (by decide) ?_
  refine r_aload_n X (pc := 73) (i := 0) (zw_dg dk_M_letter 44 rfl) rfl rfl ?_
  refine r_getI X (pc := 74) ci_M (zo hS 71 rfl rfl) rfl lk_M_212 (zw_dg dk_M_letter 45 rfl) ?_
  refine r_imul X (pc := 77) (zw_dg dk_M_letter 46 rfl)  ?_
  refine r_aload_n X (pc := 78) (i := 0) (zw_dg dk_M_letter 47 rfl) rfl rfl ?_
  refine r_getI X (pc := 79) ci_M (zo hS 71 rfl rfl) rfl lk_M_219 (zw_dg dk_M_letter 48 rfl) ?_
  refine r_iadd X (pc := 82) (zw_dg dk_M_letter 49 rfl)  ?_
  obtain ⟨x19, hx19, hsem⟩ := zw_bd hsem
  refine r_iald X (pc := 83) (zo hS 72 rfl rfl) hx19 (zw_dg dk_M_letter 50 rfl) ?_
  refine r_istore X (pc := 84) (i := 5) (zw_dg dk_M_letter 51 rfl) (by decide) rfl ?_
  refine r_iload_n X (pc := 86) (i := 1) (zw_dg dk_M_letter 52 rfl) rfl rfl ?_
  by_cases k20 : c3 = 113
  · have hsem := zw_ifp k20 hsem
    refine zw_eqtI k20 ?_
    refine r_tableIn X (pc := 87) (tgt := 180) (off := 93) (zw_dg dk_M_letter 53 rfl) (by decide) (by decide) (by decide) (by decide) ?_
    refine r_iload X (pc := 180) (i := 5) (zw_dg dk_M_letter 54 rfl) rfl ?_
    cases hsem
    exact r_iret X (pc := 182) rfl (zw_dg dk_M_letter 55 rfl)
  · have hsem := zw_ifn k20 hsem
    by_cases k21 : c3 = 115
    · have hsem := zw_ifp k21 hsem
      refine zw_eqtI k21 ?_
      refine r_tableIn X (pc := 87) (tgt := 183) (off := 96) (zw_dg dk_M_letter 53 rfl) (by decide) (by decide) (by decide) (by decide) ?_
      refine r_iload_n X (pc := 183) (i := 2) (zw_dg dk_M_letter 56 rfl) rfl rfl ?_
      cases hsem
      exact r_iret X (pc := 184) rfl (zw_dg dk_M_letter 57 rfl)
    · have hsem := zw_ifn k21 hsem
      by_cases k22 : c3 = 109
      · have hsem := zw_ifp k22 hsem
        refine zw_eqtI k22 ?_
        refine r_tableIn X (pc := 87) (tgt := 185) (off := 98) (zw_dg dk_M_letter 53 rfl) (by decide) (by decide) (by decide) (by decide) ?_
        refine r_iload_n X (pc := 185) (i := 3) (zw_dg dk_M_letter 58 rfl) rfl rfl ?_
        cases hsem
        exact r_iret X (pc := 186) rfl (zw_dg dk_M_letter 59 rfl)
      · have hsem := zw_ifn k22 hsem
        by_cases k23 : c3 = 120
        · have hsem := zw_ifp k23 hsem
          refine zw_eqtI k23 ?_
          refine r_tableIn X (pc := 87) (tgt := 187) (off := 100) (zw_dg dk_M_letter 53 rfl) (by decide) (by decide) (by decide) (by decide) ?_
          refine zw_ter (P := (x19 = most9)) (f := Value.int) (x := 1) (y := 0) (J := 198) (st2 := []) (fun jT jF => ?_) ?_
          · --
            refine r_iload X (pc := 187) (i := 5) (zw_dg dk_M_letter 60 rfl) rfl ?_
            refine r_iload_n X (pc := 189) (i := 3) (zw_dg dk_M_letter 61 rfl) rfl rfl ?_
            refine r_icmp_ne X (pc := 190) (tgt := 197) (zw_dg dk_M_letter 62 rfl) (by decide) (fun q24 => ?_) (fun q24 => ?_)
            · --
              refine r_iconst X (pc := 197) (v := 0) (zw_dg dk_M_letter 65 rfl) (by decide) ?_
              exact jF q24
            · --
              refine r_iconst X (pc := 193) (v := 1) (zw_dg dk_M_letter 63 rfl) (by decide) ?_
              refine r_goto X (pc := 194) (tgt := 198) (zw_dg dk_M_letter 64 rfl) (by decide) ?_
              exact jT q24
          cases hsem
          exact r_iret X (pc := 198) rfl (zw_dg dk_M_letter 66 rfl)
        · have hsem := zw_ifn k23 hsem
          by_cases k25 : c3 = 116
          · have hsem := zw_ifp k25 hsem
            refine zw_eqtI k25 ?_
            refine r_tableIn X (pc := 87) (tgt := 199) (off := 112) (zw_dg dk_M_letter 53 rfl) (by decide) (by decide) (by decide) (by decide) ?_
            refine r_aload_n X (pc := 199) (i := 0) (zw_dg dk_M_letter 67 rfl) rfl rfl ?_
            refine r_getR X (pc := 200) (r := 73) ci_M (zo hS 71 rfl rfl) rfl (zr hS 71 4 rfl rfl) lk_M_20 (zw_dg dk_M_letter 68 rfl) ?_
            refine r_iload X (pc := 203) (i := 5) (zw_dg dk_M_letter 69 rfl) rfl ?_
            obtain ⟨x26, hx26, hsem⟩ := zw_bd hsem
            refine r_iald X (pc := 205) (zo hS 73 rfl rfl) hx26 (zw_dg dk_M_letter 70 rfl) ?_
            cases hsem
            exact r_iret X (pc := 206) rfl (zw_dg dk_M_letter 71 rfl)
          · have hsem := zw_ifn k25 hsem
            by_cases k27 : c3 = 117
            · have hsem := zw_ifp k27 hsem
              refine zw_eqtI k27 ?_
              refine r_tableIn X (pc := 87) (tgt := 207) (off := 120) (zw_dg dk_M_letter 53 rfl) (by decide) (by decide) (by decide) (by decide) ?_
              refine r_iload X (pc := 207) (i := 4) (zw_dg dk_M_letter 72 rfl) rfl ?_
              cases hsem
              exact r_iret X (pc := 209) rfl (zw_dg dk_M_letter 73 rfl)
            · have hsem := zw_ifn k27 hsem
              by_cases k28 : c3 = 101
              · have hsem := zw_ifp k28 hsem
                refine zw_eqtI k28 ?_
                refine r_tableIn X (pc := 87) (tgt := 210) (off := 123) (zw_dg dk_M_letter 53 rfl) (by decide) (by decide) (by decide) (by decide) ?_
                refine r_aload_n X (pc := 210) (i := 0) (zw_dg dk_M_letter 74 rfl) rfl rfl ?_
                refine r_getI X (pc := 211) ci_M (zo hS 71 rfl rfl) rfl lk_M_219 (zw_dg dk_M_letter 75 rfl) ?_
                cases hsem
                exact r_iret X (pc := 214) rfl (zw_dg dk_M_letter 76 rfl)
              · have hsem := zw_ifn k28 hsem
                by_cases k29 : c3 = 110
                · have hsem := zw_ifp k29 hsem
                  refine zw_eqtI k29 ?_
                  refine r_tableIn X (pc := 87) (tgt := 215) (off := 128) (zw_dg dk_M_letter 53 rfl) (by decide) (by decide) (by decide) (by decide) ?_
                  refine r_aload_n X (pc := 215) (i := 0) (zw_dg dk_M_letter 77 rfl) rfl rfl ?_
                  refine r_getI X (pc := 216) ci_M (zo hS 71 rfl rfl) rfl lk_M_9 (zw_dg dk_M_letter 78 rfl) ?_
                  cases hsem
                  exact r_iret X (pc := 219) rfl (zw_dg dk_M_letter 79 rfl)
                · have hsem := zw_ifn k29 hsem
                  have e101 := lv_neT (fun z => k28 z) (show (101 : Int32).toInt = 101 from by decide)
                  have e109 := lv_neT (fun z => k22 z) (show (109 : Int32).toInt = 109 from by decide)
                  have e110 := lv_neT (fun z => k29 z) (show (110 : Int32).toInt = 110 from by decide)
                  have e113 := lv_neT (fun z => k20 z) (show (113 : Int32).toInt = 113 from by decide)
                  have e115 := lv_neT (fun z => k21 z) (show (115 : Int32).toInt = 115 from by decide)
                  have e116 := lv_neT (fun z => k25 z) (show (116 : Int32).toInt = 116 from by decide)
                  have e117 := lv_neT (fun z => k27 z) (show (117 : Int32).toInt = 117 from by decide)
                  have e120 := lv_neT (fun z => k23 z) (show (120 : Int32).toInt = 120 from by decide)
                  by_cases hgap : c3.toInt < 101 ∨ 120 < c3.toInt
                  · --
                    refine r_tableOut X (pc := 87) (tgt := 220) (zw_dg dk_M_letter 53 rfl) (by omega) (by decide) ?_
                    refine r_aload_n X (pc := 220) (i := 0) (zw_dg dk_M_letter 80 rfl) rfl rfl ?_
                    refine r_getI X (pc := 221) ci_M (zo hS 71 rfl rfl) rfl lk_M_13 (zw_dg dk_M_letter 81 rfl) ?_
                    cases hsem
                    exact r_iret X (pc := 224) rfl (zw_dg dk_M_letter 82 rfl)
                  refine r_tableIn X (pc := 87) (tgt := 220) (off := 133) (zw_dg dk_M_letter 53 rfl) (by omega) (by omega) (by
                    have hh := (show ∀ n : Nat, n < 20 → n ∉ [0, 8, 9, 12, 14, 15, 16, 19] → (#[123, 133, 133, 133, 133, 133, 133, 133, 98, 128, 133, 133, 93, 133, 96, 112, 120, 133, 133, 100] : Array Int)[n]? = some 133 from by decide)
                    exact hh _ (by omega) (by simp only [List.mem_cons, List.not_mem_nil, or_false]; omega)) (by decide) ?_
                  refine r_aload_n X (pc := 220) (i := 0) (zw_dg dk_M_letter 80 rfl) rfl rfl ?_
                  refine r_getI X (pc := 221) ci_M (zo hS 71 rfl rfl) rfl lk_M_13 (zw_dg dk_M_letter 81 rfl) ?_
                  cases hsem
                  exact r_iret X (pc := 224) rfl (zw_dg dk_M_letter 82 rfl)
def y_M_held : MethodName := ⟨R_M, "held", "(I)I"⟩
abbrev b_M_held : ByteArray := prog_14_method_23_code
def dl_M_held : List (Nat × Instr × Nat) := [(0, .aload_n 0, 1), (1, .iload_n 1, 1), (2, .invokevirtual 188, 3), (5, .istore_n 2, 1), (6, .aload_n 0, 1), (7, .bipush 60, 2), (9, .invokevirtual 192, 3), (12, .ifCond .eq 18, 3), (15, .iload_n 2, 1), (16, .aload_n 0, 1), (17, .iload_n 1, 1), (18, .invokevirtual 188, 3), (21, .if_icmp .ge 7, 3), (24, .iconst 1, 1), (25, .goto 4, 3), (28, .iconst 0, 1), (29, .ireturn, 1), (30, .aload_n 0, 1), (31, .bipush 62, 2), (33, .invokevirtual 192, 3), (36, .ifCond .eq 18, 3), (39, .iload_n 2, 1), (40, .aload_n 0, 1), (41, .iload_n 1, 1), (42, .invokevirtual 188, 3), (45, .if_icmp .le 7, 3), (48, .iconst 1, 1), (49, .goto 4, 3), (52, .iconst 0, 1), (53, .ireturn, 1), (54, .aload_n 0, 1), (55, .bipush 61, 2), (57, .invokevirtual 192, 3), (60, .ifCond .eq 18, 3), (63, .iload_n 2, 1), (64, .aload_n 0, 1), (65, .iload_n 1, 1), (66, .invokevirtual 188, 3), (69, .if_icmp .ne 7, 3), (72, .iconst 1, 1), (73, .goto 4, 3), (76, .iconst 0, 1), (77, .ireturn, 1), (78, .iload_n 2, 1), (79, .ireturn, 1)]
theorem dk_M_held : zw_dk b_M_held dl_M_held = true := by decide +kernel
theorem ce_M_held : zw_cev y_M_held b_M_held 3 (some .int) 1 := ⟨⟨kt_in 1649 (by decide +kernel) rfl, kt_in 98 (by decide +kernel) rfl, by decide +kernel⟩, kt_in 1648 (by decide +kernel) rfl, kt_in 44 (by decide +kernel) rfl⟩
def y_M_sum : MethodName := ⟨R_M, "sum", "(I)I"⟩
abbrev b_M_sum : ByteArray := prog_14_method_24_code
def dl_M_sum : List (Nat × Instr × Nat) := [(0, .aload_n 0, 1), (1, .iload_n 1, 1), (2, .invokevirtual 196, 3), (5, .istore_n 2, 1), (6, .aload_n 0, 1), (7, .invokevirtual 181, 3), (10, .ifCond .eq 72, 3), (13, .aload_n 0, 1), (14, .invokevirtual 185, 3), (17, .bipush 43, 2), (19, .if_icmp .eq 12, 3), (22, .aload_n 0, 1), (23, .invokevirtual 185, 3), (26, .bipush 45, 2), (28, .if_icmp .ne 54, 3), (31, .aload_n 0, 1), (32, .invokevirtual 185, 3), (35, .bipush 43, 2), (37, .if_icmp .ne 7, 3), (40, .iconst 1, 1), (41, .goto 4, 3), (44, .iconst 0, 1), (45, .istore_n 3, 1), (46, .aload_n 0, 1), (47, .dup, 1), (48, .getfield 169, 3), (51, .iconst 1, 1), (52, .iadd, 1), (53, .putfield 169, 3), (56, .aload_n 0, 1), (57, .iload_n 1, 1), (58, .invokevirtual 196, 3), (61, .istore 4, 2), (63, .iload_n 3, 1), (64, .ifCond .eq 10, 3), (67, .iload_n 2, 1), (68, .iload 4, 2), (70, .iadd, 1), (71, .goto 7, 3), (74, .iload_n 2, 1), (75, .iload 4, 2), (77, .isub, 1), (78, .istore_n 2, 1), (79, .goto (-73), 3), (82, .iload_n 2, 1), (83, .ireturn, 1)]
theorem dk_M_sum : zw_dk b_M_sum dl_M_sum = true := by decide +kernel
theorem ce_M_sum : zw_cev y_M_sum b_M_sum 5 (some .int) 1 := ⟨⟨kt_in 1653 (by decide +kernel) rfl, kt_in 98 (by decide +kernel) rfl, by decide +kernel⟩, kt_in 1652 (by decide +kernel) rfl, kt_in 45 (by decide +kernel) rfl⟩
def y_M_product : MethodName := ⟨R_M, "product", "(I)I"⟩
abbrev b_M_product : ByteArray := prog_14_method_25_code
def dl_M_product : List (Nat × Instr × Nat) := [(0, .aload_n 0, 1), (1, .iload_n 1, 1), (2, .invokevirtual 199, 3), (5, .istore_n 2, 1), (6, .aload_n 0, 1), (7, .invokevirtual 181, 3), (10, .ifCond .eq 81, 3), (13, .aload_n 0, 1), (14, .invokevirtual 185, 3), (17, .bipush 42, 2), (19, .if_icmp .eq 12, 3), (22, .aload_n 0, 1), (23, .invokevirtual 185, 3), (26, .bipush 47, 2), (28, .if_icmp .ne 63, 3), (31, .aload_n 0, 1), (32, .invokevirtual 185, 3), (35, .bipush 42, 2), (37, .if_icmp .ne 7, 3), (40, .iconst 1, 1), (41, .goto 4, 3), (44, .iconst 0, 1), (45, .istore_n 3, 1), (46, .aload_n 0, 1), (47, .dup, 1), (48, .getfield 169, 3), (51, .iconst 1, 1), (52, .iadd, 1), (53, .putfield 169, 3), (56, .aload_n 0, 1), (57, .iload_n 1, 1), (58, .invokevirtual 199, 3), (61, .istore 4, 2), (63, .iload_n 3, 1), (64, .ifCond .eq 10, 3), (67, .iload_n 2, 1), (68, .iload 4, 2), (70, .imul, 1), (71, .goto 16, 3), (74, .iload 4, 2), (76, .ifCond .ne 7, 3), (79, .iconst 0, 1), (80, .goto 7, 3), (83, .iload_n 2, 1), (84, .iload 4, 2), (86, .idiv, 1), (87, .istore_n 2, 1), (88, .goto (-82), 3), (91, .iload_n 2, 1), (92, .ireturn, 1)]
theorem dk_M_product : zw_dk b_M_product dl_M_product = true := by decide +kernel
theorem ce_M_product : zw_cev y_M_product b_M_product 5 (some .int) 1 := ⟨⟨kt_in 1657 (by decide +kernel) rfl, kt_in 98 (by decide +kernel) rfl, by decide +kernel⟩, kt_in 1656 (by decide +kernel) rfl, kt_in 46 (by decide +kernel) rfl⟩
def y_M_thing : MethodName := ⟨R_M, "thing", "(I)I"⟩
abbrev b_M_thing : ByteArray := prog_14_method_26_code
def dl_M_thing : List (Nat × Instr × Nat) := [(0, .aload_n 0, 1), (1, .bipush 45, 2), (3, .invokevirtual 192, 3), (6, .ifCond .eq 10, 3), (9, .aload_n 0, 1), (10, .iload_n 1, 1), (11, .invokevirtual 199, 3), (14, .ineg, 1), (15, .ireturn, 1), (16, .aload_n 0, 1), (17, .invokevirtual 181, 3), (20, .ifCond .ne 5, 3), (23, .iconst 0, 1), (24, .ireturn, 1), (25, .aload_n 0, 1), (26, .invokevirtual 185, 3), (29, .istore_n 2, 1), (30, .iload_n 2, 1), (31, .bipush 40, 2), (33, .if_icmp .ne 41, 3), (36, .iload_n 1, 1), (37, .iconst 5, 1), (38, .if_icmp .ge 36, 3), (41, .aload_n 0, 1), (42, .dup, 1), (43, .getfield 169, 3), (46, .iconst 1, 1), (47, .iadd, 1), (48, .putfield 169, 3), (51, .aload_n 0, 1), (52, .iload_n 1, 1), (53, .iconst 1, 1), (54, .iadd, 1), (55, .invokevirtual 202, 3), (58, .istore_n 3, 1), (59, .aload_n 0, 1), (60, .bipush 41, 2), (62, .invokevirtual 192, 3), (65, .ifCond .ne 7, 3), (68, .aload_n 0, 1), (69, .invokevirtual 205, 3), (72, .iload_n 3, 1), (73, .ireturn, 1), (74, .iload_n 2, 1), (75, .i2l, 1), (76, .ldc2_w 208, 3), (79, .ldc2_w 210, 3), (82, .invokestatic 120, 3), (85, .ifCond .eq 62, 3), (88, .iconst 0, 1), (89, .istore_n 3, 1), (90, .iconst 0, 1), (91, .istore 4, 2), (93, .iload 4, 2), (95, .iconst 4, 1), (96, .if_icmp .ge 49, 3), (99, .aload_n 0, 1), (100, .invokevirtual 185, 3), (103, .i2l, 1), (104, .ldc2_w 208, 3), (107, .ldc2_w 210, 3), (110, .invokestatic 120, 3), (113, .ifCond .eq 32, 3), (116, .bipush 10, 2), (118, .iload_n 3, 1), (119, .imul, 1), (120, .aload_n 0, 1), (121, .invokevirtual 185, 3), (124, .iadd, 1), (125, .bipush 48, 2), (127, .isub, 1), (128, .istore_n 3, 1), (129, .aload_n 0, 1), (130, .dup, 1), (131, .getfield 169, 3), (134, .iconst 1, 1), (135, .iadd, 1), (136, .putfield 169, 3), (139, .iinc 4 1, 3), (142, .goto (-49), 3), (145, .iload_n 3, 1), (146, .ireturn, 1), (147, .iload_n 2, 1), (148, .bipush 113, 2), (150, .if_icmp .eq 57, 3), (153, .iload_n 2, 1), (154, .bipush 115, 2), (156, .if_icmp .eq 51, 3), (159, .iload_n 2, 1), (160, .bipush 109, 2), (162, .if_icmp .eq 45, 3), (165, .iload_n 2, 1), (166, .bipush 120, 2), (168, .if_icmp .eq 39, 3), (171, .iload_n 2, 1), (172, .bipush 116, 2), (174, .if_icmp .eq 33, 3), (177, .iload_n 2, 1), (178, .bipush 117, 2), (180, .if_icmp .eq 27, 3), (183, .iload_n 2, 1), (184, .bipush 101, 2), (186, .if_icmp .eq 21, 3), (189, .iload_n 2, 1), (190, .bipush 110, 2), (192, .if_icmp .eq 15, 3), (195, .iload_n 2, 1), (196, .bipush 100, 2), (198, .if_icmp .eq 9, 3), (201, .aload_n 0, 1), (202, .invokevirtual 205, 3), (205, .iconst 0, 1), (206, .ireturn, 1), (207, .aload_n 0, 1), (208, .dup, 1), (209, .getfield 169, 3), (212, .iconst 1, 1), (213, .iadd, 1), (214, .putfield 169, 3), (217, .aload_n 0, 1), (218, .getfield 212, 3), (221, .iconst (-1), 1), (222, .if_icmp .ne 7, 3), (225, .iconst 0, 1), (226, .goto 9, 3), (229, .aload_n 0, 1), (230, .iload_n 2, 1), (231, .i2c, 1), (232, .invokevirtual 215, 3), (235, .ireturn, 1)]
theorem dk_M_thing : zw_dk b_M_thing dl_M_thing = true := by decide +kernel
theorem ce_M_thing : zw_cev y_M_thing b_M_thing 5 (some .int) 1 := ⟨⟨kt_in 1661 (by decide +kernel) rfl, kt_in 98 (by decide +kernel) rfl, by decide +kernel⟩, kt_in 1660 (by decide +kernel) rfl, kt_in 47 (by decide +kernel) rfl⟩
def fn_M_held (rc : Nat → zw_Ct → Int32 → Option (Int32 × zw_Ct)) (c : zw_Ct) (deep1 : Int32) : Option (Int32 × zw_Ct) :=
  (rc 1 c deep1).bind fun (r2, c3) =>
  (fn_M_passes c3 60).bind fun (r4, c5) =>
  if (¬ r4 = 0) then
  ((rc 1 c5 deep1).bind fun (r22, c23) =>
  some ((if (r2 < r22) then (1 : Int32) else 0), c23))
  else
  ((fn_M_passes c5 62).bind fun (r8, c9) =>
  if (¬ r8 = 0) then
  ((rc 1 c9 deep1).bind fun (r19, c20) =>
  some ((if (r19 < r2) then (1 : Int32) else 0), c20))
  else
  ((fn_M_passes c9 61).bind fun (r12, c13) =>
  if (¬ r12 = 0) then
  ((rc 1 c13 deep1).bind fun (r16, c17) =>
  some ((if (r2 = r16) then (1 : Int32) else 0), c17))
  else
  (some (r2, c13))))
def fn_M_sum_l1 (rc : Nat → zw_Ct → Int32 → Option (Int32 × zw_Ct)) (deep1 : Int32) : Int32 × zw_Ct → Option ((Int32 × zw_Ct) ⊕ (Int32 × zw_Ct)) := fun (v4, c5) =>
  (if (¬ (fn_M_fine c5) = 0) then
  ((fn_M_here c5).bind fun r11 =>
  if (r11 = 43) then some true else
  ((fn_M_here c5).bind fun r13 =>
  some (decide (r13 = 45))))
  else some false).bind fun b9 =>
  if b9 = true then
  ((fn_M_here c5).bind fun r15 =>
  (some ((if (r15 = 43) then (1 : Int32) else 0) : Int32)).bind fun plus17 =>
  (some (zw_wI c5 71 17 ((c5.1 71 17) + 1))).bind fun c18 =>
  (rc 2 c18 deep1).bind fun (r19, c20) =>
  (some ((if (¬ plus17 = 0) then ((v4 + r19) : Int32) else (v4 - r19)) : Int32)).bind fun v22 =>
  some (.inr (v22, c20)))
  else
  (some (.inl (v4, c5)))
def fn_M_sum (rc : Nat → zw_Ct → Int32 → Option (Int32 × zw_Ct)) (c : zw_Ct) (deep1 : Int32) : Option (Int32 × zw_Ct) :=
  (rc 2 c deep1).bind fun (r2, c3) =>
  (zw_whl (fn_M_sum_l1 rc deep1) zw_F (r2, c3)).bind fun (v6, c7) =>
  some (v6, c7)
def fn_M_product_l1 (rc : Nat → zw_Ct → Int32 → Option (Int32 × zw_Ct)) (deep1 : Int32) : Int32 × zw_Ct → Option ((Int32 × zw_Ct) ⊕ (Int32 × zw_Ct)) := fun (v4, c5) =>
  (if (¬ (fn_M_fine c5) = 0) then
  ((fn_M_here c5).bind fun r11 =>
  if (r11 = 42) then some true else
  ((fn_M_here c5).bind fun r13 =>
  some (decide (r13 = 47))))
  else some false).bind fun b9 =>
  if b9 = true then
  ((fn_M_here c5).bind fun r15 =>
  (some ((if (r15 = 42) then (1 : Int32) else 0) : Int32)).bind fun times17 =>
  (some (zw_wI c5 71 17 ((c5.1 71 17) + 1))).bind fun c18 =>
  (rc 3 c18 deep1).bind fun (r19, c20) =>
  (if (¬ times17 = 0) then
  (some ((v4 * r19) : Int32))
  else
  ((if (r19 = 0) then
  (some (0 : Int32))
  else
  ((zw_dvI v4 r19).bind fun d27 =>
  some (d27 : Int32))).bind fun v24 =>
  some (v24 : Int32))).bind fun v21 =>
  some (.inr (v21, c20)))
  else
  (some (.inl (v4, c5)))
def fn_M_product (rc : Nat → zw_Ct → Int32 → Option (Int32 × zw_Ct)) (c : zw_Ct) (deep1 : Int32) : Option (Int32 × zw_Ct) :=
  (rc 3 c deep1).bind fun (r2, c3) =>
  (zw_whl (fn_M_product_l1 rc deep1) zw_F (r2, c3)).bind fun (v6, c7) =>
  some (v6, c7)
def fn_M_thing_l1  : Int32 × Int32 × zw_Ct → Option ((Int32 × zw_Ct) ⊕ (Int32 × Int32 × zw_Ct)) := fun (v39, k40, c41) =>
  (if (k40 < 4) then
  ((fn_M_here c41).bind fun r47 =>
  some (decide (¬ (fn_M_in r47.toInt64 48 57) = 0)))
  else some false).bind fun b45 =>
  if b45 = true then
  ((fn_M_here c41).bind fun r49 =>
  (some ((((10 * v39) + r49) - 48) : Int32)).bind fun v50 =>
  (some (zw_wI c41 71 17 ((c41.1 71 17) + 1))).bind fun c51 =>
  some (.inr (v50, (k40 + 1), c51)))
  else
  (some (.inl (v39, c41)))
def fn_M_thing (rc : Nat → zw_Ct → Int32 → Option (Int32 × zw_Ct)) (c : zw_Ct) (deep1 : Int32) : Option (Int32 × zw_Ct) :=
  (fn_M_passes c 45).bind fun (r2, c3) =>
  if (¬ r2 = 0) then
  ((rc 3 c3 deep1).bind fun (r52, c53) =>
  some ((-r52), c53))
  else
  (if (¬ (¬ (fn_M_fine c3) = 0)) then
  (some (0, c3))
  else
  ((fn_M_here c3).bind fun r8 =>
  if ((r8 = 40) ∧ (deep1 < 5)) then
  ((some (zw_wI c3 71 17 ((c3.1 71 17) + 1))).bind fun c12 =>
  (rc 0 c12 (deep1 + 1)).bind fun (r13, c14) =>
  (fn_M_passes c14 41).bind fun (r15, c16) =>
  (if (¬ (¬ r15 = 0)) then
  ((fn_M_isWrong c16).bind fun c20 =>
  some c20)
  else
  (some c16)).bind fun c17 =>
  some (r13, c17))
  else
  (if (¬ (fn_M_in r8.toInt64 48 57) = 0) then
  ((zw_whl (fn_M_thing_l1) zw_F (0, 0, c3)).bind fun (v42, c43) =>
  some (v42, c43))
  else
  (if (((((((((¬ r8 = 113) ∧ (¬ r8 = 115)) ∧ (¬ r8 = 109)) ∧ (¬ r8 = 120)) ∧ (¬ r8 = 116)) ∧ (¬ r8 = 117)) ∧ (¬ r8 = 101)) ∧ (¬ r8 = 110)) ∧ (¬ r8 = 100)) then
  ((fn_M_isWrong c3).bind fun c33 =>
  some (0, c33))
  else
  ((some (zw_wI c3 71 17 ((c3.1 71 17) + 1))).bind fun c34 =>
  (if ((c34.1 71 19) = (-1)) then
  (some (0 : Int32))
  else
  ((fn_M_letter c34 (r8.toUInt32 % 65536).toInt32).bind fun r38 =>
  some (r38 : Int32))).bind fun v35 =>
  some (v35, c34))))))
/-- the reading of a text, so many calls deep -/
def fn_M_rec : Nat → Nat → zw_Ct → Int32 → Option (Int32 × zw_Ct)
  | 0, _, _, _ => none
  | n + 1, k, c, d => match k with
    | 0 => fn_M_held (fn_M_rec n) c d
    | 1 => fn_M_sum (fn_M_rec n) c d
    | 2 => fn_M_product (fn_M_rec n) c d
    | _ => fn_M_thing (fn_M_rec n) c d
set_option maxRecDepth 100000 in
theorem km_M_held {l : Launch} {g : zw_G} {rr : zw_RR} {sh : zw_Sh} {c : zw_Ct} {rc : Nat → zw_Ct → Int32 → Option (Int32 × zw_Ct)} {deep1 : Int32} {r : Int32} {c2 : zw_Ct} {lv : Nat} (hlv : 4 ≤ lv) (hS : zw_Ok 0 101 sh rr) (hr0 : ∀ (c : zw_Ct) (d r : Int32) (c2 : zw_Ct), rc 0 c d = some (r, c2) → zw_Met l g y_M_held b_M_held 3 (some .int) lv rr sh [.ref 71, .int d] c (some (.int r)) c2) (hr1 : ∀ (c : zw_Ct) (d r : Int32) (c2 : zw_Ct), rc 1 c d = some (r, c2) → zw_Met l g y_M_sum b_M_sum 5 (some .int) lv rr sh [.ref 71, .int d] c (some (.int r)) c2) (hr2 : ∀ (c : zw_Ct) (d r : Int32) (c2 : zw_Ct), rc 2 c d = some (r, c2) → zw_Met l g y_M_product b_M_product 5 (some .int) lv rr sh [.ref 71, .int d] c (some (.int r)) c2) (hr3 : ∀ (c : zw_Ct) (d r : Int32) (c2 : zw_Ct), rc 3 c d = some (r, c2) → zw_Met l g y_M_thing b_M_thing 5 (some .int) lv rr sh [.ref 71, .int d] c (some (.int r)) c2) (hsem : fn_M_held rc c deep1 = some (r, c2)) : zw_Met l g y_M_held b_M_held 3 (some .int) (lv + 1) rr sh [.ref 71, .int deep1] c (some (.int r)) c2 := by
  unfold fn_M_held at hsem
  refine zw_Met.of (by decide +kernel) (Nat.le_of_ble_eq_true rfl) (fun p e s m args below meth cd X => ?_)
  refine zw_eL (L2 := [some (.ref 71), some (.int deep1), none]) rfl ?_
  refine r_aload_n X (pc := 0) (i := 0) (zw_dg dk_M_held 0 rfl) rfl rfl ?_
  refine r_iload_n X (pc := 1) (i := 1) (zw_dg dk_M_held 1 rfl) rfl rfl ?_
  obtain ⟨⟨r2, c3⟩, hr2_c3, hsem⟩ := zw_bd hsem
  refine r_callVi X (pc := 2) (As := [_]) (st := []) (hr1 _ _ _ _ hr2_c3) ce_M_sum kw_1650 (zo hS 71 rfl rfl) rfl rfl ⟨by show _ ≤ lv + 1; omega, by show _ ≤ 48 * (lv + 1); omega⟩ (Nat.le_of_ble_eq_true rfl) (zw_dg dk_M_held 2 rfl) ?_
  refine r_istore_n X (pc := 5) (i := 2) (zw_dg dk_M_held 3 rfl) rfl (by decide) rfl ?_
  refine r_aload_n X (pc := 6) (i := 0) (zw_dg dk_M_held 4 rfl) rfl rfl ?_
  refine r_bipush X (pc := 7) (v := 60) (zw_dg dk_M_held 5 rfl) (by decide) ?_
  obtain ⟨⟨r4, c5⟩, hr4_c5, hsem⟩ := zw_bd hsem
  refine r_callVi X (pc := 9) (As := [_]) (st := []) (km_M_passes hS hr4_c5) ce_M_passes kw_1662 (zo hS 71 rfl rfl) rfl rfl ⟨by show _ ≤ lv + 1; omega, by show _ ≤ 48 * (lv + 1); omega⟩ (Nat.le_of_ble_eq_true rfl) (zw_dg dk_M_held 6 rfl) ?_
  refine r_if_eq X (pc := 12) (tgt := 30) (zw_dg dk_M_held 7 rfl) (by decide) (fun q7 => ?_) (fun q7 => ?_)
  · --
    have p6 : ¬ (¬ r4 = 0) := (fun z => z q7)
    have hsem := zw_ifn p6 hsem
    refine r_aload_n X (pc := 30) (i := 0) (zw_dg dk_M_held 17 rfl) rfl rfl ?_
    refine r_bipush X (pc := 31) (v := 62) (zw_dg dk_M_held 18 rfl) (by decide) ?_
    obtain ⟨⟨r8, c9⟩, hr8_c9, hsem⟩ := zw_bd hsem
    refine r_callVi X (pc := 33) (As := [_]) (st := []) (km_M_passes hS hr8_c9) ce_M_passes kw_1662 (zo hS 71 rfl rfl) rfl rfl ⟨by show _ ≤ lv + 1; omega, by show _ ≤ 48 * (lv + 1); omega⟩ (Nat.le_of_ble_eq_true rfl) (zw_dg dk_M_held 19 rfl) ?_
    refine r_if_eq X (pc := 36) (tgt := 54) (zw_dg dk_M_held 20 rfl) (by decide) (fun q11 => ?_) (fun q11 => ?_)
    · --
      have p10 : ¬ (¬ r8 = 0) := (fun z => z q11)
      have hsem := zw_ifn p10 hsem
      refine r_aload_n X (pc := 54) (i := 0) (zw_dg dk_M_held 30 rfl) rfl rfl ?_
      refine r_bipush X (pc := 55) (v := 61) (zw_dg dk_M_held 31 rfl) (by decide) ?_
      obtain ⟨⟨r12, c13⟩, hr12_c13, hsem⟩ := zw_bd hsem
      refine r_callVi X (pc := 57) (As := [_]) (st := []) (km_M_passes hS hr12_c13) ce_M_passes kw_1662 (zo hS 71 rfl rfl) rfl rfl ⟨by show _ ≤ lv + 1; omega, by show _ ≤ 48 * (lv + 1); omega⟩ (Nat.le_of_ble_eq_true rfl) (zw_dg dk_M_held 32 rfl) ?_
      refine r_if_eq X (pc := 60) (tgt := 78) (zw_dg dk_M_held 33 rfl) (by decide) (fun q15 => ?_) (fun q15 => ?_)
      · --
        have p14 : ¬ (¬ r12 = 0) := (fun z => z q15)
        have hsem := zw_ifn p14 hsem
        refine r_iload_n X (pc := 78) (i := 2) (zw_dg dk_M_held 43 rfl) rfl rfl ?_
        obtain ⟨rfl, rfl⟩ := zw_in2 hsem
        exact r_iret X (pc := 79) rfl (zw_dg dk_M_held 44 rfl)
      · --
        have p14 : (¬ r12 = 0) := q15
        have hsem := zw_ifp p14 hsem
        refine r_iload_n X (pc := 63) (i := 2) (zw_dg dk_M_held 34 rfl) rfl rfl ?_
        refine r_aload_n X (pc := 64) (i := 0) (zw_dg dk_M_held 35 rfl) rfl rfl ?_
        refine r_iload_n X (pc := 65) (i := 1) (zw_dg dk_M_held 36 rfl) rfl rfl ?_
        obtain ⟨⟨r16, c17⟩, hr16_c17, hsem⟩ := zw_bd hsem
        refine r_callVi X (pc := 66) (As := [_]) (st := [.int r2]) (hr1 _ _ _ _ hr16_c17) ce_M_sum kw_1650 (zo hS 71 rfl rfl) rfl rfl ⟨by show _ ≤ lv + 1; omega, by show _ ≤ 48 * (lv + 1); omega⟩ (Nat.le_of_ble_eq_true rfl) (zw_dg dk_M_held 37 rfl) ?_
        refine zw_ter (P := (r2 = r16)) (f := Value.int) (x := 1) (y := 0) (J := 77) (st2 := []) (fun jT jF => ?_) ?_
        · --
          refine r_icmp_ne X (pc := 69) (tgt := 76) (zw_dg dk_M_held 38 rfl) (by decide) (fun q18 => ?_) (fun q18 => ?_)
          · --
            refine r_iconst X (pc := 76) (v := 0) (zw_dg dk_M_held 41 rfl) (by decide) ?_
            exact jF q18
          · --
            refine r_iconst X (pc := 72) (v := 1) (zw_dg dk_M_held 39 rfl) (by decide) ?_
            refine r_goto X (pc := 73) (tgt := 77) (zw_dg dk_M_held 40 rfl) (by decide) ?_
            exact jT q18
        obtain ⟨rfl, rfl⟩ := zw_in2 hsem
        exact r_iret X (pc := 77) rfl (zw_dg dk_M_held 42 rfl)
    · --
      have p10 : (¬ r8 = 0) := q11
      have hsem := zw_ifp p10 hsem
      refine r_iload_n X (pc := 39) (i := 2) (zw_dg dk_M_held 21 rfl) rfl rfl ?_
      refine r_aload_n X (pc := 40) (i := 0) (zw_dg dk_M_held 22 rfl) rfl rfl ?_
      refine r_iload_n X (pc := 41) (i := 1) (zw_dg dk_M_held 23 rfl) rfl rfl ?_
      obtain ⟨⟨r19, c20⟩, hr19_c20, hsem⟩ := zw_bd hsem
      refine r_callVi X (pc := 42) (As := [_]) (st := [.int r2]) (hr1 _ _ _ _ hr19_c20) ce_M_sum kw_1650 (zo hS 71 rfl rfl) rfl rfl ⟨by show _ ≤ lv + 1; omega, by show _ ≤ 48 * (lv + 1); omega⟩ (Nat.le_of_ble_eq_true rfl) (zw_dg dk_M_held 24 rfl) ?_
      refine zw_ter (P := (r19 < r2)) (f := Value.int) (x := 1) (y := 0) (J := 53) (st2 := []) (fun jT jF => ?_) ?_
      · --
        refine r_icmp_le X (pc := 45) (tgt := 52) (zw_dg dk_M_held 25 rfl) (by decide) (fun q21 => ?_) (fun q21 => ?_)
        · --
          refine r_iconst X (pc := 52) (v := 0) (zw_dg dk_M_held 28 rfl) (by decide) ?_
          exact jF (Int32.not_lt.mpr q21)
        · --
          refine r_iconst X (pc := 48) (v := 1) (zw_dg dk_M_held 26 rfl) (by decide) ?_
          refine r_goto X (pc := 49) (tgt := 53) (zw_dg dk_M_held 27 rfl) (by decide) ?_
          exact jT (Int32.not_le.mp q21)
      obtain ⟨rfl, rfl⟩ := zw_in2 hsem
      exact r_iret X (pc := 53) rfl (zw_dg dk_M_held 29 rfl)
  · --
    have p6 : (¬ r4 = 0) := q7
    have hsem := zw_ifp p6 hsem
    refine r_iload_n X (pc := 15) (i := 2) (zw_dg dk_M_held 8 rfl) rfl rfl ?_
    refine r_aload_n X (pc := 16) (i := 0) (zw_dg dk_M_held 9 rfl) rfl rfl ?_
    refine r_iload_n X (pc := 17) (i := 1) (zw_dg dk_M_held 10 rfl) rfl rfl ?_
    obtain ⟨⟨r22, c23⟩, hr22_c23, hsem⟩ := zw_bd hsem
    refine r_callVi X (pc := 18) (As := [_]) (st := [.int r2]) (hr1 _ _ _ _ hr22_c23) ce_M_sum kw_1650 (zo hS 71 rfl rfl) rfl rfl ⟨by show _ ≤ lv + 1; omega, by show _ ≤ 48 * (lv + 1); omega⟩ (Nat.le_of_ble_eq_true rfl) (zw_dg dk_M_held 11 rfl) ?_
    refine zw_ter (P := (r2 < r22)) (f := Value.int) (x := 1) (y := 0) (J := 29) (st2 := []) (fun jT jF => ?_) ?_
    · --
      refine r_icmp_ge X (pc := 21) (tgt := 28) (zw_dg dk_M_held 12 rfl) (by decide) (fun q24 => ?_) (fun q24 => ?_)
      · --
        refine r_iconst X (pc := 28) (v := 0) (zw_dg dk_M_held 15 rfl) (by decide) ?_
        exact jF (Int32.not_lt.mpr q24)
      · --
        refine r_iconst X (pc := 24) (v := 1) (zw_dg dk_M_held 13 rfl) (by decide) ?_
        refine r_goto X (pc := 25) (tgt := 29) (zw_dg dk_M_held 14 rfl) (by decide) ?_
        exact jT (Int32.not_le.mp q24)
    obtain ⟨rfl, rfl⟩ := zw_in2 hsem
    exact r_iret X (pc := 29) rfl (zw_dg dk_M_held 16 rfl)
set_option maxRecDepth 100000 in
theorem km_M_sum {l : Launch} {g : zw_G} {rr : zw_RR} {sh : zw_Sh} {c : zw_Ct} {rc : Nat → zw_Ct → Int32 → Option (Int32 × zw_Ct)} {deep1 : Int32} {r : Int32} {c2 : zw_Ct} {lv : Nat} (hlv : 4 ≤ lv) (hS : zw_Ok 0 101 sh rr) (hr0 : ∀ (c : zw_Ct) (d r : Int32) (c2 : zw_Ct), rc 0 c d = some (r, c2) → zw_Met l g y_M_held b_M_held 3 (some .int) lv rr sh [.ref 71, .int d] c (some (.int r)) c2) (hr1 : ∀ (c : zw_Ct) (d r : Int32) (c2 : zw_Ct), rc 1 c d = some (r, c2) → zw_Met l g y_M_sum b_M_sum 5 (some .int) lv rr sh [.ref 71, .int d] c (some (.int r)) c2) (hr2 : ∀ (c : zw_Ct) (d r : Int32) (c2 : zw_Ct), rc 2 c d = some (r, c2) → zw_Met l g y_M_product b_M_product 5 (some .int) lv rr sh [.ref 71, .int d] c (some (.int r)) c2) (hr3 : ∀ (c : zw_Ct) (d r : Int32) (c2 : zw_Ct), rc 3 c d = some (r, c2) → zw_Met l g y_M_thing b_M_thing 5 (some .int) lv rr sh [.ref 71, .int d] c (some (.int r)) c2) (hsem : fn_M_sum rc c deep1 = some (r, c2)) : zw_Met l g y_M_sum b_M_sum 5 (some .int) (lv + 1) rr sh [.ref 71, .int deep1] c (some (.int r)) c2 := by
  unfold fn_M_sum at hsem
  refine zw_Met.of (by decide +kernel) (Nat.le_of_ble_eq_true rfl) (fun p e s m args below meth cd X => ?_)
  refine zw_eL (L2 := [some (.ref 71), some (.int deep1), none, none, none]) rfl ?_
  refine r_aload_n X (pc := 0) (i := 0) (zw_dg dk_M_sum 0 rfl) rfl rfl ?_
  refine r_iload_n X (pc := 1) (i := 1) (zw_dg dk_M_sum 1 rfl) rfl rfl ?_
  obtain ⟨⟨r2, c3⟩, hr2_c3, hsem⟩ := zw_bd hsem
  refine r_callVi X (pc := 2) (As := [_]) (st := []) (hr2 _ _ _ _ hr2_c3) ce_M_product kw_1654 (zo hS 71 rfl rfl) rfl rfl ⟨by show _ ≤ lv + 1; omega, by show _ ≤ 48 * (lv + 1); omega⟩ (Nat.le_of_ble_eq_true rfl) (zw_dg dk_M_sum 2 rfl) ?_
  refine r_istore_n X (pc := 5) (i := 2) (zw_dg dk_M_sum 3 rfl) rfl (by decide) rfl ?_
  obtain ⟨l8, hl8, hsl8⟩ := zw_bd hsem
  refine r_loop (pc := 6) (pce := 82) hl8 (fun (v4, c5) => [some (.ref 71), some (.int deep1), some (.int v4), none, none] : Int32 × zw_Ct → zw_Lc) (fun (v4, c5) => c5 : Int32 × zw_Ct → zw_Ct) (fun (v6, c7) => [some (.ref 71), some (.int deep1), some (.int v6), none, none] : Int32 × zw_Ct → zw_Lc) (fun (v6, c7) => c7 : Int32 × zw_Ct → zw_Ct) ?_ rfl rfl ?_
  · rintro ⟨v4, c5⟩ rr hsem hK hP
    try unfold fn_M_sum_l1 at hsem
    obtain ⟨b9, hb9, hsb9⟩ := zw_bd hsem
    refine zw_cndB (b := b9) (J1 := 31) (J2 := 82) (st2 := []) (fun jT jF => ?_) (fun hbb9 => ?_) (fun hbb9 => ?_)
    · have hsem := hb9
      refine r_aload_n X (pc := 6) (i := 0) (zw_dg dk_M_sum 4 rfl) rfl rfl ?_
      refine r_callVi X (pc := 7) (As := []) (st := []) (km_M_fine hS rfl) ce_M_fine kw_1666 (zo hS 71 rfl rfl) rfl rfl ⟨by show _ ≤ lv + 1; omega, by show _ ≤ 48 * (lv + 1); omega⟩ (Nat.le_of_ble_eq_true rfl) (zw_dg dk_M_sum 5 rfl) ?_
      refine r_if_eq X (pc := 10) (tgt := 82) (zw_dg dk_M_sum 6 rfl) (by decide) (fun q10 => ?_) (fun q10 => ?_)
      · --
        have hsem := zw_ifn (fun z => z q10) hsem
        exact jF (Option.some.inj hsem).symm
      · --
        have hsem := zw_ifp q10 hsem
        refine r_aload_n X (pc := 13) (i := 0) (zw_dg dk_M_sum 7 rfl) rfl rfl ?_
        obtain ⟨r11, hr11, hsem⟩ := zw_bd hsem
        refine r_callVi X (pc := 14) (As := []) (st := []) (km_M_here hS hr11) ce_M_here kw_1670 (zo hS 71 rfl rfl) rfl rfl ⟨by show _ ≤ lv + 1; omega, by show _ ≤ 48 * (lv + 1); omega⟩ (Nat.le_of_ble_eq_true rfl) (zw_dg dk_M_sum 8 rfl) ?_
        refine r_bipush X (pc := 17) (v := 43) (zw_dg dk_M_sum 9 rfl) (by decide) ?_
        refine r_icmp_eq X (pc := 19) (tgt := 31) (zw_dg dk_M_sum 10 rfl) (by decide) (fun q12 => ?_) (fun q12 => ?_)
        · --
          have hsem := zw_ifp q12 hsem
          exact jT (Option.some.inj hsem).symm
        · --
          have hsem := zw_ifn q12 hsem
          refine r_aload_n X (pc := 22) (i := 0) (zw_dg dk_M_sum 11 rfl) rfl rfl ?_
          obtain ⟨r13, hr13, hsem⟩ := zw_bd hsem
          refine r_callVi X (pc := 23) (As := []) (st := []) (km_M_here hS hr13) ce_M_here kw_1670 (zo hS 71 rfl rfl) rfl rfl ⟨by show _ ≤ lv + 1; omega, by show _ ≤ 48 * (lv + 1); omega⟩ (Nat.le_of_ble_eq_true rfl) (zw_dg dk_M_sum 12 rfl) ?_
          refine r_bipush X (pc := 26) (v := 45) (zw_dg dk_M_sum 13 rfl) (by decide) ?_
          refine r_icmp_ne X (pc := 28) (tgt := 82) (zw_dg dk_M_sum 14 rfl) (by decide) (fun q14 => ?_) (fun q14 => ?_)
          · --
            exact jF (zw_dF hsem q14)
          · --
            exact jT (zw_dT hsem q14)
    · have hsem := zw_ifp hbb9 hsb9
      refine r_aload_n X (pc := 31) (i := 0) (zw_dg dk_M_sum 15 rfl) rfl rfl ?_
      obtain ⟨r15, hr15, hsem⟩ := zw_bd hsem
      refine r_callVi X (pc := 32) (As := []) (st := []) (km_M_here hS hr15) ce_M_here kw_1670 (zo hS 71 rfl rfl) rfl rfl ⟨by show _ ≤ lv + 1; omega, by show _ ≤ 48 * (lv + 1); omega⟩ (Nat.le_of_ble_eq_true rfl) (zw_dg dk_M_sum 16 rfl) ?_
      refine r_bipush X (pc := 35) (v := 43) (zw_dg dk_M_sum 17 rfl) (by decide) ?_
      refine zw_ter (P := (r15 = 43)) (f := Value.int) (x := 1) (y := 0) (J := 45) (st2 := []) (fun jT jF => ?_) ?_
      · --
        refine r_icmp_ne X (pc := 37) (tgt := 44) (zw_dg dk_M_sum 18 rfl) (by decide) (fun q16 => ?_) (fun q16 => ?_)
        · --
          refine r_iconst X (pc := 44) (v := 0) (zw_dg dk_M_sum 21 rfl) (by decide) ?_
          exact jF q16
        · --
          refine r_iconst X (pc := 40) (v := 1) (zw_dg dk_M_sum 19 rfl) (by decide) ?_
          refine r_goto X (pc := 41) (tgt := 45) (zw_dg dk_M_sum 20 rfl) (by decide) ?_
          exact jT q16
      obtain ⟨plus17, hplus17, hsem⟩ := zw_bd hsem
      refine zw_topI hplus17 ?_
      refine r_istore_n X (pc := 45) (i := 3) (zw_dg dk_M_sum 22 rfl) rfl (by decide) rfl ?_
      refine r_aload_n X (pc := 46) (i := 0) (zw_dg dk_M_sum 23 rfl) rfl rfl ?_
      refine r_dup X (pc := 47) (zw_dg dk_M_sum 24 rfl) rfl ?_
      refine r_getI X (pc := 48) ci_M (zo hS 71 rfl rfl) rfl lk_M_169 (zw_dg dk_M_sum 25 rfl) ?_
      refine r_iconst X (pc := 51) (v := 1) (zw_dg dk_M_sum 26 rfl) (by decide) ?_
      refine r_iadd X (pc := 52) (zw_dg dk_M_sum 27 rfl)  ?_
      refine r_putI X (pc := 53) ci_M (zo hS 71 rfl rfl) rfl lk_M_169 rfl ⟨rfl, rfl⟩ (zw_dg dk_M_sum 28 rfl) ?_
      obtain ⟨c18, hc18, hsem⟩ := zw_bd hsem
      refine zw_topC hc18 ?_
      refine r_aload_n X (pc := 56) (i := 0) (zw_dg dk_M_sum 29 rfl) rfl rfl ?_
      refine r_iload_n X (pc := 57) (i := 1) (zw_dg dk_M_sum 30 rfl) rfl rfl ?_
      obtain ⟨⟨r19, c20⟩, hr19_c20, hsem⟩ := zw_bd hsem
      refine r_callVi X (pc := 58) (As := [_]) (st := []) (hr2 _ _ _ _ hr19_c20) ce_M_product kw_1654 (zo hS 71 rfl rfl) rfl rfl ⟨by show _ ≤ lv + 1; omega, by show _ ≤ 48 * (lv + 1); omega⟩ (Nat.le_of_ble_eq_true rfl) (zw_dg dk_M_sum 31 rfl) ?_
      refine r_istore X (pc := 61) (i := 4) (zw_dg dk_M_sum 32 rfl) (by decide) rfl ?_
      refine zw_ter (P := (¬ plus17 = 0)) (f := Value.int) (x := (v4 + r19)) (y := (v4 - r19)) (J := 78) (st2 := []) (fun jT jF => ?_) ?_
      · --
        refine r_iload_n X (pc := 63) (i := 3) (zw_dg dk_M_sum 33 rfl) rfl rfl ?_
        refine r_if_eq X (pc := 64) (tgt := 74) (zw_dg dk_M_sum 34 rfl) (by decide) (fun q21 => ?_) (fun q21 => ?_)
        · --
          refine r_iload_n X (pc := 74) (i := 2) (zw_dg dk_M_sum 39 rfl) rfl rfl ?_
          refine r_iload X (pc := 75) (i := 4) (zw_dg dk_M_sum 40 rfl) rfl ?_
          refine r_isub X (pc := 77) (zw_dg dk_M_sum 41 rfl)  ?_
          exact jF (fun z => z q21)
        · --
          refine r_iload_n X (pc := 67) (i := 2) (zw_dg dk_M_sum 35 rfl) rfl rfl ?_
          refine r_iload X (pc := 68) (i := 4) (zw_dg dk_M_sum 36 rfl) rfl ?_
          refine r_iadd X (pc := 70) (zw_dg dk_M_sum 37 rfl)  ?_
          refine r_goto X (pc := 71) (tgt := 78) (zw_dg dk_M_sum 38 rfl) (by decide) ?_
          exact jT q21
      obtain ⟨v22, hv22, hsem⟩ := zw_bd hsem
      refine zw_topI hv22 ?_
      refine r_istore_n X (pc := 78) (i := 2) (zw_dg dk_M_sum 42 rfl) rfl (by decide) rfl ?_
      refine r_goto X (pc := 79) (tgt := 6) (zw_dg dk_M_sum 43 rfl) (by decide) ?_
      have jj := hP _ (Option.some.inj hsem).symm
      exact (r_fgt [3, 4] rfl jj)
    · have hsem := zw_ifn (by rw [hbb9]; exact Bool.false_ne_true) hsb9
      have jj := hK _ (Option.some.inj hsem).symm
      exact (r_fgt [] rfl jj)
  obtain ⟨v6, c7⟩ := l8
  have hsem := hsl8
  refine r_iload_n X (pc := 82) (i := 2) (zw_dg dk_M_sum 44 rfl) rfl rfl ?_
  obtain ⟨rfl, rfl⟩ := zw_in2 hsem
  exact r_iret X (pc := 83) rfl (zw_dg dk_M_sum 45 rfl)
set_option maxRecDepth 100000 in
theorem km_M_product {l : Launch} {g : zw_G} {rr : zw_RR} {sh : zw_Sh} {c : zw_Ct} {rc : Nat → zw_Ct → Int32 → Option (Int32 × zw_Ct)} {deep1 : Int32} {r : Int32} {c2 : zw_Ct} {lv : Nat} (hlv : 4 ≤ lv) (hS : zw_Ok 0 101 sh rr) (hr0 : ∀ (c : zw_Ct) (d r : Int32) (c2 : zw_Ct), rc 0 c d = some (r, c2) → zw_Met l g y_M_held b_M_held 3 (some .int) lv rr sh [.ref 71, .int d] c (some (.int r)) c2) (hr1 : ∀ (c : zw_Ct) (d r : Int32) (c2 : zw_Ct), rc 1 c d = some (r, c2) → zw_Met l g y_M_sum b_M_sum 5 (some .int) lv rr sh [.ref 71, .int d] c (some (.int r)) c2) (hr2 : ∀ (c : zw_Ct) (d r : Int32) (c2 : zw_Ct), rc 2 c d = some (r, c2) → zw_Met l g y_M_product b_M_product 5 (some .int) lv rr sh [.ref 71, .int d] c (some (.int r)) c2) (hr3 : ∀ (c : zw_Ct) (d r : Int32) (c2 : zw_Ct), rc 3 c d = some (r, c2) → zw_Met l g y_M_thing b_M_thing 5 (some .int) lv rr sh [.ref 71, .int d] c (some (.int r)) c2) (hsem : fn_M_product rc c deep1 = some (r, c2)) : zw_Met l g y_M_product b_M_product 5 (some .int) (lv + 1) rr sh [.ref 71, .int deep1] c (some (.int r)) c2 := by
  unfold fn_M_product at hsem
  refine zw_Met.of (by decide +kernel) (Nat.le_of_ble_eq_true rfl) (fun p e s m args below meth cd X => ?_)
  refine zw_eL (L2 := [some (.ref 71), some (.int deep1), none, none, none]) rfl ?_
  refine r_aload_n X (pc := 0) (i := 0) (zw_dg dk_M_product 0 rfl) rfl rfl ?_
  refine r_iload_n X (pc := 1) (i := 1) (zw_dg dk_M_product 1 rfl) rfl rfl ?_
  obtain ⟨⟨r2, c3⟩, hr2_c3, hsem⟩ := zw_bd hsem
  refine r_callVi X (pc := 2) (As := [_]) (st := []) (hr3 _ _ _ _ hr2_c3) ce_M_thing kw_1658 (zo hS 71 rfl rfl) rfl rfl ⟨by show _ ≤ lv + 1; omega, by show _ ≤ 48 * (lv + 1); omega⟩ (Nat.le_of_ble_eq_true rfl) (zw_dg dk_M_product 2 rfl) ?_
  refine r_istore_n X (pc := 5) (i := 2) (zw_dg dk_M_product 3 rfl) rfl (by decide) rfl ?_
  obtain ⟨l8, hl8, hsl8⟩ := zw_bd hsem
  refine r_loop (pc := 6) (pce := 91) hl8 (fun (v4, c5) => [some (.ref 71), some (.int deep1), some (.int v4), none, none] : Int32 × zw_Ct → zw_Lc) (fun (v4, c5) => c5 : Int32 × zw_Ct → zw_Ct) (fun (v6, c7) => [some (.ref 71), some (.int deep1), some (.int v6), none, none] : Int32 × zw_Ct → zw_Lc) (fun (v6, c7) => c7 : Int32 × zw_Ct → zw_Ct) ?_ rfl rfl ?_
  · rintro ⟨v4, c5⟩ rr hsem hK hP
    try unfold fn_M_product_l1 at hsem
    obtain ⟨b9, hb9, hsb9⟩ := zw_bd hsem
    refine zw_cndB (b := b9) (J1 := 31) (J2 := 91) (st2 := []) (fun jT jF => ?_) (fun hbb9 => ?_) (fun hbb9 => ?_)
    · have hsem := hb9
      refine r_aload_n X (pc := 6) (i := 0) (zw_dg dk_M_product 4 rfl) rfl rfl ?_
      refine r_callVi X (pc := 7) (As := []) (st := []) (km_M_fine hS rfl) ce_M_fine kw_1666 (zo hS 71 rfl rfl) rfl rfl ⟨by show _ ≤ lv + 1; omega, by show _ ≤ 48 * (lv + 1); omega⟩ (Nat.le_of_ble_eq_true rfl) (zw_dg dk_M_product 5 rfl) ?_
      refine r_if_eq X (pc := 10) (tgt := 91) (zw_dg dk_M_product 6 rfl) (by decide) (fun q10 => ?_) (fun q10 => ?_)
      · --
        have hsem := zw_ifn (fun z => z q10) hsem
        exact jF (Option.some.inj hsem).symm
      · --
        have hsem := zw_ifp q10 hsem
        refine r_aload_n X (pc := 13) (i := 0) (zw_dg dk_M_product 7 rfl) rfl rfl ?_
        obtain ⟨r11, hr11, hsem⟩ := zw_bd hsem
        refine r_callVi X (pc := 14) (As := []) (st := []) (km_M_here hS hr11) ce_M_here kw_1670 (zo hS 71 rfl rfl) rfl rfl ⟨by show _ ≤ lv + 1; omega, by show _ ≤ 48 * (lv + 1); omega⟩ (Nat.le_of_ble_eq_true rfl) (zw_dg dk_M_product 8 rfl) ?_
        refine r_bipush X (pc := 17) (v := 42) (zw_dg dk_M_product 9 rfl) (by decide) ?_
        refine r_icmp_eq X (pc := 19) (tgt := 31) (zw_dg dk_M_product 10 rfl) (by decide) (fun q12 => ?_) (fun q12 => ?_)
        · --
          have hsem := zw_ifp q12 hsem
          exact jT (Option.some.inj hsem).symm
        · --
          have hsem := zw_ifn q12 hsem
          refine r_aload_n X (pc := 22) (i := 0) (zw_dg dk_M_product 11 rfl) rfl rfl ?_
          obtain ⟨r13, hr13, hsem⟩ := zw_bd hsem
          refine r_callVi X (pc := 23) (As := []) (st := []) (km_M_here hS hr13) ce_M_here kw_1670 (zo hS 71 rfl rfl) rfl rfl ⟨by show _ ≤ lv + 1; omega, by show _ ≤ 48 * (lv + 1); omega⟩ (Nat.le_of_ble_eq_true rfl) (zw_dg dk_M_product 12 rfl) ?_
          refine r_bipush X (pc := 26) (v := 47) (zw_dg dk_M_product 13 rfl) (by decide) ?_
          refine r_icmp_ne X (pc := 28) (tgt := 91) (zw_dg dk_M_product 14 rfl) (by decide) (fun q14 => ?_) (fun q14 => ?_)
          · --
            exact jF (zw_dF hsem q14)
          · --
            exact jT (zw_dT hsem q14)
    · have hsem := zw_ifp hbb9 hsb9
      refine r_aload_n X (pc := 31) (i := 0) (zw_dg dk_M_product 15 rfl) rfl rfl ?_
      obtain ⟨r15, hr15, hsem⟩ := zw_bd hsem
      refine r_callVi X (pc := 32) (As := []) (st := []) (km_M_here hS hr15) ce_M_here kw_1670 (zo hS 71 rfl rfl) rfl rfl ⟨by show _ ≤ lv + 1; omega, by show _ ≤ 48 * (lv + 1); omega⟩ (Nat.le_of_ble_eq_true rfl) (zw_dg dk_M_product 16 rfl) ?_
      refine r_bipush X (pc := 35) (v := 42) (zw_dg dk_M_product 17 rfl) (by decide) ?_
      refine zw_ter (P := (r15 = 42)) (f := Value.int) (x := 1) (y := 0) (J := 45) (st2 := []) (fun jT jF => ?_) ?_
      · --
        refine r_icmp_ne X (pc := 37) (tgt := 44) (zw_dg dk_M_product 18 rfl) (by decide) (fun q16 => ?_) (fun q16 => ?_)
        · --
          refine r_iconst X (pc := 44) (v := 0) (zw_dg dk_M_product 21 rfl) (by decide) ?_
          exact jF q16
        · --
          refine r_iconst X (pc := 40) (v := 1) (zw_dg dk_M_product 19 rfl) (by decide) ?_
          refine r_goto X (pc := 41) (tgt := 45) (zw_dg dk_M_product 20 rfl) (by decide) ?_
          exact jT q16
      obtain ⟨times17, htimes17, hsem⟩ := zw_bd hsem
      refine zw_topI htimes17 ?_
      refine r_istore_n X (pc := 45) (i := 3) (zw_dg dk_M_product 22 rfl) rfl (by decide) rfl ?_
      refine r_aload_n X (pc := 46) (i := 0) (zw_dg dk_M_product 23 rfl) rfl rfl ?_
      refine r_dup X (pc := 47) (zw_dg dk_M_product 24 rfl) rfl ?_
      refine r_getI X (pc := 48) ci_M (zo hS 71 rfl rfl) rfl lk_M_169 (zw_dg dk_M_product 25 rfl) ?_
      refine r_iconst X (pc := 51) (v := 1) (zw_dg dk_M_product 26 rfl) (by decide) ?_
      refine r_iadd X (pc := 52) (zw_dg dk_M_product 27 rfl)  ?_
      refine r_putI X (pc := 53) ci_M (zo hS 71 rfl rfl) rfl lk_M_169 rfl ⟨rfl, rfl⟩ (zw_dg dk_M_product 28 rfl) ?_
      obtain ⟨c18, hc18, hsem⟩ := zw_bd hsem
      refine zw_topC hc18 ?_
      refine r_aload_n X (pc := 56) (i := 0) (zw_dg dk_M_product 29 rfl) rfl rfl ?_
      refine r_iload_n X (pc := 57) (i := 1) (zw_dg dk_M_product 30 rfl) rfl rfl ?_
      obtain ⟨⟨r19, c20⟩, hr19_c20, hsem⟩ := zw_bd hsem
      refine r_callVi X (pc := 58) (As := [_]) (st := []) (hr3 _ _ _ _ hr19_c20) ce_M_thing kw_1658 (zo hS 71 rfl rfl) rfl rfl ⟨by show _ ≤ lv + 1; omega, by show _ ≤ 48 * (lv + 1); omega⟩ (Nat.le_of_ble_eq_true rfl) (zw_dg dk_M_product 31 rfl) ?_
      refine r_istore X (pc := 61) (i := 4) (zw_dg dk_M_product 32 rfl) (by decide) rfl ?_
      obtain ⟨v21, hv21, hsv21⟩ := zw_bd hsem
      refine zw_terO (f := Value.int) (v := v21) (J := 87) (st2 := []) (c2 := c20) (fun jj => ?_) ?_
      · have hsem := hv21
        refine r_iload_n X (pc := 63) (i := 3) (zw_dg dk_M_product 33 rfl) rfl rfl ?_
        refine r_if_eq X (pc := 64) (tgt := 74) (zw_dg dk_M_product 34 rfl) (by decide) (fun q23 => ?_) (fun q23 => ?_)
        · --
          have p22 : ¬ (¬ times17 = 0) := (fun z => z q23)
          have hsem := zw_ifn p22 hsem
          obtain ⟨v24, hv24, hsv24⟩ := zw_bd hsem
          refine zw_terO (f := Value.int) (v := v24) (J := 87) (st2 := []) (c2 := c20) (fun jj => ?_) ?_
          · have hsem := hv24
            refine r_iload X (pc := 74) (i := 4) (zw_dg dk_M_product 39 rfl) rfl ?_
            refine r_if_ne X (pc := 76) (tgt := 83) (zw_dg dk_M_product 40 rfl) (by decide) (fun q26 => ?_) (fun q26 => ?_)
            · --
              have p25 : ¬ (r19 = 0) := q26
              have hsem := zw_ifn p25 hsem
              refine r_iload_n X (pc := 83) (i := 2) (zw_dg dk_M_product 43 rfl) rfl rfl ?_
              refine r_iload X (pc := 84) (i := 4) (zw_dg dk_M_product 44 rfl) rfl ?_
              obtain ⟨d27, hd27, hsem⟩ := zw_bd hsem
              obtain ⟨hyd27, hd27⟩ := zw_dvI_of hd27
              refine r_idiv X (pc := 86) (zw_dg dk_M_product 45 rfl) hyd27 ?_
              refine zw_eqtI hd27 ?_
              cases hsem; exact jj
            · --
              have p25 : (r19 = 0) := q26
              have hsem := zw_ifp p25 hsem
              refine r_iconst X (pc := 79) (v := 0) (zw_dg dk_M_product 41 rfl) (by decide) ?_
              refine r_goto X (pc := 80) (tgt := 87) (zw_dg dk_M_product 42 rfl) (by decide) ?_
              cases hsem; exact jj
          have hsem := hsv24
          cases hsem; exact jj
        · --
          have p22 : (¬ times17 = 0) := q23
          have hsem := zw_ifp p22 hsem
          refine r_iload_n X (pc := 67) (i := 2) (zw_dg dk_M_product 35 rfl) rfl rfl ?_
          refine r_iload X (pc := 68) (i := 4) (zw_dg dk_M_product 36 rfl) rfl ?_
          refine r_imul X (pc := 70) (zw_dg dk_M_product 37 rfl)  ?_
          refine r_goto X (pc := 71) (tgt := 87) (zw_dg dk_M_product 38 rfl) (by decide) ?_
          cases hsem; exact jj
      have hsem := hsv21
      refine r_istore_n X (pc := 87) (i := 2) (zw_dg dk_M_product 46 rfl) rfl (by decide) rfl ?_
      refine r_goto X (pc := 88) (tgt := 6) (zw_dg dk_M_product 47 rfl) (by decide) ?_
      have jj := hP _ (Option.some.inj hsem).symm
      exact (r_fgt [3, 4] rfl jj)
    · have hsem := zw_ifn (by rw [hbb9]; exact Bool.false_ne_true) hsb9
      have jj := hK _ (Option.some.inj hsem).symm
      exact (r_fgt [] rfl jj)
  obtain ⟨v6, c7⟩ := l8
  have hsem := hsl8
  refine r_iload_n X (pc := 91) (i := 2) (zw_dg dk_M_product 48 rfl) rfl rfl ?_
  obtain ⟨rfl, rfl⟩ := zw_in2 hsem
  exact r_iret X (pc := 92) rfl (zw_dg dk_M_product 49 rfl)
set_option maxRecDepth 100000 in
theorem km_M_thing {l : Launch} {g : zw_G} {rr : zw_RR} {sh : zw_Sh} {c : zw_Ct} {rc : Nat → zw_Ct → Int32 → Option (Int32 × zw_Ct)} {deep1 : Int32} {r : Int32} {c2 : zw_Ct} {lv : Nat} (hlv : 4 ≤ lv) (hS : zw_Ok 0 101 sh rr) (hr0 : ∀ (c : zw_Ct) (d r : Int32) (c2 : zw_Ct), rc 0 c d = some (r, c2) → zw_Met l g y_M_held b_M_held 3 (some .int) lv rr sh [.ref 71, .int d] c (some (.int r)) c2) (hr1 : ∀ (c : zw_Ct) (d r : Int32) (c2 : zw_Ct), rc 1 c d = some (r, c2) → zw_Met l g y_M_sum b_M_sum 5 (some .int) lv rr sh [.ref 71, .int d] c (some (.int r)) c2) (hr2 : ∀ (c : zw_Ct) (d r : Int32) (c2 : zw_Ct), rc 2 c d = some (r, c2) → zw_Met l g y_M_product b_M_product 5 (some .int) lv rr sh [.ref 71, .int d] c (some (.int r)) c2) (hr3 : ∀ (c : zw_Ct) (d r : Int32) (c2 : zw_Ct), rc 3 c d = some (r, c2) → zw_Met l g y_M_thing b_M_thing 5 (some .int) lv rr sh [.ref 71, .int d] c (some (.int r)) c2) (hsem : fn_M_thing rc c deep1 = some (r, c2)) : zw_Met l g y_M_thing b_M_thing 5 (some .int) (lv + 1) rr sh [.ref 71, .int deep1] c (some (.int r)) c2 := by
  unfold fn_M_thing at hsem
  refine zw_Met.of (by decide +kernel) (Nat.le_of_ble_eq_true rfl) (fun p e s m args below meth cd X => ?_)
  refine zw_eL (L2 := [some (.ref 71), some (.int deep1), none, none, none]) rfl ?_
  refine r_aload_n X (pc := 0) (i := 0) (zw_dg dk_M_thing 0 rfl) rfl rfl ?_
  refine r_bipush X (pc := 1) (v := 45) (zw_dg dk_M_thing 1 rfl) (by decide) ?_
  obtain ⟨⟨r2, c3⟩, hr2_c3, hsem⟩ := zw_bd hsem
  refine r_callVi X (pc := 3) (As := [_]) (st := []) (km_M_passes hS hr2_c3) ce_M_passes kw_1662 (zo hS 71 rfl rfl) rfl rfl ⟨by show _ ≤ lv + 1; omega, by show _ ≤ 48 * (lv + 1); omega⟩ (Nat.le_of_ble_eq_true rfl) (zw_dg dk_M_thing 2 rfl) ?_
  refine r_if_eq X (pc := 6) (tgt := 16) (zw_dg dk_M_thing 3 rfl) (by decide) (fun q5 => ?_) (fun q5 => ?_)
  · --
    have p4 : ¬ (¬ r2 = 0) := (fun z => z q5)
    have hsem := zw_ifn p4 hsem
    refine r_aload_n X (pc := 16) (i := 0) (zw_dg dk_M_thing 9 rfl) rfl rfl ?_
    refine r_callVi X (pc := 17) (As := []) (st := []) (km_M_fine hS rfl) ce_M_fine kw_1666 (zo hS 71 rfl rfl) rfl rfl ⟨by show _ ≤ lv + 1; omega, by show _ ≤ 48 * (lv + 1); omega⟩ (Nat.le_of_ble_eq_true rfl) (zw_dg dk_M_thing 10 rfl) ?_
    refine r_if_ne X (pc := 20) (tgt := 25) (zw_dg dk_M_thing 11 rfl) (by decide) (fun q7 => ?_) (fun q7 => ?_)
    · --
      have p6 : ¬ (¬ (¬ (fn_M_fine c3) = 0)) := (fun q => q q7)
      have hsem := zw_ifn p6 hsem
      refine r_aload_n X (pc := 25) (i := 0) (zw_dg dk_M_thing 14 rfl) rfl rfl ?_
      obtain ⟨r8, hr8, hsem⟩ := zw_bd hsem
      refine r_callVi X (pc := 26) (As := []) (st := []) (km_M_here hS hr8) ce_M_here kw_1670 (zo hS 71 rfl rfl) rfl rfl ⟨by show _ ≤ lv + 1; omega, by show _ ≤ 48 * (lv + 1); omega⟩ (Nat.le_of_ble_eq_true rfl) (zw_dg dk_M_thing 15 rfl) ?_
      refine r_istore_n X (pc := 29) (i := 2) (zw_dg dk_M_thing 16 rfl) rfl (by decide) rfl ?_
      refine zw_cnd (P := ((r8 = 40) ∧ (deep1 < 5))) (J1 := 41) (J2 := 74) (st2 := []) (fun jT jF => ?_) (fun p9 => ?_) (fun p9 => ?_)
      · --
        refine r_iload_n X (pc := 30) (i := 2) (zw_dg dk_M_thing 17 rfl) rfl rfl ?_
        refine r_bipush X (pc := 31) (v := 40) (zw_dg dk_M_thing 18 rfl) (by decide) ?_
        refine r_icmp_ne X (pc := 33) (tgt := 74) (zw_dg dk_M_thing 19 rfl) (by decide) (fun q10 => ?_) (fun q10 => ?_)
        · --
          exact jF (fun q => q10 q.1)
        · --
          refine r_iload_n X (pc := 36) (i := 1) (zw_dg dk_M_thing 20 rfl) rfl rfl ?_
          refine r_iconst X (pc := 37) (v := 5) (zw_dg dk_M_thing 21 rfl) (by decide) ?_
          refine r_icmp_ge X (pc := 38) (tgt := 74) (zw_dg dk_M_thing 22 rfl) (by decide) (fun q11 => ?_) (fun q11 => ?_)
          · --
            exact jF (fun q => (Int32.not_lt.mpr q11) q.2)
          · --
            exact jT ⟨q10, (Int32.not_le.mp q11)⟩
      · --
        have hsem := zw_ifp p9 hsem
        refine r_aload_n X (pc := 41) (i := 0) (zw_dg dk_M_thing 23 rfl) rfl rfl ?_
        refine r_dup X (pc := 42) (zw_dg dk_M_thing 24 rfl) rfl ?_
        refine r_getI X (pc := 43) ci_M (zo hS 71 rfl rfl) rfl lk_M_169 (zw_dg dk_M_thing 25 rfl) ?_
        refine r_iconst X (pc := 46) (v := 1) (zw_dg dk_M_thing 26 rfl) (by decide) ?_
        refine r_iadd X (pc := 47) (zw_dg dk_M_thing 27 rfl)  ?_
        refine r_putI X (pc := 48) ci_M (zo hS 71 rfl rfl) rfl lk_M_169 rfl ⟨rfl, rfl⟩ (zw_dg dk_M_thing 28 rfl) ?_
        obtain ⟨c12, hc12, hsem⟩ := zw_bd hsem
        refine zw_topC hc12 ?_
        refine r_aload_n X (pc := 51) (i := 0) (zw_dg dk_M_thing 29 rfl) rfl rfl ?_
        refine r_iload_n X (pc := 52) (i := 1) (zw_dg dk_M_thing 30 rfl) rfl rfl ?_
        refine r_iconst X (pc := 53) (v := 1) (zw_dg dk_M_thing 31 rfl) (by decide) ?_
        refine r_iadd X (pc := 54) (zw_dg dk_M_thing 32 rfl)  ?_
        obtain ⟨⟨r13, c14⟩, hr13_c14, hsem⟩ := zw_bd hsem
        refine r_callVi X (pc := 55) (As := [_]) (st := []) (hr0 _ _ _ _ hr13_c14) ce_M_held kw_1646 (zo hS 71 rfl rfl) rfl rfl ⟨by show _ ≤ lv + 1; omega, by show _ ≤ 48 * (lv + 1); omega⟩ (Nat.le_of_ble_eq_true rfl) (zw_dg dk_M_thing 33 rfl) ?_
        refine r_istore_n X (pc := 58) (i := 3) (zw_dg dk_M_thing 34 rfl) rfl (by decide) rfl ?_
        refine r_aload_n X (pc := 59) (i := 0) (zw_dg dk_M_thing 35 rfl) rfl rfl ?_
        refine r_bipush X (pc := 60) (v := 41) (zw_dg dk_M_thing 36 rfl) (by decide) ?_
        obtain ⟨⟨r15, c16⟩, hr15_c16, hsem⟩ := zw_bd hsem
        refine r_callVi X (pc := 62) (As := [_]) (st := []) (km_M_passes hS hr15_c16) ce_M_passes kw_1662 (zo hS 71 rfl rfl) rfl rfl ⟨by show _ ≤ lv + 1; omega, by show _ ≤ 48 * (lv + 1); omega⟩ (Nat.le_of_ble_eq_true rfl) (zw_dg dk_M_thing 37 rfl) ?_
        obtain ⟨c17, ht72, hs72⟩ := zw_bd hsem
        refine zw_jn (J := 72) (L2 := [some (.ref 71), some (.int deep1), some (.int r8), some (.int r13), none]) (c2 := c17) (fun jj => ?_) ?_
        · have hsem := ht72
          refine r_if_ne X (pc := 65) (tgt := 72) (zw_dg dk_M_thing 38 rfl) (by decide) (fun q19 => ?_) (fun q19 => ?_)
          · --
            have p18 : ¬ (¬ (¬ r15 = 0)) := (fun q => q q19)
            have hsem := zw_ifn p18 hsem
            cases hsem
            exact (r_fgt [] rfl jj)
          · --
            have p18 : (¬ (¬ r15 = 0)) := (fun z => z q19)
            have hsem := zw_ifp p18 hsem
            refine r_aload_n X (pc := 68) (i := 0) (zw_dg dk_M_thing 39 rfl) rfl rfl ?_
            obtain ⟨c20, hc20, hsem⟩ := zw_bd hsem
            refine r_callVv X (pc := 69) (As := []) (st := []) (km_M_isWrong hS hc20) ce_M_isWrong kw_1674 (zo hS 71 rfl rfl) rfl rfl ⟨by show _ ≤ lv + 1; omega, by show _ ≤ 48 * (lv + 1); omega⟩ (Nat.le_of_ble_eq_true rfl) (zw_dg dk_M_thing 40 rfl) ?_
            cases hsem
            exact (r_fgt [] rfl jj)
        have hsem := hs72
        refine r_iload_n X (pc := 72) (i := 3) (zw_dg dk_M_thing 41 rfl) rfl rfl ?_
        obtain ⟨rfl, rfl⟩ := zw_in2 hsem
        exact r_iret X (pc := 73) rfl (zw_dg dk_M_thing 42 rfl)
      · --
        have hsem := zw_ifn p9 hsem
        refine r_iload_n X (pc := 74) (i := 2) (zw_dg dk_M_thing 43 rfl) rfl rfl ?_
        refine r_i2l X (pc := 75) (zw_dg dk_M_thing 44 rfl)  ?_
        refine r_ldc2 X (pc := 76) (v := 48) kw_1678 (zw_dg dk_M_thing 45 rfl) ?_
        refine r_ldc2 X (pc := 79) (v := 57) kw_1679 (zw_dg dk_M_thing 46 rfl) ?_
        refine r_callSi X (pc := 82) (As := [_, _, _]) (st := []) (km_M_in hS rfl) ce_M_in kw_1597 rfl ⟨by show _ ≤ lv + 1; omega, by show _ ≤ 48 * (lv + 1); omega⟩ (Nat.le_of_ble_eq_true rfl) (zw_dg dk_M_thing 47 rfl) ?_
        refine r_if_eq X (pc := 85) (tgt := 147) (zw_dg dk_M_thing 48 rfl) (by decide) (fun q22 => ?_) (fun q22 => ?_)
        · --
          have p21 : ¬ (¬ (fn_M_in r8.toInt64 48 57) = 0) := (fun z => z q22)
          have hsem := zw_ifn p21 hsem
          refine zw_cnd (P := (((((((((¬ r8 = 113) ∧ (¬ r8 = 115)) ∧ (¬ r8 = 109)) ∧ (¬ r8 = 120)) ∧ (¬ r8 = 116)) ∧ (¬ r8 = 117)) ∧ (¬ r8 = 101)) ∧ (¬ r8 = 110)) ∧ (¬ r8 = 100))) (J1 := 201) (J2 := 207) (st2 := []) (fun jT jF => ?_) (fun p23 => ?_) (fun p23 => ?_)
          · --
            refine r_iload_n X (pc := 147) (i := 2) (zw_dg dk_M_thing 82 rfl) rfl rfl ?_
            refine r_bipush X (pc := 148) (v := 113) (zw_dg dk_M_thing 83 rfl) (by decide) ?_
            refine r_icmp_eq X (pc := 150) (tgt := 207) (zw_dg dk_M_thing 84 rfl) (by decide) (fun q24 => ?_) (fun q24 => ?_)
            · --
              exact jF (fun q => (fun q => (fun q => (fun q => (fun q => (fun q => (fun q => (fun q => (fun z => z q24) q.1) q.1) q.1) q.1) q.1) q.1) q.1) q.1)
            · --
              refine r_iload_n X (pc := 153) (i := 2) (zw_dg dk_M_thing 85 rfl) rfl rfl ?_
              refine r_bipush X (pc := 154) (v := 115) (zw_dg dk_M_thing 86 rfl) (by decide) ?_
              refine r_icmp_eq X (pc := 156) (tgt := 207) (zw_dg dk_M_thing 87 rfl) (by decide) (fun q25 => ?_) (fun q25 => ?_)
              · --
                exact jF (fun q => (fun q => (fun q => (fun q => (fun q => (fun q => (fun q => (fun q => (fun z => z q25) q.2) q.1) q.1) q.1) q.1) q.1) q.1) q.1)
              · --
                refine r_iload_n X (pc := 159) (i := 2) (zw_dg dk_M_thing 88 rfl) rfl rfl ?_
                refine r_bipush X (pc := 160) (v := 109) (zw_dg dk_M_thing 89 rfl) (by decide) ?_
                refine r_icmp_eq X (pc := 162) (tgt := 207) (zw_dg dk_M_thing 90 rfl) (by decide) (fun q26 => ?_) (fun q26 => ?_)
                · --
                  exact jF (fun q => (fun q => (fun q => (fun q => (fun q => (fun q => (fun q => (fun z => z q26) q.2) q.1) q.1) q.1) q.1) q.1) q.1)
                · --
                  refine r_iload_n X (pc := 165) (i := 2) (zw_dg dk_M_thing 91 rfl) rfl rfl ?_
                  refine r_bipush X (pc := 166) (v := 120) (zw_dg dk_M_thing 92 rfl) (by decide) ?_
                  refine r_icmp_eq X (pc := 168) (tgt := 207) (zw_dg dk_M_thing 93 rfl) (by decide) (fun q27 => ?_) (fun q27 => ?_)
                  · --
                    exact jF (fun q => (fun q => (fun q => (fun q => (fun q => (fun q => (fun z => z q27) q.2) q.1) q.1) q.1) q.1) q.1)
                  · --
                    refine r_iload_n X (pc := 171) (i := 2) (zw_dg dk_M_thing 94 rfl) rfl rfl ?_
                    refine r_bipush X (pc := 172) (v := 116) (zw_dg dk_M_thing 95 rfl) (by decide) ?_
                    refine r_icmp_eq X (pc := 174) (tgt := 207) (zw_dg dk_M_thing 96 rfl) (by decide) (fun q28 => ?_) (fun q28 => ?_)
                    · --
                      exact jF (fun q => (fun q => (fun q => (fun q => (fun q => (fun z => z q28) q.2) q.1) q.1) q.1) q.1)
                    · --
                      refine r_iload_n X (pc := 177) (i := 2) (zw_dg dk_M_thing 97 rfl) rfl rfl ?_
                      refine r_bipush X (pc := 178) (v := 117) (zw_dg dk_M_thing 98 rfl) (by decide) ?_
                      refine r_icmp_eq X (pc := 180) (tgt := 207) (zw_dg dk_M_thing 99 rfl) (by decide) (fun q29 => ?_) (fun q29 => ?_)
                      · --
                        exact jF (fun q => (fun q => (fun q => (fun q => (fun z => z q29) q.2) q.1) q.1) q.1)
                      · --
                        refine r_iload_n X (pc := 183) (i := 2) (zw_dg dk_M_thing 100 rfl) rfl rfl ?_
                        refine r_bipush X (pc := 184) (v := 101) (zw_dg dk_M_thing 101 rfl) (by decide) ?_
                        refine r_icmp_eq X (pc := 186) (tgt := 207) (zw_dg dk_M_thing 102 rfl) (by decide) (fun q30 => ?_) (fun q30 => ?_)
                        · --
                          exact jF (fun q => (fun q => (fun q => (fun z => z q30) q.2) q.1) q.1)
                        · --
                          refine r_iload_n X (pc := 189) (i := 2) (zw_dg dk_M_thing 103 rfl) rfl rfl ?_
                          refine r_bipush X (pc := 190) (v := 110) (zw_dg dk_M_thing 104 rfl) (by decide) ?_
                          refine r_icmp_eq X (pc := 192) (tgt := 207) (zw_dg dk_M_thing 105 rfl) (by decide) (fun q31 => ?_) (fun q31 => ?_)
                          · --
                            exact jF (fun q => (fun q => (fun z => z q31) q.2) q.1)
                          · --
                            refine r_iload_n X (pc := 195) (i := 2) (zw_dg dk_M_thing 106 rfl) rfl rfl ?_
                            refine r_bipush X (pc := 196) (v := 100) (zw_dg dk_M_thing 107 rfl) (by decide) ?_
                            refine r_icmp_eq X (pc := 198) (tgt := 207) (zw_dg dk_M_thing 108 rfl) (by decide) (fun q32 => ?_) (fun q32 => ?_)
                            · --
                              exact jF (fun q => (fun z => z q32) q.2)
                            · --
                              exact jT ⟨⟨⟨⟨⟨⟨⟨⟨q24, q25⟩, q26⟩, q27⟩, q28⟩, q29⟩, q30⟩, q31⟩, q32⟩
          · --
            have hsem := zw_ifp p23 hsem
            refine r_aload_n X (pc := 201) (i := 0) (zw_dg dk_M_thing 109 rfl) rfl rfl ?_
            obtain ⟨c33, hc33, hsem⟩ := zw_bd hsem
            refine r_callVv X (pc := 202) (As := []) (st := []) (km_M_isWrong hS hc33) ce_M_isWrong kw_1674 (zo hS 71 rfl rfl) rfl rfl ⟨by show _ ≤ lv + 1; omega, by show _ ≤ 48 * (lv + 1); omega⟩ (Nat.le_of_ble_eq_true rfl) (zw_dg dk_M_thing 110 rfl) ?_
            refine r_iconst X (pc := 205) (v := 0) (zw_dg dk_M_thing 111 rfl) (by decide) ?_
            obtain ⟨rfl, rfl⟩ := zw_in2 hsem
            exact r_iret X (pc := 206) rfl (zw_dg dk_M_thing 112 rfl)
          · --
            have hsem := zw_ifn p23 hsem
            refine r_aload_n X (pc := 207) (i := 0) (zw_dg dk_M_thing 113 rfl) rfl rfl ?_
            refine r_dup X (pc := 208) (zw_dg dk_M_thing 114 rfl) rfl ?_
            refine r_getI X (pc := 209) ci_M (zo hS 71 rfl rfl) rfl lk_M_169 (zw_dg dk_M_thing 115 rfl) ?_
            refine r_iconst X (pc := 212) (v := 1) (zw_dg dk_M_thing 116 rfl) (by decide) ?_
            refine r_iadd X (pc := 213) (zw_dg dk_M_thing 117 rfl)  ?_
            refine r_putI X (pc := 214) ci_M (zo hS 71 rfl rfl) rfl lk_M_169 rfl ⟨rfl, rfl⟩ (zw_dg dk_M_thing 118 rfl) ?_
            obtain ⟨c34, hc34, hsem⟩ := zw_bd hsem
            refine zw_topC hc34 ?_
            obtain ⟨v35, hv35, hsv35⟩ := zw_bd hsem
            refine zw_terO (f := Value.int) (v := v35) (J := 235) (st2 := []) (c2 := c34) (fun jj => ?_) ?_
            · have hsem := hv35
              refine r_aload_n X (pc := 217) (i := 0) (zw_dg dk_M_thing 119 rfl) rfl rfl ?_
              refine r_getI X (pc := 218) ci_M (zo hS 71 rfl rfl) rfl lk_M_212 (zw_dg dk_M_thing 120 rfl) ?_
              refine r_iconst X (pc := 221) (v := (-1)) (zw_dg dk_M_thing 121 rfl) (by decide) ?_
              refine r_icmp_ne X (pc := 222) (tgt := 229) (zw_dg dk_M_thing 122 rfl) (by decide) (fun q37 => ?_) (fun q37 => ?_)
              · --
                have p36 : ¬ ((c34.1 71 19) = (-1)) := q37
                have hsem := zw_ifn p36 hsem
                refine r_aload_n X (pc := 229) (i := 0) (zw_dg dk_M_thing 125 rfl) rfl rfl ?_
                refine r_iload_n X (pc := 230) (i := 2) (zw_dg dk_M_thing 126 rfl) rfl rfl ?_
                refine r_i2c X (pc := 231) (zw_dg dk_M_thing 127 rfl)  ?_
                obtain ⟨r38, hr38, hsem⟩ := zw_bd hsem
                refine r_callVi X (pc := 232) (As := [_]) (st := []) (km_M_letter hS hr38) ce_M_letter kw_1680 (zo hS 71 rfl rfl) rfl rfl ⟨by show _ ≤ lv + 1; omega, by show _ ≤ 48 * (lv + 1); omega⟩ (Nat.le_of_ble_eq_true rfl) (zw_dg dk_M_thing 128 rfl) ?_
                cases hsem; exact jj
              · --
                have p36 : ((c34.1 71 19) = (-1)) := q37
                have hsem := zw_ifp p36 hsem
                refine r_iconst X (pc := 225) (v := 0) (zw_dg dk_M_thing 123 rfl) (by decide) ?_
                refine r_goto X (pc := 226) (tgt := 235) (zw_dg dk_M_thing 124 rfl) (by decide) ?_
                cases hsem; exact jj
            have hsem := hsv35
            obtain ⟨rfl, rfl⟩ := zw_in2 hsem
            exact r_iret X (pc := 235) rfl (zw_dg dk_M_thing 129 rfl)
        · --
          have p21 : (¬ (fn_M_in r8.toInt64 48 57) = 0) := q22
          have hsem := zw_ifp p21 hsem
          refine r_iconst X (pc := 88) (v := 0) (zw_dg dk_M_thing 49 rfl) (by decide) ?_
          refine r_istore_n X (pc := 89) (i := 3) (zw_dg dk_M_thing 50 rfl) rfl (by decide) rfl ?_
          refine r_iconst X (pc := 90) (v := 0) (zw_dg dk_M_thing 51 rfl) (by decide) ?_
          refine r_istore X (pc := 91) (i := 4) (zw_dg dk_M_thing 52 rfl) (by decide) rfl ?_
          obtain ⟨l44, hl44, hsl44⟩ := zw_bd hsem
          refine r_loop (pc := 93) (pce := 145) hl44 (fun (v39, k40, c41) => [some (.ref 71), some (.int deep1), some (.int r8), some (.int v39), some (.int k40)] : Int32 × Int32 × zw_Ct → zw_Lc) (fun (v39, k40, c41) => c41 : Int32 × Int32 × zw_Ct → zw_Ct) (fun (v42, c43) => [some (.ref 71), some (.int deep1), some (.int r8), some (.int v42), none] : Int32 × zw_Ct → zw_Lc) (fun (v42, c43) => c43 : Int32 × zw_Ct → zw_Ct) ?_ rfl rfl ?_
          · rintro ⟨v39, k40, c41⟩ rr hsem hK hP
            try unfold fn_M_thing_l1 at hsem
            obtain ⟨b45, hb45, hsb45⟩ := zw_bd hsem
            refine zw_cndB (b := b45) (J1 := 116) (J2 := 145) (st2 := []) (fun jT jF => ?_) (fun hbb45 => ?_) (fun hbb45 => ?_)
            · have hsem := hb45
              refine r_iload X (pc := 93) (i := 4) (zw_dg dk_M_thing 53 rfl) rfl ?_
              refine r_iconst X (pc := 95) (v := 4) (zw_dg dk_M_thing 54 rfl) (by decide) ?_
              refine r_icmp_ge X (pc := 96) (tgt := 145) (zw_dg dk_M_thing 55 rfl) (by decide) (fun q46 => ?_) (fun q46 => ?_)
              · --
                have hsem := zw_ifn (Int32.not_lt.mpr q46) hsem
                exact jF (Option.some.inj hsem).symm
              · --
                have hsem := zw_ifp (Int32.not_le.mp q46) hsem
                refine r_aload_n X (pc := 99) (i := 0) (zw_dg dk_M_thing 56 rfl) rfl rfl ?_
                obtain ⟨r47, hr47, hsem⟩ := zw_bd hsem
                refine r_callVi X (pc := 100) (As := []) (st := []) (km_M_here hS hr47) ce_M_here kw_1670 (zo hS 71 rfl rfl) rfl rfl ⟨by show _ ≤ lv + 1; omega, by show _ ≤ 48 * (lv + 1); omega⟩ (Nat.le_of_ble_eq_true rfl) (zw_dg dk_M_thing 57 rfl) ?_
                refine r_i2l X (pc := 103) (zw_dg dk_M_thing 58 rfl)  ?_
                refine r_ldc2 X (pc := 104) (v := 48) kw_1678 (zw_dg dk_M_thing 59 rfl) ?_
                refine r_ldc2 X (pc := 107) (v := 57) kw_1679 (zw_dg dk_M_thing 60 rfl) ?_
                refine r_callSi X (pc := 110) (As := [_, _, _]) (st := []) (km_M_in hS rfl) ce_M_in kw_1597 rfl ⟨by show _ ≤ lv + 1; omega, by show _ ≤ 48 * (lv + 1); omega⟩ (Nat.le_of_ble_eq_true rfl) (zw_dg dk_M_thing 61 rfl) ?_
                refine r_if_eq X (pc := 113) (tgt := 145) (zw_dg dk_M_thing 62 rfl) (by decide) (fun q48 => ?_) (fun q48 => ?_)
                · --
                  exact jF (zw_dF hsem (fun z => z q48))
                · --
                  exact jT (zw_dT hsem q48)
            · have hsem := zw_ifp hbb45 hsb45
              refine r_bipush X (pc := 116) (v := 10) (zw_dg dk_M_thing 63 rfl) (by decide) ?_
              refine r_iload_n X (pc := 118) (i := 3) (zw_dg dk_M_thing 64 rfl) rfl rfl ?_
              refine r_imul X (pc := 119) (zw_dg dk_M_thing 65 rfl)  ?_
              refine r_aload_n X (pc := 120) (i := 0) (zw_dg dk_M_thing 66 rfl) rfl rfl ?_
              obtain ⟨r49, hr49, hsem⟩ := zw_bd hsem
              refine r_callVi X (pc := 121) (As := []) (st := [.int (10 * v39)]) (km_M_here hS hr49) ce_M_here kw_1670 (zo hS 71 rfl rfl) rfl rfl ⟨by show _ ≤ lv + 1; omega, by show _ ≤ 48 * (lv + 1); omega⟩ (Nat.le_of_ble_eq_true rfl) (zw_dg dk_M_thing 67 rfl) ?_
              refine r_iadd X (pc := 124) (zw_dg dk_M_thing 68 rfl)  ?_
              refine r_bipush X (pc := 125) (v := 48) (zw_dg dk_M_thing 69 rfl) (by decide) ?_
              refine r_isub X (pc := 127) (zw_dg dk_M_thing 70 rfl)  ?_
              obtain ⟨v50, hv50, hsem⟩ := zw_bd hsem
              refine zw_topI hv50 ?_
              refine r_istore_n X (pc := 128) (i := 3) (zw_dg dk_M_thing 71 rfl) rfl (by decide) rfl ?_
              refine r_aload_n X (pc := 129) (i := 0) (zw_dg dk_M_thing 72 rfl) rfl rfl ?_
              refine r_dup X (pc := 130) (zw_dg dk_M_thing 73 rfl) rfl ?_
              refine r_getI X (pc := 131) ci_M (zo hS 71 rfl rfl) rfl lk_M_169 (zw_dg dk_M_thing 74 rfl) ?_
              refine r_iconst X (pc := 134) (v := 1) (zw_dg dk_M_thing 75 rfl) (by decide) ?_
              refine r_iadd X (pc := 135) (zw_dg dk_M_thing 76 rfl)  ?_
              refine r_putI X (pc := 136) ci_M (zo hS 71 rfl rfl) rfl lk_M_169 rfl ⟨rfl, rfl⟩ (zw_dg dk_M_thing 77 rfl) ?_
              obtain ⟨c51, hc51, hsem⟩ := zw_bd hsem
              refine zw_topC hc51 ?_
              refine r_iinc X (pc := 139) (i := 4) (k := 1) (zw_dg dk_M_thing 78 rfl) rfl (by decide) (by decide) rfl ?_
              refine r_goto X (pc := 142) (tgt := 93) (zw_dg dk_M_thing 79 rfl) (by decide) ?_
              have jj := hP _ (Option.some.inj hsem).symm
              exact (r_fgt [] rfl jj)
            · have hsem := zw_ifn (by rw [hbb45]; exact Bool.false_ne_true) hsb45
              have jj := hK _ (Option.some.inj hsem).symm
              exact (r_fgt [4] rfl jj)
          obtain ⟨v42, c43⟩ := l44
          have hsem := hsl44
          refine r_iload_n X (pc := 145) (i := 3) (zw_dg dk_M_thing 80 rfl) rfl rfl ?_
          obtain ⟨rfl, rfl⟩ := zw_in2 hsem
          exact r_iret X (pc := 146) rfl (zw_dg dk_M_thing 81 rfl)
    · --
      have p6 : (¬ (¬ (fn_M_fine c3) = 0)) := (fun z => z q7)
      have hsem := zw_ifp p6 hsem
      refine r_iconst X (pc := 23) (v := 0) (zw_dg dk_M_thing 12 rfl) (by decide) ?_
      obtain ⟨rfl, rfl⟩ := zw_in2 hsem
      exact r_iret X (pc := 24) rfl (zw_dg dk_M_thing 13 rfl)
  · --
    have p4 : (¬ r2 = 0) := q5
    have hsem := zw_ifp p4 hsem
    refine r_aload_n X (pc := 9) (i := 0) (zw_dg dk_M_thing 4 rfl) rfl rfl ?_
    refine r_iload_n X (pc := 10) (i := 1) (zw_dg dk_M_thing 5 rfl) rfl rfl ?_
    obtain ⟨⟨r52, c53⟩, hr52_c53, hsem⟩ := zw_bd hsem
    refine r_callVi X (pc := 11) (As := [_]) (st := []) (hr3 _ _ _ _ hr52_c53) ce_M_thing kw_1658 (zo hS 71 rfl rfl) rfl rfl ⟨by show _ ≤ lv + 1; omega, by show _ ≤ 48 * (lv + 1); omega⟩ (Nat.le_of_ble_eq_true rfl) (zw_dg dk_M_thing 6 rfl) ?_
    refine r_ineg X (pc := 14) (zw_dg dk_M_thing 7 rfl)  ?_
    obtain ⟨rfl, rfl⟩ := zw_in2 hsem
    exact r_iret X (pc := 15) rfl (zw_dg dk_M_thing 8 rfl)
theorem km_M_rec {l : Launch} {g : zw_G} {rr : zw_RR} {sh : zw_Sh} (hS : zw_Ok 0 101 sh rr) : ∀ (n : Nat),
    (∀ (c : zw_Ct) (d r : Int32) (c2 : zw_Ct), fn_M_rec n 0 c d = some (r, c2) → zw_Met l g y_M_held b_M_held 3 (some .int) (n + 4) rr sh [.ref 71, .int d] c (some (.int r)) c2) ∧
    (∀ (c : zw_Ct) (d r : Int32) (c2 : zw_Ct), fn_M_rec n 1 c d = some (r, c2) → zw_Met l g y_M_sum b_M_sum 5 (some .int) (n + 4) rr sh [.ref 71, .int d] c (some (.int r)) c2) ∧
    (∀ (c : zw_Ct) (d r : Int32) (c2 : zw_Ct), fn_M_rec n 2 c d = some (r, c2) → zw_Met l g y_M_product b_M_product 5 (some .int) (n + 4) rr sh [.ref 71, .int d] c (some (.int r)) c2) ∧
    (∀ (c : zw_Ct) (d r : Int32) (c2 : zw_Ct), fn_M_rec n 3 c d = some (r, c2) → zw_Met l g y_M_thing b_M_thing 5 (some .int) (n + 4) rr sh [.ref 71, .int d] c (some (.int r)) c2) := by
  intro n
  induction n with
  | zero => exact ⟨fun _ _ _ _ h => (by cases h), fun _ _ _ _ h => (by cases h), fun _ _ _ _ h => (by cases h), fun _ _ _ _ h => (by cases h)⟩
  | succ n ih =>
    obtain ⟨h0, h1, h2, h3⟩ := ih
    rw [show n + 1 + 4 = (n + 4) + 1 by omega]
    exact ⟨fun c d r c2 h => km_M_held (lv := n + 4) (by omega) hS h0 h1 h2 h3 h, fun c d r c2 h => km_M_sum (lv := n + 4) (by omega) hS h0 h1 h2 h3 h, fun c d r c2 h => km_M_product (lv := n + 4) (by omega) hS h0 h1 h2 h3 h, fun c d r c2 h => km_M_thing (lv := n + 4) (by omega) hS h0 h1 h2 h3 h⟩
theorem km_M_rec0 {l : Launch} {g : zw_G} {rr : zw_RR} {sh : zw_Sh} (hS : zw_Ok 0 101 sh rr) (n : Nat) (c : zw_Ct) (d r : Int32) (c2 : zw_Ct) (h : fn_M_rec n 0 c d = some (r, c2)) : zw_Met l g y_M_held b_M_held 3 (some .int) (n + 4) rr sh [.ref 71, .int d] c (some (.int r)) c2 := (km_M_rec hS n).1 c d r c2 h
