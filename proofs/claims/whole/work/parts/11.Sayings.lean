/-! PaidForThinking$Sayings: names, functions, contracts (by program: wip/whole/gen) -/
def y_Sayings_addIfThere : MethodName := ⟨R_Sayings, "addIfThere", "(IIII)V"⟩
abbrev b_Sayings_addIfThere : ByteArray := prog_10_method_3_code
def dl_Sayings_addIfThere : List (Nat × Instr × Nat) := [(0, .aload_n 0, 1), (1, .getfield 19, 3), (4, .iconst 2, 1), (5, .if_icmp .gt 7, 3), (8, .iload_n 3, 1), (9, .ifCond .ne 20, 3), (12, .aload_n 0, 1), (13, .getfield 19, 3), (16, .iconst 3, 1), (17, .if_icmp .gt 8, 3), (20, .iload 4, 2), (22, .ifCond .ne 7, 3), (25, .iconst 1, 1), (26, .goto 4, 3), (29, .iconst 0, 1), (30, .istore 5, 2), (32, .iload 5, 2), (34, .ifCond .eq 13, 3), (37, .aload_n 0, 1), (38, .getfield 26, 3), (41, .sipush 455, 3), (44, .if_icmp .lt 4, 3), (47, .return_, 1), (48, .aload_n 0, 1), (49, .getfield 26, 3), (52, .iconst 4, 1), (53, .imul, 1), (54, .istore 6, 2), (56, .aload_n 0, 1), (57, .getfield 9, 3), (60, .iload 6, 2), (62, .iload_n 1, 1), (63, .iastore, 1), (64, .aload_n 0, 1), (65, .getfield 9, 3), (68, .iload 6, 2), (70, .iconst 1, 1), (71, .iadd, 1), (72, .iload_n 2, 1), (73, .iastore, 1), (74, .aload_n 0, 1), (75, .getfield 9, 3), (78, .iload 6, 2), (80, .iconst 2, 1), (81, .iadd, 1), (82, .iload_n 3, 1), (83, .iastore, 1), (84, .aload_n 0, 1), (85, .getfield 9, 3), (88, .iload 6, 2), (90, .iconst 3, 1), (91, .iadd, 1), (92, .iload 4, 2), (94, .iastore, 1), (95, .aload_n 0, 1), (96, .dup, 1), (97, .getfield 26, 3), (100, .iconst 1, 1), (101, .iadd, 1), (102, .putfield 26, 3), (105, .return_, 1)]
theorem dk_Sayings_addIfThere : zw_dk b_Sayings_addIfThere dl_Sayings_addIfThere = true := by decide +kernel
theorem ce_Sayings_addIfThere : zw_cev y_Sayings_addIfThere b_Sayings_addIfThere 7 (none) 4 := ⟨⟨kt_in 131 (by decide +kernel) rfl, kt_in 86 (by decide +kernel) rfl, by decide +kernel⟩, kt_in 130 (by decide +kernel) rfl, kt_in 0 (by decide +kernel) rfl⟩
def fn_Sayings_addIfThere (c : zw_Ct) (a1 : Int32) (b2 : Int32) (c3 : Int32) (d4 : Int32) : Option zw_Ct :=
  (some ((if (((2 < (c.1 1 0)) ∨ (c3 = 0)) ∧ ((3 < (c.1 1 0)) ∨ (d4 = 0))) then (1 : Int32) else 0) : Int32)).bind fun there11 =>
  if ((¬ (¬ there11 = 0)) ∨ (455 ≤ (c.1 1 2))) then
  (some c)
  else
  ((some (((c.1 1 2) * 4) : Int32)).bind fun at15 =>
  (zw_uI 1820 c 2 at15 a1).bind fun c16 =>
  (zw_uI 1820 c16 2 (at15 + 1) b2).bind fun c17 =>
  (zw_uI 1820 c17 2 (at15 + 2) c3).bind fun c18 =>
  (zw_uI 1820 c18 2 (at15 + 3) d4).bind fun c19 =>
  (some (zw_wI c19 1 2 ((c19.1 1 2) + 1))).bind fun c20 =>
  some c20)
set_option maxRecDepth 100000 in
theorem km_Sayings_addIfThere {l : Launch} {g : zw_G} {rr : zw_RR} {sh : zw_Sh} {c : zw_Ct} {a1 : Int32} {b2 : Int32} {c3 : Int32} {d4 : Int32} {c2 : zw_Ct} (hS : zw_Ok 1 3 sh rr) (hsem : fn_Sayings_addIfThere c a1 b2 c3 d4 = some c2) : zw_Met l g y_Sayings_addIfThere b_Sayings_addIfThere 7 (none) 1 rr sh [.ref 1, .int a1, .int b2, .int c3, .int d4] c none c2 := by
  unfold fn_Sayings_addIfThere at hsem
  refine zw_Met.of (by decide +kernel) (Nat.le_of_ble_eq_true rfl) (fun p e s m args below meth cd X => ?_)
  refine zw_eL (L2 := [some (.ref 1), some (.int a1), some (.int b2), some (.int c3), some (.int d4), none, none]) rfl ?_
  refine zw_ter (P := (((2 < (c.1 1 0)) ∨ (c3 = 0)) ∧ ((3 < (c.1 1 0)) ∨ (d4 = 0)))) (f := Value.int) (x := 1) (y := 0) (J := 30) (st2 := []) (fun jT jF => ?_) ?_
  · --
    refine r_aload_n X (pc := 0) (i := 0) (zw_dg dk_Sayings_addIfThere 0 rfl) rfl rfl ?_
    refine r_getI X (pc := 1) ci_Sayings (zo hS 1 rfl rfl) rfl lk_Sayings_19 (zw_dg dk_Sayings_addIfThere 1 rfl) ?_
    refine r_iconst X (pc := 4) (v := 2) (zw_dg dk_Sayings_addIfThere 2 rfl) (by decide) ?_
    refine r_icmp_gt X (pc := 5) (tgt := 12) (zw_dg dk_Sayings_addIfThere 3 rfl) (by decide) (fun q5 => ?_) (fun q5 => ?_)
    · --
      refine r_aload_n X (pc := 12) (i := 0) (zw_dg dk_Sayings_addIfThere 6 rfl) rfl rfl ?_
      refine r_getI X (pc := 13) ci_Sayings (zo hS 1 rfl rfl) rfl lk_Sayings_19 (zw_dg dk_Sayings_addIfThere 7 rfl) ?_
      refine r_iconst X (pc := 16) (v := 3) (zw_dg dk_Sayings_addIfThere 8 rfl) (by decide) ?_
      refine r_icmp_gt X (pc := 17) (tgt := 25) (zw_dg dk_Sayings_addIfThere 9 rfl) (by decide) (fun q6 => ?_) (fun q6 => ?_)
      · --
        refine r_iconst X (pc := 25) (v := 1) (zw_dg dk_Sayings_addIfThere 12 rfl) (by decide) ?_
        refine r_goto X (pc := 26) (tgt := 30) (zw_dg dk_Sayings_addIfThere 13 rfl) (by decide) ?_
        exact jT ⟨(Or.inl q5), (Or.inl q6)⟩
      · --
        refine r_iload X (pc := 20) (i := 4) (zw_dg dk_Sayings_addIfThere 10 rfl) rfl ?_
        refine r_if_ne X (pc := 22) (tgt := 29) (zw_dg dk_Sayings_addIfThere 11 rfl) (by decide) (fun q7 => ?_) (fun q7 => ?_)
        · --
          refine r_iconst X (pc := 29) (v := 0) (zw_dg dk_Sayings_addIfThere 14 rfl) (by decide) ?_
          exact jF (fun q => (fun q => q.elim q6 q7) q.2)
        · --
          refine r_iconst X (pc := 25) (v := 1) (zw_dg dk_Sayings_addIfThere 12 rfl) (by decide) ?_
          refine r_goto X (pc := 26) (tgt := 30) (zw_dg dk_Sayings_addIfThere 13 rfl) (by decide) ?_
          exact jT ⟨(Or.inl q5), (Or.inr q7)⟩
    · --
      refine r_iload_n X (pc := 8) (i := 3) (zw_dg dk_Sayings_addIfThere 4 rfl) rfl rfl ?_
      refine r_if_ne X (pc := 9) (tgt := 29) (zw_dg dk_Sayings_addIfThere 5 rfl) (by decide) (fun q8 => ?_) (fun q8 => ?_)
      · --
        refine r_iconst X (pc := 29) (v := 0) (zw_dg dk_Sayings_addIfThere 14 rfl) (by decide) ?_
        exact jF (fun q => (fun q => q.elim q5 q8) q.1)
      · --
        refine r_aload_n X (pc := 12) (i := 0) (zw_dg dk_Sayings_addIfThere 6 rfl) rfl rfl ?_
        refine r_getI X (pc := 13) ci_Sayings (zo hS 1 rfl rfl) rfl lk_Sayings_19 (zw_dg dk_Sayings_addIfThere 7 rfl) ?_
        refine r_iconst X (pc := 16) (v := 3) (zw_dg dk_Sayings_addIfThere 8 rfl) (by decide) ?_
        refine r_icmp_gt X (pc := 17) (tgt := 25) (zw_dg dk_Sayings_addIfThere 9 rfl) (by decide) (fun q9 => ?_) (fun q9 => ?_)
        · --
          refine r_iconst X (pc := 25) (v := 1) (zw_dg dk_Sayings_addIfThere 12 rfl) (by decide) ?_
          refine r_goto X (pc := 26) (tgt := 30) (zw_dg dk_Sayings_addIfThere 13 rfl) (by decide) ?_
          exact jT ⟨(Or.inr q8), (Or.inl q9)⟩
        · --
          refine r_iload X (pc := 20) (i := 4) (zw_dg dk_Sayings_addIfThere 10 rfl) rfl ?_
          refine r_if_ne X (pc := 22) (tgt := 29) (zw_dg dk_Sayings_addIfThere 11 rfl) (by decide) (fun q10 => ?_) (fun q10 => ?_)
          · --
            refine r_iconst X (pc := 29) (v := 0) (zw_dg dk_Sayings_addIfThere 14 rfl) (by decide) ?_
            exact jF (fun q => (fun q => q.elim q9 q10) q.2)
          · --
            refine r_iconst X (pc := 25) (v := 1) (zw_dg dk_Sayings_addIfThere 12 rfl) (by decide) ?_
            refine r_goto X (pc := 26) (tgt := 30) (zw_dg dk_Sayings_addIfThere 13 rfl) (by decide) ?_
            exact jT ⟨(Or.inr q8), (Or.inr q10)⟩
  obtain ⟨there11, hthere11, hsem⟩ := zw_bd hsem
  refine zw_topI hthere11 ?_
  refine r_istore X (pc := 30) (i := 5) (zw_dg dk_Sayings_addIfThere 15 rfl) (by decide) rfl ?_
  refine zw_cnd (P := ((¬ (¬ there11 = 0)) ∨ (455 ≤ (c.1 1 2)))) (J1 := 47) (J2 := 48) (st2 := []) (fun jT jF => ?_) (fun p12 => ?_) (fun p12 => ?_)
  · --
    refine r_iload X (pc := 32) (i := 5) (zw_dg dk_Sayings_addIfThere 16 rfl) rfl ?_
    refine r_if_eq X (pc := 34) (tgt := 47) (zw_dg dk_Sayings_addIfThere 17 rfl) (by decide) (fun q13 => ?_) (fun q13 => ?_)
    · --
      exact jT (Or.inl (fun z => z q13))
    · --
      refine r_aload_n X (pc := 37) (i := 0) (zw_dg dk_Sayings_addIfThere 18 rfl) rfl rfl ?_
      refine r_getI X (pc := 38) ci_Sayings (zo hS 1 rfl rfl) rfl lk_Sayings_26 (zw_dg dk_Sayings_addIfThere 19 rfl) ?_
      refine r_sipush X (pc := 41) (v := 455) (zw_dg dk_Sayings_addIfThere 20 rfl) (by decide) ?_
      refine r_icmp_lt X (pc := 44) (tgt := 48) (zw_dg dk_Sayings_addIfThere 21 rfl) (by decide) (fun q14 => ?_) (fun q14 => ?_)
      · --
        exact jF (fun q => q.elim (fun q => q q13) (Int32.not_le.mpr q14))
      · --
        exact jT (Or.inr (Int32.not_lt.mp q14))
  · --
    have hsem := zw_ifp p12 hsem
    cases hsem
    exact r_vret X (pc := 47) rfl (zw_dg dk_Sayings_addIfThere 22 rfl)
  · --
    have hsem := zw_ifn p12 hsem
    refine r_aload_n X (pc := 48) (i := 0) (zw_dg dk_Sayings_addIfThere 23 rfl) rfl rfl ?_
    refine r_getI X (pc := 49) ci_Sayings (zo hS 1 rfl rfl) rfl lk_Sayings_26 (zw_dg dk_Sayings_addIfThere 24 rfl) ?_
    refine r_iconst X (pc := 52) (v := 4) (zw_dg dk_Sayings_addIfThere 25 rfl) (by decide) ?_
    refine r_imul X (pc := 53) (zw_dg dk_Sayings_addIfThere 26 rfl)  ?_
    obtain ⟨at15, hat15, hsem⟩ := zw_bd hsem
    refine zw_topI hat15 ?_
    refine r_istore X (pc := 54) (i := 6) (zw_dg dk_Sayings_addIfThere 27 rfl) (by decide) rfl ?_
    refine r_aload_n X (pc := 56) (i := 0) (zw_dg dk_Sayings_addIfThere 28 rfl) rfl rfl ?_
    refine r_getR X (pc := 57) (r := 2) ci_Sayings (zo hS 1 rfl rfl) rfl (zr hS 1 3 rfl rfl) lk_Sayings_9 (zw_dg dk_Sayings_addIfThere 29 rfl) ?_
    refine r_iload X (pc := 60) (i := 6) (zw_dg dk_Sayings_addIfThere 30 rfl) rfl ?_
    refine r_iload_n X (pc := 62) (i := 1) (zw_dg dk_Sayings_addIfThere 31 rfl) rfl rfl ?_
    obtain ⟨c16, hc16, hsem⟩ := zw_bd hsem
    refine r_iast X (pc := 63) (zo hS 2 rfl rfl) hc16 (zw_dg dk_Sayings_addIfThere 32 rfl) ?_
    refine r_aload_n X (pc := 64) (i := 0) (zw_dg dk_Sayings_addIfThere 33 rfl) rfl rfl ?_
    refine r_getR X (pc := 65) (r := 2) ci_Sayings (zo hS 1 rfl rfl) rfl (zr hS 1 3 rfl rfl) lk_Sayings_9 (zw_dg dk_Sayings_addIfThere 34 rfl) ?_
    refine r_iload X (pc := 68) (i := 6) (zw_dg dk_Sayings_addIfThere 35 rfl) rfl ?_
    refine r_iconst X (pc := 70) (v := 1) (zw_dg dk_Sayings_addIfThere 36 rfl) (by decide) ?_
    refine r_iadd X (pc := 71) (zw_dg dk_Sayings_addIfThere 37 rfl)  ?_
    refine r_iload_n X (pc := 72) (i := 2) (zw_dg dk_Sayings_addIfThere 38 rfl) rfl rfl ?_
    obtain ⟨c17, hc17, hsem⟩ := zw_bd hsem
    refine r_iast X (pc := 73) (zo hS 2 rfl rfl) hc17 (zw_dg dk_Sayings_addIfThere 39 rfl) ?_
    refine r_aload_n X (pc := 74) (i := 0) (zw_dg dk_Sayings_addIfThere 40 rfl) rfl rfl ?_
    refine r_getR X (pc := 75) (r := 2) ci_Sayings (zo hS 1 rfl rfl) rfl (zr hS 1 3 rfl rfl) lk_Sayings_9 (zw_dg dk_Sayings_addIfThere 41 rfl) ?_
    refine r_iload X (pc := 78) (i := 6) (zw_dg dk_Sayings_addIfThere 42 rfl) rfl ?_
    refine r_iconst X (pc := 80) (v := 2) (zw_dg dk_Sayings_addIfThere 43 rfl) (by decide) ?_
    refine r_iadd X (pc := 81) (zw_dg dk_Sayings_addIfThere 44 rfl)  ?_
    refine r_iload_n X (pc := 82) (i := 3) (zw_dg dk_Sayings_addIfThere 45 rfl) rfl rfl ?_
    obtain ⟨c18, hc18, hsem⟩ := zw_bd hsem
    refine r_iast X (pc := 83) (zo hS 2 rfl rfl) hc18 (zw_dg dk_Sayings_addIfThere 46 rfl) ?_
    refine r_aload_n X (pc := 84) (i := 0) (zw_dg dk_Sayings_addIfThere 47 rfl) rfl rfl ?_
    refine r_getR X (pc := 85) (r := 2) ci_Sayings (zo hS 1 rfl rfl) rfl (zr hS 1 3 rfl rfl) lk_Sayings_9 (zw_dg dk_Sayings_addIfThere 48 rfl) ?_
    refine r_iload X (pc := 88) (i := 6) (zw_dg dk_Sayings_addIfThere 49 rfl) rfl ?_
    refine r_iconst X (pc := 90) (v := 3) (zw_dg dk_Sayings_addIfThere 50 rfl) (by decide) ?_
    refine r_iadd X (pc := 91) (zw_dg dk_Sayings_addIfThere 51 rfl)  ?_
    refine r_iload X (pc := 92) (i := 4) (zw_dg dk_Sayings_addIfThere 52 rfl) rfl ?_
    obtain ⟨c19, hc19, hsem⟩ := zw_bd hsem
    refine r_iast X (pc := 94) (zo hS 2 rfl rfl) hc19 (zw_dg dk_Sayings_addIfThere 53 rfl) ?_
    refine r_aload_n X (pc := 95) (i := 0) (zw_dg dk_Sayings_addIfThere 54 rfl) rfl rfl ?_
    refine r_dup X (pc := 96) (zw_dg dk_Sayings_addIfThere 55 rfl) rfl ?_
    refine r_getI X (pc := 97) ci_Sayings (zo hS 1 rfl rfl) rfl lk_Sayings_26 (zw_dg dk_Sayings_addIfThere 56 rfl) ?_
    refine r_iconst X (pc := 100) (v := 1) (zw_dg dk_Sayings_addIfThere 57 rfl) (by decide) ?_
    refine r_iadd X (pc := 101) (zw_dg dk_Sayings_addIfThere 58 rfl)  ?_
    refine r_putI X (pc := 102) ci_Sayings (zo hS 1 rfl rfl) rfl lk_Sayings_26 rfl ⟨rfl, rfl⟩ (zw_dg dk_Sayings_addIfThere 59 rfl) ?_
    obtain ⟨c20, hc20, hsem⟩ := zw_bd hsem
    refine zw_topC hc20 ?_
    cases hsem
    exact r_vret X (pc := 105) rfl (zw_dg dk_Sayings_addIfThere 60 rfl)
def y_Sayings_lay : MethodName := ⟨R_Sayings, "lay", "(II)V"⟩
abbrev b_Sayings_lay : ByteArray := prog_10_method_2_code
def dl_Sayings_lay : List (Nat × Instr × Nat) := [(0, .aload_n 0, 1), (1, .iload_n 1, 1), (2, .putfield 19, 3), (5, .aload_n 0, 1), (6, .iload_n 2, 1), (7, .putfield 23, 3), (10, .aload_n 0, 1), (11, .iconst 0, 1), (12, .putfield 26, 3), (15, .iconst 0, 1), (16, .istore_n 3, 1), (17, .iload_n 3, 1), (18, .aload_n 0, 1), (19, .getfield 23, 3), (22, .if_icmp .gt 73, 3), (25, .iconst 0, 1), (26, .istore 4, 2), (28, .iload 4, 2), (30, .aload_n 0, 1), (31, .getfield 23, 3), (34, .iload_n 3, 1), (35, .isub, 1), (36, .if_icmp .gt 53, 3), (39, .iconst 0, 1), (40, .istore 5, 2), (42, .iload 5, 2), (44, .aload_n 0, 1), (45, .getfield 23, 3), (48, .iload_n 3, 1), (49, .isub, 1), (50, .iload 4, 2), (52, .isub, 1), (53, .if_icmp .gt 30, 3), (56, .aload_n 0, 1), (57, .iload_n 3, 1), (58, .iload 4, 2), (60, .iload 5, 2), (62, .aload_n 0, 1), (63, .getfield 23, 3), (66, .iload_n 3, 1), (67, .isub, 1), (68, .iload 4, 2), (70, .isub, 1), (71, .iload 5, 2), (73, .isub, 1), (74, .invokevirtual 29, 3), (77, .iinc 5 1, 3), (80, .goto (-38), 3), (83, .iinc 4 1, 3), (86, .goto (-58), 3), (89, .iinc 3 1, 3), (92, .goto (-75), 3), (95, .return_, 1)]
theorem dk_Sayings_lay : zw_dk b_Sayings_lay dl_Sayings_lay = true := by decide +kernel
theorem ce_Sayings_lay : zw_cev y_Sayings_lay b_Sayings_lay 6 (none) 2 := ⟨⟨kt_in 127 (by decide +kernel) rfl, kt_in 86 (by decide +kernel) rfl, by decide +kernel⟩, kt_in 125 (by decide +kernel) rfl, kt_in 126 (by decide +kernel) rfl⟩
def fn_Sayings_lay_l3 (a6 : Int32) (b12 : Int32) : Int32 × zw_Ct → Option ((zw_Ct) ⊕ (Int32 × zw_Ct)) := fun (c18, c19) =>
  if (c18 ≤ (((c19.1 1 1) - a6) - b12)) then
  ((fn_Sayings_addIfThere c19 a6 b12 c18 ((((c19.1 1 1) - a6) - b12) - c18)).bind fun c24 =>
  some (.inr ((c18 + 1), c24)))
  else
  (some (.inl c19))
def fn_Sayings_lay_l2 (a6 : Int32) : Int32 × zw_Ct → Option ((zw_Ct) ⊕ (Int32 × zw_Ct)) := fun (b12, c13) =>
  if (b12 ≤ ((c13.1 1 1) - a6)) then
  ((zw_whl (fn_Sayings_lay_l3 a6 b12) zw_F (0, c13)).bind fun c20 =>
  some (.inr ((b12 + 1), c20)))
  else
  (some (.inl c13))
def fn_Sayings_lay_l1  : Int32 × zw_Ct → Option ((zw_Ct) ⊕ (Int32 × zw_Ct)) := fun (a6, c7) =>
  if (a6 ≤ (c7.1 1 1)) then
  ((zw_whl (fn_Sayings_lay_l2 a6) zw_F (0, c7)).bind fun c14 =>
  some (.inr ((a6 + 1), c14)))
  else
  (some (.inl c7))
def fn_Sayings_lay (c : zw_Ct) (newEvents1 : Int32) (newSteps2 : Int32) : Option zw_Ct :=
  (some (zw_wI c 1 0 newEvents1)).bind fun c3 =>
  (some (zw_wI c3 1 1 newSteps2)).bind fun c4 =>
  (some (zw_wI c4 1 2 0)).bind fun c5 =>
  (zw_whl (fn_Sayings_lay_l1) zw_F (0, c5)).bind fun c8 =>
  some c8
set_option maxRecDepth 100000 in
theorem km_Sayings_lay {l : Launch} {g : zw_G} {rr : zw_RR} {sh : zw_Sh} {c : zw_Ct} {newEvents1 : Int32} {newSteps2 : Int32} {c2 : zw_Ct} (hS : zw_Ok 1 3 sh rr) (hsem : fn_Sayings_lay c newEvents1 newSteps2 = some c2) : zw_Met l g y_Sayings_lay b_Sayings_lay 6 (none) 2 rr sh [.ref 1, .int newEvents1, .int newSteps2] c none c2 := by
  unfold fn_Sayings_lay at hsem
  refine zw_Met.of (by decide +kernel) (Nat.le_of_ble_eq_true rfl) (fun p e s m args below meth cd X => ?_)
  refine zw_eL (L2 := [some (.ref 1), some (.int newEvents1), some (.int newSteps2), none, none, none]) rfl ?_
  refine r_aload_n X (pc := 0) (i := 0) (zw_dg dk_Sayings_lay 0 rfl) rfl rfl ?_
  refine r_iload_n X (pc := 1) (i := 1) (zw_dg dk_Sayings_lay 1 rfl) rfl rfl ?_
  refine r_putI X (pc := 2) ci_Sayings (zo hS 1 rfl rfl) rfl lk_Sayings_19 rfl ⟨rfl, rfl⟩ (zw_dg dk_Sayings_lay 2 rfl) ?_
  obtain ⟨c3, hc3, hsem⟩ := zw_bd hsem
  refine zw_topC hc3 ?_
  refine r_aload_n X (pc := 5) (i := 0) (zw_dg dk_Sayings_lay 3 rfl) rfl rfl ?_
  refine r_iload_n X (pc := 6) (i := 2) (zw_dg dk_Sayings_lay 4 rfl) rfl rfl ?_
  refine r_putI X (pc := 7) ci_Sayings (zo hS 1 rfl rfl) rfl lk_Sayings_23 rfl ⟨rfl, rfl⟩ (zw_dg dk_Sayings_lay 5 rfl) ?_
  obtain ⟨c4, hc4, hsem⟩ := zw_bd hsem
  refine zw_topC hc4 ?_
  refine r_aload_n X (pc := 10) (i := 0) (zw_dg dk_Sayings_lay 6 rfl) rfl rfl ?_
  refine r_iconst X (pc := 11) (v := 0) (zw_dg dk_Sayings_lay 7 rfl) (by decide) ?_
  refine r_putI X (pc := 12) ci_Sayings (zo hS 1 rfl rfl) rfl lk_Sayings_26 rfl ⟨rfl, rfl⟩ (zw_dg dk_Sayings_lay 8 rfl) ?_
  obtain ⟨c5, hc5, hsem⟩ := zw_bd hsem
  refine zw_topC hc5 ?_
  refine r_iconst X (pc := 15) (v := 0) (zw_dg dk_Sayings_lay 9 rfl) (by decide) ?_
  refine r_istore_n X (pc := 16) (i := 3) (zw_dg dk_Sayings_lay 10 rfl) rfl (by decide) rfl ?_
  obtain ⟨c8, hl9, hsl9⟩ := zw_bd hsem
  refine r_loop (pc := 17) (pce := 95) hl9 (fun (a6, c7) => [some (.ref 1), some (.int newEvents1), some (.int newSteps2), some (.int a6), none, none] : Int32 × zw_Ct → zw_Lc) (fun (a6, c7) => c7 : Int32 × zw_Ct → zw_Ct) (fun c8 => [some (.ref 1), some (.int newEvents1), some (.int newSteps2), none, none, none] : zw_Ct → zw_Lc) (fun c8 => c8 : zw_Ct → zw_Ct) ?_ rfl rfl ?_
  · rintro ⟨a6, c7⟩ rr hsem hK hP
    try unfold fn_Sayings_lay_l1 at hsem
    refine r_iload_n X (pc := 17) (i := 3) (zw_dg dk_Sayings_lay 11 rfl) rfl rfl ?_
    refine r_aload_n X (pc := 18) (i := 0) (zw_dg dk_Sayings_lay 12 rfl) rfl rfl ?_
    refine r_getI X (pc := 19) ci_Sayings (zo hS 1 rfl rfl) rfl lk_Sayings_23 (zw_dg dk_Sayings_lay 13 rfl) ?_
    refine r_icmp_gt X (pc := 22) (tgt := 95) (zw_dg dk_Sayings_lay 14 rfl) (by decide) (fun q11 => ?_) (fun q11 => ?_)
    · --
      have p10 : ¬ (a6 ≤ (c7.1 1 1)) := (Int32.not_le.mpr q11)
      have hsem := zw_ifn p10 hsem
      have jj := hK _ (Option.some.inj hsem).symm
      exact (r_fgt [3] rfl jj)
    · --
      have p10 : (a6 ≤ (c7.1 1 1)) := (Int32.not_lt.mp q11)
      have hsem := zw_ifp p10 hsem
      refine r_iconst X (pc := 25) (v := 0) (zw_dg dk_Sayings_lay 15 rfl) (by decide) ?_
      refine r_istore X (pc := 26) (i := 4) (zw_dg dk_Sayings_lay 16 rfl) (by decide) rfl ?_
      obtain ⟨c14, hl15, hsl15⟩ := zw_bd hsem
      refine r_loop (pc := 28) (pce := 89) hl15 (fun (b12, c13) => [some (.ref 1), some (.int newEvents1), some (.int newSteps2), some (.int a6), some (.int b12), none] : Int32 × zw_Ct → zw_Lc) (fun (b12, c13) => c13 : Int32 × zw_Ct → zw_Ct) (fun c14 => [some (.ref 1), some (.int newEvents1), some (.int newSteps2), some (.int a6), none, none] : zw_Ct → zw_Lc) (fun c14 => c14 : zw_Ct → zw_Ct) ?_ rfl rfl ?_
      · rintro ⟨b12, c13⟩ rr hsem hK hP
        try unfold fn_Sayings_lay_l2 at hsem
        refine r_iload X (pc := 28) (i := 4) (zw_dg dk_Sayings_lay 17 rfl) rfl ?_
        refine r_aload_n X (pc := 30) (i := 0) (zw_dg dk_Sayings_lay 18 rfl) rfl rfl ?_
        refine r_getI X (pc := 31) ci_Sayings (zo hS 1 rfl rfl) rfl lk_Sayings_23 (zw_dg dk_Sayings_lay 19 rfl) ?_
        refine r_iload_n X (pc := 34) (i := 3) (zw_dg dk_Sayings_lay 20 rfl) rfl rfl ?_
        refine r_isub X (pc := 35) (zw_dg dk_Sayings_lay 21 rfl)  ?_
        refine r_icmp_gt X (pc := 36) (tgt := 89) (zw_dg dk_Sayings_lay 22 rfl) (by decide) (fun q17 => ?_) (fun q17 => ?_)
        · --
          have p16 : ¬ (b12 ≤ ((c13.1 1 1) - a6)) := (Int32.not_le.mpr q17)
          have hsem := zw_ifn p16 hsem
          have jj := hK _ (Option.some.inj hsem).symm
          exact (r_fgt [4] rfl jj)
        · --
          have p16 : (b12 ≤ ((c13.1 1 1) - a6)) := (Int32.not_lt.mp q17)
          have hsem := zw_ifp p16 hsem
          refine r_iconst X (pc := 39) (v := 0) (zw_dg dk_Sayings_lay 23 rfl) (by decide) ?_
          refine r_istore X (pc := 40) (i := 5) (zw_dg dk_Sayings_lay 24 rfl) (by decide) rfl ?_
          obtain ⟨c20, hl21, hsl21⟩ := zw_bd hsem
          refine r_loop (pc := 42) (pce := 83) hl21 (fun (c18, c19) => [some (.ref 1), some (.int newEvents1), some (.int newSteps2), some (.int a6), some (.int b12), some (.int c18)] : Int32 × zw_Ct → zw_Lc) (fun (c18, c19) => c19 : Int32 × zw_Ct → zw_Ct) (fun c20 => [some (.ref 1), some (.int newEvents1), some (.int newSteps2), some (.int a6), some (.int b12), none] : zw_Ct → zw_Lc) (fun c20 => c20 : zw_Ct → zw_Ct) ?_ rfl rfl ?_
          · rintro ⟨c18, c19⟩ rr hsem hK hP
            try unfold fn_Sayings_lay_l3 at hsem
            refine r_iload X (pc := 42) (i := 5) (zw_dg dk_Sayings_lay 25 rfl) rfl ?_
            refine r_aload_n X (pc := 44) (i := 0) (zw_dg dk_Sayings_lay 26 rfl) rfl rfl ?_
            refine r_getI X (pc := 45) ci_Sayings (zo hS 1 rfl rfl) rfl lk_Sayings_23 (zw_dg dk_Sayings_lay 27 rfl) ?_
            refine r_iload_n X (pc := 48) (i := 3) (zw_dg dk_Sayings_lay 28 rfl) rfl rfl ?_
            refine r_isub X (pc := 49) (zw_dg dk_Sayings_lay 29 rfl)  ?_
            refine r_iload X (pc := 50) (i := 4) (zw_dg dk_Sayings_lay 30 rfl) rfl ?_
            refine r_isub X (pc := 52) (zw_dg dk_Sayings_lay 31 rfl)  ?_
            refine r_icmp_gt X (pc := 53) (tgt := 83) (zw_dg dk_Sayings_lay 32 rfl) (by decide) (fun q23 => ?_) (fun q23 => ?_)
            · --
              have p22 : ¬ (c18 ≤ (((c19.1 1 1) - a6) - b12)) := (Int32.not_le.mpr q23)
              have hsem := zw_ifn p22 hsem
              have jj := hK _ (Option.some.inj hsem).symm
              exact (r_fgt [5] rfl jj)
            · --
              have p22 : (c18 ≤ (((c19.1 1 1) - a6) - b12)) := (Int32.not_lt.mp q23)
              have hsem := zw_ifp p22 hsem
              refine r_aload_n X (pc := 56) (i := 0) (zw_dg dk_Sayings_lay 33 rfl) rfl rfl ?_
              refine r_iload_n X (pc := 57) (i := 3) (zw_dg dk_Sayings_lay 34 rfl) rfl rfl ?_
              refine r_iload X (pc := 58) (i := 4) (zw_dg dk_Sayings_lay 35 rfl) rfl ?_
              refine r_iload X (pc := 60) (i := 5) (zw_dg dk_Sayings_lay 36 rfl) rfl ?_
              refine r_aload_n X (pc := 62) (i := 0) (zw_dg dk_Sayings_lay 37 rfl) rfl rfl ?_
              refine r_getI X (pc := 63) ci_Sayings (zo hS 1 rfl rfl) rfl lk_Sayings_23 (zw_dg dk_Sayings_lay 38 rfl) ?_
              refine r_iload_n X (pc := 66) (i := 3) (zw_dg dk_Sayings_lay 39 rfl) rfl rfl ?_
              refine r_isub X (pc := 67) (zw_dg dk_Sayings_lay 40 rfl)  ?_
              refine r_iload X (pc := 68) (i := 4) (zw_dg dk_Sayings_lay 41 rfl) rfl ?_
              refine r_isub X (pc := 70) (zw_dg dk_Sayings_lay 42 rfl)  ?_
              refine r_iload X (pc := 71) (i := 5) (zw_dg dk_Sayings_lay 43 rfl) rfl ?_
              refine r_isub X (pc := 73) (zw_dg dk_Sayings_lay 44 rfl)  ?_
              obtain ⟨c24, hc24, hsem⟩ := zw_bd hsem
              refine r_callVv X (pc := 74) (As := [_, _, _, _]) (st := []) (km_Sayings_addIfThere hS hc24) ce_Sayings_addIfThere kw_128 (zo hS 1 rfl rfl) rfl rfl ⟨Nat.le_of_ble_eq_true rfl, Nat.le_of_ble_eq_true rfl⟩ (Nat.le_of_ble_eq_true rfl) (zw_dg dk_Sayings_lay 45 rfl) ?_
              refine r_iinc X (pc := 77) (i := 5) (k := 1) (zw_dg dk_Sayings_lay 46 rfl) rfl (by decide) (by decide) rfl ?_
              refine r_goto X (pc := 80) (tgt := 42) (zw_dg dk_Sayings_lay 47 rfl) (by decide) ?_
              have jj := hP _ (Option.some.inj hsem).symm
              exact (r_fgt [] rfl jj)
          have hsem := hsl21
          refine r_iinc X (pc := 83) (i := 4) (k := 1) (zw_dg dk_Sayings_lay 48 rfl) rfl (by decide) (by decide) rfl ?_
          refine r_goto X (pc := 86) (tgt := 28) (zw_dg dk_Sayings_lay 49 rfl) (by decide) ?_
          have jj := hP _ (Option.some.inj hsem).symm
          exact (r_fgt [] rfl jj)
      have hsem := hsl15
      refine r_iinc X (pc := 89) (i := 3) (k := 1) (zw_dg dk_Sayings_lay 50 rfl) rfl (by decide) (by decide) rfl ?_
      refine r_goto X (pc := 92) (tgt := 17) (zw_dg dk_Sayings_lay 51 rfl) (by decide) ?_
      have jj := hP _ (Option.some.inj hsem).symm
      exact (r_fgt [] rfl jj)
  have hsem := hsl9
  cases hsem
  exact r_vret X (pc := 95) rfl (zw_dg dk_Sayings_lay 52 rfl)
def y_Sayings_numberOf : MethodName := ⟨R_Sayings, "numberOf", "(IIII)I"⟩
abbrev b_Sayings_numberOf : ByteArray := prog_10_method_4_code
def dl_Sayings_numberOf : List (Nat × Instr × Nat) := [(0, .iconst 0, 1), (1, .istore 5, 2), (3, .iload 5, 2), (5, .aload_n 0, 1), (6, .getfield 26, 3), (9, .if_icmp .ge 69, 3), (12, .iload 5, 2), (14, .iconst 4, 1), (15, .imul, 1), (16, .istore 6, 2), (18, .aload_n 0, 1), (19, .getfield 9, 3), (22, .iload 6, 2), (24, .iaload, 1), (25, .iload_n 1, 1), (26, .if_icmp .ne 46, 3), (29, .aload_n 0, 1), (30, .getfield 9, 3), (33, .iload 6, 2), (35, .iconst 1, 1), (36, .iadd, 1), (37, .iaload, 1), (38, .iload_n 2, 1), (39, .if_icmp .ne 33, 3), (42, .aload_n 0, 1), (43, .getfield 9, 3), (46, .iload 6, 2), (48, .iconst 2, 1), (49, .iadd, 1), (50, .iaload, 1), (51, .iload_n 3, 1), (52, .if_icmp .ne 20, 3), (55, .aload_n 0, 1), (56, .getfield 9, 3), (59, .iload 6, 2), (61, .iconst 3, 1), (62, .iadd, 1), (63, .iaload, 1), (64, .iload 4, 2), (66, .if_icmp .ne 6, 3), (69, .iload 5, 2), (71, .ireturn, 1), (72, .iinc 5 1, 3), (75, .goto (-72), 3), (78, .iconst (-1), 1), (79, .ireturn, 1)]
theorem dk_Sayings_numberOf : zw_dk b_Sayings_numberOf dl_Sayings_numberOf = true := by decide +kernel
theorem ce_Sayings_numberOf : zw_cev y_Sayings_numberOf b_Sayings_numberOf 7 (some .int) 4 := ⟨⟨kt_in 523 (by decide +kernel) rfl, kt_in 86 (by decide +kernel) rfl, by decide +kernel⟩, kt_in 521 (by decide +kernel) rfl, kt_in 522 (by decide +kernel) rfl⟩
def fn_Sayings_numberOf_l1 (c : zw_Ct) (a1 : Int32) (b2 : Int32) (c3 : Int32) (d4 : Int32) : Int32 → Option (((Int32) ⊕ (Unit)) ⊕ (Int32)) := fun s5 =>
  if (s5 < (c.1 1 2)) then
  ((some ((s5 * 4) : Int32)).bind fun at9 =>
  (zw_aI 1820 c 2 at9).bind fun x10 =>
  (if (x10 = a1) then
  ((zw_aI 1820 c 2 (at9 + 1)).bind fun x13 =>
  if (x13 = b2) then
  ((zw_aI 1820 c 2 (at9 + 2)).bind fun x15 =>
  if (x15 = c3) then
  ((zw_aI 1820 c 2 (at9 + 3)).bind fun x17 =>
  some (decide (x17 = d4)))
  else some false)
  else some false)
  else some false).bind fun b11 =>
  if b11 = true then
  (some (.inl (.inl s5)))
  else
  (some (.inr (s5 + 1))))
  else
  (some (.inl (.inr ())))
def fn_Sayings_numberOf (c : zw_Ct) (a1 : Int32) (b2 : Int32) (c3 : Int32) (d4 : Int32) : Option Int32 :=
  (zw_whl (fn_Sayings_numberOf_l1 c a1 b2 c3 d4) zw_F 0).bind fun q => match q with
    | .inl w => some w
    | .inr _ =>
    some (-1)
set_option maxRecDepth 100000 in
theorem km_Sayings_numberOf {l : Launch} {g : zw_G} {rr : zw_RR} {sh : zw_Sh} {c : zw_Ct} {a1 : Int32} {b2 : Int32} {c3 : Int32} {d4 : Int32} {r : Int32} (hS : zw_Ok 0 101 sh rr) (hsem : fn_Sayings_numberOf c a1 b2 c3 d4 = some r) : zw_Met l g y_Sayings_numberOf b_Sayings_numberOf 7 (some .int) 1 rr sh [.ref 1, .int a1, .int b2, .int c3, .int d4] c (some (.int r)) c := by
  unfold fn_Sayings_numberOf at hsem
  refine zw_Met.of (by decide +kernel) (Nat.le_of_ble_eq_true rfl) (fun p e s m args below meth cd X => ?_)
  refine zw_eL (L2 := [some (.ref 1), some (.int a1), some (.int b2), some (.int c3), some (.int d4), none, none]) rfl ?_
  refine r_iconst X (pc := 0) (v := 0) (zw_dg dk_Sayings_numberOf 0 rfl) (by decide) ?_
  refine r_istore X (pc := 1) (i := 5) (zw_dg dk_Sayings_numberOf 1 rfl) (by decide) rfl ?_
  obtain ⟨l6, hl6, hsl6⟩ := zw_bd hsem
  refine r_loopR (pc := 3) (pce := 78) hl6 (fun s5 => [some (.ref 1), some (.int a1), some (.int b2), some (.int c3), some (.int d4), some (.int s5), none] : Int32 → zw_Lc) (fun s5 => c : Int32 → zw_Ct) (fun (_ : Unit) => [some (.ref 1), some (.int a1), some (.int b2), some (.int c3), some (.int d4), none, none] : Unit → zw_Lc) (fun (_ : Unit) => c : Unit → zw_Ct) (fun w => w = r) ?_ rfl rfl ?_ ?_
  · rintro s5 rr hsem hR hK hP
    try unfold fn_Sayings_numberOf_l1 at hsem
    refine r_iload X (pc := 3) (i := 5) (zw_dg dk_Sayings_numberOf 2 rfl) rfl ?_
    refine r_aload_n X (pc := 5) (i := 0) (zw_dg dk_Sayings_numberOf 3 rfl) rfl rfl ?_
    refine r_getI X (pc := 6) ci_Sayings (zo hS 1 rfl rfl) rfl lk_Sayings_26 (zw_dg dk_Sayings_numberOf 4 rfl) ?_
    refine r_icmp_ge X (pc := 9) (tgt := 78) (zw_dg dk_Sayings_numberOf 5 rfl) (by decide) (fun q8 => ?_) (fun q8 => ?_)
    · --
      have p7 : ¬ (s5 < (c.1 1 2)) := (Int32.not_lt.mpr q8)
      have hsem := zw_ifn p7 hsem
      have jj := hK _ (Option.some.inj hsem).symm
      exact (r_fgt [5] rfl jj)
    · --
      have p7 : (s5 < (c.1 1 2)) := (Int32.not_le.mp q8)
      have hsem := zw_ifp p7 hsem
      refine r_iload X (pc := 12) (i := 5) (zw_dg dk_Sayings_numberOf 6 rfl) rfl ?_
      refine r_iconst X (pc := 14) (v := 4) (zw_dg dk_Sayings_numberOf 7 rfl) (by decide) ?_
      refine r_imul X (pc := 15) (zw_dg dk_Sayings_numberOf 8 rfl)  ?_
      obtain ⟨at9, hat9, hsem⟩ := zw_bd hsem
      refine zw_topI hat9 ?_
      refine r_istore X (pc := 16) (i := 6) (zw_dg dk_Sayings_numberOf 9 rfl) (by decide) rfl ?_
      refine r_aload_n X (pc := 18) (i := 0) (zw_dg dk_Sayings_numberOf 10 rfl) rfl rfl ?_
      refine r_getR X (pc := 19) (r := 2) ci_Sayings (zo hS 1 rfl rfl) rfl (zr hS 1 3 rfl rfl) lk_Sayings_9 (zw_dg dk_Sayings_numberOf 11 rfl) ?_
      refine r_iload X (pc := 22) (i := 6) (zw_dg dk_Sayings_numberOf 12 rfl) rfl ?_
      obtain ⟨x10, hx10, hsem⟩ := zw_bd hsem
      refine r_iald X (pc := 24) (zo hS 2 rfl rfl) hx10 (zw_dg dk_Sayings_numberOf 13 rfl) ?_
      refine r_iload_n X (pc := 25) (i := 1) (zw_dg dk_Sayings_numberOf 14 rfl) rfl rfl ?_
      obtain ⟨b11, hb11, hsb11⟩ := zw_bd hsem
      refine zw_cndB (b := b11) (J1 := 69) (J2 := 72) (st2 := []) (fun jT jF => ?_) (fun hbb11 => ?_) (fun hbb11 => ?_)
      · have hsem := hb11
        refine r_icmp_ne X (pc := 26) (tgt := 72) (zw_dg dk_Sayings_numberOf 15 rfl) (by decide) (fun q12 => ?_) (fun q12 => ?_)
        · --
          have hsem := zw_ifn q12 hsem
          exact jF (Option.some.inj hsem).symm
        · --
          have hsem := zw_ifp q12 hsem
          refine r_aload_n X (pc := 29) (i := 0) (zw_dg dk_Sayings_numberOf 16 rfl) rfl rfl ?_
          refine r_getR X (pc := 30) (r := 2) ci_Sayings (zo hS 1 rfl rfl) rfl (zr hS 1 3 rfl rfl) lk_Sayings_9 (zw_dg dk_Sayings_numberOf 17 rfl) ?_
          refine r_iload X (pc := 33) (i := 6) (zw_dg dk_Sayings_numberOf 18 rfl) rfl ?_
          refine r_iconst X (pc := 35) (v := 1) (zw_dg dk_Sayings_numberOf 19 rfl) (by decide) ?_
          refine r_iadd X (pc := 36) (zw_dg dk_Sayings_numberOf 20 rfl)  ?_
          obtain ⟨x13, hx13, hsem⟩ := zw_bd hsem
          refine r_iald X (pc := 37) (zo hS 2 rfl rfl) hx13 (zw_dg dk_Sayings_numberOf 21 rfl) ?_
          refine r_iload_n X (pc := 38) (i := 2) (zw_dg dk_Sayings_numberOf 22 rfl) rfl rfl ?_
          refine r_icmp_ne X (pc := 39) (tgt := 72) (zw_dg dk_Sayings_numberOf 23 rfl) (by decide) (fun q14 => ?_) (fun q14 => ?_)
          · --
            have hsem := zw_ifn q14 hsem
            exact jF (Option.some.inj hsem).symm
          · --
            have hsem := zw_ifp q14 hsem
            refine r_aload_n X (pc := 42) (i := 0) (zw_dg dk_Sayings_numberOf 24 rfl) rfl rfl ?_
            refine r_getR X (pc := 43) (r := 2) ci_Sayings (zo hS 1 rfl rfl) rfl (zr hS 1 3 rfl rfl) lk_Sayings_9 (zw_dg dk_Sayings_numberOf 25 rfl) ?_
            refine r_iload X (pc := 46) (i := 6) (zw_dg dk_Sayings_numberOf 26 rfl) rfl ?_
            refine r_iconst X (pc := 48) (v := 2) (zw_dg dk_Sayings_numberOf 27 rfl) (by decide) ?_
            refine r_iadd X (pc := 49) (zw_dg dk_Sayings_numberOf 28 rfl)  ?_
            obtain ⟨x15, hx15, hsem⟩ := zw_bd hsem
            refine r_iald X (pc := 50) (zo hS 2 rfl rfl) hx15 (zw_dg dk_Sayings_numberOf 29 rfl) ?_
            refine r_iload_n X (pc := 51) (i := 3) (zw_dg dk_Sayings_numberOf 30 rfl) rfl rfl ?_
            refine r_icmp_ne X (pc := 52) (tgt := 72) (zw_dg dk_Sayings_numberOf 31 rfl) (by decide) (fun q16 => ?_) (fun q16 => ?_)
            · --
              have hsem := zw_ifn q16 hsem
              exact jF (Option.some.inj hsem).symm
            · --
              have hsem := zw_ifp q16 hsem
              refine r_aload_n X (pc := 55) (i := 0) (zw_dg dk_Sayings_numberOf 32 rfl) rfl rfl ?_
              refine r_getR X (pc := 56) (r := 2) ci_Sayings (zo hS 1 rfl rfl) rfl (zr hS 1 3 rfl rfl) lk_Sayings_9 (zw_dg dk_Sayings_numberOf 33 rfl) ?_
              refine r_iload X (pc := 59) (i := 6) (zw_dg dk_Sayings_numberOf 34 rfl) rfl ?_
              refine r_iconst X (pc := 61) (v := 3) (zw_dg dk_Sayings_numberOf 35 rfl) (by decide) ?_
              refine r_iadd X (pc := 62) (zw_dg dk_Sayings_numberOf 36 rfl)  ?_
              obtain ⟨x17, hx17, hsem⟩ := zw_bd hsem
              refine r_iald X (pc := 63) (zo hS 2 rfl rfl) hx17 (zw_dg dk_Sayings_numberOf 37 rfl) ?_
              refine r_iload X (pc := 64) (i := 4) (zw_dg dk_Sayings_numberOf 38 rfl) rfl ?_
              refine r_icmp_ne X (pc := 66) (tgt := 72) (zw_dg dk_Sayings_numberOf 39 rfl) (by decide) (fun q18 => ?_) (fun q18 => ?_)
              · --
                exact jF (zw_dF hsem q18)
              · --
                exact jT (zw_dT hsem q18)
      · have hsem := zw_ifp hbb11 hsb11
        refine r_iload X (pc := 69) (i := 5) (zw_dg dk_Sayings_numberOf 40 rfl) rfl ?_
        have hret := hR _ (Option.some.inj hsem).symm
        cases hret
        exact r_iret X (pc := 71) rfl (zw_dg dk_Sayings_numberOf 41 rfl)
      · have hsem := zw_ifn (by rw [hbb11]; exact Bool.false_ne_true) hsb11
        refine r_iinc X (pc := 72) (i := 5) (k := 1) (zw_dg dk_Sayings_numberOf 42 rfl) rfl (by decide) (by decide) rfl ?_
        refine r_goto X (pc := 75) (tgt := 3) (zw_dg dk_Sayings_numberOf 43 rfl) (by decide) ?_
        have jj := hP _ (Option.some.inj hsem).symm
        exact (r_fgt [6] rfl jj)
  · intro w hw
    subst hw
    exact Option.some.inj hsl6
  rintro _u hw
  subst hw
  have hsem := hsl6
  refine r_iconst X (pc := 78) (v := (-1)) (zw_dg dk_Sayings_numberOf 44 rfl) (by decide) ?_
  cases hsem
  exact r_iret X (pc := 79) rfl (zw_dg dk_Sayings_numberOf 45 rfl)
def y_Sayings_has : MethodName := ⟨R_Sayings, "has", "(I)Z"⟩
abbrev b_Sayings_has : ByteArray := prog_10_method_5_code
def dl_Sayings_has : List (Nat × Instr × Nat) := [(0, .iload_n 1, 1), (1, .ifCond .lt 15, 3), (4, .iload_n 1, 1), (5, .aload_n 0, 1), (6, .getfield 26, 3), (9, .if_icmp .ge 7, 3), (12, .iconst 1, 1), (13, .goto 4, 3), (16, .iconst 0, 1), (17, .ireturn, 1)]
theorem dk_Sayings_has : zw_dk b_Sayings_has dl_Sayings_has = true := by decide +kernel
theorem ce_Sayings_has : zw_cev y_Sayings_has b_Sayings_has 2 (some .boolean) 1 := ⟨⟨kt_in 761 (by decide +kernel) rfl, kt_in 86 (by decide +kernel) rfl, by decide +kernel⟩, kt_in 759 (by decide +kernel) rfl, kt_in 760 (by decide +kernel) rfl⟩
def fn_Sayings_has (c : zw_Ct) (saying1 : Int32) : Int32 :=
  (if ((0 ≤ saying1) ∧ (saying1 < (c.1 1 2))) then (1 : Int32) else 0)
theorem kb_Sayings_has (c : zw_Ct) (saying1 : Int32) : fn_Sayings_has c saying1 = 0 ∨ fn_Sayings_has c saying1 = 1 := by
  unfold fn_Sayings_has
  first | exact zw_ite01
set_option maxRecDepth 100000 in
theorem km_Sayings_has {l : Launch} {g : zw_G} {rr : zw_RR} {sh : zw_Sh} {c : zw_Ct} {saying1 : Int32} {r : Int32} (hS : zw_Ok 0 101 sh rr) (hsem : fn_Sayings_has c saying1 = r) : zw_Met l g y_Sayings_has b_Sayings_has 2 (some .boolean) 1 rr sh [.ref 1, .int saying1] c (some (.int r)) c := by
  unfold fn_Sayings_has at hsem
  refine zw_Met.of (by decide +kernel) (Nat.le_of_ble_eq_true rfl) (fun p e s m args below meth cd X => ?_)
  refine zw_eL (L2 := [some (.ref 1), some (.int saying1)]) rfl ?_
  refine zw_ter (P := ((0 ≤ saying1) ∧ (saying1 < (c.1 1 2)))) (f := Value.int) (x := 1) (y := 0) (J := 17) (st2 := []) (fun jT jF => ?_) ?_
  · --
    refine r_iload_n X (pc := 0) (i := 1) (zw_dg dk_Sayings_has 0 rfl) rfl rfl ?_
    refine r_if_lt X (pc := 1) (tgt := 16) (zw_dg dk_Sayings_has 1 rfl) (by decide) (fun q2 => ?_) (fun q2 => ?_)
    · --
      refine r_iconst X (pc := 16) (v := 0) (zw_dg dk_Sayings_has 8 rfl) (by decide) ?_
      exact jF (fun q => (Int32.not_le.mpr q2) q.1)
    · --
      refine r_iload_n X (pc := 4) (i := 1) (zw_dg dk_Sayings_has 2 rfl) rfl rfl ?_
      refine r_aload_n X (pc := 5) (i := 0) (zw_dg dk_Sayings_has 3 rfl) rfl rfl ?_
      refine r_getI X (pc := 6) ci_Sayings (zo hS 1 rfl rfl) rfl lk_Sayings_26 (zw_dg dk_Sayings_has 4 rfl) ?_
      refine r_icmp_ge X (pc := 9) (tgt := 16) (zw_dg dk_Sayings_has 5 rfl) (by decide) (fun q3 => ?_) (fun q3 => ?_)
      · --
        refine r_iconst X (pc := 16) (v := 0) (zw_dg dk_Sayings_has 8 rfl) (by decide) ?_
        exact jF (fun q => (Int32.not_lt.mpr q3) q.2)
      · --
        refine r_iconst X (pc := 12) (v := 1) (zw_dg dk_Sayings_has 6 rfl) (by decide) ?_
        refine r_goto X (pc := 13) (tgt := 17) (zw_dg dk_Sayings_has 7 rfl) (by decide) ?_
        exact jT ⟨(Int32.not_lt.mp q2), (Int32.not_le.mp q3)⟩
  have hsem : ((if ((0 ≤ saying1) ∧ (saying1 < (c.1 1 2))) then (1 : Int32) else 0) : _) = r := hsem
  have hbz : ((if ((0 ≤ saying1) ∧ (saying1 < (c.1 1 2))) then (1 : Int32) else 0) : Int32) = 0 ∨ ((if ((0 ≤ saying1) ∧ (saying1 < (c.1 1 2))) then (1 : Int32) else 0) : Int32) = 1 := zw_ite01
  cases hsem
  exact r_zret X (pc := 17) rfl (zw_bzn hbz).1 (zw_dg dk_Sayings_has 9 rfl)
def y_Sayings_hasEvent : MethodName := ⟨R_Sayings, "hasEvent", "(I)Z"⟩
abbrev b_Sayings_hasEvent : ByteArray := prog_10_method_6_code
def dl_Sayings_hasEvent : List (Nat × Instr × Nat) := [(0, .iload_n 1, 1), (1, .ifCond .lt 15, 3), (4, .iload_n 1, 1), (5, .aload_n 0, 1), (6, .getfield 19, 3), (9, .if_icmp .ge 7, 3), (12, .iconst 1, 1), (13, .goto 4, 3), (16, .iconst 0, 1), (17, .ireturn, 1)]
theorem dk_Sayings_hasEvent : zw_dk b_Sayings_hasEvent dl_Sayings_hasEvent = true := by decide +kernel
theorem ce_Sayings_hasEvent : zw_cev y_Sayings_hasEvent b_Sayings_hasEvent 2 (some .boolean) 1 := ⟨⟨kt_in 1005 (by decide +kernel) rfl, kt_in 86 (by decide +kernel) rfl, by decide +kernel⟩, kt_in 1003 (by decide +kernel) rfl, kt_in 1004 (by decide +kernel) rfl⟩
def fn_Sayings_hasEvent (c : zw_Ct) (event1 : Int32) : Int32 :=
  (if ((0 ≤ event1) ∧ (event1 < (c.1 1 0))) then (1 : Int32) else 0)
theorem kb_Sayings_hasEvent (c : zw_Ct) (event1 : Int32) : fn_Sayings_hasEvent c event1 = 0 ∨ fn_Sayings_hasEvent c event1 = 1 := by
  unfold fn_Sayings_hasEvent
  first | exact zw_ite01
set_option maxRecDepth 100000 in
theorem km_Sayings_hasEvent {l : Launch} {g : zw_G} {rr : zw_RR} {sh : zw_Sh} {c : zw_Ct} {event1 : Int32} {r : Int32} (hS : zw_Ok 0 101 sh rr) (hsem : fn_Sayings_hasEvent c event1 = r) : zw_Met l g y_Sayings_hasEvent b_Sayings_hasEvent 2 (some .boolean) 1 rr sh [.ref 1, .int event1] c (some (.int r)) c := by
  unfold fn_Sayings_hasEvent at hsem
  refine zw_Met.of (by decide +kernel) (Nat.le_of_ble_eq_true rfl) (fun p e s m args below meth cd X => ?_)
  refine zw_eL (L2 := [some (.ref 1), some (.int event1)]) rfl ?_
  refine zw_ter (P := ((0 ≤ event1) ∧ (event1 < (c.1 1 0)))) (f := Value.int) (x := 1) (y := 0) (J := 17) (st2 := []) (fun jT jF => ?_) ?_
  · --
    refine r_iload_n X (pc := 0) (i := 1) (zw_dg dk_Sayings_hasEvent 0 rfl) rfl rfl ?_
    refine r_if_lt X (pc := 1) (tgt := 16) (zw_dg dk_Sayings_hasEvent 1 rfl) (by decide) (fun q2 => ?_) (fun q2 => ?_)
    · --
      refine r_iconst X (pc := 16) (v := 0) (zw_dg dk_Sayings_hasEvent 8 rfl) (by decide) ?_
      exact jF (fun q => (Int32.not_le.mpr q2) q.1)
    · --
      refine r_iload_n X (pc := 4) (i := 1) (zw_dg dk_Sayings_hasEvent 2 rfl) rfl rfl ?_
      refine r_aload_n X (pc := 5) (i := 0) (zw_dg dk_Sayings_hasEvent 3 rfl) rfl rfl ?_
      refine r_getI X (pc := 6) ci_Sayings (zo hS 1 rfl rfl) rfl lk_Sayings_19 (zw_dg dk_Sayings_hasEvent 4 rfl) ?_
      refine r_icmp_ge X (pc := 9) (tgt := 16) (zw_dg dk_Sayings_hasEvent 5 rfl) (by decide) (fun q3 => ?_) (fun q3 => ?_)
      · --
        refine r_iconst X (pc := 16) (v := 0) (zw_dg dk_Sayings_hasEvent 8 rfl) (by decide) ?_
        exact jF (fun q => (Int32.not_lt.mpr q3) q.2)
      · --
        refine r_iconst X (pc := 12) (v := 1) (zw_dg dk_Sayings_hasEvent 6 rfl) (by decide) ?_
        refine r_goto X (pc := 13) (tgt := 17) (zw_dg dk_Sayings_hasEvent 7 rfl) (by decide) ?_
        exact jT ⟨(Int32.not_lt.mp q2), (Int32.not_le.mp q3)⟩
  have hsem : ((if ((0 ≤ event1) ∧ (event1 < (c.1 1 0))) then (1 : Int32) else 0) : _) = r := hsem
  have hbz : ((if ((0 ≤ event1) ∧ (event1 < (c.1 1 0))) then (1 : Int32) else 0) : Int32) = 0 ∨ ((if ((0 ≤ event1) ∧ (event1 < (c.1 1 0))) then (1 : Int32) else 0) : Int32) = 1 := zw_ite01
  cases hsem
  exact r_zret X (pc := 17) rfl (zw_bzn hbz).1 (zw_dg dk_Sayings_hasEvent 9 rfl)
def y_Sayings_partOf : MethodName := ⟨R_Sayings, "partOf", "(II)I"⟩
abbrev b_Sayings_partOf : ByteArray := prog_10_method_7_code
def dl_Sayings_partOf : List (Nat × Instr × Nat) := [(0, .aload_n 0, 1), (1, .getfield 9, 3), (4, .iload_n 1, 1), (5, .iconst 4, 1), (6, .imul, 1), (7, .iload_n 2, 1), (8, .iadd, 1), (9, .iaload, 1), (10, .ireturn, 1)]
theorem dk_Sayings_partOf : zw_dk b_Sayings_partOf dl_Sayings_partOf = true := by decide +kernel
theorem ce_Sayings_partOf : zw_cev y_Sayings_partOf b_Sayings_partOf 3 (some .int) 2 := ⟨⟨kt_in 720 (by decide +kernel) rfl, kt_in 86 (by decide +kernel) rfl, by decide +kernel⟩, kt_in 718 (by decide +kernel) rfl, kt_in 719 (by decide +kernel) rfl⟩
def fn_Sayings_partOf (c : zw_Ct) (saying1 : Int32) (event2 : Int32) : Option Int32 :=
  (zw_aI 1820 c 2 ((saying1 * 4) + event2)).bind fun x3 =>
  some x3
set_option maxRecDepth 100000 in
theorem km_Sayings_partOf {l : Launch} {g : zw_G} {rr : zw_RR} {sh : zw_Sh} {c : zw_Ct} {saying1 : Int32} {event2 : Int32} {r : Int32} (hS : zw_Ok 0 101 sh rr) (hsem : fn_Sayings_partOf c saying1 event2 = some r) : zw_Met l g y_Sayings_partOf b_Sayings_partOf 3 (some .int) 1 rr sh [.ref 1, .int saying1, .int event2] c (some (.int r)) c := by
  unfold fn_Sayings_partOf at hsem
  refine zw_Met.of (by decide +kernel) (Nat.le_of_ble_eq_true rfl) (fun p e s m args below meth cd X => ?_)
  refine zw_eL (L2 := [some (.ref 1), some (.int saying1), some (.int event2)]) rfl ?_
  refine r_aload_n X (pc := 0) (i := 0) (zw_dg dk_Sayings_partOf 0 rfl) rfl rfl ?_
  refine r_getR X (pc := 1) (r := 2) ci_Sayings (zo hS 1 rfl rfl) rfl (zr hS 1 3 rfl rfl) lk_Sayings_9 (zw_dg dk_Sayings_partOf 1 rfl) ?_
  refine r_iload_n X (pc := 4) (i := 1) (zw_dg dk_Sayings_partOf 2 rfl) rfl rfl ?_
  refine r_iconst X (pc := 5) (v := 4) (zw_dg dk_Sayings_partOf 3 rfl) (by decide) ?_
  refine r_imul X (pc := 6) (zw_dg dk_Sayings_partOf 4 rfl)  ?_
  refine r_iload_n X (pc := 7) (i := 2) (zw_dg dk_Sayings_partOf 5 rfl) rfl rfl ?_
  refine r_iadd X (pc := 8) (zw_dg dk_Sayings_partOf 6 rfl)  ?_
  obtain ⟨x3, hx3, hsem⟩ := zw_bd hsem
  refine r_iald X (pc := 9) (zo hS 2 rfl rfl) hx3 (zw_dg dk_Sayings_partOf 7 rfl) ?_
  cases hsem
  exact r_iret X (pc := 10) rfl (zw_dg dk_Sayings_partOf 8 rfl)
def y_Sayings_allTo : MethodName := ⟨R_Sayings, "allTo", "(I)I"⟩
abbrev b_Sayings_allTo : ByteArray := prog_10_method_8_code
def dl_Sayings_allTo : List (Nat × Instr × Nat) := [(0, .aload_n 0, 1), (1, .iload_n 1, 1), (2, .ifCond .ne 10, 3), (5, .aload_n 0, 1), (6, .getfield 23, 3), (9, .goto 4, 3), (12, .iconst 0, 1), (13, .iload_n 1, 1), (14, .iconst 1, 1), (15, .if_icmp .ne 10, 3), (18, .aload_n 0, 1), (19, .getfield 23, 3), (22, .goto 4, 3), (25, .iconst 0, 1), (26, .iload_n 1, 1), (27, .iconst 2, 1), (28, .if_icmp .ne 10, 3), (31, .aload_n 0, 1), (32, .getfield 23, 3), (35, .goto 4, 3), (38, .iconst 0, 1), (39, .iload_n 1, 1), (40, .iconst 3, 1), (41, .if_icmp .ne 10, 3), (44, .aload_n 0, 1), (45, .getfield 23, 3), (48, .goto 4, 3), (51, .iconst 0, 1), (52, .invokevirtual 33, 3), (55, .ireturn, 1)]
theorem dk_Sayings_allTo : zw_dk b_Sayings_allTo dl_Sayings_allTo = true := by decide +kernel
theorem ce_Sayings_allTo : zw_cev y_Sayings_allTo b_Sayings_allTo 2 (some .int) 1 := ⟨⟨kt_in 1212 (by decide +kernel) rfl, kt_in 86 (by decide +kernel) rfl, by decide +kernel⟩, kt_in 1210 (by decide +kernel) rfl, kt_in 1211 (by decide +kernel) rfl⟩
def fn_Sayings_allTo (c : zw_Ct) (event1 : Int32) : Option Int32 :=
  (fn_Sayings_numberOf c (if (event1 = 0) then ((c.1 1 1) : Int32) else 0) (if (event1 = 1) then ((c.1 1 1) : Int32) else 0) (if (event1 = 2) then ((c.1 1 1) : Int32) else 0) (if (event1 = 3) then ((c.1 1 1) : Int32) else 0)).bind fun r6 =>
  some r6
set_option maxRecDepth 100000 in
theorem km_Sayings_allTo {l : Launch} {g : zw_G} {rr : zw_RR} {sh : zw_Sh} {c : zw_Ct} {event1 : Int32} {r : Int32} (hS : zw_Ok 0 101 sh rr) (hsem : fn_Sayings_allTo c event1 = some r) : zw_Met l g y_Sayings_allTo b_Sayings_allTo 2 (some .int) 2 rr sh [.ref 1, .int event1] c (some (.int r)) c := by
  unfold fn_Sayings_allTo at hsem
  refine zw_Met.of (by decide +kernel) (Nat.le_of_ble_eq_true rfl) (fun p e s m args below meth cd X => ?_)
  refine zw_eL (L2 := [some (.ref 1), some (.int event1)]) rfl ?_
  refine r_aload_n X (pc := 0) (i := 0) (zw_dg dk_Sayings_allTo 0 rfl) rfl rfl ?_
  refine zw_ter (P := (event1 = 0)) (f := Value.int) (x := (c.1 1 1)) (y := 0) (J := 13) (st2 := [.ref 1]) (fun jT jF => ?_) ?_
  · --
    refine r_iload_n X (pc := 1) (i := 1) (zw_dg dk_Sayings_allTo 1 rfl) rfl rfl ?_
    refine r_if_ne X (pc := 2) (tgt := 12) (zw_dg dk_Sayings_allTo 2 rfl) (by decide) (fun q2 => ?_) (fun q2 => ?_)
    · --
      refine r_iconst X (pc := 12) (v := 0) (zw_dg dk_Sayings_allTo 6 rfl) (by decide) ?_
      exact jF q2
    · --
      refine r_aload_n X (pc := 5) (i := 0) (zw_dg dk_Sayings_allTo 3 rfl) rfl rfl ?_
      refine r_getI X (pc := 6) ci_Sayings (zo hS 1 rfl rfl) rfl lk_Sayings_23 (zw_dg dk_Sayings_allTo 4 rfl) ?_
      refine r_goto X (pc := 9) (tgt := 13) (zw_dg dk_Sayings_allTo 5 rfl) (by decide) ?_
      exact jT q2
  refine zw_ter (P := (event1 = 1)) (f := Value.int) (x := (c.1 1 1)) (y := 0) (J := 26) (st2 := [.int (if (event1 = 0) then ((c.1 1 1) : Int32) else 0), .ref 1]) (fun jT jF => ?_) ?_
  · --
    refine r_iload_n X (pc := 13) (i := 1) (zw_dg dk_Sayings_allTo 7 rfl) rfl rfl ?_
    refine r_iconst X (pc := 14) (v := 1) (zw_dg dk_Sayings_allTo 8 rfl) (by decide) ?_
    refine r_icmp_ne X (pc := 15) (tgt := 25) (zw_dg dk_Sayings_allTo 9 rfl) (by decide) (fun q3 => ?_) (fun q3 => ?_)
    · --
      refine r_iconst X (pc := 25) (v := 0) (zw_dg dk_Sayings_allTo 13 rfl) (by decide) ?_
      exact jF q3
    · --
      refine r_aload_n X (pc := 18) (i := 0) (zw_dg dk_Sayings_allTo 10 rfl) rfl rfl ?_
      refine r_getI X (pc := 19) ci_Sayings (zo hS 1 rfl rfl) rfl lk_Sayings_23 (zw_dg dk_Sayings_allTo 11 rfl) ?_
      refine r_goto X (pc := 22) (tgt := 26) (zw_dg dk_Sayings_allTo 12 rfl) (by decide) ?_
      exact jT q3
  refine zw_ter (P := (event1 = 2)) (f := Value.int) (x := (c.1 1 1)) (y := 0) (J := 39) (st2 := [.int (if (event1 = 1) then ((c.1 1 1) : Int32) else 0), .int (if (event1 = 0) then ((c.1 1 1) : Int32) else 0), .ref 1]) (fun jT jF => ?_) ?_
  · --
    refine r_iload_n X (pc := 26) (i := 1) (zw_dg dk_Sayings_allTo 14 rfl) rfl rfl ?_
    refine r_iconst X (pc := 27) (v := 2) (zw_dg dk_Sayings_allTo 15 rfl) (by decide) ?_
    refine r_icmp_ne X (pc := 28) (tgt := 38) (zw_dg dk_Sayings_allTo 16 rfl) (by decide) (fun q4 => ?_) (fun q4 => ?_)
    · --
      refine r_iconst X (pc := 38) (v := 0) (zw_dg dk_Sayings_allTo 20 rfl) (by decide) ?_
      exact jF q4
    · --
      refine r_aload_n X (pc := 31) (i := 0) (zw_dg dk_Sayings_allTo 17 rfl) rfl rfl ?_
      refine r_getI X (pc := 32) ci_Sayings (zo hS 1 rfl rfl) rfl lk_Sayings_23 (zw_dg dk_Sayings_allTo 18 rfl) ?_
      refine r_goto X (pc := 35) (tgt := 39) (zw_dg dk_Sayings_allTo 19 rfl) (by decide) ?_
      exact jT q4
  refine zw_ter (P := (event1 = 3)) (f := Value.int) (x := (c.1 1 1)) (y := 0) (J := 52) (st2 := [.int (if (event1 = 2) then ((c.1 1 1) : Int32) else 0), .int (if (event1 = 1) then ((c.1 1 1) : Int32) else 0), .int (if (event1 = 0) then ((c.1 1 1) : Int32) else 0), .ref 1]) (fun jT jF => ?_) ?_
  · --
    refine r_iload_n X (pc := 39) (i := 1) (zw_dg dk_Sayings_allTo 21 rfl) rfl rfl ?_
    refine r_iconst X (pc := 40) (v := 3) (zw_dg dk_Sayings_allTo 22 rfl) (by decide) ?_
    refine r_icmp_ne X (pc := 41) (tgt := 51) (zw_dg dk_Sayings_allTo 23 rfl) (by decide) (fun q5 => ?_) (fun q5 => ?_)
    · --
      refine r_iconst X (pc := 51) (v := 0) (zw_dg dk_Sayings_allTo 27 rfl) (by decide) ?_
      exact jF q5
    · --
      refine r_aload_n X (pc := 44) (i := 0) (zw_dg dk_Sayings_allTo 24 rfl) rfl rfl ?_
      refine r_getI X (pc := 45) ci_Sayings (zo hS 1 rfl rfl) rfl lk_Sayings_23 (zw_dg dk_Sayings_allTo 25 rfl) ?_
      refine r_goto X (pc := 48) (tgt := 52) (zw_dg dk_Sayings_allTo 26 rfl) (by decide) ?_
      exact jT q5
  obtain ⟨r6, hr6, hsem⟩ := zw_bd hsem
  refine r_callVi X (pc := 52) (As := [_, _, _, _]) (st := []) (km_Sayings_numberOf hS hr6) ce_Sayings_numberOf kw_1213 (zo hS 1 rfl rfl) rfl rfl ⟨Nat.le_of_ble_eq_true rfl, Nat.le_of_ble_eq_true rfl⟩ (Nat.le_of_ble_eq_true rfl) (zw_dg dk_Sayings_allTo 28 rfl) ?_
  cases hsem
  exact r_iret X (pc := 55) rfl (zw_dg dk_Sayings_allTo 29 rfl)
def y_Sayings_mode : MethodName := ⟨R_Sayings, "mode", "(I)I"⟩
abbrev b_Sayings_mode : ByteArray := prog_10_method_9_code
def dl_Sayings_mode : List (Nat × Instr × Nat) := [(0, .iconst 0, 1), (1, .istore_n 2, 1), (2, .iconst 1, 1), (3, .istore_n 3, 1), (4, .iload_n 3, 1), (5, .aload_n 0, 1), (6, .getfield 19, 3), (9, .if_icmp .ge 26, 3), (12, .aload_n 0, 1), (13, .iload_n 1, 1), (14, .iload_n 3, 1), (15, .invokevirtual 37, 3), (18, .aload_n 0, 1), (19, .iload_n 1, 1), (20, .iload_n 2, 1), (21, .invokevirtual 37, 3), (24, .if_icmp .le 5, 3), (27, .iload_n 3, 1), (28, .istore_n 2, 1), (29, .iinc 3 1, 3), (32, .goto (-28), 3), (35, .iload_n 2, 1), (36, .ireturn, 1)]
theorem dk_Sayings_mode : zw_dk b_Sayings_mode dl_Sayings_mode = true := by decide +kernel
theorem ce_Sayings_mode : zw_cev y_Sayings_mode b_Sayings_mode 4 (some .int) 1 := ⟨⟨kt_in 716 (by decide +kernel) rfl, kt_in 86 (by decide +kernel) rfl, by decide +kernel⟩, kt_in 714 (by decide +kernel) rfl, kt_in 715 (by decide +kernel) rfl⟩
def fn_Sayings_mode_l1 (c : zw_Ct) (saying1 : Int32) : Int32 × Int32 → Option ((Int32) ⊕ (Int32 × Int32)) := fun (mode2, e3) =>
  if (e3 < (c.1 1 0)) then
  ((fn_Sayings_partOf c saying1 e3).bind fun r8 =>
  (fn_Sayings_partOf c saying1 mode2).bind fun r9 =>
  (if (r9 < r8) then
  (some (e3 : Int32))
  else
  (some (mode2 : Int32))).bind fun mode10 =>
  some (.inr (mode10, (e3 + 1))))
  else
  (some (.inl mode2))
def fn_Sayings_mode (c : zw_Ct) (saying1 : Int32) : Option Int32 :=
  (zw_whl (fn_Sayings_mode_l1 c saying1) zw_F (0, 1)).bind fun mode4 =>
  some mode4
set_option maxRecDepth 100000 in
theorem km_Sayings_mode {l : Launch} {g : zw_G} {rr : zw_RR} {sh : zw_Sh} {c : zw_Ct} {saying1 : Int32} {r : Int32} (hS : zw_Ok 0 101 sh rr) (hsem : fn_Sayings_mode c saying1 = some r) : zw_Met l g y_Sayings_mode b_Sayings_mode 4 (some .int) 2 rr sh [.ref 1, .int saying1] c (some (.int r)) c := by
  unfold fn_Sayings_mode at hsem
  refine zw_Met.of (by decide +kernel) (Nat.le_of_ble_eq_true rfl) (fun p e s m args below meth cd X => ?_)
  refine zw_eL (L2 := [some (.ref 1), some (.int saying1), none, none]) rfl ?_
  refine r_iconst X (pc := 0) (v := 0) (zw_dg dk_Sayings_mode 0 rfl) (by decide) ?_
  refine r_istore_n X (pc := 1) (i := 2) (zw_dg dk_Sayings_mode 1 rfl) rfl (by decide) rfl ?_
  refine r_iconst X (pc := 2) (v := 1) (zw_dg dk_Sayings_mode 2 rfl) (by decide) ?_
  refine r_istore_n X (pc := 3) (i := 3) (zw_dg dk_Sayings_mode 3 rfl) rfl (by decide) rfl ?_
  obtain ⟨mode4, hl5, hsl5⟩ := zw_bd hsem
  refine r_loop (pc := 4) (pce := 35) hl5 (fun (mode2, e3) => [some (.ref 1), some (.int saying1), some (.int mode2), some (.int e3)] : Int32 × Int32 → zw_Lc) (fun (mode2, e3) => c : Int32 × Int32 → zw_Ct) (fun mode4 => [some (.ref 1), some (.int saying1), some (.int mode4), none] : Int32 → zw_Lc) (fun mode4 => c : Int32 → zw_Ct) ?_ rfl rfl ?_
  · rintro ⟨mode2, e3⟩ rr hsem hK hP
    try unfold fn_Sayings_mode_l1 at hsem
    refine r_iload_n X (pc := 4) (i := 3) (zw_dg dk_Sayings_mode 4 rfl) rfl rfl ?_
    refine r_aload_n X (pc := 5) (i := 0) (zw_dg dk_Sayings_mode 5 rfl) rfl rfl ?_
    refine r_getI X (pc := 6) ci_Sayings (zo hS 1 rfl rfl) rfl lk_Sayings_19 (zw_dg dk_Sayings_mode 6 rfl) ?_
    refine r_icmp_ge X (pc := 9) (tgt := 35) (zw_dg dk_Sayings_mode 7 rfl) (by decide) (fun q7 => ?_) (fun q7 => ?_)
    · --
      have p6 : ¬ (e3 < (c.1 1 0)) := (Int32.not_lt.mpr q7)
      have hsem := zw_ifn p6 hsem
      have jj := hK _ (Option.some.inj hsem).symm
      exact (r_fgt [3] rfl jj)
    · --
      have p6 : (e3 < (c.1 1 0)) := (Int32.not_le.mp q7)
      have hsem := zw_ifp p6 hsem
      refine r_aload_n X (pc := 12) (i := 0) (zw_dg dk_Sayings_mode 8 rfl) rfl rfl ?_
      refine r_iload_n X (pc := 13) (i := 1) (zw_dg dk_Sayings_mode 9 rfl) rfl rfl ?_
      refine r_iload_n X (pc := 14) (i := 3) (zw_dg dk_Sayings_mode 10 rfl) rfl rfl ?_
      obtain ⟨r8, hr8, hsem⟩ := zw_bd hsem
      refine r_callVi X (pc := 15) (As := [_, _]) (st := []) (km_Sayings_partOf hS hr8) ce_Sayings_partOf kw_717 (zo hS 1 rfl rfl) rfl rfl ⟨Nat.le_of_ble_eq_true rfl, Nat.le_of_ble_eq_true rfl⟩ (Nat.le_of_ble_eq_true rfl) (zw_dg dk_Sayings_mode 11 rfl) ?_
      refine r_aload_n X (pc := 18) (i := 0) (zw_dg dk_Sayings_mode 12 rfl) rfl rfl ?_
      refine r_iload_n X (pc := 19) (i := 1) (zw_dg dk_Sayings_mode 13 rfl) rfl rfl ?_
      refine r_iload_n X (pc := 20) (i := 2) (zw_dg dk_Sayings_mode 14 rfl) rfl rfl ?_
      obtain ⟨r9, hr9, hsem⟩ := zw_bd hsem
      refine r_callVi X (pc := 21) (As := [_, _]) (st := [.int r8]) (km_Sayings_partOf hS hr9) ce_Sayings_partOf kw_717 (zo hS 1 rfl rfl) rfl rfl ⟨Nat.le_of_ble_eq_true rfl, Nat.le_of_ble_eq_true rfl⟩ (Nat.le_of_ble_eq_true rfl) (zw_dg dk_Sayings_mode 15 rfl) ?_
      obtain ⟨mode10, ht29, hs29⟩ := zw_bd hsem
      refine zw_jn (J := 29) (L2 := [some (.ref 1), some (.int saying1), some (.int mode10), some (.int e3)]) (c2 := c) (fun jj => ?_) ?_
      · have hsem := ht29
        refine r_icmp_le X (pc := 24) (tgt := 29) (zw_dg dk_Sayings_mode 16 rfl) (by decide) (fun q12 => ?_) (fun q12 => ?_)
        · --
          have p11 : ¬ (r9 < r8) := (Int32.not_lt.mpr q12)
          have hsem := zw_ifn p11 hsem
          cases hsem
          exact (r_fgt [] rfl jj)
        · --
          have p11 : (r9 < r8) := (Int32.not_le.mp q12)
          have hsem := zw_ifp p11 hsem
          refine r_iload_n X (pc := 27) (i := 3) (zw_dg dk_Sayings_mode 17 rfl) rfl rfl ?_
          refine r_istore_n X (pc := 28) (i := 2) (zw_dg dk_Sayings_mode 18 rfl) rfl (by decide) rfl ?_
          cases hsem
          exact (r_fgt [] rfl jj)
      have hsem := hs29
      refine r_iinc X (pc := 29) (i := 3) (k := 1) (zw_dg dk_Sayings_mode 19 rfl) rfl (by decide) (by decide) rfl ?_
      refine r_goto X (pc := 32) (tgt := 4) (zw_dg dk_Sayings_mode 20 rfl) (by decide) ?_
      have jj := hP _ (Option.some.inj hsem).symm
      exact (r_fgt [] rfl jj)
  have hsem := hsl5
  refine r_iload_n X (pc := 35) (i := 2) (zw_dg dk_Sayings_mode 21 rfl) rfl rfl ?_
  cases hsem
  exact r_iret X (pc := 36) rfl (zw_dg dk_Sayings_mode 22 rfl)
def y_Sayings_leastMiddle : MethodName := ⟨R_Sayings, "leastMiddle", "(I)I"⟩
abbrev b_Sayings_leastMiddle : ByteArray := prog_10_method_10_code
def dl_Sayings_leastMiddle : List (Nat × Instr × Nat) := [(0, .iconst 0, 1), (1, .istore_n 2, 1), (2, .iconst 0, 1), (3, .istore_n 3, 1), (4, .iload_n 3, 1), (5, .aload_n 0, 1), (6, .getfield 19, 3), (9, .if_icmp .ge 30, 3), (12, .iload_n 2, 1), (13, .aload_n 0, 1), (14, .iload_n 1, 1), (15, .iload_n 3, 1), (16, .invokevirtual 37, 3), (19, .iadd, 1), (20, .istore_n 2, 1), (21, .iconst 2, 1), (22, .iload_n 2, 1), (23, .imul, 1), (24, .aload_n 0, 1), (25, .getfield 23, 3), (28, .if_icmp .lt 5, 3), (31, .iload_n 3, 1), (32, .ireturn, 1), (33, .iinc 3 1, 3), (36, .goto (-32), 3), (39, .aload_n 0, 1), (40, .getfield 19, 3), (43, .iconst 1, 1), (44, .isub, 1), (45, .ireturn, 1)]
theorem dk_Sayings_leastMiddle : zw_dk b_Sayings_leastMiddle dl_Sayings_leastMiddle = true := by decide +kernel
theorem ce_Sayings_leastMiddle : zw_cev y_Sayings_leastMiddle b_Sayings_leastMiddle 4 (some .int) 1 := ⟨⟨kt_in 1203 (by decide +kernel) rfl, kt_in 86 (by decide +kernel) rfl, by decide +kernel⟩, kt_in 1201 (by decide +kernel) rfl, kt_in 1202 (by decide +kernel) rfl⟩
def fn_Sayings_leastMiddle_l1 (c : zw_Ct) (saying1 : Int32) : Int32 × Int32 → Option (((Int32) ⊕ (Int32)) ⊕ (Int32 × Int32)) := fun (sum2, e3) =>
  if (e3 < (c.1 1 0)) then
  ((fn_Sayings_partOf c saying1 e3).bind fun r8 =>
  (some ((sum2 + r8) : Int32)).bind fun sum9 =>
  if ((c.1 1 1) ≤ (2 * sum9)) then
  (some (.inl (.inl e3)))
  else
  (some (.inr (sum9, (e3 + 1)))))
  else
  (some (.inl (.inr sum2)))
def fn_Sayings_leastMiddle (c : zw_Ct) (saying1 : Int32) : Option Int32 :=
  (zw_whl (fn_Sayings_leastMiddle_l1 c saying1) zw_F (0, 0)).bind fun q => match q with
    | .inl w => some w
    | .inr sum4 =>
    some ((c.1 1 0) - 1)
set_option maxRecDepth 100000 in
theorem km_Sayings_leastMiddle {l : Launch} {g : zw_G} {rr : zw_RR} {sh : zw_Sh} {c : zw_Ct} {saying1 : Int32} {r : Int32} (hS : zw_Ok 0 101 sh rr) (hsem : fn_Sayings_leastMiddle c saying1 = some r) : zw_Met l g y_Sayings_leastMiddle b_Sayings_leastMiddle 4 (some .int) 2 rr sh [.ref 1, .int saying1] c (some (.int r)) c := by
  unfold fn_Sayings_leastMiddle at hsem
  refine zw_Met.of (by decide +kernel) (Nat.le_of_ble_eq_true rfl) (fun p e s m args below meth cd X => ?_)
  refine zw_eL (L2 := [some (.ref 1), some (.int saying1), none, none]) rfl ?_
  refine r_iconst X (pc := 0) (v := 0) (zw_dg dk_Sayings_leastMiddle 0 rfl) (by decide) ?_
  refine r_istore_n X (pc := 1) (i := 2) (zw_dg dk_Sayings_leastMiddle 1 rfl) rfl (by decide) rfl ?_
  refine r_iconst X (pc := 2) (v := 0) (zw_dg dk_Sayings_leastMiddle 2 rfl) (by decide) ?_
  refine r_istore_n X (pc := 3) (i := 3) (zw_dg dk_Sayings_leastMiddle 3 rfl) rfl (by decide) rfl ?_
  obtain ⟨l5, hl5, hsl5⟩ := zw_bd hsem
  refine r_loopR (pc := 4) (pce := 39) hl5 (fun (sum2, e3) => [some (.ref 1), some (.int saying1), some (.int sum2), some (.int e3)] : Int32 × Int32 → zw_Lc) (fun (sum2, e3) => c : Int32 × Int32 → zw_Ct) (fun sum4 => [some (.ref 1), some (.int saying1), some (.int sum4), none] : Int32 → zw_Lc) (fun sum4 => c : Int32 → zw_Ct) (fun w => w = r) ?_ rfl rfl ?_ ?_
  · rintro ⟨sum2, e3⟩ rr hsem hR hK hP
    try unfold fn_Sayings_leastMiddle_l1 at hsem
    refine r_iload_n X (pc := 4) (i := 3) (zw_dg dk_Sayings_leastMiddle 4 rfl) rfl rfl ?_
    refine r_aload_n X (pc := 5) (i := 0) (zw_dg dk_Sayings_leastMiddle 5 rfl) rfl rfl ?_
    refine r_getI X (pc := 6) ci_Sayings (zo hS 1 rfl rfl) rfl lk_Sayings_19 (zw_dg dk_Sayings_leastMiddle 6 rfl) ?_
    refine r_icmp_ge X (pc := 9) (tgt := 39) (zw_dg dk_Sayings_leastMiddle 7 rfl) (by decide) (fun q7 => ?_) (fun q7 => ?_)
    · --
      have p6 : ¬ (e3 < (c.1 1 0)) := (Int32.not_lt.mpr q7)
      have hsem := zw_ifn p6 hsem
      have jj := hK _ (Option.some.inj hsem).symm
      exact (r_fgt [3] rfl jj)
    · --
      have p6 : (e3 < (c.1 1 0)) := (Int32.not_le.mp q7)
      have hsem := zw_ifp p6 hsem
      refine r_iload_n X (pc := 12) (i := 2) (zw_dg dk_Sayings_leastMiddle 8 rfl) rfl rfl ?_
      refine r_aload_n X (pc := 13) (i := 0) (zw_dg dk_Sayings_leastMiddle 9 rfl) rfl rfl ?_
      refine r_iload_n X (pc := 14) (i := 1) (zw_dg dk_Sayings_leastMiddle 10 rfl) rfl rfl ?_
      refine r_iload_n X (pc := 15) (i := 3) (zw_dg dk_Sayings_leastMiddle 11 rfl) rfl rfl ?_
      obtain ⟨r8, hr8, hsem⟩ := zw_bd hsem
      refine r_callVi X (pc := 16) (As := [_, _]) (st := [.int sum2]) (km_Sayings_partOf hS hr8) ce_Sayings_partOf kw_717 (zo hS 1 rfl rfl) rfl rfl ⟨Nat.le_of_ble_eq_true rfl, Nat.le_of_ble_eq_true rfl⟩ (Nat.le_of_ble_eq_true rfl) (zw_dg dk_Sayings_leastMiddle 12 rfl) ?_
      refine r_iadd X (pc := 19) (zw_dg dk_Sayings_leastMiddle 13 rfl)  ?_
      obtain ⟨sum9, hsum9, hsem⟩ := zw_bd hsem
      refine zw_topI hsum9 ?_
      refine r_istore_n X (pc := 20) (i := 2) (zw_dg dk_Sayings_leastMiddle 14 rfl) rfl (by decide) rfl ?_
      refine r_iconst X (pc := 21) (v := 2) (zw_dg dk_Sayings_leastMiddle 15 rfl) (by decide) ?_
      refine r_iload_n X (pc := 22) (i := 2) (zw_dg dk_Sayings_leastMiddle 16 rfl) rfl rfl ?_
      refine r_imul X (pc := 23) (zw_dg dk_Sayings_leastMiddle 17 rfl)  ?_
      refine r_aload_n X (pc := 24) (i := 0) (zw_dg dk_Sayings_leastMiddle 18 rfl) rfl rfl ?_
      refine r_getI X (pc := 25) ci_Sayings (zo hS 1 rfl rfl) rfl lk_Sayings_23 (zw_dg dk_Sayings_leastMiddle 19 rfl) ?_
      refine r_icmp_lt X (pc := 28) (tgt := 33) (zw_dg dk_Sayings_leastMiddle 20 rfl) (by decide) (fun q11 => ?_) (fun q11 => ?_)
      · --
        have p10 : ¬ ((c.1 1 1) ≤ (2 * sum9)) := (Int32.not_le.mpr q11)
        have hsem := zw_ifn p10 hsem
        refine r_iinc X (pc := 33) (i := 3) (k := 1) (zw_dg dk_Sayings_leastMiddle 23 rfl) rfl (by decide) (by decide) rfl ?_
        refine r_goto X (pc := 36) (tgt := 4) (zw_dg dk_Sayings_leastMiddle 24 rfl) (by decide) ?_
        have jj := hP _ (Option.some.inj hsem).symm
        exact (r_fgt [] rfl jj)
      · --
        have p10 : ((c.1 1 1) ≤ (2 * sum9)) := (Int32.not_lt.mp q11)
        have hsem := zw_ifp p10 hsem
        refine r_iload_n X (pc := 31) (i := 3) (zw_dg dk_Sayings_leastMiddle 21 rfl) rfl rfl ?_
        have hret := hR _ (Option.some.inj hsem).symm
        cases hret
        exact r_iret X (pc := 32) rfl (zw_dg dk_Sayings_leastMiddle 22 rfl)
  · intro w hw
    subst hw
    exact Option.some.inj hsl5
  rintro sum4 hw
  subst hw
  have hsem := hsl5
  refine r_aload_n X (pc := 39) (i := 0) (zw_dg dk_Sayings_leastMiddle 25 rfl) rfl rfl ?_
  refine r_getI X (pc := 40) ci_Sayings (zo hS 1 rfl rfl) rfl lk_Sayings_19 (zw_dg dk_Sayings_leastMiddle 26 rfl) ?_
  refine r_iconst X (pc := 43) (v := 1) (zw_dg dk_Sayings_leastMiddle 27 rfl) (by decide) ?_
  refine r_isub X (pc := 44) (zw_dg dk_Sayings_leastMiddle 28 rfl)  ?_
  cases hsem
  exact r_iret X (pc := 45) rfl (zw_dg dk_Sayings_leastMiddle 29 rfl)
def y_Sayings_sumOfSquares : MethodName := ⟨R_Sayings, "sumOfSquares", "(I)I"⟩
abbrev b_Sayings_sumOfSquares : ByteArray := prog_10_method_11_code
def dl_Sayings_sumOfSquares : List (Nat × Instr × Nat) := [(0, .iconst 0, 1), (1, .istore_n 2, 1), (2, .iconst 0, 1), (3, .istore_n 3, 1), (4, .iload_n 3, 1), (5, .aload_n 0, 1), (6, .getfield 19, 3), (9, .if_icmp .ge 25, 3), (12, .iload_n 2, 1), (13, .aload_n 0, 1), (14, .iload_n 1, 1), (15, .iload_n 3, 1), (16, .invokevirtual 37, 3), (19, .aload_n 0, 1), (20, .iload_n 1, 1), (21, .iload_n 3, 1), (22, .invokevirtual 37, 3), (25, .imul, 1), (26, .iadd, 1), (27, .istore_n 2, 1), (28, .iinc 3 1, 3), (31, .goto (-27), 3), (34, .iload_n 2, 1), (35, .ireturn, 1)]
theorem dk_Sayings_sumOfSquares : zw_dk b_Sayings_sumOfSquares dl_Sayings_sumOfSquares = true := by decide +kernel
theorem ce_Sayings_sumOfSquares : zw_cev y_Sayings_sumOfSquares b_Sayings_sumOfSquares 4 (some .int) 1 := ⟨⟨kt_in 725 (by decide +kernel) rfl, kt_in 86 (by decide +kernel) rfl, by decide +kernel⟩, kt_in 723 (by decide +kernel) rfl, kt_in 724 (by decide +kernel) rfl⟩
def fn_Sayings_sumOfSquares_l1 (c : zw_Ct) (saying1 : Int32) : Int32 × Int32 → Option ((Int32) ⊕ (Int32 × Int32)) := fun (sum2, e3) =>
  if (e3 < (c.1 1 0)) then
  ((fn_Sayings_partOf c saying1 e3).bind fun r8 =>
  (fn_Sayings_partOf c saying1 e3).bind fun r9 =>
  (some ((sum2 + (r8 * r9)) : Int32)).bind fun sum10 =>
  some (.inr (sum10, (e3 + 1))))
  else
  (some (.inl sum2))
def fn_Sayings_sumOfSquares (c : zw_Ct) (saying1 : Int32) : Option Int32 :=
  (zw_whl (fn_Sayings_sumOfSquares_l1 c saying1) zw_F (0, 0)).bind fun sum4 =>
  some sum4
set_option maxRecDepth 100000 in
theorem km_Sayings_sumOfSquares {l : Launch} {g : zw_G} {rr : zw_RR} {sh : zw_Sh} {c : zw_Ct} {saying1 : Int32} {r : Int32} (hS : zw_Ok 0 101 sh rr) (hsem : fn_Sayings_sumOfSquares c saying1 = some r) : zw_Met l g y_Sayings_sumOfSquares b_Sayings_sumOfSquares 4 (some .int) 2 rr sh [.ref 1, .int saying1] c (some (.int r)) c := by
  unfold fn_Sayings_sumOfSquares at hsem
  refine zw_Met.of (by decide +kernel) (Nat.le_of_ble_eq_true rfl) (fun p e s m args below meth cd X => ?_)
  refine zw_eL (L2 := [some (.ref 1), some (.int saying1), none, none]) rfl ?_
  refine r_iconst X (pc := 0) (v := 0) (zw_dg dk_Sayings_sumOfSquares 0 rfl) (by decide) ?_
  refine r_istore_n X (pc := 1) (i := 2) (zw_dg dk_Sayings_sumOfSquares 1 rfl) rfl (by decide) rfl ?_
  refine r_iconst X (pc := 2) (v := 0) (zw_dg dk_Sayings_sumOfSquares 2 rfl) (by decide) ?_
  refine r_istore_n X (pc := 3) (i := 3) (zw_dg dk_Sayings_sumOfSquares 3 rfl) rfl (by decide) rfl ?_
  obtain ⟨sum4, hl5, hsl5⟩ := zw_bd hsem
  refine r_loop (pc := 4) (pce := 34) hl5 (fun (sum2, e3) => [some (.ref 1), some (.int saying1), some (.int sum2), some (.int e3)] : Int32 × Int32 → zw_Lc) (fun (sum2, e3) => c : Int32 × Int32 → zw_Ct) (fun sum4 => [some (.ref 1), some (.int saying1), some (.int sum4), none] : Int32 → zw_Lc) (fun sum4 => c : Int32 → zw_Ct) ?_ rfl rfl ?_
  · rintro ⟨sum2, e3⟩ rr hsem hK hP
    try unfold fn_Sayings_sumOfSquares_l1 at hsem
    refine r_iload_n X (pc := 4) (i := 3) (zw_dg dk_Sayings_sumOfSquares 4 rfl) rfl rfl ?_
    refine r_aload_n X (pc := 5) (i := 0) (zw_dg dk_Sayings_sumOfSquares 5 rfl) rfl rfl ?_
    refine r_getI X (pc := 6) ci_Sayings (zo hS 1 rfl rfl) rfl lk_Sayings_19 (zw_dg dk_Sayings_sumOfSquares 6 rfl) ?_
    refine r_icmp_ge X (pc := 9) (tgt := 34) (zw_dg dk_Sayings_sumOfSquares 7 rfl) (by decide) (fun q7 => ?_) (fun q7 => ?_)
    · --
      have p6 : ¬ (e3 < (c.1 1 0)) := (Int32.not_lt.mpr q7)
      have hsem := zw_ifn p6 hsem
      have jj := hK _ (Option.some.inj hsem).symm
      exact (r_fgt [3] rfl jj)
    · --
      have p6 : (e3 < (c.1 1 0)) := (Int32.not_le.mp q7)
      have hsem := zw_ifp p6 hsem
      refine r_iload_n X (pc := 12) (i := 2) (zw_dg dk_Sayings_sumOfSquares 8 rfl) rfl rfl ?_
      refine r_aload_n X (pc := 13) (i := 0) (zw_dg dk_Sayings_sumOfSquares 9 rfl) rfl rfl ?_
      refine r_iload_n X (pc := 14) (i := 1) (zw_dg dk_Sayings_sumOfSquares 10 rfl) rfl rfl ?_
      refine r_iload_n X (pc := 15) (i := 3) (zw_dg dk_Sayings_sumOfSquares 11 rfl) rfl rfl ?_
      obtain ⟨r8, hr8, hsem⟩ := zw_bd hsem
      refine r_callVi X (pc := 16) (As := [_, _]) (st := [.int sum2]) (km_Sayings_partOf hS hr8) ce_Sayings_partOf kw_717 (zo hS 1 rfl rfl) rfl rfl ⟨Nat.le_of_ble_eq_true rfl, Nat.le_of_ble_eq_true rfl⟩ (Nat.le_of_ble_eq_true rfl) (zw_dg dk_Sayings_sumOfSquares 12 rfl) ?_
      refine r_aload_n X (pc := 19) (i := 0) (zw_dg dk_Sayings_sumOfSquares 13 rfl) rfl rfl ?_
      refine r_iload_n X (pc := 20) (i := 1) (zw_dg dk_Sayings_sumOfSquares 14 rfl) rfl rfl ?_
      refine r_iload_n X (pc := 21) (i := 3) (zw_dg dk_Sayings_sumOfSquares 15 rfl) rfl rfl ?_
      obtain ⟨r9, hr9, hsem⟩ := zw_bd hsem
      refine r_callVi X (pc := 22) (As := [_, _]) (st := [.int r8, .int sum2]) (km_Sayings_partOf hS hr9) ce_Sayings_partOf kw_717 (zo hS 1 rfl rfl) rfl rfl ⟨Nat.le_of_ble_eq_true rfl, Nat.le_of_ble_eq_true rfl⟩ (Nat.le_of_ble_eq_true rfl) (zw_dg dk_Sayings_sumOfSquares 16 rfl) ?_
      refine r_imul X (pc := 25) (zw_dg dk_Sayings_sumOfSquares 17 rfl)  ?_
      refine r_iadd X (pc := 26) (zw_dg dk_Sayings_sumOfSquares 18 rfl)  ?_
      obtain ⟨sum10, hsum10, hsem⟩ := zw_bd hsem
      refine zw_topI hsum10 ?_
      refine r_istore_n X (pc := 27) (i := 2) (zw_dg dk_Sayings_sumOfSquares 19 rfl) rfl (by decide) rfl ?_
      refine r_iinc X (pc := 28) (i := 3) (k := 1) (zw_dg dk_Sayings_sumOfSquares 20 rfl) rfl (by decide) (by decide) rfl ?_
      refine r_goto X (pc := 31) (tgt := 4) (zw_dg dk_Sayings_sumOfSquares 21 rfl) (by decide) ?_
      have jj := hP _ (Option.some.inj hsem).symm
      exact (r_fgt [] rfl jj)
  have hsem := hsl5
  refine r_iload_n X (pc := 34) (i := 2) (zw_dg dk_Sayings_sumOfSquares 22 rfl) rfl rfl ?_
  cases hsem
  exact r_iret X (pc := 35) rfl (zw_dg dk_Sayings_sumOfSquares 23 rfl)
def y_Sayings_distance : MethodName := ⟨R_Sayings, "distance", "(II)I"⟩
abbrev b_Sayings_distance : ByteArray := prog_10_method_12_code
def dl_Sayings_distance : List (Nat × Instr × Nat) := [(0, .iconst 0, 1), (1, .istore_n 3, 1), (2, .iconst 0, 1), (3, .istore 4, 2), (5, .iload 4, 2), (7, .aload_n 0, 1), (8, .getfield 19, 3), (11, .if_icmp .ge 30, 3), (14, .iload_n 3, 1), (15, .aload_n 0, 1), (16, .iload_n 1, 1), (17, .iload 4, 2), (19, .invokevirtual 37, 3), (22, .aload_n 0, 1), (23, .iload_n 2, 1), (24, .iload 4, 2), (26, .invokevirtual 37, 3), (29, .isub, 1), (30, .invokestatic 41, 3), (33, .iadd, 1), (34, .istore_n 3, 1), (35, .iinc 4 1, 3), (38, .goto (-33), 3), (41, .iload_n 3, 1), (42, .iconst 2, 1), (43, .idiv, 1), (44, .ireturn, 1)]
theorem dk_Sayings_distance : zw_dk b_Sayings_distance dl_Sayings_distance = true := by decide +kernel
theorem ce_Sayings_distance : zw_cev y_Sayings_distance b_Sayings_distance 5 (some .int) 2 := ⟨⟨kt_in 1090 (by decide +kernel) rfl, kt_in 86 (by decide +kernel) rfl, by decide +kernel⟩, kt_in 1088 (by decide +kernel) rfl, kt_in 1089 (by decide +kernel) rfl⟩
def fn_Sayings_distance_l1 (c : zw_Ct) (one1 : Int32) (other2 : Int32) : Int32 × Int32 → Option ((Int32) ⊕ (Int32 × Int32)) := fun (sum3, e4) =>
  if (e4 < (c.1 1 0)) then
  ((fn_Sayings_partOf c one1 e4).bind fun r9 =>
  (fn_Sayings_partOf c other2 e4).bind fun r10 =>
  (some ((sum3 + (if 0 ≤ (r9 - r10) then (r9 - r10) else 0 - (r9 - r10))) : Int32)).bind fun sum11 =>
  some (.inr (sum11, (e4 + 1))))
  else
  (some (.inl sum3))
def fn_Sayings_distance (c : zw_Ct) (one1 : Int32) (other2 : Int32) : Option Int32 :=
  (zw_whl (fn_Sayings_distance_l1 c one1 other2) zw_F (0, 0)).bind fun sum5 =>
  some (sum5 / 2)
set_option maxRecDepth 100000 in
theorem km_Sayings_distance {l : Launch} {g : zw_G} {rr : zw_RR} {sh : zw_Sh} {c : zw_Ct} {one1 : Int32} {other2 : Int32} {r : Int32} (hS : zw_Ok 0 101 sh rr) (hsem : fn_Sayings_distance c one1 other2 = some r) : zw_Met l g y_Sayings_distance b_Sayings_distance 5 (some .int) 2 rr sh [.ref 1, .int one1, .int other2] c (some (.int r)) c := by
  unfold fn_Sayings_distance at hsem
  refine zw_Met.of (by decide +kernel) (Nat.le_of_ble_eq_true rfl) (fun p e s m args below meth cd X => ?_)
  refine zw_eL (L2 := [some (.ref 1), some (.int one1), some (.int other2), none, none]) rfl ?_
  refine r_iconst X (pc := 0) (v := 0) (zw_dg dk_Sayings_distance 0 rfl) (by decide) ?_
  refine r_istore_n X (pc := 1) (i := 3) (zw_dg dk_Sayings_distance 1 rfl) rfl (by decide) rfl ?_
  refine r_iconst X (pc := 2) (v := 0) (zw_dg dk_Sayings_distance 2 rfl) (by decide) ?_
  refine r_istore X (pc := 3) (i := 4) (zw_dg dk_Sayings_distance 3 rfl) (by decide) rfl ?_
  obtain ⟨sum5, hl6, hsl6⟩ := zw_bd hsem
  refine r_loop (pc := 5) (pce := 41) hl6 (fun (sum3, e4) => [some (.ref 1), some (.int one1), some (.int other2), some (.int sum3), some (.int e4)] : Int32 × Int32 → zw_Lc) (fun (sum3, e4) => c : Int32 × Int32 → zw_Ct) (fun sum5 => [some (.ref 1), some (.int one1), some (.int other2), some (.int sum5), none] : Int32 → zw_Lc) (fun sum5 => c : Int32 → zw_Ct) ?_ rfl rfl ?_
  · rintro ⟨sum3, e4⟩ rr hsem hK hP
    try unfold fn_Sayings_distance_l1 at hsem
    refine r_iload X (pc := 5) (i := 4) (zw_dg dk_Sayings_distance 4 rfl) rfl ?_
    refine r_aload_n X (pc := 7) (i := 0) (zw_dg dk_Sayings_distance 5 rfl) rfl rfl ?_
    refine r_getI X (pc := 8) ci_Sayings (zo hS 1 rfl rfl) rfl lk_Sayings_19 (zw_dg dk_Sayings_distance 6 rfl) ?_
    refine r_icmp_ge X (pc := 11) (tgt := 41) (zw_dg dk_Sayings_distance 7 rfl) (by decide) (fun q8 => ?_) (fun q8 => ?_)
    · --
      have p7 : ¬ (e4 < (c.1 1 0)) := (Int32.not_lt.mpr q8)
      have hsem := zw_ifn p7 hsem
      have jj := hK _ (Option.some.inj hsem).symm
      exact (r_fgt [4] rfl jj)
    · --
      have p7 : (e4 < (c.1 1 0)) := (Int32.not_le.mp q8)
      have hsem := zw_ifp p7 hsem
      refine r_iload_n X (pc := 14) (i := 3) (zw_dg dk_Sayings_distance 8 rfl) rfl rfl ?_
      refine r_aload_n X (pc := 15) (i := 0) (zw_dg dk_Sayings_distance 9 rfl) rfl rfl ?_
      refine r_iload_n X (pc := 16) (i := 1) (zw_dg dk_Sayings_distance 10 rfl) rfl rfl ?_
      refine r_iload X (pc := 17) (i := 4) (zw_dg dk_Sayings_distance 11 rfl) rfl ?_
      obtain ⟨r9, hr9, hsem⟩ := zw_bd hsem
      refine r_callVi X (pc := 19) (As := [_, _]) (st := [.int sum3]) (km_Sayings_partOf hS hr9) ce_Sayings_partOf kw_717 (zo hS 1 rfl rfl) rfl rfl ⟨Nat.le_of_ble_eq_true rfl, Nat.le_of_ble_eq_true rfl⟩ (Nat.le_of_ble_eq_true rfl) (zw_dg dk_Sayings_distance 12 rfl) ?_
      refine r_aload_n X (pc := 22) (i := 0) (zw_dg dk_Sayings_distance 13 rfl) rfl rfl ?_
      refine r_iload_n X (pc := 23) (i := 2) (zw_dg dk_Sayings_distance 14 rfl) rfl rfl ?_
      refine r_iload X (pc := 24) (i := 4) (zw_dg dk_Sayings_distance 15 rfl) rfl ?_
      obtain ⟨r10, hr10, hsem⟩ := zw_bd hsem
      refine r_callVi X (pc := 26) (As := [_, _]) (st := [.int r9, .int sum3]) (km_Sayings_partOf hS hr10) ce_Sayings_partOf kw_717 (zo hS 1 rfl rfl) rfl rfl ⟨Nat.le_of_ble_eq_true rfl, Nat.le_of_ble_eq_true rfl⟩ (Nat.le_of_ble_eq_true rfl) (zw_dg dk_Sayings_distance 16 rfl) ?_
      refine r_isub X (pc := 29) (zw_dg dk_Sayings_distance 17 rfl)  ?_
      refine r_mabs X (pc := 30) kw_1091 mws_abs kw_88 mwc_abs ⟨Nat.le_of_ble_eq_true rfl, Nat.le_of_ble_eq_true rfl⟩ (st := [.int sum3]) (Nat.le_of_ble_eq_true rfl) (zw_dg dk_Sayings_distance 18 rfl) ?_
      refine r_iadd X (pc := 33) (zw_dg dk_Sayings_distance 19 rfl)  ?_
      obtain ⟨sum11, hsum11, hsem⟩ := zw_bd hsem
      refine zw_topI hsum11 ?_
      refine r_istore_n X (pc := 34) (i := 3) (zw_dg dk_Sayings_distance 20 rfl) rfl (by decide) rfl ?_
      refine r_iinc X (pc := 35) (i := 4) (k := 1) (zw_dg dk_Sayings_distance 21 rfl) rfl (by decide) (by decide) rfl ?_
      refine r_goto X (pc := 38) (tgt := 5) (zw_dg dk_Sayings_distance 22 rfl) (by decide) ?_
      have jj := hP _ (Option.some.inj hsem).symm
      exact (r_fgt [] rfl jj)
  have hsem := hsl6
  refine r_iload_n X (pc := 41) (i := 3) (zw_dg dk_Sayings_distance 23 rfl) rfl rfl ?_
  refine r_iconst X (pc := 42) (v := 2) (zw_dg dk_Sayings_distance 24 rfl) (by decide) ?_
  refine r_idiv X (pc := 43) (zw_dg dk_Sayings_distance 25 rfl) (by decide) ?_
  cases hsem
  exact r_iret X (pc := 44) rfl (zw_dg dk_Sayings_distance 26 rfl)
