/-! PaidForThinkingModel: names, functions, contracts (by program: wip/whole/gen) -/
def y_M_lot : MethodName := ⟨R_M, "lot", "(III)I"⟩
abbrev b_M_lot : ByteArray := prog_14_method_62_code
def dl_M_lot : List (Nat × Instr × Nat) := [(0, .aload_n 0, 1), (1, .iconst 0, 1), (2, .putfield 97, 3), (5, .aload_n 0, 1), (6, .iload_n 1, 1), (7, .invokevirtual 222, 3), (10, .ifCond .eq 29, 3), (13, .iload_n 2, 1), (14, .i2l, 1), (15, .ldc2_w 153, 3), (18, .ldc2_w 155, 3), (21, .invokestatic 120, 3), (24, .ifCond .eq 15, 3), (27, .iload_n 3, 1), (28, .i2l, 1), (29, .lconst 1, 1), (30, .ldc2_w 155, 3), (33, .invokestatic 120, 3), (36, .ifCond .ne 5, 3), (39, .iconst (-1), 1), (40, .ireturn, 1), (41, .aload_n 0, 1), (42, .iload_n 1, 1), (43, .invokevirtual 229, 3), (46, .aload_n 0, 1), (47, .getfield 46, 3), (50, .iconst 0, 1), (51, .iaload, 1), (52, .i2l, 1), (53, .lstore 4, 2), (55, .aload_n 0, 1), (56, .getfield 46, 3), (59, .iconst 0, 1), (60, .iaload, 1), (61, .i2l, 1), (62, .lstore 6, 2), (64, .iconst 0, 1), (65, .istore 8, 2), (67, .iload 8, 2), (69, .aload_n 0, 1), (70, .getfield 113, 3), (73, .if_icmp .ge 67, 3), (76, .iconst 0, 1), (77, .istore 9, 2), (79, .iload 9, 2), (81, .aload_n 0, 1), (82, .getfield 9, 3), (85, .if_icmp .ge 49, 3), (88, .lload 4, 2), (90, .aload_n 0, 1), (91, .getfield 46, 3), (94, .iconst 4, 1), (95, .iload 8, 2), (97, .imul, 1), (98, .iload 9, 2), (100, .iadd, 1), (101, .iaload, 1), (102, .i2l, 1), (103, .invokestatic 290, 3), (106, .lstore 4, 2), (108, .lload 6, 2), (110, .aload_n 0, 1), (111, .getfield 46, 3), (114, .iconst 4, 1), (115, .iload 8, 2), (117, .imul, 1), (118, .iload 9, 2), (120, .iadd, 1), (121, .iaload, 1), (122, .i2l, 1), (123, .invokestatic 237, 3), (126, .lstore 6, 2), (128, .iinc 9 1, 3), (131, .goto (-52), 3), (134, .iinc 8 1, 3), (137, .goto (-70), 3), (140, .aload_n 0, 1), (141, .iconst 0, 1), (142, .putfield 100, 3), (145, .aload_n 0, 1), (146, .lload 4, 2), (148, .lneg, 1), (149, .invokevirtual 109, 3), (152, .aload_n 0, 1), (153, .lload 6, 2), (155, .lload 4, 2), (157, .lsub, 1), (158, .invokevirtual 109, 3), (161, .lload 4, 2), (163, .iload_n 2, 1), (164, .i2l, 1), (165, .ladd, 1), (166, .lconst 0, 1), (167, .lcmp, 1), (168, .ifCond .lt 18, 3), (171, .lload 6, 2), (173, .iload_n 2, 1), (174, .i2l, 1), (175, .ladd, 1), (176, .iload_n 3, 1), (177, .i2l, 1), (178, .lcmp, 1), (179, .ifCond .gt 7, 3), (182, .iconst 1, 1), (183, .goto 4, 3), (186, .iconst 0, 1), (187, .ireturn, 1)]
theorem dk_M_lot : zw_dk b_M_lot dl_M_lot = true := by decide +kernel
theorem ce_M_lot : zw_cev y_M_lot b_M_lot 10 (some .int) 3 := ⟨⟨kt_in 1837 (by decide +kernel) rfl, kt_in 98 (by decide +kernel) rfl, by decide +kernel⟩, kt_in 1835 (by decide +kernel) rfl, kt_in 1836 (by decide +kernel) rfl⟩
def fn_M_lot_l2 (c10 : zw_Ct) (s17 : Int32) : Int64 × Int64 × Int32 → Option ((Int64 × Int64) ⊕ (Int64 × Int64 × Int32)) := fun (least23, most24, e25) =>
  if (e25 < (c10.1 71 0)) then
  ((zw_aI 1820 c10 84 ((4 * s17) + e25)).bind fun x31 =>
  (some ((if x31.toInt64 < least23 then x31.toInt64 else least23) : Int64)).bind fun least32 =>
  (zw_aI 1820 c10 84 ((4 * s17) + e25)).bind fun x33 =>
  (some ((if x33.toInt64 < most24 then most24 else x33.toInt64) : Int64)).bind fun most34 =>
  some (.inr (least32, most34, (e25 + 1))))
  else
  (some (.inl (least23, most24)))
def fn_M_lot_l1 (c10 : zw_Ct) : Int64 × Int64 × Int32 → Option ((Int64 × Int64) ⊕ (Int64 × Int64 × Int32)) := fun (least15, most16, s17) =>
  if (s17 < (c10.1 71 2)) then
  ((zw_whl (fn_M_lot_l2 c10 s17) zw_F (least15, most16, 0)).bind fun (least26, most27) =>
  some (.inr (least26, most27, (s17 + 1))))
  else
  (some (.inl (least15, most16)))
def fn_M_lot (c : zw_Ct) (p1 : Int32) (add2 : Int32) (top3 : Int32) : Option (Int32 × zw_Ct) :=
  (some (zw_wI c 71 9 0)).bind fun c4 =>
  (fn_M_isPay c4 p1).bind fun r5 =>
  if (((¬ (¬ r5 = 0)) ∨ (¬ (¬ (fn_M_in add2.toInt64 (-9999) 9999) = 0))) ∨ (¬ (¬ (fn_M_in top3.toInt64 1 9999) = 0))) then
  (some ((-1), c4))
  else
  ((fn_M_layPay c4 p1).bind fun c10 =>
  (zw_aI 1820 c10 84 0).bind fun x11 =>
  (some (x11.toInt64 : Int64)).bind fun least12 =>
  (zw_aI 1820 c10 84 0).bind fun x13 =>
  (some (x13.toInt64 : Int64)).bind fun most14 =>
  (zw_whl (fn_M_lot_l1 c10) zw_F (least12, most14, 0)).bind fun (least18, most19) =>
  (some (zw_wI c10 71 8 0)).bind fun c35 =>
  (fn_M_tell c35 (-least18)).bind fun c36 =>
  (fn_M_tell c36 (most19 - least18)).bind fun c37 =>
  some ((if ((0 ≤ (least18 + add2.toInt64)) ∧ ((most19 + add2.toInt64) ≤ top3.toInt64)) then (1 : Int32) else 0), c37))
set_option maxRecDepth 100000 in
theorem km_M_lot {l : Launch} {g : zw_G} {rr : zw_RR} {sh : zw_Sh} {c : zw_Ct} {p1 : Int32} {add2 : Int32} {top3 : Int32} {r : Int32} {c2 : zw_Ct} (hS : zw_Ok 0 101 sh rr) (hsem : fn_M_lot c p1 add2 top3 = some (r, c2)) : zw_Met l g y_M_lot b_M_lot 10 (some .int) 107 rr sh [.ref 71, .int p1, .int add2, .int top3] c (some (.int r)) c2 := by
  unfold fn_M_lot at hsem
  refine zw_Met.of (by decide +kernel) (Nat.le_of_ble_eq_true rfl) (fun p e s m args below meth cd X => ?_)
  refine zw_eL (L2 := [some (.ref 71), some (.int p1), some (.int add2), some (.int top3), none, none, none, none, none, none]) rfl ?_
  refine r_aload_n X (pc := 0) (i := 0) (zw_dg dk_M_lot 0 rfl) rfl rfl ?_
  refine r_iconst X (pc := 1) (v := 0) (zw_dg dk_M_lot 1 rfl) (by decide) ?_
  refine r_putI X (pc := 2) ci_M (zo hS 71 rfl rfl) rfl lk_M_97 rfl ⟨rfl, rfl⟩ (zw_dg dk_M_lot 2 rfl) ?_
  obtain ⟨c4, hc4, hsem⟩ := zw_bd hsem
  refine zw_topC hc4 ?_
  refine r_aload_n X (pc := 5) (i := 0) (zw_dg dk_M_lot 3 rfl) rfl rfl ?_
  refine r_iload_n X (pc := 6) (i := 1) (zw_dg dk_M_lot 4 rfl) rfl rfl ?_
  obtain ⟨r5, hr5, hsem⟩ := zw_bd hsem
  refine r_callVi X (pc := 7) (As := [_]) (st := []) (km_M_isPay hS hr5) ce_M_isPay kw_1688 (zo hS 71 rfl rfl) rfl rfl ⟨Nat.le_of_ble_eq_true rfl, Nat.le_of_ble_eq_true rfl⟩ (Nat.le_of_ble_eq_true rfl) (zw_dg dk_M_lot 5 rfl) ?_
  refine zw_cnd (P := (((¬ (¬ r5 = 0)) ∨ (¬ (¬ (fn_M_in add2.toInt64 (-9999) 9999) = 0))) ∨ (¬ (¬ (fn_M_in top3.toInt64 1 9999) = 0)))) (J1 := 39) (J2 := 41) (st2 := []) (fun jT jF => ?_) (fun p6 => ?_) (fun p6 => ?_)
  · --
    refine r_if_eq X (pc := 10) (tgt := 39) (zw_dg dk_M_lot 6 rfl) (by decide) (fun q7 => ?_) (fun q7 => ?_)
    · --
      exact jT (Or.inl (Or.inl (fun z => z q7)))
    · --
      refine r_iload_n X (pc := 13) (i := 2) (zw_dg dk_M_lot 7 rfl) rfl rfl ?_
      refine r_i2l X (pc := 14) (zw_dg dk_M_lot 8 rfl)  ?_
      refine r_ldc2 X (pc := 15) (v := (-9999)) kw_1625 (zw_dg dk_M_lot 9 rfl) ?_
      refine r_ldc2 X (pc := 18) (v := 9999) kw_1626 (zw_dg dk_M_lot 10 rfl) ?_
      refine r_callSi X (pc := 21) (As := [_, _, _]) (st := []) (km_M_in hS rfl) ce_M_in kw_1597 rfl ⟨Nat.le_of_ble_eq_true rfl, Nat.le_of_ble_eq_true rfl⟩ (Nat.le_of_ble_eq_true rfl) (zw_dg dk_M_lot 11 rfl) ?_
      refine r_if_eq X (pc := 24) (tgt := 39) (zw_dg dk_M_lot 12 rfl) (by decide) (fun q8 => ?_) (fun q8 => ?_)
      · --
        exact jT (Or.inl (Or.inr (fun z => z q8)))
      · --
        refine r_iload_n X (pc := 27) (i := 3) (zw_dg dk_M_lot 13 rfl) rfl rfl ?_
        refine r_i2l X (pc := 28) (zw_dg dk_M_lot 14 rfl)  ?_
        refine r_lconst X (pc := 29) (v := 1) (zw_dg dk_M_lot 15 rfl) (by decide) ?_
        refine r_ldc2 X (pc := 30) (v := 9999) kw_1626 (zw_dg dk_M_lot 16 rfl) ?_
        refine r_callSi X (pc := 33) (As := [_, _, _]) (st := []) (km_M_in hS rfl) ce_M_in kw_1597 rfl ⟨Nat.le_of_ble_eq_true rfl, Nat.le_of_ble_eq_true rfl⟩ (Nat.le_of_ble_eq_true rfl) (zw_dg dk_M_lot 17 rfl) ?_
        refine r_if_ne X (pc := 36) (tgt := 41) (zw_dg dk_M_lot 18 rfl) (by decide) (fun q9 => ?_) (fun q9 => ?_)
        · --
          exact jF (fun q => q.elim (fun q => q.elim (fun q => q q7) (fun q => q q8)) (fun q => q q9))
        · --
          exact jT (Or.inr (fun z => z q9))
  · --
    have hsem := zw_ifp p6 hsem
    refine r_iconst X (pc := 39) (v := (-1)) (zw_dg dk_M_lot 19 rfl) (by decide) ?_
    obtain ⟨rfl, rfl⟩ := zw_in2 hsem
    exact r_iret X (pc := 40) rfl (zw_dg dk_M_lot 20 rfl)
  · --
    have hsem := zw_ifn p6 hsem
    refine r_aload_n X (pc := 41) (i := 0) (zw_dg dk_M_lot 21 rfl) rfl rfl ?_
    refine r_iload_n X (pc := 42) (i := 1) (zw_dg dk_M_lot 22 rfl) rfl rfl ?_
    obtain ⟨c10, hc10, hsem⟩ := zw_bd hsem
    refine r_callVv X (pc := 43) (As := [_]) (st := []) (km_M_layPay hS hc10) ce_M_layPay kw_1700 (zo hS 71 rfl rfl) rfl rfl ⟨Nat.le_of_ble_eq_true rfl, Nat.le_of_ble_eq_true rfl⟩ (Nat.le_of_ble_eq_true rfl) (zw_dg dk_M_lot 23 rfl) ?_
    refine r_aload_n X (pc := 46) (i := 0) (zw_dg dk_M_lot 24 rfl) rfl rfl ?_
    refine r_getR X (pc := 47) (r := 84) ci_M (zo hS 71 rfl rfl) rfl (zr hS 71 21 rfl rfl) lk_M_46 (zw_dg dk_M_lot 25 rfl) ?_
    refine r_iconst X (pc := 50) (v := 0) (zw_dg dk_M_lot 26 rfl) (by decide) ?_
    obtain ⟨x11, hx11, hsem⟩ := zw_bd hsem
    refine r_iald X (pc := 51) (zo hS 84 rfl rfl) hx11 (zw_dg dk_M_lot 27 rfl) ?_
    refine r_i2l X (pc := 52) (zw_dg dk_M_lot 28 rfl)  ?_
    obtain ⟨least12, hleast12, hsem⟩ := zw_bd hsem
    refine zw_topJ hleast12 ?_
    refine r_lstore X (pc := 53) (i := 4) (L2 := [some (.ref 71), some (.int p1), some (.int add2), some (.int top3), some (.long least12), none, none, none, none, none]) (zw_dg dk_M_lot 29 rfl) (by decide) rfl ?_
    refine r_aload_n X (pc := 55) (i := 0) (zw_dg dk_M_lot 30 rfl) rfl rfl ?_
    refine r_getR X (pc := 56) (r := 84) ci_M (zo hS 71 rfl rfl) rfl (zr hS 71 21 rfl rfl) lk_M_46 (zw_dg dk_M_lot 31 rfl) ?_
    refine r_iconst X (pc := 59) (v := 0) (zw_dg dk_M_lot 32 rfl) (by decide) ?_
    obtain ⟨x13, hx13, hsem⟩ := zw_bd hsem
    refine r_iald X (pc := 60) (zo hS 84 rfl rfl) hx13 (zw_dg dk_M_lot 33 rfl) ?_
    refine r_i2l X (pc := 61) (zw_dg dk_M_lot 34 rfl)  ?_
    obtain ⟨most14, hmost14, hsem⟩ := zw_bd hsem
    refine zw_topJ hmost14 ?_
    refine r_lstore X (pc := 62) (i := 6) (L2 := [some (.ref 71), some (.int p1), some (.int add2), some (.int top3), some (.long least12), none, some (.long most14), none, none, none]) (zw_dg dk_M_lot 35 rfl) (by decide) rfl ?_
    refine r_iconst X (pc := 64) (v := 0) (zw_dg dk_M_lot 36 rfl) (by decide) ?_
    refine r_istore X (pc := 65) (i := 8) (zw_dg dk_M_lot 37 rfl) (by decide) rfl ?_
    obtain ⟨l20, hl20, hsl20⟩ := zw_bd hsem
    refine r_loop (pc := 67) (pce := 140) hl20 (fun (least15, most16, s17) => [some (.ref 71), some (.int p1), some (.int add2), some (.int top3), some (.long least15), none, some (.long most16), none, some (.int s17), none] : Int64 × Int64 × Int32 → zw_Lc) (fun (least15, most16, s17) => c10 : Int64 × Int64 × Int32 → zw_Ct) (fun (least18, most19) => [some (.ref 71), some (.int p1), some (.int add2), some (.int top3), some (.long least18), none, some (.long most19), none, none, none] : Int64 × Int64 → zw_Lc) (fun (least18, most19) => c10 : Int64 × Int64 → zw_Ct) ?_ rfl rfl ?_
    · rintro ⟨least15, most16, s17⟩ rr hsem hK hP
      try unfold fn_M_lot_l1 at hsem
      refine r_iload X (pc := 67) (i := 8) (zw_dg dk_M_lot 38 rfl) rfl ?_
      refine r_aload_n X (pc := 69) (i := 0) (zw_dg dk_M_lot 39 rfl) rfl rfl ?_
      refine r_getI X (pc := 70) ci_M (zo hS 71 rfl rfl) rfl lk_M_113 (zw_dg dk_M_lot 40 rfl) ?_
      refine r_icmp_ge X (pc := 73) (tgt := 140) (zw_dg dk_M_lot 41 rfl) (by decide) (fun q22 => ?_) (fun q22 => ?_)
      · --
        have p21 : ¬ (s17 < (c10.1 71 2)) := (Int32.not_lt.mpr q22)
        have hsem := zw_ifn p21 hsem
        have jj := hK _ (Option.some.inj hsem).symm
        exact (r_fgt [8] rfl jj)
      · --
        have p21 : (s17 < (c10.1 71 2)) := (Int32.not_le.mp q22)
        have hsem := zw_ifp p21 hsem
        refine r_iconst X (pc := 76) (v := 0) (zw_dg dk_M_lot 42 rfl) (by decide) ?_
        refine r_istore X (pc := 77) (i := 9) (zw_dg dk_M_lot 43 rfl) (by decide) rfl ?_
        obtain ⟨l28, hl28, hsl28⟩ := zw_bd hsem
        refine r_loop (pc := 79) (pce := 134) hl28 (fun (least23, most24, e25) => [some (.ref 71), some (.int p1), some (.int add2), some (.int top3), some (.long least23), none, some (.long most24), none, some (.int s17), some (.int e25)] : Int64 × Int64 × Int32 → zw_Lc) (fun (least23, most24, e25) => c10 : Int64 × Int64 × Int32 → zw_Ct) (fun (least26, most27) => [some (.ref 71), some (.int p1), some (.int add2), some (.int top3), some (.long least26), none, some (.long most27), none, some (.int s17), none] : Int64 × Int64 → zw_Lc) (fun (least26, most27) => c10 : Int64 × Int64 → zw_Ct) ?_ rfl rfl ?_
        · rintro ⟨least23, most24, e25⟩ rr hsem hK hP
          try unfold fn_M_lot_l2 at hsem
          refine r_iload X (pc := 79) (i := 9) (zw_dg dk_M_lot 44 rfl) rfl ?_
          refine r_aload_n X (pc := 81) (i := 0) (zw_dg dk_M_lot 45 rfl) rfl rfl ?_
          refine r_getI X (pc := 82) ci_M (zo hS 71 rfl rfl) rfl lk_M_9 (zw_dg dk_M_lot 46 rfl) ?_
          refine r_icmp_ge X (pc := 85) (tgt := 134) (zw_dg dk_M_lot 47 rfl) (by decide) (fun q30 => ?_) (fun q30 => ?_)
          · --
            have p29 : ¬ (e25 < (c10.1 71 0)) := (Int32.not_lt.mpr q30)
            have hsem := zw_ifn p29 hsem
            have jj := hK _ (Option.some.inj hsem).symm
            exact (r_fgt [9] rfl jj)
          · --
            have p29 : (e25 < (c10.1 71 0)) := (Int32.not_le.mp q30)
            have hsem := zw_ifp p29 hsem
            refine r_lload X (pc := 88) (i := 4) (zw_dg dk_M_lot 48 rfl) rfl ?_
            refine r_aload_n X (pc := 90) (i := 0) (zw_dg dk_M_lot 49 rfl) rfl rfl ?_
            refine r_getR X (pc := 91) (r := 84) ci_M (zo hS 71 rfl rfl) rfl (zr hS 71 21 rfl rfl) lk_M_46 (zw_dg dk_M_lot 50 rfl) ?_
            refine r_iconst X (pc := 94) (v := 4) (zw_dg dk_M_lot 51 rfl) (by decide) ?_
            refine r_iload X (pc := 95) (i := 8) (zw_dg dk_M_lot 52 rfl) rfl ?_
            refine r_imul X (pc := 97) (zw_dg dk_M_lot 53 rfl)  ?_
            refine r_iload X (pc := 98) (i := 9) (zw_dg dk_M_lot 54 rfl) rfl ?_
            refine r_iadd X (pc := 100) (zw_dg dk_M_lot 55 rfl)  ?_
            obtain ⟨x31, hx31, hsem⟩ := zw_bd hsem
            refine r_iald X (pc := 101) (zo hS 84 rfl rfl) hx31 (zw_dg dk_M_lot 56 rfl) ?_
            refine r_i2l X (pc := 102) (zw_dg dk_M_lot 57 rfl)  ?_
            refine r_mminl X (pc := 103) kw_1838 mws_minl kw_88 mwc_minl ⟨Nat.le_of_ble_eq_true rfl, Nat.le_of_ble_eq_true rfl⟩ (st := []) (Nat.le_of_ble_eq_true rfl) (zw_dg dk_M_lot 58 rfl) ?_
            obtain ⟨least32, hleast32, hsem⟩ := zw_bd hsem
            refine zw_topJ hleast32 ?_
            refine r_lstore X (pc := 106) (i := 4) (L2 := [some (.ref 71), some (.int p1), some (.int add2), some (.int top3), some (.long least32), none, some (.long most24), none, some (.int s17), some (.int e25)]) (zw_dg dk_M_lot 59 rfl) (by decide) rfl ?_
            refine r_lload X (pc := 108) (i := 6) (zw_dg dk_M_lot 60 rfl) rfl ?_
            refine r_aload_n X (pc := 110) (i := 0) (zw_dg dk_M_lot 61 rfl) rfl rfl ?_
            refine r_getR X (pc := 111) (r := 84) ci_M (zo hS 71 rfl rfl) rfl (zr hS 71 21 rfl rfl) lk_M_46 (zw_dg dk_M_lot 62 rfl) ?_
            refine r_iconst X (pc := 114) (v := 4) (zw_dg dk_M_lot 63 rfl) (by decide) ?_
            refine r_iload X (pc := 115) (i := 8) (zw_dg dk_M_lot 64 rfl) rfl ?_
            refine r_imul X (pc := 117) (zw_dg dk_M_lot 65 rfl)  ?_
            refine r_iload X (pc := 118) (i := 9) (zw_dg dk_M_lot 66 rfl) rfl ?_
            refine r_iadd X (pc := 120) (zw_dg dk_M_lot 67 rfl)  ?_
            obtain ⟨x33, hx33, hsem⟩ := zw_bd hsem
            refine r_iald X (pc := 121) (zo hS 84 rfl rfl) hx33 (zw_dg dk_M_lot 68 rfl) ?_
            refine r_i2l X (pc := 122) (zw_dg dk_M_lot 69 rfl)  ?_
            refine r_mmaxl X (pc := 123) kw_1731 mws_maxl kw_88 mwc_maxl ⟨Nat.le_of_ble_eq_true rfl, Nat.le_of_ble_eq_true rfl⟩ (st := []) (Nat.le_of_ble_eq_true rfl) (zw_dg dk_M_lot 70 rfl) ?_
            obtain ⟨most34, hmost34, hsem⟩ := zw_bd hsem
            refine zw_topJ hmost34 ?_
            refine r_lstore X (pc := 126) (i := 6) (L2 := [some (.ref 71), some (.int p1), some (.int add2), some (.int top3), some (.long least32), none, some (.long most34), none, some (.int s17), some (.int e25)]) (zw_dg dk_M_lot 71 rfl) (by decide) rfl ?_
            refine r_iinc X (pc := 128) (i := 9) (k := 1) (zw_dg dk_M_lot 72 rfl) rfl (by decide) (by decide) rfl ?_
            refine r_goto X (pc := 131) (tgt := 79) (zw_dg dk_M_lot 73 rfl) (by decide) ?_
            have jj := hP _ (Option.some.inj hsem).symm
            exact (r_fgt [] rfl jj)
        obtain ⟨least26, most27⟩ := l28
        have hsem := hsl28
        refine r_iinc X (pc := 134) (i := 8) (k := 1) (zw_dg dk_M_lot 74 rfl) rfl (by decide) (by decide) rfl ?_
        refine r_goto X (pc := 137) (tgt := 67) (zw_dg dk_M_lot 75 rfl) (by decide) ?_
        have jj := hP _ (Option.some.inj hsem).symm
        exact (r_fgt [] rfl jj)
    obtain ⟨least18, most19⟩ := l20
    have hsem := hsl20
    refine r_aload_n X (pc := 140) (i := 0) (zw_dg dk_M_lot 76 rfl) rfl rfl ?_
    refine r_iconst X (pc := 141) (v := 0) (zw_dg dk_M_lot 77 rfl) (by decide) ?_
    refine r_putI X (pc := 142) ci_M (zo hS 71 rfl rfl) rfl lk_M_100 rfl ⟨rfl, rfl⟩ (zw_dg dk_M_lot 78 rfl) ?_
    obtain ⟨c35, hc35, hsem⟩ := zw_bd hsem
    refine zw_topC hc35 ?_
    refine r_aload_n X (pc := 145) (i := 0) (zw_dg dk_M_lot 79 rfl) rfl rfl ?_
    refine r_lload X (pc := 146) (i := 4) (zw_dg dk_M_lot 80 rfl) rfl ?_
    refine r_lneg X (pc := 148) (zw_dg dk_M_lot 81 rfl)  ?_
    obtain ⟨c36, hc36, hsem⟩ := zw_bd hsem
    refine r_callVv X (pc := 149) (As := [_]) (st := []) (km_M_tell hS hc36) ce_M_tell kw_1704 (zo hS 71 rfl rfl) rfl rfl ⟨Nat.le_of_ble_eq_true rfl, Nat.le_of_ble_eq_true rfl⟩ (Nat.le_of_ble_eq_true rfl) (zw_dg dk_M_lot 82 rfl) ?_
    refine r_aload_n X (pc := 152) (i := 0) (zw_dg dk_M_lot 83 rfl) rfl rfl ?_
    refine r_lload X (pc := 153) (i := 6) (zw_dg dk_M_lot 84 rfl) rfl ?_
    refine r_lload X (pc := 155) (i := 4) (zw_dg dk_M_lot 85 rfl) rfl ?_
    refine r_lsub X (pc := 157) (zw_dg dk_M_lot 86 rfl)  ?_
    obtain ⟨c37, hc37, hsem⟩ := zw_bd hsem
    refine r_callVv X (pc := 158) (As := [_]) (st := []) (km_M_tell hS hc37) ce_M_tell kw_1704 (zo hS 71 rfl rfl) rfl rfl ⟨Nat.le_of_ble_eq_true rfl, Nat.le_of_ble_eq_true rfl⟩ (Nat.le_of_ble_eq_true rfl) (zw_dg dk_M_lot 87 rfl) ?_
    refine zw_ter (P := ((0 ≤ (least18 + add2.toInt64)) ∧ ((most19 + add2.toInt64) ≤ top3.toInt64))) (f := Value.int) (x := 1) (y := 0) (J := 187) (st2 := []) (fun jT jF => ?_) ?_
    · --
      refine r_lload X (pc := 161) (i := 4) (zw_dg dk_M_lot 88 rfl) rfl ?_
      refine r_iload_n X (pc := 163) (i := 2) (zw_dg dk_M_lot 89 rfl) rfl rfl ?_
      refine r_i2l X (pc := 164) (zw_dg dk_M_lot 90 rfl)  ?_
      refine r_ladd X (pc := 165) (zw_dg dk_M_lot 91 rfl)  ?_
      refine r_lconst X (pc := 166) (v := 0) (zw_dg dk_M_lot 92 rfl) (by decide) ?_
      refine r_lcmp_lt X (pc := 167) (tgt := 186) (zw_dg dk_M_lot 93 rfl) (zw_dg dk_M_lot 94 rfl) (by decide) (fun q38 => ?_) (fun q38 => ?_)
      · --
        refine r_iconst X (pc := 186) (v := 0) (zw_dg dk_M_lot 105 rfl) (by decide) ?_
        exact jF (fun q => (Int64.not_le.mpr q38) q.1)
      · --
        refine r_lload X (pc := 171) (i := 6) (zw_dg dk_M_lot 95 rfl) rfl ?_
        refine r_iload_n X (pc := 173) (i := 2) (zw_dg dk_M_lot 96 rfl) rfl rfl ?_
        refine r_i2l X (pc := 174) (zw_dg dk_M_lot 97 rfl)  ?_
        refine r_ladd X (pc := 175) (zw_dg dk_M_lot 98 rfl)  ?_
        refine r_iload_n X (pc := 176) (i := 3) (zw_dg dk_M_lot 99 rfl) rfl rfl ?_
        refine r_i2l X (pc := 177) (zw_dg dk_M_lot 100 rfl)  ?_
        refine r_lcmp_gt X (pc := 178) (tgt := 186) (zw_dg dk_M_lot 101 rfl) (zw_dg dk_M_lot 102 rfl) (by decide) (fun q39 => ?_) (fun q39 => ?_)
        · --
          refine r_iconst X (pc := 186) (v := 0) (zw_dg dk_M_lot 105 rfl) (by decide) ?_
          exact jF (fun q => (Int64.not_le.mpr q39) q.2)
        · --
          refine r_iconst X (pc := 182) (v := 1) (zw_dg dk_M_lot 103 rfl) (by decide) ?_
          refine r_goto X (pc := 183) (tgt := 187) (zw_dg dk_M_lot 104 rfl) (by decide) ?_
          exact jT ⟨(Int64.not_lt.mp q38), (Int64.not_lt.mp q39)⟩
    obtain ⟨rfl, rfl⟩ := zw_in2 hsem
    exact r_iret X (pc := 187) rfl (zw_dg dk_M_lot 106 rfl)
def y_M_withGift : MethodName := ⟨R_M, "withGift", "(JIIIII)J"⟩
abbrev b_M_withGift : ByteArray := prog_14_method_63_code
def dl_M_withGift : List (Nat × Instr × Nat) := [(0, .lload_n 1, 1), (1, .aload_n 0, 1), (2, .iload_n 3, 1), (3, .iload 4, 2), (5, .invokevirtual 233, 3), (8, .lmul, 1), (9, .aload_n 0, 1), (10, .getfield 16, 3), (13, .iconst 4, 1), (14, .iload_n 3, 1), (15, .imul, 1), (16, .iload 5, 2), (18, .iadd, 1), (19, .iaload, 1), (20, .iload 6, 2), (22, .if_icmp .lt 15, 3), (25, .aload_n 0, 1), (26, .getfield 13, 3), (29, .i2l, 1), (30, .iload 7, 2), (32, .i2l, 1), (33, .lmul, 1), (34, .goto 4, 3), (37, .lconst 0, 1), (38, .ladd, 1), (39, .lreturn, 1)]
theorem dk_M_withGift : zw_dk b_M_withGift dl_M_withGift = true := by decide +kernel
theorem ce_M_withGift : zw_cev y_M_withGift b_M_withGift 8 (some .long) 6 := ⟨⟨kt_in 1846 (by decide +kernel) rfl, kt_in 98 (by decide +kernel) rfl, by decide +kernel⟩, kt_in 1845 (by decide +kernel) rfl, kt_in 69 (by decide +kernel) rfl⟩
def fn_M_withGift (c : zw_Ct) (times1 : Int64) (s2 : Int32) (t3 : Int32) (e4 : Int32) (least5 : Int32) (gift6 : Int32) : Option Int64 :=
  (fn_M_worth c s2 t3).bind fun r7 =>
  (zw_aI 1820 c 72 ((4 * s2) + e4)).bind fun x8 =>
  some ((times1 * r7) + (if (least5 ≤ x8) then ((((c.1 71 1)).toInt64 * gift6.toInt64) : Int64) else 0))
set_option maxRecDepth 100000 in
theorem km_M_withGift {l : Launch} {g : zw_G} {rr : zw_RR} {sh : zw_Sh} {c : zw_Ct} {times1 : Int64} {s2 : Int32} {t3 : Int32} {e4 : Int32} {least5 : Int32} {gift6 : Int32} {r : Int64} (hS : zw_Ok 0 101 sh rr) (hsem : fn_M_withGift c times1 s2 t3 e4 least5 gift6 = some r) : zw_Met l g y_M_withGift b_M_withGift 8 (some .long) 2 rr sh [.ref 71, .long times1, .int s2, .int t3, .int e4, .int least5, .int gift6] c (some (.long r)) c := by
  unfold fn_M_withGift at hsem
  refine zw_Met.of (by decide +kernel) (Nat.le_of_ble_eq_true rfl) (fun p e s m args below meth cd X => ?_)
  refine zw_eL (L2 := [some (.ref 71), some (.long times1), none, some (.int s2), some (.int t3), some (.int e4), some (.int least5), some (.int gift6)]) rfl ?_
  refine r_lload_n X (pc := 0) (i := 1) (zw_dg dk_M_withGift 0 rfl) rfl rfl ?_
  refine r_aload_n X (pc := 1) (i := 0) (zw_dg dk_M_withGift 1 rfl) rfl rfl ?_
  refine r_iload_n X (pc := 2) (i := 3) (zw_dg dk_M_withGift 2 rfl) rfl rfl ?_
  refine r_iload X (pc := 3) (i := 4) (zw_dg dk_M_withGift 3 rfl) rfl ?_
  obtain ⟨r7, hr7, hsem⟩ := zw_bd hsem
  refine r_callVl X (pc := 5) (As := [_, _]) (st := [.long times1]) (km_M_worth hS hr7) ce_M_worth kw_1712 (zo hS 71 rfl rfl) rfl rfl ⟨Nat.le_of_ble_eq_true rfl, Nat.le_of_ble_eq_true rfl⟩ (Nat.le_of_ble_eq_true rfl) (zw_dg dk_M_withGift 4 rfl) ?_
  refine r_lmul X (pc := 8) (zw_dg dk_M_withGift 5 rfl)  ?_
  refine r_aload_n X (pc := 9) (i := 0) (zw_dg dk_M_withGift 6 rfl) rfl rfl ?_
  refine r_getR X (pc := 10) (r := 72) ci_M (zo hS 71 rfl rfl) rfl (zr hS 71 3 rfl rfl) lk_M_16 (zw_dg dk_M_withGift 7 rfl) ?_
  refine r_iconst X (pc := 13) (v := 4) (zw_dg dk_M_withGift 8 rfl) (by decide) ?_
  refine r_iload_n X (pc := 14) (i := 3) (zw_dg dk_M_withGift 9 rfl) rfl rfl ?_
  refine r_imul X (pc := 15) (zw_dg dk_M_withGift 10 rfl)  ?_
  refine r_iload X (pc := 16) (i := 5) (zw_dg dk_M_withGift 11 rfl) rfl ?_
  refine r_iadd X (pc := 18) (zw_dg dk_M_withGift 12 rfl)  ?_
  obtain ⟨x8, hx8, hsem⟩ := zw_bd hsem
  refine r_iald X (pc := 19) (zo hS 72 rfl rfl) hx8 (zw_dg dk_M_withGift 13 rfl) ?_
  refine r_iload X (pc := 20) (i := 6) (zw_dg dk_M_withGift 14 rfl) rfl ?_
  refine zw_ter (P := (least5 ≤ x8)) (f := Value.long) (x := (((c.1 71 1)).toInt64 * gift6.toInt64)) (y := 0) (J := 38) (st2 := [.long (times1 * r7)]) (fun jT jF => ?_) ?_
  · --
    refine r_icmp_lt X (pc := 22) (tgt := 37) (zw_dg dk_M_withGift 15 rfl) (by decide) (fun q9 => ?_) (fun q9 => ?_)
    · --
      refine r_lconst X (pc := 37) (v := 0) (zw_dg dk_M_withGift 23 rfl) (by decide) ?_
      exact jF (Int32.not_le.mpr q9)
    · --
      refine r_aload_n X (pc := 25) (i := 0) (zw_dg dk_M_withGift 16 rfl) rfl rfl ?_
      refine r_getI X (pc := 26) ci_M (zo hS 71 rfl rfl) rfl lk_M_13 (zw_dg dk_M_withGift 17 rfl) ?_
      refine r_i2l X (pc := 29) (zw_dg dk_M_withGift 18 rfl)  ?_
      refine r_iload X (pc := 30) (i := 7) (zw_dg dk_M_withGift 19 rfl) rfl ?_
      refine r_i2l X (pc := 32) (zw_dg dk_M_withGift 20 rfl)  ?_
      refine r_lmul X (pc := 33) (zw_dg dk_M_withGift 21 rfl)  ?_
      refine r_goto X (pc := 34) (tgt := 38) (zw_dg dk_M_withGift 22 rfl) (by decide) ?_
      exact jT (Int32.not_lt.mp q9)
  refine r_ladd X (pc := 38) (zw_dg dk_M_withGift 24 rfl)  ?_
  cases hsem
  exact r_lret X (pc := 39) rfl (zw_dg dk_M_withGift 25 rfl)
def y_M_bribe : MethodName := ⟨R_M, "bribe", "(IIIII)I"⟩
abbrev b_M_bribe : ByteArray := prog_14_method_64_code
def dl_M_bribe : List (Nat × Instr × Nat) := [(0, .aload_n 0, 1), (1, .iconst 0, 1), (2, .putfield 97, 3), (5, .aload_n 0, 1), (6, .iload_n 1, 1), (7, .invokevirtual 222, 3), (10, .ifCond .eq 45, 3), (13, .aload_n 0, 1), (14, .iload_n 2, 1), (15, .invokevirtual 142, 3), (18, .ifCond .eq 37, 3), (21, .aload_n 0, 1), (22, .iload_n 3, 1), (23, .invokevirtual 146, 3), (26, .ifCond .eq 29, 3), (29, .iload 4, 2), (31, .i2l, 1), (32, .lconst 0, 1), (33, .ldc2_w 128, 3), (36, .invokestatic 120, 3), (39, .ifCond .eq 16, 3), (42, .iload 5, 2), (44, .i2l, 1), (45, .lconst 0, 1), (46, .ldc2_w 155, 3), (49, .invokestatic 120, 3), (52, .ifCond .ne 5, 3), (55, .iconst (-1), 1), (56, .ireturn, 1), (57, .aload_n 0, 1), (58, .iload_n 1, 1), (59, .invokevirtual 229, 3), (62, .iconst 0, 1), (63, .istore 6, 2), (65, .iconst 1, 1), (66, .istore 7, 2), (68, .iload 7, 2), (70, .aload_n 0, 1), (71, .getfield 113, 3), (74, .if_icmp .ge 43, 3), (77, .aload_n 0, 1), (78, .lconst 1, 1), (79, .iload 7, 2), (81, .iload_n 2, 1), (82, .iload_n 3, 1), (83, .iload 4, 2), (85, .iload 5, 2), (87, .invokevirtual 292, 3), (90, .aload_n 0, 1), (91, .lconst 1, 1), (92, .iload 6, 2), (94, .iload_n 2, 1), (95, .iload_n 3, 1), (96, .iload 4, 2), (98, .iload 5, 2), (100, .invokevirtual 292, 3), (103, .lcmp, 1), (104, .ifCond .le 7, 3), (107, .iload 7, 2), (109, .istore 6, 2), (111, .iinc 7 1, 3), (114, .goto (-46), 3), (117, .lconst 1, 1), (118, .lstore 7, 2), (120, .ldc2_w 155, 3), (123, .lstore 9, 2), (125, .iconst 0, 1), (126, .istore 11, 2), (128, .iload 11, 2), (130, .aload_n 0, 1), (131, .getfield 113, 3), (134, .if_icmp .ge 146, 3), (137, .aload_n 0, 1), (138, .iload_n 2, 1), (139, .iload_n 2, 1), (140, .invokevirtual 233, 3), (143, .aload_n 0, 1), (144, .iload 11, 2), (146, .iload_n 2, 1), (147, .invokevirtual 233, 3), (150, .lsub, 1), (151, .lstore 12, 2), (153, .aload_n 0, 1), (154, .lconst 0, 1), (155, .iload 11, 2), (157, .iload_n 2, 1), (158, .iload_n 3, 1), (159, .iload 4, 2), (161, .iload 5, 2), (163, .invokevirtual 292, 3), (166, .aload_n 0, 1), (167, .lconst 0, 1), (168, .iload_n 2, 1), (169, .iload_n 2, 1), (170, .iload_n 3, 1), (171, .iload 4, 2), (173, .iload 5, 2), (175, .invokevirtual 292, 3), (178, .lsub, 1), (179, .lstore 14, 2), (181, .lload 12, 2), (183, .lconst 0, 1), (184, .lcmp, 1), (185, .ifCond .ne 13, 3), (188, .lload 14, 2), (190, .lconst 0, 1), (191, .lcmp, 1), (192, .ifCond .le 6, 3), (195, .lconst 0, 1), (196, .lstore 9, 2), (198, .lload 12, 2), (200, .lconst 0, 1), (201, .lcmp, 1), (202, .ifCond .le 27, 3), (205, .lload 14, 2), (207, .lconst 0, 1), (208, .lcmp, 1), (209, .ifCond .le 20, 3), (212, .lload 7, 2), (214, .lload 14, 2), (216, .lload 12, 2), (218, .ladd, 1), (219, .lconst 1, 1), (220, .lsub, 1), (221, .lload 12, 2), (223, .ldiv, 1), (224, .invokestatic 237, 3), (227, .lstore 7, 2), (229, .lload 12, 2), (231, .lconst 0, 1), (232, .lcmp, 1), (233, .ifCond .ge 13, 3), (236, .lload 14, 2), (238, .lconst 0, 1), (239, .lcmp, 1), (240, .ifCond .le 6, 3), (243, .lconst 0, 1), (244, .lstore 9, 2), (246, .lload 12, 2), (248, .lconst 0, 1), (249, .lcmp, 1), (250, .ifCond .ge 24, 3), (253, .lload 14, 2), (255, .lconst 0, 1), (256, .lcmp, 1), (257, .ifCond .gt 17, 3), (260, .lload 9, 2), (262, .lload 14, 2), (264, .lneg, 1), (265, .lload 12, 2), (267, .lneg, 1), (268, .ldiv, 1), (269, .invokestatic 290, 3), (272, .lstore 9, 2), (274, .iinc 11 1, 3), (277, .goto (-149), 3), (280, .aload_n 0, 1), (281, .iconst 0, 1), (282, .putfield 100, 3), (285, .aload_n 0, 1), (286, .lload 7, 2), (288, .lload 9, 2), (290, .lcmp, 1), (291, .ifCond .gt 8, 3), (294, .lload 7, 2), (296, .goto 6, 3), (299, .ldc2_w 296, 3), (302, .invokevirtual 109, 3), (305, .iload 6, 2), (307, .ireturn, 1)]
theorem dk_M_bribe : zw_dk b_M_bribe dl_M_bribe = true := by decide +kernel
theorem ce_M_bribe : zw_cev y_M_bribe b_M_bribe 16 (some .int) 5 := ⟨⟨kt_in 1842 (by decide +kernel) rfl, kt_in 98 (by decide +kernel) rfl, by decide +kernel⟩, kt_in 1840 (by decide +kernel) rfl, kt_in 1841 (by decide +kernel) rfl⟩
def fn_M_bribe_l1 (c14 : zw_Ct) (t2 : Int32) (e3 : Int32) (least4 : Int32) (gift5 : Int32) : Int32 × Int32 → Option ((Int32) ⊕ (Int32 × Int32)) := fun (best15, s16) =>
  if (s16 < (c14.1 71 2)) then
  ((fn_M_withGift c14 1 s16 t2 e3 least4 gift5).bind fun r21 =>
  (fn_M_withGift c14 1 best15 t2 e3 least4 gift5).bind fun r22 =>
  (if (r22 < r21) then
  (some (s16 : Int32))
  else
  (some (best15 : Int32))).bind fun best23 =>
  some (.inr (best23, (s16 + 1))))
  else
  (some (.inl best15))
def fn_M_bribe_l2 (c14 : zw_Ct) (t2 : Int32) (e3 : Int32) (least4 : Int32) (gift5 : Int32) : Int64 × Int64 × Int32 → Option ((Int64 × Int64) ⊕ (Int64 × Int64 × Int32)) := fun (to26, from27, s28) =>
  if (s28 < (c14.1 71 2)) then
  ((fn_M_worth c14 t2 t2).bind fun r34 =>
  (fn_M_worth c14 s28 t2).bind fun r35 =>
  (some ((r34 - r35) : Int64)).bind fun more36 =>
  (fn_M_withGift c14 0 s28 t2 e3 least4 gift5).bind fun r37 =>
  (fn_M_withGift c14 0 t2 t2 e3 least4 gift5).bind fun r38 =>
  (some ((r37 - r38) : Int64)).bind fun due39 =>
  (if ((more36 = 0) ∧ (0 < due39)) then
  (some (0 : Int64))
  else
  (some (to26 : Int64))).bind fun to40 =>
  (if ((0 < more36) ∧ (0 < due39)) then
  ((zw_dvL ((due39 + more36) - 1) more36).bind fun d48 =>
  (some ((if d48 < from27 then from27 else d48) : Int64)).bind fun from49 =>
  some (from49 : Int64))
  else
  (some (from27 : Int64))).bind fun from44 =>
  (if ((more36 < 0) ∧ (0 < due39)) then
  (some (0 : Int64))
  else
  (some (to40 : Int64))).bind fun to50 =>
  (if ((more36 < 0) ∧ (due39 ≤ 0)) then
  ((zw_dvL (-due39) (-more36)).bind fun d58 =>
  (some ((if d58 < to50 then d58 else to50) : Int64)).bind fun to59 =>
  some (to59 : Int64))
  else
  (some (to50 : Int64))).bind fun to54 =>
  some (.inr (to54, from44, (s28 + 1))))
  else
  (some (.inl (to26, from27)))
def fn_M_bribe (c : zw_Ct) (p1 : Int32) (t2 : Int32) (e3 : Int32) (least4 : Int32) (gift5 : Int32) : Option (Int32 × zw_Ct) :=
  (some (zw_wI c 71 9 0)).bind fun c6 =>
  (fn_M_isPay c6 p1).bind fun r7 =>
  if (((((¬ (¬ r7 = 0)) ∨ (¬ (¬ (fn_M_isSaying c6 t2) = 0))) ∨ (¬ (¬ (fn_M_isEvent c6 e3) = 0))) ∨ (¬ (¬ (fn_M_in least4.toInt64 0 12) = 0))) ∨ (¬ (¬ (fn_M_in gift5.toInt64 0 9999) = 0))) then
  (some ((-1), c6))
  else
  ((fn_M_layPay c6 p1).bind fun c14 =>
  (zw_whl (fn_M_bribe_l1 c14 t2 e3 least4 gift5) zw_F (0, 1)).bind fun best17 =>
  (zw_whl (fn_M_bribe_l2 c14 t2 e3 least4 gift5) zw_F (9999, 1, 0)).bind fun (to29, from30) =>
  (some (zw_wI c14 71 8 0)).bind fun c60 =>
  (fn_M_tell c60 (if (from30 ≤ to29) then (from30 : Int64) else (-1))).bind fun c62 =>
  some (best17, c62))
set_option maxRecDepth 100000 in
theorem km_M_bribe {l : Launch} {g : zw_G} {rr : zw_RR} {sh : zw_Sh} {c : zw_Ct} {p1 : Int32} {t2 : Int32} {e3 : Int32} {least4 : Int32} {gift5 : Int32} {r : Int32} {c2 : zw_Ct} (hS : zw_Ok 0 101 sh rr) (hsem : fn_M_bribe c p1 t2 e3 least4 gift5 = some (r, c2)) : zw_Met l g y_M_bribe b_M_bribe 16 (some .int) 107 rr sh [.ref 71, .int p1, .int t2, .int e3, .int least4, .int gift5] c (some (.int r)) c2 := by
  unfold fn_M_bribe at hsem
  refine zw_Met.of (by decide +kernel) (Nat.le_of_ble_eq_true rfl) (fun p e s m args below meth cd X => ?_)
  refine zw_eL (L2 := [some (.ref 71), some (.int p1), some (.int t2), some (.int e3), some (.int least4), some (.int gift5), none, none, none, none, none, none, none, none, none, none]) rfl ?_
  refine r_aload_n X (pc := 0) (i := 0) (zw_dg dk_M_bribe 0 rfl) rfl rfl ?_
  refine r_iconst X (pc := 1) (v := 0) (zw_dg dk_M_bribe 1 rfl) (by decide) ?_
  refine r_putI X (pc := 2) ci_M (zo hS 71 rfl rfl) rfl lk_M_97 rfl ⟨rfl, rfl⟩ (zw_dg dk_M_bribe 2 rfl) ?_
  obtain ⟨c6, hc6, hsem⟩ := zw_bd hsem
  refine zw_topC hc6 ?_
  refine r_aload_n X (pc := 5) (i := 0) (zw_dg dk_M_bribe 3 rfl) rfl rfl ?_
  refine r_iload_n X (pc := 6) (i := 1) (zw_dg dk_M_bribe 4 rfl) rfl rfl ?_
  obtain ⟨r7, hr7, hsem⟩ := zw_bd hsem
  refine r_callVi X (pc := 7) (As := [_]) (st := []) (km_M_isPay hS hr7) ce_M_isPay kw_1688 (zo hS 71 rfl rfl) rfl rfl ⟨Nat.le_of_ble_eq_true rfl, Nat.le_of_ble_eq_true rfl⟩ (Nat.le_of_ble_eq_true rfl) (zw_dg dk_M_bribe 5 rfl) ?_
  refine zw_cnd (P := (((((¬ (¬ r7 = 0)) ∨ (¬ (¬ (fn_M_isSaying c6 t2) = 0))) ∨ (¬ (¬ (fn_M_isEvent c6 e3) = 0))) ∨ (¬ (¬ (fn_M_in least4.toInt64 0 12) = 0))) ∨ (¬ (¬ (fn_M_in gift5.toInt64 0 9999) = 0)))) (J1 := 55) (J2 := 57) (st2 := []) (fun jT jF => ?_) (fun p8 => ?_) (fun p8 => ?_)
  · --
    refine r_if_eq X (pc := 10) (tgt := 55) (zw_dg dk_M_bribe 6 rfl) (by decide) (fun q9 => ?_) (fun q9 => ?_)
    · --
      exact jT (Or.inl (Or.inl (Or.inl (Or.inl (fun z => z q9)))))
    · --
      refine r_aload_n X (pc := 13) (i := 0) (zw_dg dk_M_bribe 7 rfl) rfl rfl ?_
      refine r_iload_n X (pc := 14) (i := 2) (zw_dg dk_M_bribe 8 rfl) rfl rfl ?_
      refine r_callVi X (pc := 15) (As := [_]) (st := []) (km_M_isSaying hS rfl) ce_M_isSaying kw_1609 (zo hS 71 rfl rfl) rfl rfl ⟨Nat.le_of_ble_eq_true rfl, Nat.le_of_ble_eq_true rfl⟩ (Nat.le_of_ble_eq_true rfl) (zw_dg dk_M_bribe 9 rfl) ?_
      refine r_if_eq X (pc := 18) (tgt := 55) (zw_dg dk_M_bribe 10 rfl) (by decide) (fun q10 => ?_) (fun q10 => ?_)
      · --
        exact jT (Or.inl (Or.inl (Or.inl (Or.inr (fun z => z q10)))))
      · --
        refine r_aload_n X (pc := 21) (i := 0) (zw_dg dk_M_bribe 11 rfl) rfl rfl ?_
        refine r_iload_n X (pc := 22) (i := 3) (zw_dg dk_M_bribe 12 rfl) rfl rfl ?_
        refine r_callVi X (pc := 23) (As := [_]) (st := []) (km_M_isEvent hS rfl) ce_M_isEvent kw_1613 (zo hS 71 rfl rfl) rfl rfl ⟨Nat.le_of_ble_eq_true rfl, Nat.le_of_ble_eq_true rfl⟩ (Nat.le_of_ble_eq_true rfl) (zw_dg dk_M_bribe 13 rfl) ?_
        refine r_if_eq X (pc := 26) (tgt := 55) (zw_dg dk_M_bribe 14 rfl) (by decide) (fun q11 => ?_) (fun q11 => ?_)
        · --
          exact jT (Or.inl (Or.inl (Or.inr (fun z => z q11))))
        · --
          refine r_iload X (pc := 29) (i := 4) (zw_dg dk_M_bribe 15 rfl) rfl ?_
          refine r_i2l X (pc := 31) (zw_dg dk_M_bribe 16 rfl)  ?_
          refine r_lconst X (pc := 32) (v := 0) (zw_dg dk_M_bribe 17 rfl) (by decide) ?_
          refine r_ldc2 X (pc := 33) (v := 12) kw_1600 (zw_dg dk_M_bribe 18 rfl) ?_
          refine r_callSi X (pc := 36) (As := [_, _, _]) (st := []) (km_M_in hS rfl) ce_M_in kw_1597 rfl ⟨Nat.le_of_ble_eq_true rfl, Nat.le_of_ble_eq_true rfl⟩ (Nat.le_of_ble_eq_true rfl) (zw_dg dk_M_bribe 19 rfl) ?_
          refine r_if_eq X (pc := 39) (tgt := 55) (zw_dg dk_M_bribe 20 rfl) (by decide) (fun q12 => ?_) (fun q12 => ?_)
          · --
            exact jT (Or.inl (Or.inr (fun z => z q12)))
          · --
            refine r_iload X (pc := 42) (i := 5) (zw_dg dk_M_bribe 21 rfl) rfl ?_
            refine r_i2l X (pc := 44) (zw_dg dk_M_bribe 22 rfl)  ?_
            refine r_lconst X (pc := 45) (v := 0) (zw_dg dk_M_bribe 23 rfl) (by decide) ?_
            refine r_ldc2 X (pc := 46) (v := 9999) kw_1626 (zw_dg dk_M_bribe 24 rfl) ?_
            refine r_callSi X (pc := 49) (As := [_, _, _]) (st := []) (km_M_in hS rfl) ce_M_in kw_1597 rfl ⟨Nat.le_of_ble_eq_true rfl, Nat.le_of_ble_eq_true rfl⟩ (Nat.le_of_ble_eq_true rfl) (zw_dg dk_M_bribe 25 rfl) ?_
            refine r_if_ne X (pc := 52) (tgt := 57) (zw_dg dk_M_bribe 26 rfl) (by decide) (fun q13 => ?_) (fun q13 => ?_)
            · --
              exact jF (fun q => q.elim (fun q => q.elim (fun q => q.elim (fun q => q.elim (fun q => q q9) (fun q => q q10)) (fun q => q q11)) (fun q => q q12)) (fun q => q q13))
            · --
              exact jT (Or.inr (fun z => z q13))
  · --
    have hsem := zw_ifp p8 hsem
    refine r_iconst X (pc := 55) (v := (-1)) (zw_dg dk_M_bribe 27 rfl) (by decide) ?_
    obtain ⟨rfl, rfl⟩ := zw_in2 hsem
    exact r_iret X (pc := 56) rfl (zw_dg dk_M_bribe 28 rfl)
  · --
    have hsem := zw_ifn p8 hsem
    refine r_aload_n X (pc := 57) (i := 0) (zw_dg dk_M_bribe 29 rfl) rfl rfl ?_
    refine r_iload_n X (pc := 58) (i := 1) (zw_dg dk_M_bribe 30 rfl) rfl rfl ?_
    obtain ⟨c14, hc14, hsem⟩ := zw_bd hsem
    refine r_callVv X (pc := 59) (As := [_]) (st := []) (km_M_layPay hS hc14) ce_M_layPay kw_1700 (zo hS 71 rfl rfl) rfl rfl ⟨Nat.le_of_ble_eq_true rfl, Nat.le_of_ble_eq_true rfl⟩ (Nat.le_of_ble_eq_true rfl) (zw_dg dk_M_bribe 31 rfl) ?_
    refine r_iconst X (pc := 62) (v := 0) (zw_dg dk_M_bribe 32 rfl) (by decide) ?_
    refine r_istore X (pc := 63) (i := 6) (zw_dg dk_M_bribe 33 rfl) (by decide) rfl ?_
    refine r_iconst X (pc := 65) (v := 1) (zw_dg dk_M_bribe 34 rfl) (by decide) ?_
    refine r_istore X (pc := 66) (i := 7) (zw_dg dk_M_bribe 35 rfl) (by decide) rfl ?_
    obtain ⟨best17, hl18, hsl18⟩ := zw_bd hsem
    refine r_loop (pc := 68) (pce := 117) hl18 (fun (best15, s16) => [some (.ref 71), some (.int p1), some (.int t2), some (.int e3), some (.int least4), some (.int gift5), some (.int best15), some (.int s16), none, none, none, none, none, none, none, none] : Int32 × Int32 → zw_Lc) (fun (best15, s16) => c14 : Int32 × Int32 → zw_Ct) (fun best17 => [some (.ref 71), some (.int p1), some (.int t2), some (.int e3), some (.int least4), some (.int gift5), some (.int best17), none, none, none, none, none, none, none, none, none] : Int32 → zw_Lc) (fun best17 => c14 : Int32 → zw_Ct) ?_ rfl rfl ?_
    · rintro ⟨best15, s16⟩ rr hsem hK hP
      try unfold fn_M_bribe_l1 at hsem
      refine r_iload X (pc := 68) (i := 7) (zw_dg dk_M_bribe 36 rfl) rfl ?_
      refine r_aload_n X (pc := 70) (i := 0) (zw_dg dk_M_bribe 37 rfl) rfl rfl ?_
      refine r_getI X (pc := 71) ci_M (zo hS 71 rfl rfl) rfl lk_M_113 (zw_dg dk_M_bribe 38 rfl) ?_
      refine r_icmp_ge X (pc := 74) (tgt := 117) (zw_dg dk_M_bribe 39 rfl) (by decide) (fun q20 => ?_) (fun q20 => ?_)
      · --
        have p19 : ¬ (s16 < (c14.1 71 2)) := (Int32.not_lt.mpr q20)
        have hsem := zw_ifn p19 hsem
        have jj := hK _ (Option.some.inj hsem).symm
        exact (r_fgt [7] rfl jj)
      · --
        have p19 : (s16 < (c14.1 71 2)) := (Int32.not_le.mp q20)
        have hsem := zw_ifp p19 hsem
        refine r_aload_n X (pc := 77) (i := 0) (zw_dg dk_M_bribe 40 rfl) rfl rfl ?_
        refine r_lconst X (pc := 78) (v := 1) (zw_dg dk_M_bribe 41 rfl) (by decide) ?_
        refine r_iload X (pc := 79) (i := 7) (zw_dg dk_M_bribe 42 rfl) rfl ?_
        refine r_iload_n X (pc := 81) (i := 2) (zw_dg dk_M_bribe 43 rfl) rfl rfl ?_
        refine r_iload_n X (pc := 82) (i := 3) (zw_dg dk_M_bribe 44 rfl) rfl rfl ?_
        refine r_iload X (pc := 83) (i := 4) (zw_dg dk_M_bribe 45 rfl) rfl ?_
        refine r_iload X (pc := 85) (i := 5) (zw_dg dk_M_bribe 46 rfl) rfl ?_
        obtain ⟨r21, hr21, hsem⟩ := zw_bd hsem
        refine r_callVl X (pc := 87) (As := [_, _, _, _, _, _]) (st := []) (km_M_withGift hS hr21) ce_M_withGift kw_1843 (zo hS 71 rfl rfl) rfl rfl ⟨Nat.le_of_ble_eq_true rfl, Nat.le_of_ble_eq_true rfl⟩ (Nat.le_of_ble_eq_true rfl) (zw_dg dk_M_bribe 47 rfl) ?_
        refine r_aload_n X (pc := 90) (i := 0) (zw_dg dk_M_bribe 48 rfl) rfl rfl ?_
        refine r_lconst X (pc := 91) (v := 1) (zw_dg dk_M_bribe 49 rfl) (by decide) ?_
        refine r_iload X (pc := 92) (i := 6) (zw_dg dk_M_bribe 50 rfl) rfl ?_
        refine r_iload_n X (pc := 94) (i := 2) (zw_dg dk_M_bribe 51 rfl) rfl rfl ?_
        refine r_iload_n X (pc := 95) (i := 3) (zw_dg dk_M_bribe 52 rfl) rfl rfl ?_
        refine r_iload X (pc := 96) (i := 4) (zw_dg dk_M_bribe 53 rfl) rfl ?_
        refine r_iload X (pc := 98) (i := 5) (zw_dg dk_M_bribe 54 rfl) rfl ?_
        obtain ⟨r22, hr22, hsem⟩ := zw_bd hsem
        refine r_callVl X (pc := 100) (As := [_, _, _, _, _, _]) (st := [.long r21]) (km_M_withGift hS hr22) ce_M_withGift kw_1843 (zo hS 71 rfl rfl) rfl rfl ⟨Nat.le_of_ble_eq_true rfl, Nat.le_of_ble_eq_true rfl⟩ (Nat.le_of_ble_eq_true rfl) (zw_dg dk_M_bribe 55 rfl) ?_
        obtain ⟨best23, ht111, hs111⟩ := zw_bd hsem
        refine zw_jn (J := 111) (L2 := [some (.ref 71), some (.int p1), some (.int t2), some (.int e3), some (.int least4), some (.int gift5), some (.int best23), some (.int s16), none, none, none, none, none, none, none, none]) (c2 := c14) (fun jj => ?_) ?_
        · have hsem := ht111
          refine r_lcmp_le X (pc := 103) (tgt := 111) (zw_dg dk_M_bribe 56 rfl) (zw_dg dk_M_bribe 57 rfl) (by decide) (fun q25 => ?_) (fun q25 => ?_)
          · --
            have p24 : ¬ (r22 < r21) := (Int64.not_lt.mpr q25)
            have hsem := zw_ifn p24 hsem
            cases hsem
            exact (r_fgt [] rfl jj)
          · --
            have p24 : (r22 < r21) := (Int64.not_le.mp q25)
            have hsem := zw_ifp p24 hsem
            refine r_iload X (pc := 107) (i := 7) (zw_dg dk_M_bribe 58 rfl) rfl ?_
            refine r_istore X (pc := 109) (i := 6) (zw_dg dk_M_bribe 59 rfl) (by decide) rfl ?_
            cases hsem
            exact (r_fgt [] rfl jj)
        have hsem := hs111
        refine r_iinc X (pc := 111) (i := 7) (k := 1) (zw_dg dk_M_bribe 60 rfl) rfl (by decide) (by decide) rfl ?_
        refine r_goto X (pc := 114) (tgt := 68) (zw_dg dk_M_bribe 61 rfl) (by decide) ?_
        have jj := hP _ (Option.some.inj hsem).symm
        exact (r_fgt [] rfl jj)
    have hsem := hsl18
    refine r_lconst X (pc := 117) (v := 1) (zw_dg dk_M_bribe 62 rfl) (by decide) ?_
    refine r_lstore X (pc := 118) (i := 7) (L2 := [some (.ref 71), some (.int p1), some (.int t2), some (.int e3), some (.int least4), some (.int gift5), some (.int best17), some (.long 1), none, none, none, none, none, none, none, none]) (zw_dg dk_M_bribe 63 rfl) (by decide) rfl ?_
    refine r_ldc2 X (pc := 120) (v := 9999) kw_1626 (zw_dg dk_M_bribe 64 rfl) ?_
    refine r_lstore X (pc := 123) (i := 9) (L2 := [some (.ref 71), some (.int p1), some (.int t2), some (.int e3), some (.int least4), some (.int gift5), some (.int best17), some (.long 1), none, some (.long 9999), none, none, none, none, none, none]) (zw_dg dk_M_bribe 65 rfl) (by decide) rfl ?_
    refine r_iconst X (pc := 125) (v := 0) (zw_dg dk_M_bribe 66 rfl) (by decide) ?_
    refine r_istore X (pc := 126) (i := 11) (zw_dg dk_M_bribe 67 rfl) (by decide) rfl ?_
    obtain ⟨l31, hl31, hsl31⟩ := zw_bd hsem
    refine r_loop (pc := 128) (pce := 280) hl31 (fun (to26, from27, s28) => [some (.ref 71), some (.int p1), some (.int t2), some (.int e3), some (.int least4), some (.int gift5), some (.int best17), some (.long from27), none, some (.long to26), none, some (.int s28), none, none, none, none] : Int64 × Int64 × Int32 → zw_Lc) (fun (to26, from27, s28) => c14 : Int64 × Int64 × Int32 → zw_Ct) (fun (to29, from30) => [some (.ref 71), some (.int p1), some (.int t2), some (.int e3), some (.int least4), some (.int gift5), some (.int best17), some (.long from30), none, some (.long to29), none, none, none, none, none, none] : Int64 × Int64 → zw_Lc) (fun (to29, from30) => c14 : Int64 × Int64 → zw_Ct) ?_ rfl rfl ?_
    · rintro ⟨to26, from27, s28⟩ rr hsem hK hP
      try unfold fn_M_bribe_l2 at hsem
      refine r_iload X (pc := 128) (i := 11) (zw_dg dk_M_bribe 68 rfl) rfl ?_
      refine r_aload_n X (pc := 130) (i := 0) (zw_dg dk_M_bribe 69 rfl) rfl rfl ?_
      refine r_getI X (pc := 131) ci_M (zo hS 71 rfl rfl) rfl lk_M_113 (zw_dg dk_M_bribe 70 rfl) ?_
      refine r_icmp_ge X (pc := 134) (tgt := 280) (zw_dg dk_M_bribe 71 rfl) (by decide) (fun q33 => ?_) (fun q33 => ?_)
      · --
        have p32 : ¬ (s28 < (c14.1 71 2)) := (Int32.not_lt.mpr q33)
        have hsem := zw_ifn p32 hsem
        have jj := hK _ (Option.some.inj hsem).symm
        exact (r_fgt [11] rfl jj)
      · --
        have p32 : (s28 < (c14.1 71 2)) := (Int32.not_le.mp q33)
        have hsem := zw_ifp p32 hsem
        refine r_aload_n X (pc := 137) (i := 0) (zw_dg dk_M_bribe 72 rfl) rfl rfl ?_
        refine r_iload_n X (pc := 138) (i := 2) (zw_dg dk_M_bribe 73 rfl) rfl rfl ?_
        refine r_iload_n X (pc := 139) (i := 2) (zw_dg dk_M_bribe 74 rfl) rfl rfl ?_
        obtain ⟨r34, hr34, hsem⟩ := zw_bd hsem
        refine r_callVl X (pc := 140) (As := [_, _]) (st := []) (km_M_worth hS hr34) ce_M_worth kw_1712 (zo hS 71 rfl rfl) rfl rfl ⟨Nat.le_of_ble_eq_true rfl, Nat.le_of_ble_eq_true rfl⟩ (Nat.le_of_ble_eq_true rfl) (zw_dg dk_M_bribe 75 rfl) ?_
        refine r_aload_n X (pc := 143) (i := 0) (zw_dg dk_M_bribe 76 rfl) rfl rfl ?_
        refine r_iload X (pc := 144) (i := 11) (zw_dg dk_M_bribe 77 rfl) rfl ?_
        refine r_iload_n X (pc := 146) (i := 2) (zw_dg dk_M_bribe 78 rfl) rfl rfl ?_
        obtain ⟨r35, hr35, hsem⟩ := zw_bd hsem
        refine r_callVl X (pc := 147) (As := [_, _]) (st := [.long r34]) (km_M_worth hS hr35) ce_M_worth kw_1712 (zo hS 71 rfl rfl) rfl rfl ⟨Nat.le_of_ble_eq_true rfl, Nat.le_of_ble_eq_true rfl⟩ (Nat.le_of_ble_eq_true rfl) (zw_dg dk_M_bribe 79 rfl) ?_
        refine r_lsub X (pc := 150) (zw_dg dk_M_bribe 80 rfl)  ?_
        obtain ⟨more36, hmore36, hsem⟩ := zw_bd hsem
        refine zw_topJ hmore36 ?_
        refine r_lstore X (pc := 151) (i := 12) (L2 := [some (.ref 71), some (.int p1), some (.int t2), some (.int e3), some (.int least4), some (.int gift5), some (.int best17), some (.long from27), none, some (.long to26), none, some (.int s28), some (.long more36), none, none, none]) (zw_dg dk_M_bribe 81 rfl) (by decide) rfl ?_
        refine r_aload_n X (pc := 153) (i := 0) (zw_dg dk_M_bribe 82 rfl) rfl rfl ?_
        refine r_lconst X (pc := 154) (v := 0) (zw_dg dk_M_bribe 83 rfl) (by decide) ?_
        refine r_iload X (pc := 155) (i := 11) (zw_dg dk_M_bribe 84 rfl) rfl ?_
        refine r_iload_n X (pc := 157) (i := 2) (zw_dg dk_M_bribe 85 rfl) rfl rfl ?_
        refine r_iload_n X (pc := 158) (i := 3) (zw_dg dk_M_bribe 86 rfl) rfl rfl ?_
        refine r_iload X (pc := 159) (i := 4) (zw_dg dk_M_bribe 87 rfl) rfl ?_
        refine r_iload X (pc := 161) (i := 5) (zw_dg dk_M_bribe 88 rfl) rfl ?_
        obtain ⟨r37, hr37, hsem⟩ := zw_bd hsem
        refine r_callVl X (pc := 163) (As := [_, _, _, _, _, _]) (st := []) (km_M_withGift hS hr37) ce_M_withGift kw_1843 (zo hS 71 rfl rfl) rfl rfl ⟨Nat.le_of_ble_eq_true rfl, Nat.le_of_ble_eq_true rfl⟩ (Nat.le_of_ble_eq_true rfl) (zw_dg dk_M_bribe 89 rfl) ?_
        refine r_aload_n X (pc := 166) (i := 0) (zw_dg dk_M_bribe 90 rfl) rfl rfl ?_
        refine r_lconst X (pc := 167) (v := 0) (zw_dg dk_M_bribe 91 rfl) (by decide) ?_
        refine r_iload_n X (pc := 168) (i := 2) (zw_dg dk_M_bribe 92 rfl) rfl rfl ?_
        refine r_iload_n X (pc := 169) (i := 2) (zw_dg dk_M_bribe 93 rfl) rfl rfl ?_
        refine r_iload_n X (pc := 170) (i := 3) (zw_dg dk_M_bribe 94 rfl) rfl rfl ?_
        refine r_iload X (pc := 171) (i := 4) (zw_dg dk_M_bribe 95 rfl) rfl ?_
        refine r_iload X (pc := 173) (i := 5) (zw_dg dk_M_bribe 96 rfl) rfl ?_
        obtain ⟨r38, hr38, hsem⟩ := zw_bd hsem
        refine r_callVl X (pc := 175) (As := [_, _, _, _, _, _]) (st := [.long r37]) (km_M_withGift hS hr38) ce_M_withGift kw_1843 (zo hS 71 rfl rfl) rfl rfl ⟨Nat.le_of_ble_eq_true rfl, Nat.le_of_ble_eq_true rfl⟩ (Nat.le_of_ble_eq_true rfl) (zw_dg dk_M_bribe 97 rfl) ?_
        refine r_lsub X (pc := 178) (zw_dg dk_M_bribe 98 rfl)  ?_
        obtain ⟨due39, hdue39, hsem⟩ := zw_bd hsem
        refine zw_topJ hdue39 ?_
        refine r_lstore X (pc := 179) (i := 14) (L2 := [some (.ref 71), some (.int p1), some (.int t2), some (.int e3), some (.int least4), some (.int gift5), some (.int best17), some (.long from27), none, some (.long to26), none, some (.int s28), some (.long more36), none, some (.long due39), none]) (zw_dg dk_M_bribe 99 rfl) (by decide) rfl ?_
        obtain ⟨to40, ht198, hs198⟩ := zw_bd hsem
        refine zw_jn (J := 198) (L2 := [some (.ref 71), some (.int p1), some (.int t2), some (.int e3), some (.int least4), some (.int gift5), some (.int best17), some (.long from27), none, some (.long to40), none, some (.int s28), some (.long more36), none, some (.long due39), none]) (c2 := c14) (fun jj => ?_) ?_
        · have hsem := ht198
          refine zw_cnd (P := ((more36 = 0) ∧ (0 < due39))) (J1 := 195) (J2 := 198) (st2 := []) (fun jT jF => ?_) (fun p41 => ?_) (fun p41 => ?_)
          · --
            refine r_lload X (pc := 181) (i := 12) (zw_dg dk_M_bribe 100 rfl) rfl ?_
            refine r_lconst X (pc := 183) (v := 0) (zw_dg dk_M_bribe 101 rfl) (by decide) ?_
            refine r_lcmp_ne X (pc := 184) (tgt := 198) (zw_dg dk_M_bribe 102 rfl) (zw_dg dk_M_bribe 103 rfl) (by decide) (fun q42 => ?_) (fun q42 => ?_)
            · --
              exact jF (fun q => q42 q.1)
            · --
              refine r_lload X (pc := 188) (i := 14) (zw_dg dk_M_bribe 104 rfl) rfl ?_
              refine r_lconst X (pc := 190) (v := 0) (zw_dg dk_M_bribe 105 rfl) (by decide) ?_
              refine r_lcmp_le X (pc := 191) (tgt := 198) (zw_dg dk_M_bribe 106 rfl) (zw_dg dk_M_bribe 107 rfl) (by decide) (fun q43 => ?_) (fun q43 => ?_)
              · --
                exact jF (fun q => (Int64.not_lt.mpr q43) q.2)
              · --
                exact jT ⟨q42, (Int64.not_le.mp q43)⟩
          · --
            have hsem := zw_ifp p41 hsem
            refine r_lconst X (pc := 195) (v := 0) (zw_dg dk_M_bribe 108 rfl) (by decide) ?_
            refine r_lstore X (pc := 196) (i := 9) (L2 := [some (.ref 71), some (.int p1), some (.int t2), some (.int e3), some (.int least4), some (.int gift5), some (.int best17), some (.long from27), none, some (.long 0), none, some (.int s28), some (.long more36), none, some (.long due39), none]) (zw_dg dk_M_bribe 109 rfl) (by decide) rfl ?_
            cases hsem
            exact (r_fgt [] rfl jj)
          · --
            have hsem := zw_ifn p41 hsem
            cases hsem
            exact (r_fgt [] rfl jj)
        have hsem := hs198
        obtain ⟨from44, ht229, hs229⟩ := zw_bd hsem
        refine zw_jn (J := 229) (L2 := [some (.ref 71), some (.int p1), some (.int t2), some (.int e3), some (.int least4), some (.int gift5), some (.int best17), some (.long from44), none, some (.long to40), none, some (.int s28), some (.long more36), none, some (.long due39), none]) (c2 := c14) (fun jj => ?_) ?_
        · have hsem := ht229
          refine zw_cnd (P := ((0 < more36) ∧ (0 < due39))) (J1 := 212) (J2 := 229) (st2 := []) (fun jT jF => ?_) (fun p45 => ?_) (fun p45 => ?_)
          · --
            refine r_lload X (pc := 198) (i := 12) (zw_dg dk_M_bribe 110 rfl) rfl ?_
            refine r_lconst X (pc := 200) (v := 0) (zw_dg dk_M_bribe 111 rfl) (by decide) ?_
            refine r_lcmp_le X (pc := 201) (tgt := 229) (zw_dg dk_M_bribe 112 rfl) (zw_dg dk_M_bribe 113 rfl) (by decide) (fun q46 => ?_) (fun q46 => ?_)
            · --
              exact jF (fun q => (Int64.not_lt.mpr q46) q.1)
            · --
              refine r_lload X (pc := 205) (i := 14) (zw_dg dk_M_bribe 114 rfl) rfl ?_
              refine r_lconst X (pc := 207) (v := 0) (zw_dg dk_M_bribe 115 rfl) (by decide) ?_
              refine r_lcmp_le X (pc := 208) (tgt := 229) (zw_dg dk_M_bribe 116 rfl) (zw_dg dk_M_bribe 117 rfl) (by decide) (fun q47 => ?_) (fun q47 => ?_)
              · --
                exact jF (fun q => (Int64.not_lt.mpr q47) q.2)
              · --
                exact jT ⟨(Int64.not_le.mp q46), (Int64.not_le.mp q47)⟩
          · --
            have hsem := zw_ifp p45 hsem
            refine r_lload X (pc := 212) (i := 7) (zw_dg dk_M_bribe 118 rfl) rfl ?_
            refine r_lload X (pc := 214) (i := 14) (zw_dg dk_M_bribe 119 rfl) rfl ?_
            refine r_lload X (pc := 216) (i := 12) (zw_dg dk_M_bribe 120 rfl) rfl ?_
            refine r_ladd X (pc := 218) (zw_dg dk_M_bribe 121 rfl)  ?_
            refine r_lconst X (pc := 219) (v := 1) (zw_dg dk_M_bribe 122 rfl) (by decide) ?_
            refine r_lsub X (pc := 220) (zw_dg dk_M_bribe 123 rfl)  ?_
            refine r_lload X (pc := 221) (i := 12) (zw_dg dk_M_bribe 124 rfl) rfl ?_
            obtain ⟨d48, hd48, hsem⟩ := zw_bd hsem
            obtain ⟨hyd48, hd48⟩ := zw_dvL_of hd48
            refine r_ldiv X (pc := 223) (zw_dg dk_M_bribe 125 rfl) hyd48 ?_
            refine zw_eqtJ hd48 ?_
            refine r_mmaxl X (pc := 224) kw_1731 mws_maxl kw_88 mwc_maxl ⟨Nat.le_of_ble_eq_true rfl, Nat.le_of_ble_eq_true rfl⟩ (st := []) (Nat.le_of_ble_eq_true rfl) (zw_dg dk_M_bribe 126 rfl) ?_
            obtain ⟨from49, hfrom49, hsem⟩ := zw_bd hsem
            refine zw_topJ hfrom49 ?_
            refine r_lstore X (pc := 227) (i := 7) (L2 := [some (.ref 71), some (.int p1), some (.int t2), some (.int e3), some (.int least4), some (.int gift5), some (.int best17), some (.long from49), none, some (.long to40), none, some (.int s28), some (.long more36), none, some (.long due39), none]) (zw_dg dk_M_bribe 127 rfl) (by decide) rfl ?_
            cases hsem
            exact (r_fgt [] rfl jj)
          · --
            have hsem := zw_ifn p45 hsem
            cases hsem
            exact (r_fgt [] rfl jj)
        have hsem := hs229
        obtain ⟨to50, ht246, hs246⟩ := zw_bd hsem
        refine zw_jn (J := 246) (L2 := [some (.ref 71), some (.int p1), some (.int t2), some (.int e3), some (.int least4), some (.int gift5), some (.int best17), some (.long from44), none, some (.long to50), none, some (.int s28), some (.long more36), none, some (.long due39), none]) (c2 := c14) (fun jj => ?_) ?_
        · have hsem := ht246
          refine zw_cnd (P := ((more36 < 0) ∧ (0 < due39))) (J1 := 243) (J2 := 246) (st2 := []) (fun jT jF => ?_) (fun p51 => ?_) (fun p51 => ?_)
          · --
            refine r_lload X (pc := 229) (i := 12) (zw_dg dk_M_bribe 128 rfl) rfl ?_
            refine r_lconst X (pc := 231) (v := 0) (zw_dg dk_M_bribe 129 rfl) (by decide) ?_
            refine r_lcmp_ge X (pc := 232) (tgt := 246) (zw_dg dk_M_bribe 130 rfl) (zw_dg dk_M_bribe 131 rfl) (by decide) (fun q52 => ?_) (fun q52 => ?_)
            · --
              exact jF (fun q => (Int64.not_lt.mpr q52) q.1)
            · --
              refine r_lload X (pc := 236) (i := 14) (zw_dg dk_M_bribe 132 rfl) rfl ?_
              refine r_lconst X (pc := 238) (v := 0) (zw_dg dk_M_bribe 133 rfl) (by decide) ?_
              refine r_lcmp_le X (pc := 239) (tgt := 246) (zw_dg dk_M_bribe 134 rfl) (zw_dg dk_M_bribe 135 rfl) (by decide) (fun q53 => ?_) (fun q53 => ?_)
              · --
                exact jF (fun q => (Int64.not_lt.mpr q53) q.2)
              · --
                exact jT ⟨(Int64.not_le.mp q52), (Int64.not_le.mp q53)⟩
          · --
            have hsem := zw_ifp p51 hsem
            refine r_lconst X (pc := 243) (v := 0) (zw_dg dk_M_bribe 136 rfl) (by decide) ?_
            refine r_lstore X (pc := 244) (i := 9) (L2 := [some (.ref 71), some (.int p1), some (.int t2), some (.int e3), some (.int least4), some (.int gift5), some (.int best17), some (.long from44), none, some (.long 0), none, some (.int s28), some (.long more36), none, some (.long due39), none]) (zw_dg dk_M_bribe 137 rfl) (by decide) rfl ?_
            cases hsem
            exact (r_fgt [] rfl jj)
          · --
            have hsem := zw_ifn p51 hsem
            cases hsem
            exact (r_fgt [] rfl jj)
        have hsem := hs246
        obtain ⟨to54, ht274, hs274⟩ := zw_bd hsem
        refine zw_jn (J := 274) (L2 := [some (.ref 71), some (.int p1), some (.int t2), some (.int e3), some (.int least4), some (.int gift5), some (.int best17), some (.long from44), none, some (.long to54), none, some (.int s28), some (.long more36), none, some (.long due39), none]) (c2 := c14) (fun jj => ?_) ?_
        · have hsem := ht274
          refine zw_cnd (P := ((more36 < 0) ∧ (due39 ≤ 0))) (J1 := 260) (J2 := 274) (st2 := []) (fun jT jF => ?_) (fun p55 => ?_) (fun p55 => ?_)
          · --
            refine r_lload X (pc := 246) (i := 12) (zw_dg dk_M_bribe 138 rfl) rfl ?_
            refine r_lconst X (pc := 248) (v := 0) (zw_dg dk_M_bribe 139 rfl) (by decide) ?_
            refine r_lcmp_ge X (pc := 249) (tgt := 274) (zw_dg dk_M_bribe 140 rfl) (zw_dg dk_M_bribe 141 rfl) (by decide) (fun q56 => ?_) (fun q56 => ?_)
            · --
              exact jF (fun q => (Int64.not_lt.mpr q56) q.1)
            · --
              refine r_lload X (pc := 253) (i := 14) (zw_dg dk_M_bribe 142 rfl) rfl ?_
              refine r_lconst X (pc := 255) (v := 0) (zw_dg dk_M_bribe 143 rfl) (by decide) ?_
              refine r_lcmp_gt X (pc := 256) (tgt := 274) (zw_dg dk_M_bribe 144 rfl) (zw_dg dk_M_bribe 145 rfl) (by decide) (fun q57 => ?_) (fun q57 => ?_)
              · --
                exact jF (fun q => (Int64.not_le.mpr q57) q.2)
              · --
                exact jT ⟨(Int64.not_le.mp q56), (Int64.not_lt.mp q57)⟩
          · --
            have hsem := zw_ifp p55 hsem
            refine r_lload X (pc := 260) (i := 9) (zw_dg dk_M_bribe 146 rfl) rfl ?_
            refine r_lload X (pc := 262) (i := 14) (zw_dg dk_M_bribe 147 rfl) rfl ?_
            refine r_lneg X (pc := 264) (zw_dg dk_M_bribe 148 rfl)  ?_
            refine r_lload X (pc := 265) (i := 12) (zw_dg dk_M_bribe 149 rfl) rfl ?_
            refine r_lneg X (pc := 267) (zw_dg dk_M_bribe 150 rfl)  ?_
            obtain ⟨d58, hd58, hsem⟩ := zw_bd hsem
            obtain ⟨hyd58, hd58⟩ := zw_dvL_of hd58
            refine r_ldiv X (pc := 268) (zw_dg dk_M_bribe 151 rfl) hyd58 ?_
            refine zw_eqtJ hd58 ?_
            refine r_mminl X (pc := 269) kw_1838 mws_minl kw_88 mwc_minl ⟨Nat.le_of_ble_eq_true rfl, Nat.le_of_ble_eq_true rfl⟩ (st := []) (Nat.le_of_ble_eq_true rfl) (zw_dg dk_M_bribe 152 rfl) ?_
            obtain ⟨to59, hto59, hsem⟩ := zw_bd hsem
            refine zw_topJ hto59 ?_
            refine r_lstore X (pc := 272) (i := 9) (L2 := [some (.ref 71), some (.int p1), some (.int t2), some (.int e3), some (.int least4), some (.int gift5), some (.int best17), some (.long from44), none, some (.long to59), none, some (.int s28), some (.long more36), none, some (.long due39), none]) (zw_dg dk_M_bribe 153 rfl) (by decide) rfl ?_
            cases hsem
            exact (r_fgt [] rfl jj)
          · --
            have hsem := zw_ifn p55 hsem
            cases hsem
            exact (r_fgt [] rfl jj)
        have hsem := hs274
        refine r_iinc X (pc := 274) (i := 11) (k := 1) (zw_dg dk_M_bribe 154 rfl) rfl (by decide) (by decide) rfl ?_
        refine r_goto X (pc := 277) (tgt := 128) (zw_dg dk_M_bribe 155 rfl) (by decide) ?_
        have jj := hP _ (Option.some.inj hsem).symm
        exact (r_fgt [12, 14] rfl jj)
    obtain ⟨to29, from30⟩ := l31
    have hsem := hsl31
    refine r_aload_n X (pc := 280) (i := 0) (zw_dg dk_M_bribe 156 rfl) rfl rfl ?_
    refine r_iconst X (pc := 281) (v := 0) (zw_dg dk_M_bribe 157 rfl) (by decide) ?_
    refine r_putI X (pc := 282) ci_M (zo hS 71 rfl rfl) rfl lk_M_100 rfl ⟨rfl, rfl⟩ (zw_dg dk_M_bribe 158 rfl) ?_
    obtain ⟨c60, hc60, hsem⟩ := zw_bd hsem
    refine zw_topC hc60 ?_
    refine r_aload_n X (pc := 285) (i := 0) (zw_dg dk_M_bribe 159 rfl) rfl rfl ?_
    refine zw_ter (P := (from30 ≤ to29)) (f := Value.long) (x := from30) (y := (-1)) (J := 302) (st2 := [.ref 71]) (fun jT jF => ?_) ?_
    · --
      refine r_lload X (pc := 286) (i := 7) (zw_dg dk_M_bribe 160 rfl) rfl ?_
      refine r_lload X (pc := 288) (i := 9) (zw_dg dk_M_bribe 161 rfl) rfl ?_
      refine r_lcmp_gt X (pc := 290) (tgt := 299) (zw_dg dk_M_bribe 162 rfl) (zw_dg dk_M_bribe 163 rfl) (by decide) (fun q61 => ?_) (fun q61 => ?_)
      · --
        refine r_ldc2 X (pc := 299) (v := (-1)) kw_1847 (zw_dg dk_M_bribe 166 rfl) ?_
        exact jF (Int64.not_le.mpr q61)
      · --
        refine r_lload X (pc := 294) (i := 7) (zw_dg dk_M_bribe 164 rfl) rfl ?_
        refine r_goto X (pc := 296) (tgt := 302) (zw_dg dk_M_bribe 165 rfl) (by decide) ?_
        exact jT (Int64.not_lt.mp q61)
    obtain ⟨c62, hc62, hsem⟩ := zw_bd hsem
    refine r_callVv X (pc := 302) (As := [_]) (st := []) (km_M_tell hS hc62) ce_M_tell kw_1704 (zo hS 71 rfl rfl) rfl rfl ⟨Nat.le_of_ble_eq_true rfl, Nat.le_of_ble_eq_true rfl⟩ (Nat.le_of_ble_eq_true rfl) (zw_dg dk_M_bribe 167 rfl) ?_
    refine r_iload X (pc := 305) (i := 6) (zw_dg dk_M_bribe 168 rfl) rfl ?_
    obtain ⟨rfl, rfl⟩ := zw_in2 hsem
    exact r_iret X (pc := 307) rfl (zw_dg dk_M_bribe 169 rfl)
def y_M_safe : MethodName := ⟨R_M, "safe", "(I)I"⟩
abbrev b_M_safe : ByteArray := prog_14_method_65_code
def dl_M_safe : List (Nat × Instr × Nat) := [(0, .aload_n 0, 1), (1, .iconst 0, 1), (2, .putfield 97, 3), (5, .aload_n 0, 1), (6, .iload_n 1, 1), (7, .invokevirtual 222, 3), (10, .ifCond .ne 5, 3), (13, .iconst (-1), 1), (14, .ireturn, 1), (15, .aload_n 0, 1), (16, .iload_n 1, 1), (17, .invokevirtual 229, 3), (20, .ldc2_w 155, 3), (23, .lstore_n 2, 1), (24, .iconst 0, 1), (25, .istore 4, 2), (27, .iload 4, 2), (29, .aload_n 0, 1), (30, .getfield 113, 3), (33, .if_icmp .ge 63, 3), (36, .iconst 0, 1), (37, .istore 5, 2), (39, .iload 5, 2), (41, .aload_n 0, 1), (42, .getfield 113, 3), (45, .if_icmp .ge 45, 3), (48, .iload 5, 2), (50, .iload 4, 2), (52, .if_icmp .eq 32, 3), (55, .lload_n 2, 1), (56, .aload_n 0, 1), (57, .iload 4, 2), (59, .iload 4, 2), (61, .invokevirtual 233, 3), (64, .aload_n 0, 1), (65, .iload 5, 2), (67, .iload 4, 2), (69, .invokevirtual 233, 3), (72, .lsub, 1), (73, .aload_n 0, 1), (74, .getfield 13, 3), (77, .invokestatic 298, 3), (80, .invokestatic 290, 3), (83, .lstore_n 2, 1), (84, .iinc 5 1, 3), (87, .goto (-48), 3), (90, .iinc 4 1, 3), (93, .goto (-66), 3), (96, .lload_n 2, 1), (97, .lconst 0, 1), (98, .lcmp, 1), (99, .ifCond .ge 8, 3), (102, .bipush (-2), 2), (104, .goto 5, 3), (107, .lload_n 2, 1), (108, .l2i, 1), (109, .ireturn, 1)]
theorem dk_M_safe : zw_dk b_M_safe dl_M_safe = true := by decide +kernel
theorem ce_M_safe : zw_cev y_M_safe b_M_safe 6 (some .int) 1 := ⟨⟨kt_in 1851 (by decide +kernel) rfl, kt_in 98 (by decide +kernel) rfl, by decide +kernel⟩, kt_in 1849 (by decide +kernel) rfl, kt_in 1850 (by decide +kernel) rfl⟩
def fn_M_safe_l2 (c7 : zw_Ct) (t9 : Int32) : Int64 × Int32 → Option ((Int64) ⊕ (Int64 × Int32)) := fun (bound14, s15) =>
  if (s15 < (c7.1 71 2)) then
  ((if (¬ s15 = t9) then
  ((fn_M_worth c7 t9 t9).bind fun r23 =>
  (fn_M_worth c7 s15 t9).bind fun r24 =>
  (fn_Math_floorDiv (r23 - r24) (c7.1 71 1)).bind fun r25 =>
  (some ((if r25 < bound14 then r25 else bound14) : Int64)).bind fun bound26 =>
  some (bound26 : Int64))
  else
  (some (bound14 : Int64))).bind fun bound20 =>
  some (.inr (bound20, (s15 + 1))))
  else
  (some (.inl bound14))
def fn_M_safe_l1 (c7 : zw_Ct) : Int64 × Int32 → Option ((Int64) ⊕ (Int64 × Int32)) := fun (bound8, t9) =>
  if (t9 < (c7.1 71 2)) then
  ((zw_whl (fn_M_safe_l2 c7 t9) zw_F (bound8, 0)).bind fun bound16 =>
  some (.inr (bound16, (t9 + 1))))
  else
  (some (.inl bound8))
def fn_M_safe (c : zw_Ct) (p1 : Int32) : Option (Int32 × zw_Ct) :=
  (some (zw_wI c 71 9 0)).bind fun c3 =>
  (fn_M_isPay c3 p1).bind fun r4 =>
  if (¬ (¬ r4 = 0)) then
  (some ((-1), c3))
  else
  ((fn_M_layPay c3 p1).bind fun c7 =>
  (zw_whl (fn_M_safe_l1 c7) zw_F (9999, 0)).bind fun bound10 =>
  some ((if (bound10 < 0) then ((-2) : Int32) else bound10.toInt32), c7))
set_option maxRecDepth 100000 in
theorem km_M_safe {l : Launch} {g : zw_G} {rr : zw_RR} {sh : zw_Sh} {c : zw_Ct} {p1 : Int32} {r : Int32} {c2 : zw_Ct} (hS : zw_Ok 0 101 sh rr) (hsem : fn_M_safe c p1 = some (r, c2)) : zw_Met l g y_M_safe b_M_safe 6 (some .int) 107 rr sh [.ref 71, .int p1] c (some (.int r)) c2 := by
  unfold fn_M_safe at hsem
  refine zw_Met.of (by decide +kernel) (Nat.le_of_ble_eq_true rfl) (fun p e s m args below meth cd X => ?_)
  refine zw_eL (L2 := [some (.ref 71), some (.int p1), none, none, none, none]) rfl ?_
  refine r_aload_n X (pc := 0) (i := 0) (zw_dg dk_M_safe 0 rfl) rfl rfl ?_
  refine r_iconst X (pc := 1) (v := 0) (zw_dg dk_M_safe 1 rfl) (by decide) ?_
  refine r_putI X (pc := 2) ci_M (zo hS 71 rfl rfl) rfl lk_M_97 rfl ⟨rfl, rfl⟩ (zw_dg dk_M_safe 2 rfl) ?_
  obtain ⟨c3, hc3, hsem⟩ := zw_bd hsem
  refine zw_topC hc3 ?_
  refine r_aload_n X (pc := 5) (i := 0) (zw_dg dk_M_safe 3 rfl) rfl rfl ?_
  refine r_iload_n X (pc := 6) (i := 1) (zw_dg dk_M_safe 4 rfl) rfl rfl ?_
  obtain ⟨r4, hr4, hsem⟩ := zw_bd hsem
  refine r_callVi X (pc := 7) (As := [_]) (st := []) (km_M_isPay hS hr4) ce_M_isPay kw_1688 (zo hS 71 rfl rfl) rfl rfl ⟨Nat.le_of_ble_eq_true rfl, Nat.le_of_ble_eq_true rfl⟩ (Nat.le_of_ble_eq_true rfl) (zw_dg dk_M_safe 5 rfl) ?_
  refine r_if_ne X (pc := 10) (tgt := 15) (zw_dg dk_M_safe 6 rfl) (by decide) (fun q6 => ?_) (fun q6 => ?_)
  · --
    have p5 : ¬ (¬ (¬ r4 = 0)) := (fun q => q q6)
    have hsem := zw_ifn p5 hsem
    refine r_aload_n X (pc := 15) (i := 0) (zw_dg dk_M_safe 9 rfl) rfl rfl ?_
    refine r_iload_n X (pc := 16) (i := 1) (zw_dg dk_M_safe 10 rfl) rfl rfl ?_
    obtain ⟨c7, hc7, hsem⟩ := zw_bd hsem
    refine r_callVv X (pc := 17) (As := [_]) (st := []) (km_M_layPay hS hc7) ce_M_layPay kw_1700 (zo hS 71 rfl rfl) rfl rfl ⟨Nat.le_of_ble_eq_true rfl, Nat.le_of_ble_eq_true rfl⟩ (Nat.le_of_ble_eq_true rfl) (zw_dg dk_M_safe 11 rfl) ?_
    refine r_ldc2 X (pc := 20) (v := 9999) kw_1626 (zw_dg dk_M_safe 12 rfl) ?_
    refine r_lstore_n X (pc := 23) (i := 2) (L2 := [some (.ref 71), some (.int p1), some (.long 9999), none, none, none]) (zw_dg dk_M_safe 13 rfl) rfl (by decide) rfl ?_
    refine r_iconst X (pc := 24) (v := 0) (zw_dg dk_M_safe 14 rfl) (by decide) ?_
    refine r_istore X (pc := 25) (i := 4) (zw_dg dk_M_safe 15 rfl) (by decide) rfl ?_
    obtain ⟨bound10, hl11, hsl11⟩ := zw_bd hsem
    refine r_loop (pc := 27) (pce := 96) hl11 (fun (bound8, t9) => [some (.ref 71), some (.int p1), some (.long bound8), none, some (.int t9), none] : Int64 × Int32 → zw_Lc) (fun (bound8, t9) => c7 : Int64 × Int32 → zw_Ct) (fun bound10 => [some (.ref 71), some (.int p1), some (.long bound10), none, none, none] : Int64 → zw_Lc) (fun bound10 => c7 : Int64 → zw_Ct) ?_ rfl rfl ?_
    · rintro ⟨bound8, t9⟩ rr hsem hK hP
      try unfold fn_M_safe_l1 at hsem
      refine r_iload X (pc := 27) (i := 4) (zw_dg dk_M_safe 16 rfl) rfl ?_
      refine r_aload_n X (pc := 29) (i := 0) (zw_dg dk_M_safe 17 rfl) rfl rfl ?_
      refine r_getI X (pc := 30) ci_M (zo hS 71 rfl rfl) rfl lk_M_113 (zw_dg dk_M_safe 18 rfl) ?_
      refine r_icmp_ge X (pc := 33) (tgt := 96) (zw_dg dk_M_safe 19 rfl) (by decide) (fun q13 => ?_) (fun q13 => ?_)
      · --
        have p12 : ¬ (t9 < (c7.1 71 2)) := (Int32.not_lt.mpr q13)
        have hsem := zw_ifn p12 hsem
        have jj := hK _ (Option.some.inj hsem).symm
        exact (r_fgt [4] rfl jj)
      · --
        have p12 : (t9 < (c7.1 71 2)) := (Int32.not_le.mp q13)
        have hsem := zw_ifp p12 hsem
        refine r_iconst X (pc := 36) (v := 0) (zw_dg dk_M_safe 20 rfl) (by decide) ?_
        refine r_istore X (pc := 37) (i := 5) (zw_dg dk_M_safe 21 rfl) (by decide) rfl ?_
        obtain ⟨bound16, hl17, hsl17⟩ := zw_bd hsem
        refine r_loop (pc := 39) (pce := 90) hl17 (fun (bound14, s15) => [some (.ref 71), some (.int p1), some (.long bound14), none, some (.int t9), some (.int s15)] : Int64 × Int32 → zw_Lc) (fun (bound14, s15) => c7 : Int64 × Int32 → zw_Ct) (fun bound16 => [some (.ref 71), some (.int p1), some (.long bound16), none, some (.int t9), none] : Int64 → zw_Lc) (fun bound16 => c7 : Int64 → zw_Ct) ?_ rfl rfl ?_
        · rintro ⟨bound14, s15⟩ rr hsem hK hP
          try unfold fn_M_safe_l2 at hsem
          refine r_iload X (pc := 39) (i := 5) (zw_dg dk_M_safe 22 rfl) rfl ?_
          refine r_aload_n X (pc := 41) (i := 0) (zw_dg dk_M_safe 23 rfl) rfl rfl ?_
          refine r_getI X (pc := 42) ci_M (zo hS 71 rfl rfl) rfl lk_M_113 (zw_dg dk_M_safe 24 rfl) ?_
          refine r_icmp_ge X (pc := 45) (tgt := 90) (zw_dg dk_M_safe 25 rfl) (by decide) (fun q19 => ?_) (fun q19 => ?_)
          · --
            have p18 : ¬ (s15 < (c7.1 71 2)) := (Int32.not_lt.mpr q19)
            have hsem := zw_ifn p18 hsem
            have jj := hK _ (Option.some.inj hsem).symm
            exact (r_fgt [5] rfl jj)
          · --
            have p18 : (s15 < (c7.1 71 2)) := (Int32.not_le.mp q19)
            have hsem := zw_ifp p18 hsem
            obtain ⟨bound20, ht84, hs84⟩ := zw_bd hsem
            refine zw_jn (J := 84) (L2 := [some (.ref 71), some (.int p1), some (.long bound20), none, some (.int t9), some (.int s15)]) (c2 := c7) (fun jj => ?_) ?_
            · have hsem := ht84
              refine r_iload X (pc := 48) (i := 5) (zw_dg dk_M_safe 26 rfl) rfl ?_
              refine r_iload X (pc := 50) (i := 4) (zw_dg dk_M_safe 27 rfl) rfl ?_
              refine r_icmp_eq X (pc := 52) (tgt := 84) (zw_dg dk_M_safe 28 rfl) (by decide) (fun q22 => ?_) (fun q22 => ?_)
              · --
                have p21 : ¬ (¬ s15 = t9) := (fun z => z q22)
                have hsem := zw_ifn p21 hsem
                cases hsem
                exact (r_fgt [] rfl jj)
              · --
                have p21 : (¬ s15 = t9) := q22
                have hsem := zw_ifp p21 hsem
                refine r_lload_n X (pc := 55) (i := 2) (zw_dg dk_M_safe 29 rfl) rfl rfl ?_
                refine r_aload_n X (pc := 56) (i := 0) (zw_dg dk_M_safe 30 rfl) rfl rfl ?_
                refine r_iload X (pc := 57) (i := 4) (zw_dg dk_M_safe 31 rfl) rfl ?_
                refine r_iload X (pc := 59) (i := 4) (zw_dg dk_M_safe 32 rfl) rfl ?_
                obtain ⟨r23, hr23, hsem⟩ := zw_bd hsem
                refine r_callVl X (pc := 61) (As := [_, _]) (st := [.long bound14]) (km_M_worth hS hr23) ce_M_worth kw_1712 (zo hS 71 rfl rfl) rfl rfl ⟨Nat.le_of_ble_eq_true rfl, Nat.le_of_ble_eq_true rfl⟩ (Nat.le_of_ble_eq_true rfl) (zw_dg dk_M_safe 33 rfl) ?_
                refine r_aload_n X (pc := 64) (i := 0) (zw_dg dk_M_safe 34 rfl) rfl rfl ?_
                refine r_iload X (pc := 65) (i := 5) (zw_dg dk_M_safe 35 rfl) rfl ?_
                refine r_iload X (pc := 67) (i := 4) (zw_dg dk_M_safe 36 rfl) rfl ?_
                obtain ⟨r24, hr24, hsem⟩ := zw_bd hsem
                refine r_callVl X (pc := 69) (As := [_, _]) (st := [.long r23, .long bound14]) (km_M_worth hS hr24) ce_M_worth kw_1712 (zo hS 71 rfl rfl) rfl rfl ⟨Nat.le_of_ble_eq_true rfl, Nat.le_of_ble_eq_true rfl⟩ (Nat.le_of_ble_eq_true rfl) (zw_dg dk_M_safe 37 rfl) ?_
                refine r_lsub X (pc := 72) (zw_dg dk_M_safe 38 rfl)  ?_
                refine r_aload_n X (pc := 73) (i := 0) (zw_dg dk_M_safe 39 rfl) rfl rfl ?_
                refine r_getI X (pc := 74) ci_M (zo hS 71 rfl rfl) rfl lk_M_13 (zw_dg dk_M_safe 40 rfl) ?_
                obtain ⟨r25, hr25, hsem⟩ := zw_bd hsem
                refine r_callSl X (pc := 77) (As := [_, _]) (st := [.long bound14]) (km_Math_floorDiv hr25) ce_Math_floorDiv kw_1852 rfl ⟨Nat.le_of_ble_eq_true rfl, Nat.le_of_ble_eq_true rfl⟩ (Nat.le_of_ble_eq_true rfl) (zw_dg dk_M_safe 41 rfl) ?_
                refine r_mminl X (pc := 80) kw_1838 mws_minl kw_88 mwc_minl ⟨Nat.le_of_ble_eq_true rfl, Nat.le_of_ble_eq_true rfl⟩ (st := []) (Nat.le_of_ble_eq_true rfl) (zw_dg dk_M_safe 42 rfl) ?_
                obtain ⟨bound26, hbound26, hsem⟩ := zw_bd hsem
                refine zw_topJ hbound26 ?_
                refine r_lstore_n X (pc := 83) (i := 2) (L2 := [some (.ref 71), some (.int p1), some (.long bound26), none, some (.int t9), some (.int s15)]) (zw_dg dk_M_safe 43 rfl) rfl (by decide) rfl ?_
                cases hsem
                exact (r_fgt [] rfl jj)
            have hsem := hs84
            refine r_iinc X (pc := 84) (i := 5) (k := 1) (zw_dg dk_M_safe 44 rfl) rfl (by decide) (by decide) rfl ?_
            refine r_goto X (pc := 87) (tgt := 39) (zw_dg dk_M_safe 45 rfl) (by decide) ?_
            have jj := hP _ (Option.some.inj hsem).symm
            exact (r_fgt [] rfl jj)
        have hsem := hsl17
        refine r_iinc X (pc := 90) (i := 4) (k := 1) (zw_dg dk_M_safe 46 rfl) rfl (by decide) (by decide) rfl ?_
        refine r_goto X (pc := 93) (tgt := 27) (zw_dg dk_M_safe 47 rfl) (by decide) ?_
        have jj := hP _ (Option.some.inj hsem).symm
        exact (r_fgt [] rfl jj)
    have hsem := hsl11
    refine zw_ter (P := (bound10 < 0)) (f := Value.int) (x := (-2)) (y := bound10.toInt32) (J := 109) (st2 := []) (fun jT jF => ?_) ?_
    · --
      refine r_lload_n X (pc := 96) (i := 2) (zw_dg dk_M_safe 48 rfl) rfl rfl ?_
      refine r_lconst X (pc := 97) (v := 0) (zw_dg dk_M_safe 49 rfl) (by decide) ?_
      refine r_lcmp_ge X (pc := 98) (tgt := 107) (zw_dg dk_M_safe 50 rfl) (zw_dg dk_M_safe 51 rfl) (by decide) (fun q27 => ?_) (fun q27 => ?_)
      · --
        refine r_lload_n X (pc := 107) (i := 2) (zw_dg dk_M_safe 54 rfl) rfl rfl ?_
        refine r_l2i X (pc := 108) (zw_dg dk_M_safe 55 rfl)  ?_
        exact jF (Int64.not_lt.mpr q27)
      · --
        refine r_bipush X (pc := 102) (v := (-2)) (zw_dg dk_M_safe 52 rfl) (by decide) ?_
        refine r_goto X (pc := 104) (tgt := 109) (zw_dg dk_M_safe 53 rfl) (by decide) ?_
        exact jT (Int64.not_le.mp q27)
    obtain ⟨rfl, rfl⟩ := zw_in2 hsem
    exact r_iret X (pc := 109) rfl (zw_dg dk_M_safe 56 rfl)
  · --
    have p5 : (¬ (¬ r4 = 0)) := (fun z => z q6)
    have hsem := zw_ifp p5 hsem
    refine r_iconst X (pc := 13) (v := (-1)) (zw_dg dk_M_safe 7 rfl) (by decide) ?_
    obtain ⟨rfl, rfl⟩ := zw_in2 hsem
    exact r_iret X (pc := 14) rfl (zw_dg dk_M_safe 8 rfl)
def y_M_isOne : MethodName := ⟨R_M, "isOne", "(I)Z"⟩
abbrev b_M_isOne : ByteArray := prog_14_method_66_code
def dl_M_isOne : List (Nat × Instr × Nat) := [(0, .iload_n 1, 1), (1, .i2l, 1), (2, .lconst 0, 1), (3, .aload_n 0, 1), (4, .getfield 130, 3), (7, .iconst 1, 1), (8, .isub, 1), (9, .i2l, 1), (10, .invokestatic 120, 3), (13, .ireturn, 1)]
theorem dk_M_isOne : zw_dk b_M_isOne dl_M_isOne = true := by decide +kernel
theorem ce_M_isOne : zw_cev y_M_isOne b_M_isOne 2 (some .boolean) 1 := ⟨⟨kt_in 1873 (by decide +kernel) rfl, kt_in 98 (by decide +kernel) rfl, by decide +kernel⟩, kt_in 1872 (by decide +kernel) rfl, kt_in 70 (by decide +kernel) rfl⟩
def fn_M_isOne (c : zw_Ct) (w1 : Int32) : Int32 :=
  (fn_M_in w1.toInt64 0 (((c.1 71 26) - 1)).toInt64)
theorem kb_M_isOne (c : zw_Ct) (w1 : Int32) : fn_M_isOne c w1 = 0 ∨ fn_M_isOne c w1 = 1 := by
  unfold fn_M_isOne
  first | exact zw_ite01 | exact kb_M_in ..
set_option maxRecDepth 100000 in
theorem km_M_isOne {l : Launch} {g : zw_G} {rr : zw_RR} {sh : zw_Sh} {c : zw_Ct} {w1 : Int32} {r : Int32} (hS : zw_Ok 0 101 sh rr) (hsem : fn_M_isOne c w1 = r) : zw_Met l g y_M_isOne b_M_isOne 2 (some .boolean) 2 rr sh [.ref 71, .int w1] c (some (.int r)) c := by
  unfold fn_M_isOne at hsem
  refine zw_Met.of (by decide +kernel) (Nat.le_of_ble_eq_true rfl) (fun p e s m args below meth cd X => ?_)
  refine zw_eL (L2 := [some (.ref 71), some (.int w1)]) rfl ?_
  refine r_iload_n X (pc := 0) (i := 1) (zw_dg dk_M_isOne 0 rfl) rfl rfl ?_
  refine r_i2l X (pc := 1) (zw_dg dk_M_isOne 1 rfl)  ?_
  refine r_lconst X (pc := 2) (v := 0) (zw_dg dk_M_isOne 2 rfl) (by decide) ?_
  refine r_aload_n X (pc := 3) (i := 0) (zw_dg dk_M_isOne 3 rfl) rfl rfl ?_
  refine r_getI X (pc := 4) ci_M (zo hS 71 rfl rfl) rfl lk_M_130 (zw_dg dk_M_isOne 4 rfl) ?_
  refine r_iconst X (pc := 7) (v := 1) (zw_dg dk_M_isOne 5 rfl) (by decide) ?_
  refine r_isub X (pc := 8) (zw_dg dk_M_isOne 6 rfl)  ?_
  refine r_i2l X (pc := 9) (zw_dg dk_M_isOne 7 rfl)  ?_
  refine r_callSi X (pc := 10) (As := [_, _, _]) (st := []) (km_M_in hS rfl) ce_M_in kw_1597 rfl ⟨Nat.le_of_ble_eq_true rfl, Nat.le_of_ble_eq_true rfl⟩ (Nat.le_of_ble_eq_true rfl) (zw_dg dk_M_isOne 8 rfl) ?_
  have hsem : ((fn_M_in w1.toInt64 0 (((c.1 71 26) - 1)).toInt64) : _) = r := hsem
  have hbz : ((fn_M_in w1.toInt64 0 (((c.1 71 26) - 1)).toInt64) : Int32) = 0 ∨ ((fn_M_in w1.toInt64 0 (((c.1 71 26) - 1)).toInt64) : Int32) = 1 := (kb_M_in _ _ _)
  cases hsem
  exact r_zret X (pc := 13) rfl (zw_bzn hbz).1 (zw_dg dk_M_isOne 9 rfl)
def y_M_person : MethodName := ⟨R_M, "person", "(I)I"⟩
abbrev b_M_person : ByteArray := prog_14_method_67_code
def dl_M_person : List (Nat × Instr × Nat) := [(0, .aload_n 0, 1), (1, .iconst 0, 1), (2, .putfield 97, 3), (5, .aload_n 0, 1), (6, .iload_n 1, 1), (7, .invokevirtual 142, 3), (10, .ifCond .eq 12, 3), (13, .aload_n 0, 1), (14, .getfield 130, 3), (17, .bipush 6, 2), (19, .if_icmp .ne 5, 3), (22, .iconst (-1), 1), (23, .ireturn, 1), (24, .aload_n 0, 1), (25, .getfield 61, 3), (28, .aload_n 0, 1), (29, .getfield 130, 3), (32, .iload_n 1, 1), (33, .iastore, 1), (34, .aload_n 0, 1), (35, .dup, 1), (36, .getfield 130, 3), (39, .iconst 1, 1), (40, .iadd, 1), (41, .putfield 130, 3), (44, .aload_n 0, 1), (45, .getfield 130, 3), (48, .iconst 1, 1), (49, .isub, 1), (50, .ireturn, 1)]
theorem dk_M_person : zw_dk b_M_person dl_M_person = true := by decide +kernel
theorem ce_M_person : zw_cev y_M_person b_M_person 2 (some .int) 1 := ⟨⟨kt_in 1861 (by decide +kernel) rfl, kt_in 98 (by decide +kernel) rfl, by decide +kernel⟩, kt_in 1859 (by decide +kernel) rfl, kt_in 1860 (by decide +kernel) rfl⟩
def fn_M_person (c : zw_Ct) (t1 : Int32) : Option (Int32 × zw_Ct) :=
  (some (zw_wI c 71 9 0)).bind fun c3 =>
  if ((¬ (¬ (fn_M_isSaying c3 t1) = 0)) ∨ ((c3.1 71 26) = 6)) then
  (some ((-1), c3))
  else
  ((zw_uI 6 c3 89 (c3.1 71 26) t1).bind fun c7 =>
  (some (zw_wI c7 71 26 ((c7.1 71 26) + 1))).bind fun c8 =>
  some (((c8.1 71 26) - 1), c8))
set_option maxRecDepth 100000 in
theorem km_M_person {l : Launch} {g : zw_G} {rr : zw_RR} {sh : zw_Sh} {c : zw_Ct} {t1 : Int32} {r : Int32} {c2 : zw_Ct} (hS : zw_Ok 0 101 sh rr) (hsem : fn_M_person c t1 = some (r, c2)) : zw_Met l g y_M_person b_M_person 2 (some .int) 3 rr sh [.ref 71, .int t1] c (some (.int r)) c2 := by
  unfold fn_M_person at hsem
  refine zw_Met.of (by decide +kernel) (Nat.le_of_ble_eq_true rfl) (fun p e s m args below meth cd X => ?_)
  refine zw_eL (L2 := [some (.ref 71), some (.int t1)]) rfl ?_
  refine r_aload_n X (pc := 0) (i := 0) (zw_dg dk_M_person 0 rfl) rfl rfl ?_
  refine r_iconst X (pc := 1) (v := 0) (zw_dg dk_M_person 1 rfl) (by decide) ?_
  refine r_putI X (pc := 2) ci_M (zo hS 71 rfl rfl) rfl lk_M_97 rfl ⟨rfl, rfl⟩ (zw_dg dk_M_person 2 rfl) ?_
  obtain ⟨c3, hc3, hsem⟩ := zw_bd hsem
  refine zw_topC hc3 ?_
  refine zw_cnd (P := ((¬ (¬ (fn_M_isSaying c3 t1) = 0)) ∨ ((c3.1 71 26) = 6))) (J1 := 22) (J2 := 24) (st2 := []) (fun jT jF => ?_) (fun p4 => ?_) (fun p4 => ?_)
  · --
    refine r_aload_n X (pc := 5) (i := 0) (zw_dg dk_M_person 3 rfl) rfl rfl ?_
    refine r_iload_n X (pc := 6) (i := 1) (zw_dg dk_M_person 4 rfl) rfl rfl ?_
    refine r_callVi X (pc := 7) (As := [_]) (st := []) (km_M_isSaying hS rfl) ce_M_isSaying kw_1609 (zo hS 71 rfl rfl) rfl rfl ⟨Nat.le_of_ble_eq_true rfl, Nat.le_of_ble_eq_true rfl⟩ (Nat.le_of_ble_eq_true rfl) (zw_dg dk_M_person 5 rfl) ?_
    refine r_if_eq X (pc := 10) (tgt := 22) (zw_dg dk_M_person 6 rfl) (by decide) (fun q5 => ?_) (fun q5 => ?_)
    · --
      exact jT (Or.inl (fun z => z q5))
    · --
      refine r_aload_n X (pc := 13) (i := 0) (zw_dg dk_M_person 7 rfl) rfl rfl ?_
      refine r_getI X (pc := 14) ci_M (zo hS 71 rfl rfl) rfl lk_M_130 (zw_dg dk_M_person 8 rfl) ?_
      refine r_bipush X (pc := 17) (v := 6) (zw_dg dk_M_person 9 rfl) (by decide) ?_
      refine r_icmp_ne X (pc := 19) (tgt := 24) (zw_dg dk_M_person 10 rfl) (by decide) (fun q6 => ?_) (fun q6 => ?_)
      · --
        exact jF (fun q => q.elim (fun q => q q5) q6)
      · --
        exact jT (Or.inr q6)
  · --
    have hsem := zw_ifp p4 hsem
    refine r_iconst X (pc := 22) (v := (-1)) (zw_dg dk_M_person 11 rfl) (by decide) ?_
    obtain ⟨rfl, rfl⟩ := zw_in2 hsem
    exact r_iret X (pc := 23) rfl (zw_dg dk_M_person 12 rfl)
  · --
    have hsem := zw_ifn p4 hsem
    refine r_aload_n X (pc := 24) (i := 0) (zw_dg dk_M_person 13 rfl) rfl rfl ?_
    refine r_getR X (pc := 25) (r := 89) ci_M (zo hS 71 rfl rfl) rfl (zr hS 71 27 rfl rfl) lk_M_61 (zw_dg dk_M_person 14 rfl) ?_
    refine r_aload_n X (pc := 28) (i := 0) (zw_dg dk_M_person 15 rfl) rfl rfl ?_
    refine r_getI X (pc := 29) ci_M (zo hS 71 rfl rfl) rfl lk_M_130 (zw_dg dk_M_person 16 rfl) ?_
    refine r_iload_n X (pc := 32) (i := 1) (zw_dg dk_M_person 17 rfl) rfl rfl ?_
    obtain ⟨c7, hc7, hsem⟩ := zw_bd hsem
    refine r_iast X (pc := 33) (zo hS 89 rfl rfl) hc7 (zw_dg dk_M_person 18 rfl) ?_
    refine r_aload_n X (pc := 34) (i := 0) (zw_dg dk_M_person 19 rfl) rfl rfl ?_
    refine r_dup X (pc := 35) (zw_dg dk_M_person 20 rfl) rfl ?_
    refine r_getI X (pc := 36) ci_M (zo hS 71 rfl rfl) rfl lk_M_130 (zw_dg dk_M_person 21 rfl) ?_
    refine r_iconst X (pc := 39) (v := 1) (zw_dg dk_M_person 22 rfl) (by decide) ?_
    refine r_iadd X (pc := 40) (zw_dg dk_M_person 23 rfl)  ?_
    refine r_putI X (pc := 41) ci_M (zo hS 71 rfl rfl) rfl lk_M_130 rfl ⟨rfl, rfl⟩ (zw_dg dk_M_person 24 rfl) ?_
    obtain ⟨c8, hc8, hsem⟩ := zw_bd hsem
    refine zw_topC hc8 ?_
    refine r_aload_n X (pc := 44) (i := 0) (zw_dg dk_M_person 25 rfl) rfl rfl ?_
    refine r_getI X (pc := 45) ci_M (zo hS 71 rfl rfl) rfl lk_M_130 (zw_dg dk_M_person 26 rfl) ?_
    refine r_iconst X (pc := 48) (v := 1) (zw_dg dk_M_person 27 rfl) (by decide) ?_
    refine r_isub X (pc := 49) (zw_dg dk_M_person 28 rfl)  ?_
    obtain ⟨rfl, rfl⟩ := zw_in2 hsem
    exact r_iret X (pc := 50) rfl (zw_dg dk_M_person 29 rfl)
def y_M_go : MethodName := ⟨R_M, "go", "()I"⟩
abbrev b_M_go : ByteArray := prog_14_method_68_code
def dl_M_go : List (Nat × Instr × Nat) := [(0, .aload_n 0, 1), (1, .iconst 0, 1), (2, .putfield 97, 3), (5, .aload_n 0, 1), (6, .getfield 130, 3), (9, .istore_n 1, 1), (10, .aload_n 0, 1), (11, .iconst 0, 1), (12, .putfield 130, 3), (15, .aload_n 0, 1), (16, .iconst 0, 1), (17, .putfield 133, 3), (20, .iload_n 1, 1), (21, .ireturn, 1)]
theorem dk_M_go : zw_dk b_M_go dl_M_go = true := by decide +kernel
theorem ce_M_go : zw_cev y_M_go b_M_go 2 (some .int) 0 := ⟨⟨kt_in 1865 (by decide +kernel) rfl, kt_in 98 (by decide +kernel) rfl, by decide +kernel⟩, kt_in 1863 (by decide +kernel) rfl, kt_in 1864 (by decide +kernel) rfl⟩
def fn_M_go (c : zw_Ct) : Option (Int32 × zw_Ct) :=
  (some (zw_wI c 71 9 0)).bind fun c3 =>
  (some ((c3.1 71 26) : Int32)).bind fun was4 =>
  (some (zw_wI c3 71 26 0)).bind fun c5 =>
  (some (zw_wI c5 71 33 0)).bind fun c6 =>
  some (was4, c6)
set_option maxRecDepth 100000 in
theorem km_M_go {l : Launch} {g : zw_G} {rr : zw_RR} {sh : zw_Sh} {c : zw_Ct} {r : Int32} {c2 : zw_Ct} (hS : zw_Ok 0 101 sh rr) (hsem : fn_M_go c = some (r, c2)) : zw_Met l g y_M_go b_M_go 2 (some .int) 1 rr sh [.ref 71] c (some (.int r)) c2 := by
  unfold fn_M_go at hsem
  refine zw_Met.of (by decide +kernel) (Nat.le_of_ble_eq_true rfl) (fun p e s m args below meth cd X => ?_)
  refine zw_eL (L2 := [some (.ref 71), none]) rfl ?_
  refine r_aload_n X (pc := 0) (i := 0) (zw_dg dk_M_go 0 rfl) rfl rfl ?_
  refine r_iconst X (pc := 1) (v := 0) (zw_dg dk_M_go 1 rfl) (by decide) ?_
  refine r_putI X (pc := 2) ci_M (zo hS 71 rfl rfl) rfl lk_M_97 rfl ⟨rfl, rfl⟩ (zw_dg dk_M_go 2 rfl) ?_
  obtain ⟨c3, hc3, hsem⟩ := zw_bd hsem
  refine zw_topC hc3 ?_
  refine r_aload_n X (pc := 5) (i := 0) (zw_dg dk_M_go 3 rfl) rfl rfl ?_
  refine r_getI X (pc := 6) ci_M (zo hS 71 rfl rfl) rfl lk_M_130 (zw_dg dk_M_go 4 rfl) ?_
  obtain ⟨was4, hwas4, hsem⟩ := zw_bd hsem
  refine zw_topI hwas4 ?_
  refine r_istore_n X (pc := 9) (i := 1) (zw_dg dk_M_go 5 rfl) rfl (by decide) rfl ?_
  refine r_aload_n X (pc := 10) (i := 0) (zw_dg dk_M_go 6 rfl) rfl rfl ?_
  refine r_iconst X (pc := 11) (v := 0) (zw_dg dk_M_go 7 rfl) (by decide) ?_
  refine r_putI X (pc := 12) ci_M (zo hS 71 rfl rfl) rfl lk_M_130 rfl ⟨rfl, rfl⟩ (zw_dg dk_M_go 8 rfl) ?_
  obtain ⟨c5, hc5, hsem⟩ := zw_bd hsem
  refine zw_topC hc5 ?_
  refine r_aload_n X (pc := 15) (i := 0) (zw_dg dk_M_go 9 rfl) rfl rfl ?_
  refine r_iconst X (pc := 16) (v := 0) (zw_dg dk_M_go 10 rfl) (by decide) ?_
  refine r_putI X (pc := 17) ci_M (zo hS 71 rfl rfl) rfl lk_M_133 rfl ⟨rfl, rfl⟩ (zw_dg dk_M_go 11 rfl) ?_
  obtain ⟨c6, hc6, hsem⟩ := zw_bd hsem
  refine zw_topC hc6 ?_
  refine r_iload_n X (pc := 20) (i := 1) (zw_dg dk_M_go 12 rfl) rfl rfl ?_
  obtain ⟨rfl, rfl⟩ := zw_in2 hsem
  exact r_iret X (pc := 21) rfl (zw_dg dk_M_go 13 rfl)
def y_M_allTrue : MethodName := ⟨R_M, "allTrue", "()V"⟩
abbrev b_M_allTrue : ByteArray := prog_14_method_69_code
def dl_M_allTrue : List (Nat × Instr × Nat) := [(0, .iconst 0, 1), (1, .istore_n 1, 1), (2, .iload_n 1, 1), (3, .aload_n 0, 1), (4, .getfield 130, 3), (7, .if_icmp .ge 21, 3), (10, .aload_n 0, 1), (11, .getfield 64, 3), (14, .iload_n 1, 1), (15, .aload_n 0, 1), (16, .getfield 61, 3), (19, .iload_n 1, 1), (20, .iaload, 1), (21, .iastore, 1), (22, .iinc 1 1, 3), (25, .goto (-23), 3), (28, .return_, 1)]
theorem dk_M_allTrue : zw_dk b_M_allTrue dl_M_allTrue = true := by decide +kernel
theorem ce_M_allTrue : zw_cev y_M_allTrue b_M_allTrue 2 (none) 0 := ⟨⟨kt_in 1877 (by decide +kernel) rfl, kt_in 98 (by decide +kernel) rfl, by decide +kernel⟩, kt_in 1876 (by decide +kernel) rfl, kt_in 71 (by decide +kernel) rfl⟩
def fn_M_allTrue_l1  : Int32 × zw_Ct → Option ((zw_Ct) ⊕ (Int32 × zw_Ct)) := fun (w1, c3) =>
  if (w1 < (c3.1 71 26)) then
  ((zw_aI 6 c3 89 w1).bind fun x8 =>
  (zw_uI 6 c3 90 w1 x8).bind fun c9 =>
  some (.inr ((w1 + 1), c9)))
  else
  (some (.inl c3))
def fn_M_allTrue (c : zw_Ct) : Option zw_Ct :=
  (zw_whl (fn_M_allTrue_l1) zw_F (0, c)).bind fun c4 =>
  some c4
set_option maxRecDepth 100000 in
theorem km_M_allTrue {l : Launch} {g : zw_G} {rr : zw_RR} {sh : zw_Sh} {c : zw_Ct} {c2 : zw_Ct} (hS : zw_Ok 0 101 sh rr) (hsem : fn_M_allTrue c = some c2) : zw_Met l g y_M_allTrue b_M_allTrue 2 (none) 1 rr sh [.ref 71] c none c2 := by
  unfold fn_M_allTrue at hsem
  refine zw_Met.of (by decide +kernel) (Nat.le_of_ble_eq_true rfl) (fun p e s m args below meth cd X => ?_)
  refine zw_eL (L2 := [some (.ref 71), none]) rfl ?_
  refine r_iconst X (pc := 0) (v := 0) (zw_dg dk_M_allTrue 0 rfl) (by decide) ?_
  refine r_istore_n X (pc := 1) (i := 1) (zw_dg dk_M_allTrue 1 rfl) rfl (by decide) rfl ?_
  obtain ⟨c4, hl5, hsl5⟩ := zw_bd hsem
  refine r_loop (pc := 2) (pce := 28) hl5 (fun (w1, c3) => [some (.ref 71), some (.int w1)] : Int32 × zw_Ct → zw_Lc) (fun (w1, c3) => c3 : Int32 × zw_Ct → zw_Ct) (fun c4 => [some (.ref 71), none] : zw_Ct → zw_Lc) (fun c4 => c4 : zw_Ct → zw_Ct) ?_ rfl rfl ?_
  · rintro ⟨w1, c3⟩ rr hsem hK hP
    try unfold fn_M_allTrue_l1 at hsem
    refine r_iload_n X (pc := 2) (i := 1) (zw_dg dk_M_allTrue 2 rfl) rfl rfl ?_
    refine r_aload_n X (pc := 3) (i := 0) (zw_dg dk_M_allTrue 3 rfl) rfl rfl ?_
    refine r_getI X (pc := 4) ci_M (zo hS 71 rfl rfl) rfl lk_M_130 (zw_dg dk_M_allTrue 4 rfl) ?_
    refine r_icmp_ge X (pc := 7) (tgt := 28) (zw_dg dk_M_allTrue 5 rfl) (by decide) (fun q7 => ?_) (fun q7 => ?_)
    · --
      have p6 : ¬ (w1 < (c3.1 71 26)) := (Int32.not_lt.mpr q7)
      have hsem := zw_ifn p6 hsem
      have jj := hK _ (Option.some.inj hsem).symm
      exact (r_fgt [1] rfl jj)
    · --
      have p6 : (w1 < (c3.1 71 26)) := (Int32.not_le.mp q7)
      have hsem := zw_ifp p6 hsem
      refine r_aload_n X (pc := 10) (i := 0) (zw_dg dk_M_allTrue 6 rfl) rfl rfl ?_
      refine r_getR X (pc := 11) (r := 90) ci_M (zo hS 71 rfl rfl) rfl (zr hS 71 28 rfl rfl) lk_M_64 (zw_dg dk_M_allTrue 7 rfl) ?_
      refine r_iload_n X (pc := 14) (i := 1) (zw_dg dk_M_allTrue 8 rfl) rfl rfl ?_
      refine r_aload_n X (pc := 15) (i := 0) (zw_dg dk_M_allTrue 9 rfl) rfl rfl ?_
      refine r_getR X (pc := 16) (r := 89) ci_M (zo hS 71 rfl rfl) rfl (zr hS 71 27 rfl rfl) lk_M_61 (zw_dg dk_M_allTrue 10 rfl) ?_
      refine r_iload_n X (pc := 19) (i := 1) (zw_dg dk_M_allTrue 11 rfl) rfl rfl ?_
      obtain ⟨x8, hx8, hsem⟩ := zw_bd hsem
      refine r_iald X (pc := 20) (zo hS 89 rfl rfl) hx8 (zw_dg dk_M_allTrue 12 rfl) ?_
      obtain ⟨c9, hc9, hsem⟩ := zw_bd hsem
      refine r_iast X (pc := 21) (zo hS 90 rfl rfl) hc9 (zw_dg dk_M_allTrue 13 rfl) ?_
      refine r_iinc X (pc := 22) (i := 1) (k := 1) (zw_dg dk_M_allTrue 14 rfl) rfl (by decide) (by decide) rfl ?_
      refine r_goto X (pc := 25) (tgt := 2) (zw_dg dk_M_allTrue 15 rfl) (by decide) ?_
      have jj := hP _ (Option.some.inj hsem).symm
      exact (r_fgt [] rfl jj)
  have hsem := hsl5
  cases hsem
  exact r_vret X (pc := 28) rfl (zw_dg dk_M_allTrue 16 rfl)
def y_M_prizeOf : MethodName := ⟨R_M, "prizeOf", "(II)J"⟩
abbrev b_M_prizeOf : ByteArray := prog_14_method_70_code
def dl_M_prizeOf : List (Nat × Instr × Nat) := [(0, .lconst 0, 1), (1, .lstore_n 3, 1), (2, .iconst 0, 1), (3, .istore 5, 2), (5, .iload 5, 2), (7, .aload_n 0, 1), (8, .getfield 9, 3), (11, .if_icmp .ge 142, 3), (14, .aload_n 0, 1), (15, .getfield 46, 3), (18, .iconst 4, 1), (19, .iload_n 2, 1), (20, .imul, 1), (21, .iload 5, 2), (23, .iadd, 1), (24, .iaload, 1), (25, .istore 6, 2), (27, .iconst 1, 1), (28, .istore 7, 2), (30, .iconst 1, 1), (31, .istore 8, 2), (33, .iconst 0, 1), (34, .istore 9, 2), (36, .iload 9, 2), (38, .aload_n 0, 1), (39, .getfield 130, 3), (42, .if_icmp .ge 73, 3), (45, .iload 9, 2), (47, .iload_n 1, 1), (48, .if_icmp .ne 6, 3), (51, .goto 58, 3), (54, .aload_n 0, 1), (55, .getfield 46, 3), (58, .iconst 4, 1), (59, .aload_n 0, 1), (60, .getfield 64, 3), (63, .iload 9, 2), (65, .iaload, 1), (66, .imul, 1), (67, .iload 5, 2), (69, .iadd, 1), (70, .iaload, 1), (71, .istore 10, 2), (73, .iload 8, 2), (75, .ifCond .eq 14, 3), (78, .iload 10, 2), (80, .iload 6, 2), (82, .if_icmp .gt 7, 3), (85, .iconst 1, 1), (86, .goto 4, 3), (89, .iconst 0, 1), (90, .istore 8, 2), (92, .iload 7, 2), (94, .iload 10, 2), (96, .iload 6, 2), (98, .if_icmp .ne 7, 3), (101, .iconst 1, 1), (102, .goto 4, 3), (105, .iconst 0, 1), (106, .iadd, 1), (107, .istore 7, 2), (109, .iinc 9 1, 3), (112, .goto (-76), 3), (115, .iload 8, 2), (117, .ifCond .eq 30, 3), (120, .lload_n 3, 1), (121, .aload_n 0, 1), (122, .getfield 16, 3), (125, .iconst 4, 1), (126, .aload_n 0, 1), (127, .getfield 61, 3), (130, .iload_n 1, 1), (131, .iaload, 1), (132, .imul, 1), (133, .iload 5, 2), (135, .iadd, 1), (136, .iaload, 1), (137, .i2l, 1), (138, .bipush 60, 2), (140, .iload 7, 2), (142, .idiv, 1), (143, .i2l, 1), (144, .lmul, 1), (145, .ladd, 1), (146, .lstore_n 3, 1), (147, .iinc 5 1, 3), (150, .goto (-145), 3), (153, .lload_n 3, 1), (154, .lreturn, 1)]
theorem dk_M_prizeOf : zw_dk b_M_prizeOf dl_M_prizeOf = true := by decide +kernel
theorem ce_M_prizeOf : zw_cev y_M_prizeOf b_M_prizeOf 11 (some .long) 2 := ⟨⟨kt_in 1881 (by decide +kernel) rfl, kt_in 98 (by decide +kernel) rfl, by decide +kernel⟩, kt_in 1880 (by decide +kernel) rfl, kt_in 72 (by decide +kernel) rfl⟩
def fn_M_prizeOf_l2 (c : zw_Ct) (who1 : Int32) (e4 : Int32) (x9 : Int32) : Int32 × Int32 × Int32 → Option ((Int32 × Int32) ⊕ (Int32 × Int32 × Int32)) := fun (is10, alike11, w12) =>
  if (w12 < (c.1 71 26)) then
  (if (w12 = who1) then
  (some (.inr (is10, alike11, (w12 + 1))))
  else
  ((zw_aI 6 c 90 w12).bind fun x20 =>
  (zw_aI 1820 c 84 ((4 * x20) + e4)).bind fun x21 =>
  (some ((if ((¬ is10 = 0) ∧ (x21 ≤ x9)) then (1 : Int32) else 0) : Int32)).bind fun is24 =>
  (some ((alike11 + (if (x21 = x9) then (1 : Int32) else 0)) : Int32)).bind fun alike26 =>
  some (.inr (is24, alike26, (w12 + 1)))))
  else
  (some (.inl (is10, alike11)))
def fn_M_prizeOf_l1 (c : zw_Ct) (s2 : Int32) (who1 : Int32) : Int64 × Int32 → Option ((Int64) ⊕ (Int64 × Int32)) := fun (sum3, e4) =>
  if (e4 < (c.1 71 0)) then
  ((zw_aI 1820 c 84 ((4 * s2) + e4)).bind fun x9 =>
  (zw_whl (fn_M_prizeOf_l2 c who1 e4 x9) zw_F (1, 1, 0)).bind fun (is13, alike14) =>
  (if (¬ is13 = 0) then
  ((zw_aI 6 c 89 who1).bind fun x30 =>
  (zw_aI 1820 c 72 ((4 * x30) + e4)).bind fun x31 =>
  (zw_dvI 60 alike14).bind fun d32 =>
  (some ((sum3 + (x31.toInt64 * d32.toInt64)) : Int64)).bind fun sum33 =>
  some (sum33 : Int64))
  else
  (some (sum3 : Int64))).bind fun sum27 =>
  some (.inr (sum27, (e4 + 1))))
  else
  (some (.inl sum3))
def fn_M_prizeOf (c : zw_Ct) (who1 : Int32) (s2 : Int32) : Option Int64 :=
  (zw_whl (fn_M_prizeOf_l1 c s2 who1) zw_F (0, 0)).bind fun sum5 =>
  some sum5
set_option maxRecDepth 100000 in
theorem km_M_prizeOf {l : Launch} {g : zw_G} {rr : zw_RR} {sh : zw_Sh} {c : zw_Ct} {who1 : Int32} {s2 : Int32} {r : Int64} (hS : zw_Ok 0 101 sh rr) (hsem : fn_M_prizeOf c who1 s2 = some r) : zw_Met l g y_M_prizeOf b_M_prizeOf 11 (some .long) 1 rr sh [.ref 71, .int who1, .int s2] c (some (.long r)) c := by
  unfold fn_M_prizeOf at hsem
  refine zw_Met.of (by decide +kernel) (Nat.le_of_ble_eq_true rfl) (fun p e s m args below meth cd X => ?_)
  refine zw_eL (L2 := [some (.ref 71), some (.int who1), some (.int s2), none, none, none, none, none, none, none, none]) rfl ?_
  refine r_lconst X (pc := 0) (v := 0) (zw_dg dk_M_prizeOf 0 rfl) (by decide) ?_
  refine r_lstore_n X (pc := 1) (i := 3) (L2 := [some (.ref 71), some (.int who1), some (.int s2), some (.long 0), none, none, none, none, none, none, none]) (zw_dg dk_M_prizeOf 1 rfl) rfl (by decide) rfl ?_
  refine r_iconst X (pc := 2) (v := 0) (zw_dg dk_M_prizeOf 2 rfl) (by decide) ?_
  refine r_istore X (pc := 3) (i := 5) (zw_dg dk_M_prizeOf 3 rfl) (by decide) rfl ?_
  obtain ⟨sum5, hl6, hsl6⟩ := zw_bd hsem
  refine r_loop (pc := 5) (pce := 153) hl6 (fun (sum3, e4) => [some (.ref 71), some (.int who1), some (.int s2), some (.long sum3), none, some (.int e4), none, none, none, none, none] : Int64 × Int32 → zw_Lc) (fun (sum3, e4) => c : Int64 × Int32 → zw_Ct) (fun sum5 => [some (.ref 71), some (.int who1), some (.int s2), some (.long sum5), none, none, none, none, none, none, none] : Int64 → zw_Lc) (fun sum5 => c : Int64 → zw_Ct) ?_ rfl rfl ?_
  · rintro ⟨sum3, e4⟩ rr hsem hK hP
    try unfold fn_M_prizeOf_l1 at hsem
    refine r_iload X (pc := 5) (i := 5) (zw_dg dk_M_prizeOf 4 rfl) rfl ?_
    refine r_aload_n X (pc := 7) (i := 0) (zw_dg dk_M_prizeOf 5 rfl) rfl rfl ?_
    refine r_getI X (pc := 8) ci_M (zo hS 71 rfl rfl) rfl lk_M_9 (zw_dg dk_M_prizeOf 6 rfl) ?_
    refine r_icmp_ge X (pc := 11) (tgt := 153) (zw_dg dk_M_prizeOf 7 rfl) (by decide) (fun q8 => ?_) (fun q8 => ?_)
    · --
      have p7 : ¬ (e4 < (c.1 71 0)) := (Int32.not_lt.mpr q8)
      have hsem := zw_ifn p7 hsem
      have jj := hK _ (Option.some.inj hsem).symm
      exact (r_fgt [5] rfl jj)
    · --
      have p7 : (e4 < (c.1 71 0)) := (Int32.not_le.mp q8)
      have hsem := zw_ifp p7 hsem
      refine r_aload_n X (pc := 14) (i := 0) (zw_dg dk_M_prizeOf 8 rfl) rfl rfl ?_
      refine r_getR X (pc := 15) (r := 84) ci_M (zo hS 71 rfl rfl) rfl (zr hS 71 21 rfl rfl) lk_M_46 (zw_dg dk_M_prizeOf 9 rfl) ?_
      refine r_iconst X (pc := 18) (v := 4) (zw_dg dk_M_prizeOf 10 rfl) (by decide) ?_
      refine r_iload_n X (pc := 19) (i := 2) (zw_dg dk_M_prizeOf 11 rfl) rfl rfl ?_
      refine r_imul X (pc := 20) (zw_dg dk_M_prizeOf 12 rfl)  ?_
      refine r_iload X (pc := 21) (i := 5) (zw_dg dk_M_prizeOf 13 rfl) rfl ?_
      refine r_iadd X (pc := 23) (zw_dg dk_M_prizeOf 14 rfl)  ?_
      obtain ⟨x9, hx9, hsem⟩ := zw_bd hsem
      refine r_iald X (pc := 24) (zo hS 84 rfl rfl) hx9 (zw_dg dk_M_prizeOf 15 rfl) ?_
      refine r_istore X (pc := 25) (i := 6) (zw_dg dk_M_prizeOf 16 rfl) (by decide) rfl ?_
      refine r_iconst X (pc := 27) (v := 1) (zw_dg dk_M_prizeOf 17 rfl) (by decide) ?_
      refine r_istore X (pc := 28) (i := 7) (zw_dg dk_M_prizeOf 18 rfl) (by decide) rfl ?_
      refine r_iconst X (pc := 30) (v := 1) (zw_dg dk_M_prizeOf 19 rfl) (by decide) ?_
      refine r_istore X (pc := 31) (i := 8) (zw_dg dk_M_prizeOf 20 rfl) (by decide) rfl ?_
      refine r_iconst X (pc := 33) (v := 0) (zw_dg dk_M_prizeOf 21 rfl) (by decide) ?_
      refine r_istore X (pc := 34) (i := 9) (zw_dg dk_M_prizeOf 22 rfl) (by decide) rfl ?_
      obtain ⟨l15, hl15, hsl15⟩ := zw_bd hsem
      refine r_loop (pc := 36) (pce := 115) hl15 (fun (is10, alike11, w12) => [some (.ref 71), some (.int who1), some (.int s2), some (.long sum3), none, some (.int e4), some (.int x9), some (.int alike11), some (.int is10), some (.int w12), none] : Int32 × Int32 × Int32 → zw_Lc) (fun (is10, alike11, w12) => c : Int32 × Int32 × Int32 → zw_Ct) (fun (is13, alike14) => [some (.ref 71), some (.int who1), some (.int s2), some (.long sum3), none, some (.int e4), some (.int x9), some (.int alike14), some (.int is13), none, none] : Int32 × Int32 → zw_Lc) (fun (is13, alike14) => c : Int32 × Int32 → zw_Ct) ?_ rfl rfl ?_
      · rintro ⟨is10, alike11, w12⟩ rr hsem hK hP
        try unfold fn_M_prizeOf_l2 at hsem
        refine r_iload X (pc := 36) (i := 9) (zw_dg dk_M_prizeOf 23 rfl) rfl ?_
        refine r_aload_n X (pc := 38) (i := 0) (zw_dg dk_M_prizeOf 24 rfl) rfl rfl ?_
        refine r_getI X (pc := 39) ci_M (zo hS 71 rfl rfl) rfl lk_M_130 (zw_dg dk_M_prizeOf 25 rfl) ?_
        refine r_icmp_ge X (pc := 42) (tgt := 115) (zw_dg dk_M_prizeOf 26 rfl) (by decide) (fun q17 => ?_) (fun q17 => ?_)
        · --
          have p16 : ¬ (w12 < (c.1 71 26)) := (Int32.not_lt.mpr q17)
          have hsem := zw_ifn p16 hsem
          have jj := hK _ (Option.some.inj hsem).symm
          exact (r_fgt [9] rfl jj)
        · --
          have p16 : (w12 < (c.1 71 26)) := (Int32.not_le.mp q17)
          have hsem := zw_ifp p16 hsem
          refine r_iload X (pc := 45) (i := 9) (zw_dg dk_M_prizeOf 27 rfl) rfl ?_
          refine r_iload_n X (pc := 47) (i := 1) (zw_dg dk_M_prizeOf 28 rfl) rfl rfl ?_
          refine r_icmp_ne X (pc := 48) (tgt := 54) (zw_dg dk_M_prizeOf 29 rfl) (by decide) (fun q19 => ?_) (fun q19 => ?_)
          · --
            have p18 : ¬ (w12 = who1) := q19
            have hsem := zw_ifn p18 hsem
            refine r_aload_n X (pc := 54) (i := 0) (zw_dg dk_M_prizeOf 31 rfl) rfl rfl ?_
            refine r_getR X (pc := 55) (r := 84) ci_M (zo hS 71 rfl rfl) rfl (zr hS 71 21 rfl rfl) lk_M_46 (zw_dg dk_M_prizeOf 32 rfl) ?_
            refine r_iconst X (pc := 58) (v := 4) (zw_dg dk_M_prizeOf 33 rfl) (by decide) ?_
            refine r_aload_n X (pc := 59) (i := 0) (zw_dg dk_M_prizeOf 34 rfl) rfl rfl ?_
            refine r_getR X (pc := 60) (r := 90) ci_M (zo hS 71 rfl rfl) rfl (zr hS 71 28 rfl rfl) lk_M_64 (zw_dg dk_M_prizeOf 35 rfl) ?_
            refine r_iload X (pc := 63) (i := 9) (zw_dg dk_M_prizeOf 36 rfl) rfl ?_
            obtain ⟨x20, hx20, hsem⟩ := zw_bd hsem
            refine r_iald X (pc := 65) (zo hS 90 rfl rfl) hx20 (zw_dg dk_M_prizeOf 37 rfl) ?_
            refine r_imul X (pc := 66) (zw_dg dk_M_prizeOf 38 rfl)  ?_
            refine r_iload X (pc := 67) (i := 5) (zw_dg dk_M_prizeOf 39 rfl) rfl ?_
            refine r_iadd X (pc := 69) (zw_dg dk_M_prizeOf 40 rfl)  ?_
            obtain ⟨x21, hx21, hsem⟩ := zw_bd hsem
            refine r_iald X (pc := 70) (zo hS 84 rfl rfl) hx21 (zw_dg dk_M_prizeOf 41 rfl) ?_
            refine r_istore X (pc := 71) (i := 10) (zw_dg dk_M_prizeOf 42 rfl) (by decide) rfl ?_
            refine zw_ter (P := ((¬ is10 = 0) ∧ (x21 ≤ x9))) (f := Value.int) (x := 1) (y := 0) (J := 90) (st2 := []) (fun jT jF => ?_) ?_
            · --
              refine r_iload X (pc := 73) (i := 8) (zw_dg dk_M_prizeOf 43 rfl) rfl ?_
              refine r_if_eq X (pc := 75) (tgt := 89) (zw_dg dk_M_prizeOf 44 rfl) (by decide) (fun q22 => ?_) (fun q22 => ?_)
              · --
                refine r_iconst X (pc := 89) (v := 0) (zw_dg dk_M_prizeOf 50 rfl) (by decide) ?_
                exact jF (fun q => (fun z => z q22) q.1)
              · --
                refine r_iload X (pc := 78) (i := 10) (zw_dg dk_M_prizeOf 45 rfl) rfl ?_
                refine r_iload X (pc := 80) (i := 6) (zw_dg dk_M_prizeOf 46 rfl) rfl ?_
                refine r_icmp_gt X (pc := 82) (tgt := 89) (zw_dg dk_M_prizeOf 47 rfl) (by decide) (fun q23 => ?_) (fun q23 => ?_)
                · --
                  refine r_iconst X (pc := 89) (v := 0) (zw_dg dk_M_prizeOf 50 rfl) (by decide) ?_
                  exact jF (fun q => (Int32.not_le.mpr q23) q.2)
                · --
                  refine r_iconst X (pc := 85) (v := 1) (zw_dg dk_M_prizeOf 48 rfl) (by decide) ?_
                  refine r_goto X (pc := 86) (tgt := 90) (zw_dg dk_M_prizeOf 49 rfl) (by decide) ?_
                  exact jT ⟨q22, (Int32.not_lt.mp q23)⟩
            obtain ⟨is24, his24, hsem⟩ := zw_bd hsem
            refine zw_topI his24 ?_
            refine r_istore X (pc := 90) (i := 8) (zw_dg dk_M_prizeOf 51 rfl) (by decide) rfl ?_
            refine r_iload X (pc := 92) (i := 7) (zw_dg dk_M_prizeOf 52 rfl) rfl ?_
            refine zw_ter (P := (x21 = x9)) (f := Value.int) (x := 1) (y := 0) (J := 106) (st2 := [.int alike11]) (fun jT jF => ?_) ?_
            · --
              refine r_iload X (pc := 94) (i := 10) (zw_dg dk_M_prizeOf 53 rfl) rfl ?_
              refine r_iload X (pc := 96) (i := 6) (zw_dg dk_M_prizeOf 54 rfl) rfl ?_
              refine r_icmp_ne X (pc := 98) (tgt := 105) (zw_dg dk_M_prizeOf 55 rfl) (by decide) (fun q25 => ?_) (fun q25 => ?_)
              · --
                refine r_iconst X (pc := 105) (v := 0) (zw_dg dk_M_prizeOf 58 rfl) (by decide) ?_
                exact jF q25
              · --
                refine r_iconst X (pc := 101) (v := 1) (zw_dg dk_M_prizeOf 56 rfl) (by decide) ?_
                refine r_goto X (pc := 102) (tgt := 106) (zw_dg dk_M_prizeOf 57 rfl) (by decide) ?_
                exact jT q25
            refine r_iadd X (pc := 106) (zw_dg dk_M_prizeOf 59 rfl)  ?_
            obtain ⟨alike26, halike26, hsem⟩ := zw_bd hsem
            refine zw_topI halike26 ?_
            refine r_istore X (pc := 107) (i := 7) (zw_dg dk_M_prizeOf 60 rfl) (by decide) rfl ?_
            refine r_iinc X (pc := 109) (i := 9) (k := 1) (zw_dg dk_M_prizeOf 61 rfl) rfl (by decide) (by decide) rfl ?_
            refine r_goto X (pc := 112) (tgt := 36) (zw_dg dk_M_prizeOf 62 rfl) (by decide) ?_
            have jj := hP _ (Option.some.inj hsem).symm
            exact (r_fgt [10] rfl jj)
          · --
            have p18 : (w12 = who1) := q19
            have hsem := zw_ifp p18 hsem
            refine r_goto X (pc := 51) (tgt := 109) (zw_dg dk_M_prizeOf 30 rfl) (by decide) ?_
            refine r_iinc X (pc := 109) (i := 9) (k := 1) (zw_dg dk_M_prizeOf 61 rfl) rfl (by decide) (by decide) rfl ?_
            refine r_goto X (pc := 112) (tgt := 36) (zw_dg dk_M_prizeOf 62 rfl) (by decide) ?_
            have jj := hP _ (Option.some.inj hsem).symm
            exact (r_fgt [] rfl jj)
      obtain ⟨is13, alike14⟩ := l15
      have hsem := hsl15
      obtain ⟨sum27, ht147, hs147⟩ := zw_bd hsem
      refine zw_jn (J := 147) (L2 := [some (.ref 71), some (.int who1), some (.int s2), some (.long sum27), none, some (.int e4), some (.int x9), some (.int alike14), some (.int is13), none, none]) (c2 := c) (fun jj => ?_) ?_
      · have hsem := ht147
        refine r_iload X (pc := 115) (i := 8) (zw_dg dk_M_prizeOf 63 rfl) rfl ?_
        refine r_if_eq X (pc := 117) (tgt := 147) (zw_dg dk_M_prizeOf 64 rfl) (by decide) (fun q29 => ?_) (fun q29 => ?_)
        · --
          have p28 : ¬ (¬ is13 = 0) := (fun z => z q29)
          have hsem := zw_ifn p28 hsem
          cases hsem
          exact (r_fgt [] rfl jj)
        · --
          have p28 : (¬ is13 = 0) := q29
          have hsem := zw_ifp p28 hsem
          refine r_lload_n X (pc := 120) (i := 3) (zw_dg dk_M_prizeOf 65 rfl) rfl rfl ?_
          refine r_aload_n X (pc := 121) (i := 0) (zw_dg dk_M_prizeOf 66 rfl) rfl rfl ?_
          refine r_getR X (pc := 122) (r := 72) ci_M (zo hS 71 rfl rfl) rfl (zr hS 71 3 rfl rfl) lk_M_16 (zw_dg dk_M_prizeOf 67 rfl) ?_
          refine r_iconst X (pc := 125) (v := 4) (zw_dg dk_M_prizeOf 68 rfl) (by decide) ?_
          refine r_aload_n X (pc := 126) (i := 0) (zw_dg dk_M_prizeOf 69 rfl) rfl rfl ?_
          refine r_getR X (pc := 127) (r := 89) ci_M (zo hS 71 rfl rfl) rfl (zr hS 71 27 rfl rfl) lk_M_61 (zw_dg dk_M_prizeOf 70 rfl) ?_
          refine r_iload_n X (pc := 130) (i := 1) (zw_dg dk_M_prizeOf 71 rfl) rfl rfl ?_
          obtain ⟨x30, hx30, hsem⟩ := zw_bd hsem
          refine r_iald X (pc := 131) (zo hS 89 rfl rfl) hx30 (zw_dg dk_M_prizeOf 72 rfl) ?_
          refine r_imul X (pc := 132) (zw_dg dk_M_prizeOf 73 rfl)  ?_
          refine r_iload X (pc := 133) (i := 5) (zw_dg dk_M_prizeOf 74 rfl) rfl ?_
          refine r_iadd X (pc := 135) (zw_dg dk_M_prizeOf 75 rfl)  ?_
          obtain ⟨x31, hx31, hsem⟩ := zw_bd hsem
          refine r_iald X (pc := 136) (zo hS 72 rfl rfl) hx31 (zw_dg dk_M_prizeOf 76 rfl) ?_
          refine r_i2l X (pc := 137) (zw_dg dk_M_prizeOf 77 rfl)  ?_
          refine r_bipush X (pc := 138) (v := 60) (zw_dg dk_M_prizeOf 78 rfl) (by decide) ?_
          refine r_iload X (pc := 140) (i := 7) (zw_dg dk_M_prizeOf 79 rfl) rfl ?_
          obtain ⟨d32, hd32, hsem⟩ := zw_bd hsem
          obtain ⟨hyd32, hd32⟩ := zw_dvI_of hd32
          refine r_idiv X (pc := 142) (zw_dg dk_M_prizeOf 80 rfl) hyd32 ?_
          refine zw_eqtI hd32 ?_
          refine r_i2l X (pc := 143) (zw_dg dk_M_prizeOf 81 rfl)  ?_
          refine r_lmul X (pc := 144) (zw_dg dk_M_prizeOf 82 rfl)  ?_
          refine r_ladd X (pc := 145) (zw_dg dk_M_prizeOf 83 rfl)  ?_
          obtain ⟨sum33, hsum33, hsem⟩ := zw_bd hsem
          refine zw_topJ hsum33 ?_
          refine r_lstore_n X (pc := 146) (i := 3) (L2 := [some (.ref 71), some (.int who1), some (.int s2), some (.long sum33), none, some (.int e4), some (.int x9), some (.int alike14), some (.int is13), none, none]) (zw_dg dk_M_prizeOf 84 rfl) rfl (by decide) rfl ?_
          cases hsem
          exact (r_fgt [] rfl jj)
      have hsem := hs147
      refine r_iinc X (pc := 147) (i := 5) (k := 1) (zw_dg dk_M_prizeOf 85 rfl) rfl (by decide) (by decide) rfl ?_
      refine r_goto X (pc := 150) (tgt := 5) (zw_dg dk_M_prizeOf 86 rfl) (by decide) ?_
      have jj := hP _ (Option.some.inj hsem).symm
      exact (r_fgt [6, 7, 8] rfl jj)
  have hsem := hsl6
  refine r_lload_n X (pc := 153) (i := 3) (zw_dg dk_M_prizeOf 87 rfl) rfl rfl ?_
  cases hsem
  exact r_lret X (pc := 154) rfl (zw_dg dk_M_prizeOf 88 rfl)
def y_M_prize : MethodName := ⟨R_M, "prize", "(III)I"⟩
abbrev b_M_prize : ByteArray := prog_14_method_71_code
def dl_M_prize : List (Nat × Instr × Nat) := [(0, .aload_n 0, 1), (1, .iconst 0, 1), (2, .putfield 97, 3), (5, .aload_n 0, 1), (6, .iload_n 1, 1), (7, .invokevirtual 222, 3), (10, .ifCond .eq 19, 3), (13, .aload_n 0, 1), (14, .iload_n 2, 1), (15, .invokevirtual 302, 3), (18, .ifCond .eq 11, 3), (21, .aload_n 0, 1), (22, .iload_n 3, 1), (23, .invokevirtual 142, 3), (26, .ifCond .ne 5, 3), (29, .iconst (-1), 1), (30, .ireturn, 1), (31, .aload_n 0, 1), (32, .iload_n 1, 1), (33, .invokevirtual 229, 3), (36, .aload_n 0, 1), (37, .invokevirtual 305, 3), (40, .aload_n 0, 1), (41, .iload_n 2, 1), (42, .iload_n 3, 1), (43, .invokevirtual 308, 3), (46, .l2i, 1), (47, .ireturn, 1)]
theorem dk_M_prize : zw_dk b_M_prize dl_M_prize = true := by decide +kernel
theorem ce_M_prize : zw_cev y_M_prize b_M_prize 4 (some .int) 3 := ⟨⟨kt_in 1869 (by decide +kernel) rfl, kt_in 98 (by decide +kernel) rfl, by decide +kernel⟩, kt_in 1867 (by decide +kernel) rfl, kt_in 1868 (by decide +kernel) rfl⟩
def fn_M_prize (c : zw_Ct) (p1 : Int32) (who2 : Int32) (s3 : Int32) : Option (Int32 × zw_Ct) :=
  (some (zw_wI c 71 9 0)).bind fun c4 =>
  (fn_M_isPay c4 p1).bind fun r5 =>
  if (((¬ (¬ r5 = 0)) ∨ (¬ (¬ (fn_M_isOne c4 who2) = 0))) ∨ (¬ (¬ (fn_M_isSaying c4 s3) = 0))) then
  (some ((-1), c4))
  else
  ((fn_M_layPay c4 p1).bind fun c10 =>
  (fn_M_allTrue c10).bind fun c11 =>
  (fn_M_prizeOf c11 who2 s3).bind fun r12 =>
  some (r12.toInt32, c11))
set_option maxRecDepth 100000 in
theorem km_M_prize {l : Launch} {g : zw_G} {rr : zw_RR} {sh : zw_Sh} {c : zw_Ct} {p1 : Int32} {who2 : Int32} {s3 : Int32} {r : Int32} {c2 : zw_Ct} (hS : zw_Ok 0 101 sh rr) (hsem : fn_M_prize c p1 who2 s3 = some (r, c2)) : zw_Met l g y_M_prize b_M_prize 4 (some .int) 107 rr sh [.ref 71, .int p1, .int who2, .int s3] c (some (.int r)) c2 := by
  unfold fn_M_prize at hsem
  refine zw_Met.of (by decide +kernel) (Nat.le_of_ble_eq_true rfl) (fun p e s m args below meth cd X => ?_)
  refine zw_eL (L2 := [some (.ref 71), some (.int p1), some (.int who2), some (.int s3)]) rfl ?_
  refine r_aload_n X (pc := 0) (i := 0) (zw_dg dk_M_prize 0 rfl) rfl rfl ?_
  refine r_iconst X (pc := 1) (v := 0) (zw_dg dk_M_prize 1 rfl) (by decide) ?_
  refine r_putI X (pc := 2) ci_M (zo hS 71 rfl rfl) rfl lk_M_97 rfl ⟨rfl, rfl⟩ (zw_dg dk_M_prize 2 rfl) ?_
  obtain ⟨c4, hc4, hsem⟩ := zw_bd hsem
  refine zw_topC hc4 ?_
  refine r_aload_n X (pc := 5) (i := 0) (zw_dg dk_M_prize 3 rfl) rfl rfl ?_
  refine r_iload_n X (pc := 6) (i := 1) (zw_dg dk_M_prize 4 rfl) rfl rfl ?_
  obtain ⟨r5, hr5, hsem⟩ := zw_bd hsem
  refine r_callVi X (pc := 7) (As := [_]) (st := []) (km_M_isPay hS hr5) ce_M_isPay kw_1688 (zo hS 71 rfl rfl) rfl rfl ⟨Nat.le_of_ble_eq_true rfl, Nat.le_of_ble_eq_true rfl⟩ (Nat.le_of_ble_eq_true rfl) (zw_dg dk_M_prize 5 rfl) ?_
  refine zw_cnd (P := (((¬ (¬ r5 = 0)) ∨ (¬ (¬ (fn_M_isOne c4 who2) = 0))) ∨ (¬ (¬ (fn_M_isSaying c4 s3) = 0)))) (J1 := 29) (J2 := 31) (st2 := []) (fun jT jF => ?_) (fun p6 => ?_) (fun p6 => ?_)
  · --
    refine r_if_eq X (pc := 10) (tgt := 29) (zw_dg dk_M_prize 6 rfl) (by decide) (fun q7 => ?_) (fun q7 => ?_)
    · --
      exact jT (Or.inl (Or.inl (fun z => z q7)))
    · --
      refine r_aload_n X (pc := 13) (i := 0) (zw_dg dk_M_prize 7 rfl) rfl rfl ?_
      refine r_iload_n X (pc := 14) (i := 2) (zw_dg dk_M_prize 8 rfl) rfl rfl ?_
      refine r_callVi X (pc := 15) (As := [_]) (st := []) (km_M_isOne hS rfl) ce_M_isOne kw_1870 (zo hS 71 rfl rfl) rfl rfl ⟨Nat.le_of_ble_eq_true rfl, Nat.le_of_ble_eq_true rfl⟩ (Nat.le_of_ble_eq_true rfl) (zw_dg dk_M_prize 9 rfl) ?_
      refine r_if_eq X (pc := 18) (tgt := 29) (zw_dg dk_M_prize 10 rfl) (by decide) (fun q8 => ?_) (fun q8 => ?_)
      · --
        exact jT (Or.inl (Or.inr (fun z => z q8)))
      · --
        refine r_aload_n X (pc := 21) (i := 0) (zw_dg dk_M_prize 11 rfl) rfl rfl ?_
        refine r_iload_n X (pc := 22) (i := 3) (zw_dg dk_M_prize 12 rfl) rfl rfl ?_
        refine r_callVi X (pc := 23) (As := [_]) (st := []) (km_M_isSaying hS rfl) ce_M_isSaying kw_1609 (zo hS 71 rfl rfl) rfl rfl ⟨Nat.le_of_ble_eq_true rfl, Nat.le_of_ble_eq_true rfl⟩ (Nat.le_of_ble_eq_true rfl) (zw_dg dk_M_prize 13 rfl) ?_
        refine r_if_ne X (pc := 26) (tgt := 31) (zw_dg dk_M_prize 14 rfl) (by decide) (fun q9 => ?_) (fun q9 => ?_)
        · --
          exact jF (fun q => q.elim (fun q => q.elim (fun q => q q7) (fun q => q q8)) (fun q => q q9))
        · --
          exact jT (Or.inr (fun z => z q9))
  · --
    have hsem := zw_ifp p6 hsem
    refine r_iconst X (pc := 29) (v := (-1)) (zw_dg dk_M_prize 15 rfl) (by decide) ?_
    obtain ⟨rfl, rfl⟩ := zw_in2 hsem
    exact r_iret X (pc := 30) rfl (zw_dg dk_M_prize 16 rfl)
  · --
    have hsem := zw_ifn p6 hsem
    refine r_aload_n X (pc := 31) (i := 0) (zw_dg dk_M_prize 17 rfl) rfl rfl ?_
    refine r_iload_n X (pc := 32) (i := 1) (zw_dg dk_M_prize 18 rfl) rfl rfl ?_
    obtain ⟨c10, hc10, hsem⟩ := zw_bd hsem
    refine r_callVv X (pc := 33) (As := [_]) (st := []) (km_M_layPay hS hc10) ce_M_layPay kw_1700 (zo hS 71 rfl rfl) rfl rfl ⟨Nat.le_of_ble_eq_true rfl, Nat.le_of_ble_eq_true rfl⟩ (Nat.le_of_ble_eq_true rfl) (zw_dg dk_M_prize 19 rfl) ?_
    refine r_aload_n X (pc := 36) (i := 0) (zw_dg dk_M_prize 20 rfl) rfl rfl ?_
    obtain ⟨c11, hc11, hsem⟩ := zw_bd hsem
    refine r_callVv X (pc := 37) (As := []) (st := []) (km_M_allTrue hS hc11) ce_M_allTrue kw_1874 (zo hS 71 rfl rfl) rfl rfl ⟨Nat.le_of_ble_eq_true rfl, Nat.le_of_ble_eq_true rfl⟩ (Nat.le_of_ble_eq_true rfl) (zw_dg dk_M_prize 21 rfl) ?_
    refine r_aload_n X (pc := 40) (i := 0) (zw_dg dk_M_prize 22 rfl) rfl rfl ?_
    refine r_iload_n X (pc := 41) (i := 2) (zw_dg dk_M_prize 23 rfl) rfl rfl ?_
    refine r_iload_n X (pc := 42) (i := 3) (zw_dg dk_M_prize 24 rfl) rfl rfl ?_
    obtain ⟨r12, hr12, hsem⟩ := zw_bd hsem
    refine r_callVl X (pc := 43) (As := [_, _]) (st := []) (km_M_prizeOf hS hr12) ce_M_prizeOf kw_1878 (zo hS 71 rfl rfl) rfl rfl ⟨Nat.le_of_ble_eq_true rfl, Nat.le_of_ble_eq_true rfl⟩ (Nat.le_of_ble_eq_true rfl) (zw_dg dk_M_prize 25 rfl) ?_
    refine r_l2i X (pc := 46) (zw_dg dk_M_prize 26 rfl)  ?_
    obtain ⟨rfl, rfl⟩ := zw_in2 hsem
    exact r_iret X (pc := 47) rfl (zw_dg dk_M_prize 27 rfl)
def y_M_bestFor : MethodName := ⟨R_M, "bestFor", "(II)I"⟩
abbrev b_M_bestFor : ByteArray := prog_14_method_72_code
def dl_M_bestFor : List (Nat × Instr × Nat) := [(0, .iload_n 2, 1), (1, .istore_n 3, 1), (2, .aload_n 0, 1), (3, .iload_n 1, 1), (4, .iload_n 2, 1), (5, .invokevirtual 308, 3), (8, .lstore 4, 2), (10, .iconst 0, 1), (11, .istore 6, 2), (13, .iload 6, 2), (15, .aload_n 0, 1), (16, .getfield 113, 3), (19, .if_icmp .ge 36, 3), (22, .aload_n 0, 1), (23, .iload_n 1, 1), (24, .iload 6, 2), (26, .invokevirtual 308, 3), (29, .lstore 7, 2), (31, .lload 7, 2), (33, .lload 4, 2), (35, .lcmp, 1), (36, .ifCond .gt 6, 3), (39, .goto 10, 3), (42, .lload 7, 2), (44, .lstore 4, 2), (46, .iload 6, 2), (48, .istore_n 3, 1), (49, .iinc 6 1, 3), (52, .goto (-39), 3), (55, .iload_n 3, 1), (56, .ireturn, 1)]
theorem dk_M_bestFor : zw_dk b_M_bestFor dl_M_bestFor = true := by decide +kernel
theorem ce_M_bestFor : zw_cev y_M_bestFor b_M_bestFor 9 (some .int) 2 := ⟨⟨kt_in 1889 (by decide +kernel) rfl, kt_in 98 (by decide +kernel) rfl, by decide +kernel⟩, kt_in 1888 (by decide +kernel) rfl, kt_in 73 (by decide +kernel) rfl⟩
def fn_M_bestFor_l1 (c : zw_Ct) (who1 : Int32) : Int64 × Int32 × Int32 → Option ((Int64 × Int32) ⊕ (Int64 × Int32 × Int32)) := fun (most4, best5, s6) =>
  if (s6 < (c.1 71 2)) then
  ((fn_M_prizeOf c who1 s6).bind fun r12 =>
  if (r12 ≤ most4) then
  (some (.inr (most4, best5, (s6 + 1))))
  else
  (some (.inr (r12, s6, (s6 + 1)))))
  else
  (some (.inl (most4, best5)))
def fn_M_bestFor (c : zw_Ct) (who1 : Int32) (kept2 : Int32) : Option Int32 :=
  (fn_M_prizeOf c who1 kept2).bind fun r3 =>
  (zw_whl (fn_M_bestFor_l1 c who1) zw_F (r3, kept2, 0)).bind fun (most7, best8) =>
  some best8
set_option maxRecDepth 100000 in
theorem km_M_bestFor {l : Launch} {g : zw_G} {rr : zw_RR} {sh : zw_Sh} {c : zw_Ct} {who1 : Int32} {kept2 : Int32} {r : Int32} (hS : zw_Ok 0 101 sh rr) (hsem : fn_M_bestFor c who1 kept2 = some r) : zw_Met l g y_M_bestFor b_M_bestFor 9 (some .int) 2 rr sh [.ref 71, .int who1, .int kept2] c (some (.int r)) c := by
  unfold fn_M_bestFor at hsem
  refine zw_Met.of (by decide +kernel) (Nat.le_of_ble_eq_true rfl) (fun p e s m args below meth cd X => ?_)
  refine zw_eL (L2 := [some (.ref 71), some (.int who1), some (.int kept2), none, none, none, none, none, none]) rfl ?_
  refine r_iload_n X (pc := 0) (i := 2) (zw_dg dk_M_bestFor 0 rfl) rfl rfl ?_
  refine r_istore_n X (pc := 1) (i := 3) (zw_dg dk_M_bestFor 1 rfl) rfl (by decide) rfl ?_
  refine r_aload_n X (pc := 2) (i := 0) (zw_dg dk_M_bestFor 2 rfl) rfl rfl ?_
  refine r_iload_n X (pc := 3) (i := 1) (zw_dg dk_M_bestFor 3 rfl) rfl rfl ?_
  refine r_iload_n X (pc := 4) (i := 2) (zw_dg dk_M_bestFor 4 rfl) rfl rfl ?_
  obtain ⟨r3, hr3, hsem⟩ := zw_bd hsem
  refine r_callVl X (pc := 5) (As := [_, _]) (st := []) (km_M_prizeOf hS hr3) ce_M_prizeOf kw_1878 (zo hS 71 rfl rfl) rfl rfl ⟨Nat.le_of_ble_eq_true rfl, Nat.le_of_ble_eq_true rfl⟩ (Nat.le_of_ble_eq_true rfl) (zw_dg dk_M_bestFor 5 rfl) ?_
  refine r_lstore X (pc := 8) (i := 4) (L2 := [some (.ref 71), some (.int who1), some (.int kept2), some (.int kept2), some (.long r3), none, none, none, none]) (zw_dg dk_M_bestFor 6 rfl) (by decide) rfl ?_
  refine r_iconst X (pc := 10) (v := 0) (zw_dg dk_M_bestFor 7 rfl) (by decide) ?_
  refine r_istore X (pc := 11) (i := 6) (zw_dg dk_M_bestFor 8 rfl) (by decide) rfl ?_
  obtain ⟨l9, hl9, hsl9⟩ := zw_bd hsem
  refine r_loop (pc := 13) (pce := 55) hl9 (fun (most4, best5, s6) => [some (.ref 71), some (.int who1), some (.int kept2), some (.int best5), some (.long most4), none, some (.int s6), none, none] : Int64 × Int32 × Int32 → zw_Lc) (fun (most4, best5, s6) => c : Int64 × Int32 × Int32 → zw_Ct) (fun (most7, best8) => [some (.ref 71), some (.int who1), some (.int kept2), some (.int best8), some (.long most7), none, none, none, none] : Int64 × Int32 → zw_Lc) (fun (most7, best8) => c : Int64 × Int32 → zw_Ct) ?_ rfl rfl ?_
  · rintro ⟨most4, best5, s6⟩ rr hsem hK hP
    try unfold fn_M_bestFor_l1 at hsem
    refine r_iload X (pc := 13) (i := 6) (zw_dg dk_M_bestFor 9 rfl) rfl ?_
    refine r_aload_n X (pc := 15) (i := 0) (zw_dg dk_M_bestFor 10 rfl) rfl rfl ?_
    refine r_getI X (pc := 16) ci_M (zo hS 71 rfl rfl) rfl lk_M_113 (zw_dg dk_M_bestFor 11 rfl) ?_
    refine r_icmp_ge X (pc := 19) (tgt := 55) (zw_dg dk_M_bestFor 12 rfl) (by decide) (fun q11 => ?_) (fun q11 => ?_)
    · --
      have p10 : ¬ (s6 < (c.1 71 2)) := (Int32.not_lt.mpr q11)
      have hsem := zw_ifn p10 hsem
      have jj := hK _ (Option.some.inj hsem).symm
      exact (r_fgt [6] rfl jj)
    · --
      have p10 : (s6 < (c.1 71 2)) := (Int32.not_le.mp q11)
      have hsem := zw_ifp p10 hsem
      refine r_aload_n X (pc := 22) (i := 0) (zw_dg dk_M_bestFor 13 rfl) rfl rfl ?_
      refine r_iload_n X (pc := 23) (i := 1) (zw_dg dk_M_bestFor 14 rfl) rfl rfl ?_
      refine r_iload X (pc := 24) (i := 6) (zw_dg dk_M_bestFor 15 rfl) rfl ?_
      obtain ⟨r12, hr12, hsem⟩ := zw_bd hsem
      refine r_callVl X (pc := 26) (As := [_, _]) (st := []) (km_M_prizeOf hS hr12) ce_M_prizeOf kw_1878 (zo hS 71 rfl rfl) rfl rfl ⟨Nat.le_of_ble_eq_true rfl, Nat.le_of_ble_eq_true rfl⟩ (Nat.le_of_ble_eq_true rfl) (zw_dg dk_M_bestFor 16 rfl) ?_
      refine r_lstore X (pc := 29) (i := 7) (L2 := [some (.ref 71), some (.int who1), some (.int kept2), some (.int best5), some (.long most4), none, some (.int s6), some (.long r12), none]) (zw_dg dk_M_bestFor 17 rfl) (by decide) rfl ?_
      refine r_lload X (pc := 31) (i := 7) (zw_dg dk_M_bestFor 18 rfl) rfl ?_
      refine r_lload X (pc := 33) (i := 4) (zw_dg dk_M_bestFor 19 rfl) rfl ?_
      refine r_lcmp_gt X (pc := 35) (tgt := 42) (zw_dg dk_M_bestFor 20 rfl) (zw_dg dk_M_bestFor 21 rfl) (by decide) (fun q14 => ?_) (fun q14 => ?_)
      · --
        have p13 : ¬ (r12 ≤ most4) := (Int64.not_le.mpr q14)
        have hsem := zw_ifn p13 hsem
        refine r_lload X (pc := 42) (i := 7) (zw_dg dk_M_bestFor 23 rfl) rfl ?_
        refine r_lstore X (pc := 44) (i := 4) (L2 := [some (.ref 71), some (.int who1), some (.int kept2), some (.int best5), some (.long r12), none, some (.int s6), some (.long r12), none]) (zw_dg dk_M_bestFor 24 rfl) (by decide) rfl ?_
        refine r_iload X (pc := 46) (i := 6) (zw_dg dk_M_bestFor 25 rfl) rfl ?_
        refine r_istore_n X (pc := 48) (i := 3) (zw_dg dk_M_bestFor 26 rfl) rfl (by decide) rfl ?_
        refine r_iinc X (pc := 49) (i := 6) (k := 1) (zw_dg dk_M_bestFor 27 rfl) rfl (by decide) (by decide) rfl ?_
        refine r_goto X (pc := 52) (tgt := 13) (zw_dg dk_M_bestFor 28 rfl) (by decide) ?_
        have jj := hP _ (Option.some.inj hsem).symm
        exact (r_fgt [7] rfl jj)
      · --
        have p13 : (r12 ≤ most4) := (Int64.not_lt.mp q14)
        have hsem := zw_ifp p13 hsem
        refine r_goto X (pc := 39) (tgt := 49) (zw_dg dk_M_bestFor 22 rfl) (by decide) ?_
        refine r_iinc X (pc := 49) (i := 6) (k := 1) (zw_dg dk_M_bestFor 27 rfl) rfl (by decide) (by decide) rfl ?_
        refine r_goto X (pc := 52) (tgt := 13) (zw_dg dk_M_bestFor 28 rfl) (by decide) ?_
        have jj := hP _ (Option.some.inj hsem).symm
        exact (r_fgt [7] rfl jj)
  obtain ⟨most7, best8⟩ := l9
  have hsem := hsl9
  refine r_iload_n X (pc := 55) (i := 3) (zw_dg dk_M_bestFor 29 rfl) rfl rfl ?_
  cases hsem
  exact r_iret X (pc := 56) rfl (zw_dg dk_M_bestFor 30 rfl)
def y_M_boast : MethodName := ⟨R_M, "boast", "(II)I"⟩
abbrev b_M_boast : ByteArray := prog_14_method_73_code
def dl_M_boast : List (Nat × Instr × Nat) := [(0, .aload_n 0, 1), (1, .iconst 0, 1), (2, .putfield 97, 3), (5, .aload_n 0, 1), (6, .iload_n 1, 1), (7, .invokevirtual 222, 3), (10, .ifCond .eq 11, 3), (13, .aload_n 0, 1), (14, .iload_n 2, 1), (15, .invokevirtual 302, 3), (18, .ifCond .ne 5, 3), (21, .iconst (-1), 1), (22, .ireturn, 1), (23, .aload_n 0, 1), (24, .iload_n 1, 1), (25, .invokevirtual 229, 3), (28, .aload_n 0, 1), (29, .invokevirtual 305, 3), (32, .aload_n 0, 1), (33, .iload_n 2, 1), (34, .aload_n 0, 1), (35, .getfield 61, 3), (38, .iload_n 2, 1), (39, .iaload, 1), (40, .invokevirtual 311, 3), (43, .istore_n 3, 1), (44, .iconst 0, 1), (45, .istore 4, 2), (47, .iconst 0, 1), (48, .istore 5, 2), (50, .iload 5, 2), (52, .aload_n 0, 1), (53, .getfield 9, 3), (56, .if_icmp .ge 45, 3), (59, .iload 4, 2), (61, .aload_n 0, 1), (62, .getfield 16, 3), (65, .iconst 4, 1), (66, .iload_n 3, 1), (67, .imul, 1), (68, .iload 5, 2), (70, .iadd, 1), (71, .iaload, 1), (72, .aload_n 0, 1), (73, .getfield 16, 3), (76, .iconst 4, 1), (77, .aload_n 0, 1), (78, .getfield 61, 3), (81, .iload_n 2, 1), (82, .iaload, 1), (83, .imul, 1), (84, .iload 5, 2), (86, .iadd, 1), (87, .iaload, 1), (88, .isub, 1), (89, .invokestatic 314, 3), (92, .iadd, 1), (93, .istore 4, 2), (95, .iinc 5 1, 3), (98, .goto (-48), 3), (101, .aload_n 0, 1), (102, .iconst 0, 1), (103, .putfield 100, 3), (106, .aload_n 0, 1), (107, .aload_n 0, 1), (108, .iload_n 2, 1), (109, .iload_n 3, 1), (110, .invokevirtual 308, 3), (113, .invokevirtual 109, 3), (116, .aload_n 0, 1), (117, .aload_n 0, 1), (118, .iload_n 2, 1), (119, .aload_n 0, 1), (120, .getfield 61, 3), (123, .iload_n 2, 1), (124, .iaload, 1), (125, .invokevirtual 308, 3), (128, .invokevirtual 109, 3), (131, .aload_n 0, 1), (132, .iload 4, 2), (134, .iconst 2, 1), (135, .idiv, 1), (136, .i2l, 1), (137, .invokevirtual 109, 3), (140, .iload_n 3, 1), (141, .ireturn, 1)]
theorem dk_M_boast : zw_dk b_M_boast dl_M_boast = true := by decide +kernel
theorem ce_M_boast : zw_cev y_M_boast b_M_boast 6 (some .int) 2 := ⟨⟨kt_in 1885 (by decide +kernel) rfl, kt_in 98 (by decide +kernel) rfl, by decide +kernel⟩, kt_in 1883 (by decide +kernel) rfl, kt_in 1884 (by decide +kernel) rfl⟩
def fn_M_boast_l1 (c9 : zw_Ct) (r11 : Int32) (who2 : Int32) : Int32 × Int32 → Option ((Int32) ⊕ (Int32 × Int32)) := fun (off12, e13) =>
  if (e13 < (c9.1 71 0)) then
  ((zw_aI 1820 c9 72 ((4 * r11) + e13)).bind fun x18 =>
  (zw_aI 6 c9 89 who2).bind fun x19 =>
  (zw_aI 1820 c9 72 ((4 * x19) + e13)).bind fun x20 =>
  (some ((off12 + (if 0 ≤ (x18 - x20) then (x18 - x20) else 0 - (x18 - x20))) : Int32)).bind fun off21 =>
  some (.inr (off21, (e13 + 1))))
  else
  (some (.inl off12))
def fn_M_boast (c : zw_Ct) (p1 : Int32) (who2 : Int32) : Option (Int32 × zw_Ct) :=
  (some (zw_wI c 71 9 0)).bind fun c3 =>
  (fn_M_isPay c3 p1).bind fun r4 =>
  if ((¬ (¬ r4 = 0)) ∨ (¬ (¬ (fn_M_isOne c3 who2) = 0))) then
  (some ((-1), c3))
  else
  ((fn_M_layPay c3 p1).bind fun c8 =>
  (fn_M_allTrue c8).bind fun c9 =>
  (zw_aI 6 c9 89 who2).bind fun x10 =>
  (fn_M_bestFor c9 who2 x10).bind fun r11 =>
  (zw_whl (fn_M_boast_l1 c9 r11 who2) zw_F (0, 0)).bind fun off14 =>
  (some (zw_wI c9 71 8 0)).bind fun c22 =>
  (fn_M_prizeOf c22 who2 r11).bind fun r23 =>
  (fn_M_tell c22 r23).bind fun c24 =>
  (zw_aI 6 c24 89 who2).bind fun x25 =>
  (fn_M_prizeOf c24 who2 x25).bind fun r26 =>
  (fn_M_tell c24 r26).bind fun c27 =>
  (fn_M_tell c27 ((off14 / 2)).toInt64).bind fun c28 =>
  some (r11, c28))
set_option maxRecDepth 100000 in
theorem km_M_boast {l : Launch} {g : zw_G} {rr : zw_RR} {sh : zw_Sh} {c : zw_Ct} {p1 : Int32} {who2 : Int32} {r : Int32} {c2 : zw_Ct} (hS : zw_Ok 0 101 sh rr) (hsem : fn_M_boast c p1 who2 = some (r, c2)) : zw_Met l g y_M_boast b_M_boast 6 (some .int) 107 rr sh [.ref 71, .int p1, .int who2] c (some (.int r)) c2 := by
  unfold fn_M_boast at hsem
  refine zw_Met.of (by decide +kernel) (Nat.le_of_ble_eq_true rfl) (fun p e s m args below meth cd X => ?_)
  refine zw_eL (L2 := [some (.ref 71), some (.int p1), some (.int who2), none, none, none]) rfl ?_
  refine r_aload_n X (pc := 0) (i := 0) (zw_dg dk_M_boast 0 rfl) rfl rfl ?_
  refine r_iconst X (pc := 1) (v := 0) (zw_dg dk_M_boast 1 rfl) (by decide) ?_
  refine r_putI X (pc := 2) ci_M (zo hS 71 rfl rfl) rfl lk_M_97 rfl ⟨rfl, rfl⟩ (zw_dg dk_M_boast 2 rfl) ?_
  obtain ⟨c3, hc3, hsem⟩ := zw_bd hsem
  refine zw_topC hc3 ?_
  refine r_aload_n X (pc := 5) (i := 0) (zw_dg dk_M_boast 3 rfl) rfl rfl ?_
  refine r_iload_n X (pc := 6) (i := 1) (zw_dg dk_M_boast 4 rfl) rfl rfl ?_
  obtain ⟨r4, hr4, hsem⟩ := zw_bd hsem
  refine r_callVi X (pc := 7) (As := [_]) (st := []) (km_M_isPay hS hr4) ce_M_isPay kw_1688 (zo hS 71 rfl rfl) rfl rfl ⟨Nat.le_of_ble_eq_true rfl, Nat.le_of_ble_eq_true rfl⟩ (Nat.le_of_ble_eq_true rfl) (zw_dg dk_M_boast 5 rfl) ?_
  refine zw_cnd (P := ((¬ (¬ r4 = 0)) ∨ (¬ (¬ (fn_M_isOne c3 who2) = 0)))) (J1 := 21) (J2 := 23) (st2 := []) (fun jT jF => ?_) (fun p5 => ?_) (fun p5 => ?_)
  · --
    refine r_if_eq X (pc := 10) (tgt := 21) (zw_dg dk_M_boast 6 rfl) (by decide) (fun q6 => ?_) (fun q6 => ?_)
    · --
      exact jT (Or.inl (fun z => z q6))
    · --
      refine r_aload_n X (pc := 13) (i := 0) (zw_dg dk_M_boast 7 rfl) rfl rfl ?_
      refine r_iload_n X (pc := 14) (i := 2) (zw_dg dk_M_boast 8 rfl) rfl rfl ?_
      refine r_callVi X (pc := 15) (As := [_]) (st := []) (km_M_isOne hS rfl) ce_M_isOne kw_1870 (zo hS 71 rfl rfl) rfl rfl ⟨Nat.le_of_ble_eq_true rfl, Nat.le_of_ble_eq_true rfl⟩ (Nat.le_of_ble_eq_true rfl) (zw_dg dk_M_boast 9 rfl) ?_
      refine r_if_ne X (pc := 18) (tgt := 23) (zw_dg dk_M_boast 10 rfl) (by decide) (fun q7 => ?_) (fun q7 => ?_)
      · --
        exact jF (fun q => q.elim (fun q => q q6) (fun q => q q7))
      · --
        exact jT (Or.inr (fun z => z q7))
  · --
    have hsem := zw_ifp p5 hsem
    refine r_iconst X (pc := 21) (v := (-1)) (zw_dg dk_M_boast 11 rfl) (by decide) ?_
    obtain ⟨rfl, rfl⟩ := zw_in2 hsem
    exact r_iret X (pc := 22) rfl (zw_dg dk_M_boast 12 rfl)
  · --
    have hsem := zw_ifn p5 hsem
    refine r_aload_n X (pc := 23) (i := 0) (zw_dg dk_M_boast 13 rfl) rfl rfl ?_
    refine r_iload_n X (pc := 24) (i := 1) (zw_dg dk_M_boast 14 rfl) rfl rfl ?_
    obtain ⟨c8, hc8, hsem⟩ := zw_bd hsem
    refine r_callVv X (pc := 25) (As := [_]) (st := []) (km_M_layPay hS hc8) ce_M_layPay kw_1700 (zo hS 71 rfl rfl) rfl rfl ⟨Nat.le_of_ble_eq_true rfl, Nat.le_of_ble_eq_true rfl⟩ (Nat.le_of_ble_eq_true rfl) (zw_dg dk_M_boast 15 rfl) ?_
    refine r_aload_n X (pc := 28) (i := 0) (zw_dg dk_M_boast 16 rfl) rfl rfl ?_
    obtain ⟨c9, hc9, hsem⟩ := zw_bd hsem
    refine r_callVv X (pc := 29) (As := []) (st := []) (km_M_allTrue hS hc9) ce_M_allTrue kw_1874 (zo hS 71 rfl rfl) rfl rfl ⟨Nat.le_of_ble_eq_true rfl, Nat.le_of_ble_eq_true rfl⟩ (Nat.le_of_ble_eq_true rfl) (zw_dg dk_M_boast 17 rfl) ?_
    refine r_aload_n X (pc := 32) (i := 0) (zw_dg dk_M_boast 18 rfl) rfl rfl ?_
    refine r_iload_n X (pc := 33) (i := 2) (zw_dg dk_M_boast 19 rfl) rfl rfl ?_
    refine r_aload_n X (pc := 34) (i := 0) (zw_dg dk_M_boast 20 rfl) rfl rfl ?_
    refine r_getR X (pc := 35) (r := 89) ci_M (zo hS 71 rfl rfl) rfl (zr hS 71 27 rfl rfl) lk_M_61 (zw_dg dk_M_boast 21 rfl) ?_
    refine r_iload_n X (pc := 38) (i := 2) (zw_dg dk_M_boast 22 rfl) rfl rfl ?_
    obtain ⟨x10, hx10, hsem⟩ := zw_bd hsem
    refine r_iald X (pc := 39) (zo hS 89 rfl rfl) hx10 (zw_dg dk_M_boast 23 rfl) ?_
    obtain ⟨r11, hr11, hsem⟩ := zw_bd hsem
    refine r_callVi X (pc := 40) (As := [_, _]) (st := []) (km_M_bestFor hS hr11) ce_M_bestFor kw_1886 (zo hS 71 rfl rfl) rfl rfl ⟨Nat.le_of_ble_eq_true rfl, Nat.le_of_ble_eq_true rfl⟩ (Nat.le_of_ble_eq_true rfl) (zw_dg dk_M_boast 24 rfl) ?_
    refine r_istore_n X (pc := 43) (i := 3) (zw_dg dk_M_boast 25 rfl) rfl (by decide) rfl ?_
    refine r_iconst X (pc := 44) (v := 0) (zw_dg dk_M_boast 26 rfl) (by decide) ?_
    refine r_istore X (pc := 45) (i := 4) (zw_dg dk_M_boast 27 rfl) (by decide) rfl ?_
    refine r_iconst X (pc := 47) (v := 0) (zw_dg dk_M_boast 28 rfl) (by decide) ?_
    refine r_istore X (pc := 48) (i := 5) (zw_dg dk_M_boast 29 rfl) (by decide) rfl ?_
    obtain ⟨off14, hl15, hsl15⟩ := zw_bd hsem
    refine r_loop (pc := 50) (pce := 101) hl15 (fun (off12, e13) => [some (.ref 71), some (.int p1), some (.int who2), some (.int r11), some (.int off12), some (.int e13)] : Int32 × Int32 → zw_Lc) (fun (off12, e13) => c9 : Int32 × Int32 → zw_Ct) (fun off14 => [some (.ref 71), some (.int p1), some (.int who2), some (.int r11), some (.int off14), none] : Int32 → zw_Lc) (fun off14 => c9 : Int32 → zw_Ct) ?_ rfl rfl ?_
    · rintro ⟨off12, e13⟩ rr hsem hK hP
      try unfold fn_M_boast_l1 at hsem
      refine r_iload X (pc := 50) (i := 5) (zw_dg dk_M_boast 30 rfl) rfl ?_
      refine r_aload_n X (pc := 52) (i := 0) (zw_dg dk_M_boast 31 rfl) rfl rfl ?_
      refine r_getI X (pc := 53) ci_M (zo hS 71 rfl rfl) rfl lk_M_9 (zw_dg dk_M_boast 32 rfl) ?_
      refine r_icmp_ge X (pc := 56) (tgt := 101) (zw_dg dk_M_boast 33 rfl) (by decide) (fun q17 => ?_) (fun q17 => ?_)
      · --
        have p16 : ¬ (e13 < (c9.1 71 0)) := (Int32.not_lt.mpr q17)
        have hsem := zw_ifn p16 hsem
        have jj := hK _ (Option.some.inj hsem).symm
        exact (r_fgt [5] rfl jj)
      · --
        have p16 : (e13 < (c9.1 71 0)) := (Int32.not_le.mp q17)
        have hsem := zw_ifp p16 hsem
        refine r_iload X (pc := 59) (i := 4) (zw_dg dk_M_boast 34 rfl) rfl ?_
        refine r_aload_n X (pc := 61) (i := 0) (zw_dg dk_M_boast 35 rfl) rfl rfl ?_
        refine r_getR X (pc := 62) (r := 72) ci_M (zo hS 71 rfl rfl) rfl (zr hS 71 3 rfl rfl) lk_M_16 (zw_dg dk_M_boast 36 rfl) ?_
        refine r_iconst X (pc := 65) (v := 4) (zw_dg dk_M_boast 37 rfl) (by decide) ?_
        refine r_iload_n X (pc := 66) (i := 3) (zw_dg dk_M_boast 38 rfl) rfl rfl ?_
        refine r_imul X (pc := 67) (zw_dg dk_M_boast 39 rfl)  ?_
        refine r_iload X (pc := 68) (i := 5) (zw_dg dk_M_boast 40 rfl) rfl ?_
        refine r_iadd X (pc := 70) (zw_dg dk_M_boast 41 rfl)  ?_
        obtain ⟨x18, hx18, hsem⟩ := zw_bd hsem
        refine r_iald X (pc := 71) (zo hS 72 rfl rfl) hx18 (zw_dg dk_M_boast 42 rfl) ?_
        refine r_aload_n X (pc := 72) (i := 0) (zw_dg dk_M_boast 43 rfl) rfl rfl ?_
        refine r_getR X (pc := 73) (r := 72) ci_M (zo hS 71 rfl rfl) rfl (zr hS 71 3 rfl rfl) lk_M_16 (zw_dg dk_M_boast 44 rfl) ?_
        refine r_iconst X (pc := 76) (v := 4) (zw_dg dk_M_boast 45 rfl) (by decide) ?_
        refine r_aload_n X (pc := 77) (i := 0) (zw_dg dk_M_boast 46 rfl) rfl rfl ?_
        refine r_getR X (pc := 78) (r := 89) ci_M (zo hS 71 rfl rfl) rfl (zr hS 71 27 rfl rfl) lk_M_61 (zw_dg dk_M_boast 47 rfl) ?_
        refine r_iload_n X (pc := 81) (i := 2) (zw_dg dk_M_boast 48 rfl) rfl rfl ?_
        obtain ⟨x19, hx19, hsem⟩ := zw_bd hsem
        refine r_iald X (pc := 82) (zo hS 89 rfl rfl) hx19 (zw_dg dk_M_boast 49 rfl) ?_
        refine r_imul X (pc := 83) (zw_dg dk_M_boast 50 rfl)  ?_
        refine r_iload X (pc := 84) (i := 5) (zw_dg dk_M_boast 51 rfl) rfl ?_
        refine r_iadd X (pc := 86) (zw_dg dk_M_boast 52 rfl)  ?_
        obtain ⟨x20, hx20, hsem⟩ := zw_bd hsem
        refine r_iald X (pc := 87) (zo hS 72 rfl rfl) hx20 (zw_dg dk_M_boast 53 rfl) ?_
        refine r_isub X (pc := 88) (zw_dg dk_M_boast 54 rfl)  ?_
        refine r_mabs X (pc := 89) kw_1890 mws_abs kw_88 mwc_abs ⟨Nat.le_of_ble_eq_true rfl, Nat.le_of_ble_eq_true rfl⟩ (st := [.int off12]) (Nat.le_of_ble_eq_true rfl) (zw_dg dk_M_boast 55 rfl) ?_
        refine r_iadd X (pc := 92) (zw_dg dk_M_boast 56 rfl)  ?_
        obtain ⟨off21, hoff21, hsem⟩ := zw_bd hsem
        refine zw_topI hoff21 ?_
        refine r_istore X (pc := 93) (i := 4) (zw_dg dk_M_boast 57 rfl) (by decide) rfl ?_
        refine r_iinc X (pc := 95) (i := 5) (k := 1) (zw_dg dk_M_boast 58 rfl) rfl (by decide) (by decide) rfl ?_
        refine r_goto X (pc := 98) (tgt := 50) (zw_dg dk_M_boast 59 rfl) (by decide) ?_
        have jj := hP _ (Option.some.inj hsem).symm
        exact (r_fgt [] rfl jj)
    have hsem := hsl15
    refine r_aload_n X (pc := 101) (i := 0) (zw_dg dk_M_boast 60 rfl) rfl rfl ?_
    refine r_iconst X (pc := 102) (v := 0) (zw_dg dk_M_boast 61 rfl) (by decide) ?_
    refine r_putI X (pc := 103) ci_M (zo hS 71 rfl rfl) rfl lk_M_100 rfl ⟨rfl, rfl⟩ (zw_dg dk_M_boast 62 rfl) ?_
    obtain ⟨c22, hc22, hsem⟩ := zw_bd hsem
    refine zw_topC hc22 ?_
    refine r_aload_n X (pc := 106) (i := 0) (zw_dg dk_M_boast 63 rfl) rfl rfl ?_
    refine r_aload_n X (pc := 107) (i := 0) (zw_dg dk_M_boast 64 rfl) rfl rfl ?_
    refine r_iload_n X (pc := 108) (i := 2) (zw_dg dk_M_boast 65 rfl) rfl rfl ?_
    refine r_iload_n X (pc := 109) (i := 3) (zw_dg dk_M_boast 66 rfl) rfl rfl ?_
    obtain ⟨r23, hr23, hsem⟩ := zw_bd hsem
    refine r_callVl X (pc := 110) (As := [_, _]) (st := [.ref 71]) (km_M_prizeOf hS hr23) ce_M_prizeOf kw_1878 (zo hS 71 rfl rfl) rfl rfl ⟨Nat.le_of_ble_eq_true rfl, Nat.le_of_ble_eq_true rfl⟩ (Nat.le_of_ble_eq_true rfl) (zw_dg dk_M_boast 67 rfl) ?_
    obtain ⟨c24, hc24, hsem⟩ := zw_bd hsem
    refine r_callVv X (pc := 113) (As := [_]) (st := []) (km_M_tell hS hc24) ce_M_tell kw_1704 (zo hS 71 rfl rfl) rfl rfl ⟨Nat.le_of_ble_eq_true rfl, Nat.le_of_ble_eq_true rfl⟩ (Nat.le_of_ble_eq_true rfl) (zw_dg dk_M_boast 68 rfl) ?_
    refine r_aload_n X (pc := 116) (i := 0) (zw_dg dk_M_boast 69 rfl) rfl rfl ?_
    refine r_aload_n X (pc := 117) (i := 0) (zw_dg dk_M_boast 70 rfl) rfl rfl ?_
    refine r_iload_n X (pc := 118) (i := 2) (zw_dg dk_M_boast 71 rfl) rfl rfl ?_
    refine r_aload_n X (pc := 119) (i := 0) (zw_dg dk_M_boast 72 rfl) rfl rfl ?_
    refine r_getR X (pc := 120) (r := 89) ci_M (zo hS 71 rfl rfl) rfl (zr hS 71 27 rfl rfl) lk_M_61 (zw_dg dk_M_boast 73 rfl) ?_
    refine r_iload_n X (pc := 123) (i := 2) (zw_dg dk_M_boast 74 rfl) rfl rfl ?_
    obtain ⟨x25, hx25, hsem⟩ := zw_bd hsem
    refine r_iald X (pc := 124) (zo hS 89 rfl rfl) hx25 (zw_dg dk_M_boast 75 rfl) ?_
    obtain ⟨r26, hr26, hsem⟩ := zw_bd hsem
    refine r_callVl X (pc := 125) (As := [_, _]) (st := [.ref 71]) (km_M_prizeOf hS hr26) ce_M_prizeOf kw_1878 (zo hS 71 rfl rfl) rfl rfl ⟨Nat.le_of_ble_eq_true rfl, Nat.le_of_ble_eq_true rfl⟩ (Nat.le_of_ble_eq_true rfl) (zw_dg dk_M_boast 76 rfl) ?_
    obtain ⟨c27, hc27, hsem⟩ := zw_bd hsem
    refine r_callVv X (pc := 128) (As := [_]) (st := []) (km_M_tell hS hc27) ce_M_tell kw_1704 (zo hS 71 rfl rfl) rfl rfl ⟨Nat.le_of_ble_eq_true rfl, Nat.le_of_ble_eq_true rfl⟩ (Nat.le_of_ble_eq_true rfl) (zw_dg dk_M_boast 77 rfl) ?_
    refine r_aload_n X (pc := 131) (i := 0) (zw_dg dk_M_boast 78 rfl) rfl rfl ?_
    refine r_iload X (pc := 132) (i := 4) (zw_dg dk_M_boast 79 rfl) rfl ?_
    refine r_iconst X (pc := 134) (v := 2) (zw_dg dk_M_boast 80 rfl) (by decide) ?_
    refine r_idiv X (pc := 135) (zw_dg dk_M_boast 81 rfl) (by decide) ?_
    refine r_i2l X (pc := 136) (zw_dg dk_M_boast 82 rfl)  ?_
    obtain ⟨c28, hc28, hsem⟩ := zw_bd hsem
    refine r_callVv X (pc := 137) (As := [_]) (st := []) (km_M_tell hS hc28) ce_M_tell kw_1704 (zo hS 71 rfl rfl) rfl rfl ⟨Nat.le_of_ble_eq_true rfl, Nat.le_of_ble_eq_true rfl⟩ (Nat.le_of_ble_eq_true rfl) (zw_dg dk_M_boast 83 rfl) ?_
    refine r_iload_n X (pc := 140) (i := 3) (zw_dg dk_M_boast 84 rfl) rfl rfl ?_
    obtain ⟨rfl, rfl⟩ := zw_in2 hsem
    exact r_iret X (pc := 141) rfl (zw_dg dk_M_boast 85 rfl)
def y_M_rest : MethodName := ⟨R_M, "rest", "(I)I"⟩
abbrev b_M_rest : ByteArray := prog_14_method_74_code
def dl_M_rest : List (Nat × Instr × Nat) := [(0, .aload_n 0, 1), (1, .iconst 0, 1), (2, .putfield 97, 3), (5, .aload_n 0, 1), (6, .iload_n 1, 1), (7, .invokevirtual 222, 3), (10, .ifCond .eq 10, 3), (13, .aload_n 0, 1), (14, .getfield 130, 3), (17, .ifCond .ne 5, 3), (20, .iconst (-1), 1), (21, .ireturn, 1), (22, .aload_n 0, 1), (23, .iload_n 1, 1), (24, .invokevirtual 229, 3), (27, .aload_n 0, 1), (28, .invokevirtual 305, 3), (31, .iconst 0, 1), (32, .istore_n 2, 1), (33, .iload_n 2, 1), (34, .bipush 20, 2), (36, .if_icmp .ge 119, 3), (39, .iconst 0, 1), (40, .istore_n 3, 1), (41, .iconst 0, 1), (42, .istore 4, 2), (44, .iload 4, 2), (46, .aload_n 0, 1), (47, .getfield 130, 3), (50, .if_icmp .ge 55, 3), (53, .aload_n 0, 1), (54, .iload 4, 2), (56, .aload_n 0, 1), (57, .getfield 64, 3), (60, .iload 4, 2), (62, .iaload, 1), (63, .invokevirtual 311, 3), (66, .istore 5, 2), (68, .iload_n 3, 1), (69, .ifCond .ne 15, 3), (72, .iload 5, 2), (74, .aload_n 0, 1), (75, .getfield 64, 3), (78, .iload 4, 2), (80, .iaload, 1), (81, .if_icmp .eq 7, 3), (84, .iconst 1, 1), (85, .goto 4, 3), (88, .iconst 0, 1), (89, .istore_n 3, 1), (90, .aload_n 0, 1), (91, .getfield 64, 3), (94, .iload 4, 2), (96, .iload 5, 2), (98, .iastore, 1), (99, .iinc 4 1, 3), (102, .goto (-58), 3), (105, .iload_n 3, 1), (106, .ifCond .eq 6, 3), (109, .goto 40, 3), (112, .aload_n 0, 1), (113, .iconst 0, 1), (114, .putfield 100, 3), (117, .iconst 0, 1), (118, .istore 4, 2), (120, .iload 4, 2), (122, .aload_n 0, 1), (123, .getfield 130, 3), (126, .if_icmp .ge 21, 3), (129, .aload_n 0, 1), (130, .aload_n 0, 1), (131, .getfield 64, 3), (134, .iload 4, 2), (136, .iaload, 1), (137, .i2l, 1), (138, .invokevirtual 109, 3), (141, .iinc 4 1, 3), (144, .goto (-24), 3), (147, .iload_n 2, 1), (148, .ireturn, 1), (149, .iinc 2 1, 3), (152, .goto (-119), 3), (155, .bipush (-2), 2), (157, .ireturn, 1)]
theorem dk_M_rest : zw_dk b_M_rest dl_M_rest = true := by decide +kernel
theorem ce_M_rest : zw_cev y_M_rest b_M_rest 6 (some .int) 1 := ⟨⟨kt_in 1894 (by decide +kernel) rfl, kt_in 98 (by decide +kernel) rfl, by decide +kernel⟩, kt_in 1892 (by decide +kernel) rfl, kt_in 1893 (by decide +kernel) rfl⟩
def fn_M_rest_l2  : Int32 × Int32 × zw_Ct → Option ((Int32 × zw_Ct) ⊕ (Int32 × Int32 × zw_Ct)) := fun (changes16, w17, c18) =>
  if (w17 < (c18.1 71 26)) then
  ((zw_aI 6 c18 90 w17).bind fun x24 =>
  (fn_M_bestFor c18 w17 x24).bind fun r25 =>
  (if (¬ changes16 = 0) then some true else
  ((zw_aI 6 c18 90 w17).bind fun x28 =>
  some (decide (¬ r25 = x28)))).bind fun b26 =>
  (some ((if b26 = true then (1 : Int32) else 0) : Int32)).bind fun changes30 =>
  (zw_uI 6 c18 90 w17 r25).bind fun c31 =>
  some (.inr (changes30, (w17 + 1), c31)))
  else
  (some (.inl (changes16, c18)))
def fn_M_rest_l3  : Int32 × zw_Ct → Option ((zw_Ct) ⊕ (Int32 × zw_Ct)) := fun (w35, c36) =>
  if (w35 < (c36.1 71 26)) then
  ((zw_aI 6 c36 90 w35).bind fun x41 =>
  (fn_M_tell c36 x41.toInt64).bind fun c42 =>
  some (.inr ((w35 + 1), c42)))
  else
  (some (.inl c36))
def fn_M_rest_l1  : Int32 × zw_Ct → Option (((Int32 × zw_Ct) ⊕ (zw_Ct)) ⊕ (Int32 × zw_Ct)) := fun (round10, c11) =>
  if (round10 < 20) then
  ((zw_whl (fn_M_rest_l2) zw_F (0, 0, c11)).bind fun (changes19, c20) =>
  if (¬ changes19 = 0) then
  (some (.inr ((round10 + 1), c20)))
  else
  ((some (zw_wI c20 71 8 0)).bind fun c34 =>
  (zw_whl (fn_M_rest_l3) zw_F (0, c34)).bind fun c37 =>
  some (.inl (.inl (round10, c37)))))
  else
  (some (.inl (.inr c11)))
def fn_M_rest (c : zw_Ct) (p1 : Int32) : Option (Int32 × zw_Ct) :=
  (some (zw_wI c 71 9 0)).bind fun c3 =>
  (fn_M_isPay c3 p1).bind fun r4 =>
  if ((¬ (¬ r4 = 0)) ∨ ((c3.1 71 26) = 0)) then
  (some ((-1), c3))
  else
  ((fn_M_layPay c3 p1).bind fun c8 =>
  (fn_M_allTrue c8).bind fun c9 =>
  (zw_whl (fn_M_rest_l1) zw_F (0, c9)).bind fun q => match q with
    | .inl w => some w
    | .inr c12 =>
    some ((-2), c12))
set_option maxRecDepth 100000 in
theorem km_M_rest {l : Launch} {g : zw_G} {rr : zw_RR} {sh : zw_Sh} {c : zw_Ct} {p1 : Int32} {r : Int32} {c2 : zw_Ct} (hS : zw_Ok 0 101 sh rr) (hsem : fn_M_rest c p1 = some (r, c2)) : zw_Met l g y_M_rest b_M_rest 6 (some .int) 107 rr sh [.ref 71, .int p1] c (some (.int r)) c2 := by
  unfold fn_M_rest at hsem
  refine zw_Met.of (by decide +kernel) (Nat.le_of_ble_eq_true rfl) (fun p e s m args below meth cd X => ?_)
  refine zw_eL (L2 := [some (.ref 71), some (.int p1), none, none, none, none]) rfl ?_
  refine r_aload_n X (pc := 0) (i := 0) (zw_dg dk_M_rest 0 rfl) rfl rfl ?_
  refine r_iconst X (pc := 1) (v := 0) (zw_dg dk_M_rest 1 rfl) (by decide) ?_
  refine r_putI X (pc := 2) ci_M (zo hS 71 rfl rfl) rfl lk_M_97 rfl ⟨rfl, rfl⟩ (zw_dg dk_M_rest 2 rfl) ?_
  obtain ⟨c3, hc3, hsem⟩ := zw_bd hsem
  refine zw_topC hc3 ?_
  refine r_aload_n X (pc := 5) (i := 0) (zw_dg dk_M_rest 3 rfl) rfl rfl ?_
  refine r_iload_n X (pc := 6) (i := 1) (zw_dg dk_M_rest 4 rfl) rfl rfl ?_
  obtain ⟨r4, hr4, hsem⟩ := zw_bd hsem
  refine r_callVi X (pc := 7) (As := [_]) (st := []) (km_M_isPay hS hr4) ce_M_isPay kw_1688 (zo hS 71 rfl rfl) rfl rfl ⟨Nat.le_of_ble_eq_true rfl, Nat.le_of_ble_eq_true rfl⟩ (Nat.le_of_ble_eq_true rfl) (zw_dg dk_M_rest 5 rfl) ?_
  refine zw_cnd (P := ((¬ (¬ r4 = 0)) ∨ ((c3.1 71 26) = 0))) (J1 := 20) (J2 := 22) (st2 := []) (fun jT jF => ?_) (fun p5 => ?_) (fun p5 => ?_)
  · --
    refine r_if_eq X (pc := 10) (tgt := 20) (zw_dg dk_M_rest 6 rfl) (by decide) (fun q6 => ?_) (fun q6 => ?_)
    · --
      exact jT (Or.inl (fun z => z q6))
    · --
      refine r_aload_n X (pc := 13) (i := 0) (zw_dg dk_M_rest 7 rfl) rfl rfl ?_
      refine r_getI X (pc := 14) ci_M (zo hS 71 rfl rfl) rfl lk_M_130 (zw_dg dk_M_rest 8 rfl) ?_
      refine r_if_ne X (pc := 17) (tgt := 22) (zw_dg dk_M_rest 9 rfl) (by decide) (fun q7 => ?_) (fun q7 => ?_)
      · --
        exact jF (fun q => q.elim (fun q => q q6) q7)
      · --
        exact jT (Or.inr q7)
  · --
    have hsem := zw_ifp p5 hsem
    refine r_iconst X (pc := 20) (v := (-1)) (zw_dg dk_M_rest 10 rfl) (by decide) ?_
    obtain ⟨rfl, rfl⟩ := zw_in2 hsem
    exact r_iret X (pc := 21) rfl (zw_dg dk_M_rest 11 rfl)
  · --
    have hsem := zw_ifn p5 hsem
    refine r_aload_n X (pc := 22) (i := 0) (zw_dg dk_M_rest 12 rfl) rfl rfl ?_
    refine r_iload_n X (pc := 23) (i := 1) (zw_dg dk_M_rest 13 rfl) rfl rfl ?_
    obtain ⟨c8, hc8, hsem⟩ := zw_bd hsem
    refine r_callVv X (pc := 24) (As := [_]) (st := []) (km_M_layPay hS hc8) ce_M_layPay kw_1700 (zo hS 71 rfl rfl) rfl rfl ⟨Nat.le_of_ble_eq_true rfl, Nat.le_of_ble_eq_true rfl⟩ (Nat.le_of_ble_eq_true rfl) (zw_dg dk_M_rest 14 rfl) ?_
    refine r_aload_n X (pc := 27) (i := 0) (zw_dg dk_M_rest 15 rfl) rfl rfl ?_
    obtain ⟨c9, hc9, hsem⟩ := zw_bd hsem
    refine r_callVv X (pc := 28) (As := []) (st := []) (km_M_allTrue hS hc9) ce_M_allTrue kw_1874 (zo hS 71 rfl rfl) rfl rfl ⟨Nat.le_of_ble_eq_true rfl, Nat.le_of_ble_eq_true rfl⟩ (Nat.le_of_ble_eq_true rfl) (zw_dg dk_M_rest 16 rfl) ?_
    refine r_iconst X (pc := 31) (v := 0) (zw_dg dk_M_rest 17 rfl) (by decide) ?_
    refine r_istore_n X (pc := 32) (i := 2) (zw_dg dk_M_rest 18 rfl) rfl (by decide) rfl ?_
    obtain ⟨l13, hl13, hsl13⟩ := zw_bd hsem
    refine r_loopR (pc := 33) (pce := 155) hl13 (fun (round10, c11) => [some (.ref 71), some (.int p1), some (.int round10), none, none, none] : Int32 × zw_Ct → zw_Lc) (fun (round10, c11) => c11 : Int32 × zw_Ct → zw_Ct) (fun c12 => [some (.ref 71), some (.int p1), none, none, none, none] : zw_Ct → zw_Lc) (fun c12 => c12 : zw_Ct → zw_Ct) (fun w => w = (r, c2)) ?_ rfl rfl ?_ ?_
    · rintro ⟨round10, c11⟩ rr hsem hR hK hP
      try unfold fn_M_rest_l1 at hsem
      refine r_iload_n X (pc := 33) (i := 2) (zw_dg dk_M_rest 19 rfl) rfl rfl ?_
      refine r_bipush X (pc := 34) (v := 20) (zw_dg dk_M_rest 20 rfl) (by decide) ?_
      refine r_icmp_ge X (pc := 36) (tgt := 155) (zw_dg dk_M_rest 21 rfl) (by decide) (fun q15 => ?_) (fun q15 => ?_)
      · --
        have p14 : ¬ (round10 < 20) := (Int32.not_lt.mpr q15)
        have hsem := zw_ifn p14 hsem
        have jj := hK _ (Option.some.inj hsem).symm
        exact (r_fgt [2] rfl jj)
      · --
        have p14 : (round10 < 20) := (Int32.not_le.mp q15)
        have hsem := zw_ifp p14 hsem
        refine r_iconst X (pc := 39) (v := 0) (zw_dg dk_M_rest 22 rfl) (by decide) ?_
        refine r_istore_n X (pc := 40) (i := 3) (zw_dg dk_M_rest 23 rfl) rfl (by decide) rfl ?_
        refine r_iconst X (pc := 41) (v := 0) (zw_dg dk_M_rest 24 rfl) (by decide) ?_
        refine r_istore X (pc := 42) (i := 4) (zw_dg dk_M_rest 25 rfl) (by decide) rfl ?_
        obtain ⟨l21, hl21, hsl21⟩ := zw_bd hsem
        refine r_loop (pc := 44) (pce := 105) hl21 (fun (changes16, w17, c18) => [some (.ref 71), some (.int p1), some (.int round10), some (.int changes16), some (.int w17), none] : Int32 × Int32 × zw_Ct → zw_Lc) (fun (changes16, w17, c18) => c18 : Int32 × Int32 × zw_Ct → zw_Ct) (fun (changes19, c20) => [some (.ref 71), some (.int p1), some (.int round10), some (.int changes19), none, none] : Int32 × zw_Ct → zw_Lc) (fun (changes19, c20) => c20 : Int32 × zw_Ct → zw_Ct) ?_ rfl rfl ?_
        · rintro ⟨changes16, w17, c18⟩ rr hsem hK hP
          try unfold fn_M_rest_l2 at hsem
          refine r_iload X (pc := 44) (i := 4) (zw_dg dk_M_rest 26 rfl) rfl ?_
          refine r_aload_n X (pc := 46) (i := 0) (zw_dg dk_M_rest 27 rfl) rfl rfl ?_
          refine r_getI X (pc := 47) ci_M (zo hS 71 rfl rfl) rfl lk_M_130 (zw_dg dk_M_rest 28 rfl) ?_
          refine r_icmp_ge X (pc := 50) (tgt := 105) (zw_dg dk_M_rest 29 rfl) (by decide) (fun q23 => ?_) (fun q23 => ?_)
          · --
            have p22 : ¬ (w17 < (c18.1 71 26)) := (Int32.not_lt.mpr q23)
            have hsem := zw_ifn p22 hsem
            have jj := hK _ (Option.some.inj hsem).symm
            exact (r_fgt [4] rfl jj)
          · --
            have p22 : (w17 < (c18.1 71 26)) := (Int32.not_le.mp q23)
            have hsem := zw_ifp p22 hsem
            refine r_aload_n X (pc := 53) (i := 0) (zw_dg dk_M_rest 30 rfl) rfl rfl ?_
            refine r_iload X (pc := 54) (i := 4) (zw_dg dk_M_rest 31 rfl) rfl ?_
            refine r_aload_n X (pc := 56) (i := 0) (zw_dg dk_M_rest 32 rfl) rfl rfl ?_
            refine r_getR X (pc := 57) (r := 90) ci_M (zo hS 71 rfl rfl) rfl (zr hS 71 28 rfl rfl) lk_M_64 (zw_dg dk_M_rest 33 rfl) ?_
            refine r_iload X (pc := 60) (i := 4) (zw_dg dk_M_rest 34 rfl) rfl ?_
            obtain ⟨x24, hx24, hsem⟩ := zw_bd hsem
            refine r_iald X (pc := 62) (zo hS 90 rfl rfl) hx24 (zw_dg dk_M_rest 35 rfl) ?_
            obtain ⟨r25, hr25, hsem⟩ := zw_bd hsem
            refine r_callVi X (pc := 63) (As := [_, _]) (st := []) (km_M_bestFor hS hr25) ce_M_bestFor kw_1886 (zo hS 71 rfl rfl) rfl rfl ⟨Nat.le_of_ble_eq_true rfl, Nat.le_of_ble_eq_true rfl⟩ (Nat.le_of_ble_eq_true rfl) (zw_dg dk_M_rest 36 rfl) ?_
            refine r_istore X (pc := 66) (i := 5) (zw_dg dk_M_rest 37 rfl) (by decide) rfl ?_
            obtain ⟨b26, hb26, hsb26⟩ := zw_bd hsem
            refine zw_terO (f := Value.int) (v := if b26 = true then 1 else 0) (J := 89) (st2 := []) (c2 := c18) (fun jj => ?_) ?_
            · have hsem := hb26
              refine r_iload_n X (pc := 68) (i := 3) (zw_dg dk_M_rest 38 rfl) rfl rfl ?_
              refine r_if_ne X (pc := 69) (tgt := 84) (zw_dg dk_M_rest 39 rfl) (by decide) (fun q27 => ?_) (fun q27 => ?_)
              · --
                have hsem := zw_ifp q27 hsem
                have hb_ := (Option.some.inj hsem).symm
                refine r_iconst X (pc := 84) (v := 1) (zw_dg dk_M_rest 46 rfl) (by decide) ?_
                refine r_goto X (pc := 85) (tgt := 89) (zw_dg dk_M_rest 47 rfl) (by decide) ?_
                rw [hb_] at jj; exact jj
              · --
                have hsem := zw_ifn (fun z => z q27) hsem
                refine r_iload X (pc := 72) (i := 5) (zw_dg dk_M_rest 40 rfl) rfl ?_
                refine r_aload_n X (pc := 74) (i := 0) (zw_dg dk_M_rest 41 rfl) rfl rfl ?_
                refine r_getR X (pc := 75) (r := 90) ci_M (zo hS 71 rfl rfl) rfl (zr hS 71 28 rfl rfl) lk_M_64 (zw_dg dk_M_rest 42 rfl) ?_
                refine r_iload X (pc := 78) (i := 4) (zw_dg dk_M_rest 43 rfl) rfl ?_
                obtain ⟨x28, hx28, hsem⟩ := zw_bd hsem
                refine r_iald X (pc := 80) (zo hS 90 rfl rfl) hx28 (zw_dg dk_M_rest 44 rfl) ?_
                refine r_icmp_eq X (pc := 81) (tgt := 88) (zw_dg dk_M_rest 45 rfl) (by decide) (fun q29 => ?_) (fun q29 => ?_)
                · --
                  have hb_ := (zw_dF hsem (fun z => z q29))
                  refine r_iconst X (pc := 88) (v := 0) (zw_dg dk_M_rest 48 rfl) (by decide) ?_
                  rw [hb_] at jj; exact jj
                · --
                  have hb_ := (zw_dT hsem q29)
                  refine r_iconst X (pc := 84) (v := 1) (zw_dg dk_M_rest 46 rfl) (by decide) ?_
                  refine r_goto X (pc := 85) (tgt := 89) (zw_dg dk_M_rest 47 rfl) (by decide) ?_
                  rw [hb_] at jj; exact jj
            have hsem := hsb26
            obtain ⟨changes30, hchanges30, hsem⟩ := zw_bd hsem
            refine zw_topI hchanges30 ?_
            refine r_istore_n X (pc := 89) (i := 3) (zw_dg dk_M_rest 49 rfl) rfl (by decide) rfl ?_
            refine r_aload_n X (pc := 90) (i := 0) (zw_dg dk_M_rest 50 rfl) rfl rfl ?_
            refine r_getR X (pc := 91) (r := 90) ci_M (zo hS 71 rfl rfl) rfl (zr hS 71 28 rfl rfl) lk_M_64 (zw_dg dk_M_rest 51 rfl) ?_
            refine r_iload X (pc := 94) (i := 4) (zw_dg dk_M_rest 52 rfl) rfl ?_
            refine r_iload X (pc := 96) (i := 5) (zw_dg dk_M_rest 53 rfl) rfl ?_
            obtain ⟨c31, hc31, hsem⟩ := zw_bd hsem
            refine r_iast X (pc := 98) (zo hS 90 rfl rfl) hc31 (zw_dg dk_M_rest 54 rfl) ?_
            refine r_iinc X (pc := 99) (i := 4) (k := 1) (zw_dg dk_M_rest 55 rfl) rfl (by decide) (by decide) rfl ?_
            refine r_goto X (pc := 102) (tgt := 44) (zw_dg dk_M_rest 56 rfl) (by decide) ?_
            have jj := hP _ (Option.some.inj hsem).symm
            exact (r_fgt [5] rfl jj)
        obtain ⟨changes19, c20⟩ := l21
        have hsem := hsl21
        refine r_iload_n X (pc := 105) (i := 3) (zw_dg dk_M_rest 57 rfl) rfl rfl ?_
        refine r_if_eq X (pc := 106) (tgt := 112) (zw_dg dk_M_rest 58 rfl) (by decide) (fun q33 => ?_) (fun q33 => ?_)
        · --
          have p32 : ¬ (¬ changes19 = 0) := (fun z => z q33)
          have hsem := zw_ifn p32 hsem
          refine r_aload_n X (pc := 112) (i := 0) (zw_dg dk_M_rest 60 rfl) rfl rfl ?_
          refine r_iconst X (pc := 113) (v := 0) (zw_dg dk_M_rest 61 rfl) (by decide) ?_
          refine r_putI X (pc := 114) ci_M (zo hS 71 rfl rfl) rfl lk_M_100 rfl ⟨rfl, rfl⟩ (zw_dg dk_M_rest 62 rfl) ?_
          obtain ⟨c34, hc34, hsem⟩ := zw_bd hsem
          refine zw_topC hc34 ?_
          refine r_iconst X (pc := 117) (v := 0) (zw_dg dk_M_rest 63 rfl) (by decide) ?_
          refine r_istore X (pc := 118) (i := 4) (zw_dg dk_M_rest 64 rfl) (by decide) rfl ?_
          obtain ⟨c37, hl38, hsl38⟩ := zw_bd hsem
          refine r_loop (pc := 120) (pce := 147) hl38 (fun (w35, c36) => [some (.ref 71), some (.int p1), some (.int round10), some (.int changes19), some (.int w35), none] : Int32 × zw_Ct → zw_Lc) (fun (w35, c36) => c36 : Int32 × zw_Ct → zw_Ct) (fun c37 => [some (.ref 71), some (.int p1), some (.int round10), some (.int changes19), none, none] : zw_Ct → zw_Lc) (fun c37 => c37 : zw_Ct → zw_Ct) ?_ rfl rfl ?_
          · rintro ⟨w35, c36⟩ rr hsem hK hP
            try unfold fn_M_rest_l3 at hsem
            refine r_iload X (pc := 120) (i := 4) (zw_dg dk_M_rest 65 rfl) rfl ?_
            refine r_aload_n X (pc := 122) (i := 0) (zw_dg dk_M_rest 66 rfl) rfl rfl ?_
            refine r_getI X (pc := 123) ci_M (zo hS 71 rfl rfl) rfl lk_M_130 (zw_dg dk_M_rest 67 rfl) ?_
            refine r_icmp_ge X (pc := 126) (tgt := 147) (zw_dg dk_M_rest 68 rfl) (by decide) (fun q40 => ?_) (fun q40 => ?_)
            · --
              have p39 : ¬ (w35 < (c36.1 71 26)) := (Int32.not_lt.mpr q40)
              have hsem := zw_ifn p39 hsem
              have jj := hK _ (Option.some.inj hsem).symm
              exact (r_fgt [4] rfl jj)
            · --
              have p39 : (w35 < (c36.1 71 26)) := (Int32.not_le.mp q40)
              have hsem := zw_ifp p39 hsem
              refine r_aload_n X (pc := 129) (i := 0) (zw_dg dk_M_rest 69 rfl) rfl rfl ?_
              refine r_aload_n X (pc := 130) (i := 0) (zw_dg dk_M_rest 70 rfl) rfl rfl ?_
              refine r_getR X (pc := 131) (r := 90) ci_M (zo hS 71 rfl rfl) rfl (zr hS 71 28 rfl rfl) lk_M_64 (zw_dg dk_M_rest 71 rfl) ?_
              refine r_iload X (pc := 134) (i := 4) (zw_dg dk_M_rest 72 rfl) rfl ?_
              obtain ⟨x41, hx41, hsem⟩ := zw_bd hsem
              refine r_iald X (pc := 136) (zo hS 90 rfl rfl) hx41 (zw_dg dk_M_rest 73 rfl) ?_
              refine r_i2l X (pc := 137) (zw_dg dk_M_rest 74 rfl)  ?_
              obtain ⟨c42, hc42, hsem⟩ := zw_bd hsem
              refine r_callVv X (pc := 138) (As := [_]) (st := []) (km_M_tell hS hc42) ce_M_tell kw_1704 (zo hS 71 rfl rfl) rfl rfl ⟨Nat.le_of_ble_eq_true rfl, Nat.le_of_ble_eq_true rfl⟩ (Nat.le_of_ble_eq_true rfl) (zw_dg dk_M_rest 75 rfl) ?_
              refine r_iinc X (pc := 141) (i := 4) (k := 1) (zw_dg dk_M_rest 76 rfl) rfl (by decide) (by decide) rfl ?_
              refine r_goto X (pc := 144) (tgt := 120) (zw_dg dk_M_rest 77 rfl) (by decide) ?_
              have jj := hP _ (Option.some.inj hsem).symm
              exact (r_fgt [] rfl jj)
          have hsem := hsl38
          refine r_iload_n X (pc := 147) (i := 2) (zw_dg dk_M_rest 78 rfl) rfl rfl ?_
          have hret := hR _ (Option.some.inj hsem).symm
          cases hret
          exact r_iret X (pc := 148) rfl (zw_dg dk_M_rest 79 rfl)
        · --
          have p32 : (¬ changes19 = 0) := q33
          have hsem := zw_ifp p32 hsem
          refine r_goto X (pc := 109) (tgt := 149) (zw_dg dk_M_rest 59 rfl) (by decide) ?_
          refine r_iinc X (pc := 149) (i := 2) (k := 1) (zw_dg dk_M_rest 80 rfl) rfl (by decide) (by decide) rfl ?_
          refine r_goto X (pc := 152) (tgt := 33) (zw_dg dk_M_rest 81 rfl) (by decide) ?_
          have jj := hP _ (Option.some.inj hsem).symm
          exact (r_fgt [3] rfl jj)
    · intro w hw
      subst hw
      exact Option.some.inj hsl13
    rintro c12 hw
    subst hw
    have hsem := hsl13
    refine r_bipush X (pc := 155) (v := (-2)) (zw_dg dk_M_rest 82 rfl) (by decide) ?_
    obtain ⟨rfl, rfl⟩ := zw_in2 hsem
    exact r_iret X (pc := 157) rfl (zw_dg dk_M_rest 83 rfl)
def y_M_moreTogether : MethodName := ⟨R_M, "moreTogether", "(III)J"⟩
abbrev b_M_moreTogether : ByteArray := prog_14_method_75_code
def dl_M_moreTogether : List (Nat × Instr × Nat) := [(0, .lconst 0, 1), (1, .lstore 4, 2), (3, .iconst 0, 1), (4, .istore 6, 2), (6, .iload 6, 2), (8, .aload_n 0, 1), (9, .getfield 9, 3), (12, .if_icmp .ge 72, 3), (15, .ldc2_w 124, 3), (18, .aload_n 0, 1), (19, .getfield 46, 3), (22, .iconst 4, 1), (23, .iload_n 1, 1), (24, .imul, 1), (25, .iload 6, 2), (27, .iadd, 1), (28, .iaload, 1), (29, .i2l, 1), (30, .lmul, 1), (31, .aload_n 0, 1), (32, .getfield 46, 3), (35, .iconst 4, 1), (36, .iload_n 2, 1), (37, .imul, 1), (38, .iload 6, 2), (40, .iadd, 1), (41, .iaload, 1), (42, .i2l, 1), (43, .lsub, 1), (44, .aload_n 0, 1), (45, .getfield 46, 3), (48, .iconst 4, 1), (49, .iload_n 3, 1), (50, .imul, 1), (51, .iload 6, 2), (53, .iadd, 1), (54, .iaload, 1), (55, .i2l, 1), (56, .lsub, 1), (57, .lstore 7, 2), (59, .iload 6, 2), (61, .ifCond .ne 8, 3), (64, .lload 7, 2), (66, .goto 10, 3), (69, .lload 4, 2), (71, .lload 7, 2), (73, .invokestatic 290, 3), (76, .lstore 4, 2), (78, .iinc 6 1, 3), (81, .goto (-75), 3), (84, .lload 4, 2), (86, .lreturn, 1)]
theorem dk_M_moreTogether : zw_dk b_M_moreTogether dl_M_moreTogether = true := by decide +kernel
theorem ce_M_moreTogether : zw_cev y_M_moreTogether b_M_moreTogether 9 (some .long) 3 := ⟨⟨kt_in 1902 (by decide +kernel) rfl, kt_in 98 (by decide +kernel) rfl, by decide +kernel⟩, kt_in 1901 (by decide +kernel) rfl, kt_in 74 (by decide +kernel) rfl⟩
def fn_M_moreTogether_l1 (c : zw_Ct) (s1 : Int32) (one2 : Int32) (other3 : Int32) : Int64 × Int32 → Option ((Int64) ⊕ (Int64 × Int32)) := fun (least4, e5) =>
  if (e5 < (c.1 71 0)) then
  ((zw_aI 1820 c 84 ((4 * s1) + e5)).bind fun x10 =>
  (zw_aI 1820 c 84 ((4 * one2) + e5)).bind fun x11 =>
  (zw_aI 1820 c 84 ((4 * other3) + e5)).bind fun x12 =>
  (some ((((2 * x10.toInt64) - x11.toInt64) - x12.toInt64) : Int64)).bind fun v13 =>
  (some ((if (e5 = 0) then (v13 : Int64) else (if v13 < least4 then v13 else least4)) : Int64)).bind fun least15 =>
  some (.inr (least15, (e5 + 1))))
  else
  (some (.inl least4))
def fn_M_moreTogether (c : zw_Ct) (s1 : Int32) (one2 : Int32) (other3 : Int32) : Option Int64 :=
  (zw_whl (fn_M_moreTogether_l1 c s1 one2 other3) zw_F (0, 0)).bind fun least6 =>
  some least6
set_option maxRecDepth 100000 in
theorem km_M_moreTogether {l : Launch} {g : zw_G} {rr : zw_RR} {sh : zw_Sh} {c : zw_Ct} {s1 : Int32} {one2 : Int32} {other3 : Int32} {r : Int64} (hS : zw_Ok 0 101 sh rr) (hsem : fn_M_moreTogether c s1 one2 other3 = some r) : zw_Met l g y_M_moreTogether b_M_moreTogether 9 (some .long) 1 rr sh [.ref 71, .int s1, .int one2, .int other3] c (some (.long r)) c := by
  unfold fn_M_moreTogether at hsem
  refine zw_Met.of (by decide +kernel) (Nat.le_of_ble_eq_true rfl) (fun p e s m args below meth cd X => ?_)
  refine zw_eL (L2 := [some (.ref 71), some (.int s1), some (.int one2), some (.int other3), none, none, none, none, none]) rfl ?_
  refine r_lconst X (pc := 0) (v := 0) (zw_dg dk_M_moreTogether 0 rfl) (by decide) ?_
  refine r_lstore X (pc := 1) (i := 4) (L2 := [some (.ref 71), some (.int s1), some (.int one2), some (.int other3), some (.long 0), none, none, none, none]) (zw_dg dk_M_moreTogether 1 rfl) (by decide) rfl ?_
  refine r_iconst X (pc := 3) (v := 0) (zw_dg dk_M_moreTogether 2 rfl) (by decide) ?_
  refine r_istore X (pc := 4) (i := 6) (zw_dg dk_M_moreTogether 3 rfl) (by decide) rfl ?_
  obtain ⟨least6, hl7, hsl7⟩ := zw_bd hsem
  refine r_loop (pc := 6) (pce := 84) hl7 (fun (least4, e5) => [some (.ref 71), some (.int s1), some (.int one2), some (.int other3), some (.long least4), none, some (.int e5), none, none] : Int64 × Int32 → zw_Lc) (fun (least4, e5) => c : Int64 × Int32 → zw_Ct) (fun least6 => [some (.ref 71), some (.int s1), some (.int one2), some (.int other3), some (.long least6), none, none, none, none] : Int64 → zw_Lc) (fun least6 => c : Int64 → zw_Ct) ?_ rfl rfl ?_
  · rintro ⟨least4, e5⟩ rr hsem hK hP
    try unfold fn_M_moreTogether_l1 at hsem
    refine r_iload X (pc := 6) (i := 6) (zw_dg dk_M_moreTogether 4 rfl) rfl ?_
    refine r_aload_n X (pc := 8) (i := 0) (zw_dg dk_M_moreTogether 5 rfl) rfl rfl ?_
    refine r_getI X (pc := 9) ci_M (zo hS 71 rfl rfl) rfl lk_M_9 (zw_dg dk_M_moreTogether 6 rfl) ?_
    refine r_icmp_ge X (pc := 12) (tgt := 84) (zw_dg dk_M_moreTogether 7 rfl) (by decide) (fun q9 => ?_) (fun q9 => ?_)
    · --
      have p8 : ¬ (e5 < (c.1 71 0)) := (Int32.not_lt.mpr q9)
      have hsem := zw_ifn p8 hsem
      have jj := hK _ (Option.some.inj hsem).symm
      exact (r_fgt [6] rfl jj)
    · --
      have p8 : (e5 < (c.1 71 0)) := (Int32.not_le.mp q9)
      have hsem := zw_ifp p8 hsem
      refine r_ldc2 X (pc := 15) (v := 2) kw_1595 (zw_dg dk_M_moreTogether 8 rfl) ?_
      refine r_aload_n X (pc := 18) (i := 0) (zw_dg dk_M_moreTogether 9 rfl) rfl rfl ?_
      refine r_getR X (pc := 19) (r := 84) ci_M (zo hS 71 rfl rfl) rfl (zr hS 71 21 rfl rfl) lk_M_46 (zw_dg dk_M_moreTogether 10 rfl) ?_
      refine r_iconst X (pc := 22) (v := 4) (zw_dg dk_M_moreTogether 11 rfl) (by decide) ?_
      refine r_iload_n X (pc := 23) (i := 1) (zw_dg dk_M_moreTogether 12 rfl) rfl rfl ?_
      refine r_imul X (pc := 24) (zw_dg dk_M_moreTogether 13 rfl)  ?_
      refine r_iload X (pc := 25) (i := 6) (zw_dg dk_M_moreTogether 14 rfl) rfl ?_
      refine r_iadd X (pc := 27) (zw_dg dk_M_moreTogether 15 rfl)  ?_
      obtain ⟨x10, hx10, hsem⟩ := zw_bd hsem
      refine r_iald X (pc := 28) (zo hS 84 rfl rfl) hx10 (zw_dg dk_M_moreTogether 16 rfl) ?_
      refine r_i2l X (pc := 29) (zw_dg dk_M_moreTogether 17 rfl)  ?_
      refine r_lmul X (pc := 30) (zw_dg dk_M_moreTogether 18 rfl)  ?_
      refine r_aload_n X (pc := 31) (i := 0) (zw_dg dk_M_moreTogether 19 rfl) rfl rfl ?_
      refine r_getR X (pc := 32) (r := 84) ci_M (zo hS 71 rfl rfl) rfl (zr hS 71 21 rfl rfl) lk_M_46 (zw_dg dk_M_moreTogether 20 rfl) ?_
      refine r_iconst X (pc := 35) (v := 4) (zw_dg dk_M_moreTogether 21 rfl) (by decide) ?_
      refine r_iload_n X (pc := 36) (i := 2) (zw_dg dk_M_moreTogether 22 rfl) rfl rfl ?_
      refine r_imul X (pc := 37) (zw_dg dk_M_moreTogether 23 rfl)  ?_
      refine r_iload X (pc := 38) (i := 6) (zw_dg dk_M_moreTogether 24 rfl) rfl ?_
      refine r_iadd X (pc := 40) (zw_dg dk_M_moreTogether 25 rfl)  ?_
      obtain ⟨x11, hx11, hsem⟩ := zw_bd hsem
      refine r_iald X (pc := 41) (zo hS 84 rfl rfl) hx11 (zw_dg dk_M_moreTogether 26 rfl) ?_
      refine r_i2l X (pc := 42) (zw_dg dk_M_moreTogether 27 rfl)  ?_
      refine r_lsub X (pc := 43) (zw_dg dk_M_moreTogether 28 rfl)  ?_
      refine r_aload_n X (pc := 44) (i := 0) (zw_dg dk_M_moreTogether 29 rfl) rfl rfl ?_
      refine r_getR X (pc := 45) (r := 84) ci_M (zo hS 71 rfl rfl) rfl (zr hS 71 21 rfl rfl) lk_M_46 (zw_dg dk_M_moreTogether 30 rfl) ?_
      refine r_iconst X (pc := 48) (v := 4) (zw_dg dk_M_moreTogether 31 rfl) (by decide) ?_
      refine r_iload_n X (pc := 49) (i := 3) (zw_dg dk_M_moreTogether 32 rfl) rfl rfl ?_
      refine r_imul X (pc := 50) (zw_dg dk_M_moreTogether 33 rfl)  ?_
      refine r_iload X (pc := 51) (i := 6) (zw_dg dk_M_moreTogether 34 rfl) rfl ?_
      refine r_iadd X (pc := 53) (zw_dg dk_M_moreTogether 35 rfl)  ?_
      obtain ⟨x12, hx12, hsem⟩ := zw_bd hsem
      refine r_iald X (pc := 54) (zo hS 84 rfl rfl) hx12 (zw_dg dk_M_moreTogether 36 rfl) ?_
      refine r_i2l X (pc := 55) (zw_dg dk_M_moreTogether 37 rfl)  ?_
      refine r_lsub X (pc := 56) (zw_dg dk_M_moreTogether 38 rfl)  ?_
      obtain ⟨v13, hv13, hsem⟩ := zw_bd hsem
      refine zw_topJ hv13 ?_
      refine r_lstore X (pc := 57) (i := 7) (L2 := [some (.ref 71), some (.int s1), some (.int one2), some (.int other3), some (.long least4), none, some (.int e5), some (.long v13), none]) (zw_dg dk_M_moreTogether 39 rfl) (by decide) rfl ?_
      refine zw_ter (P := (e5 = 0)) (f := Value.long) (x := v13) (y := (if v13 < least4 then v13 else least4)) (J := 76) (st2 := []) (fun jT jF => ?_) ?_
      · --
        refine r_iload X (pc := 59) (i := 6) (zw_dg dk_M_moreTogether 40 rfl) rfl ?_
        refine r_if_ne X (pc := 61) (tgt := 69) (zw_dg dk_M_moreTogether 41 rfl) (by decide) (fun q14 => ?_) (fun q14 => ?_)
        · --
          refine r_lload X (pc := 69) (i := 4) (zw_dg dk_M_moreTogether 44 rfl) rfl ?_
          refine r_lload X (pc := 71) (i := 7) (zw_dg dk_M_moreTogether 45 rfl) rfl ?_
          refine r_mminl X (pc := 73) kw_1838 mws_minl kw_88 mwc_minl ⟨Nat.le_of_ble_eq_true rfl, Nat.le_of_ble_eq_true rfl⟩ (st := []) (Nat.le_of_ble_eq_true rfl) (zw_dg dk_M_moreTogether 46 rfl) ?_
          exact jF q14
        · --
          refine r_lload X (pc := 64) (i := 7) (zw_dg dk_M_moreTogether 42 rfl) rfl ?_
          refine r_goto X (pc := 66) (tgt := 76) (zw_dg dk_M_moreTogether 43 rfl) (by decide) ?_
          exact jT q14
      obtain ⟨least15, hleast15, hsem⟩ := zw_bd hsem
      refine zw_topJ hleast15 ?_
      refine r_lstore X (pc := 76) (i := 4) (L2 := [some (.ref 71), some (.int s1), some (.int one2), some (.int other3), some (.long least15), none, some (.int e5), some (.long v13), none]) (zw_dg dk_M_moreTogether 47 rfl) (by decide) rfl ?_
      refine r_iinc X (pc := 78) (i := 6) (k := 1) (zw_dg dk_M_moreTogether 48 rfl) rfl (by decide) (by decide) rfl ?_
      refine r_goto X (pc := 81) (tgt := 6) (zw_dg dk_M_moreTogether 49 rfl) (by decide) ?_
      have jj := hP _ (Option.some.inj hsem).symm
      exact (r_fgt [7] rfl jj)
  have hsem := hsl7
  refine r_lload X (pc := 84) (i := 4) (zw_dg dk_M_moreTogether 50 rfl) rfl ?_
  cases hsem
  exact r_lret X (pc := 86) rfl (zw_dg dk_M_moreTogether 51 rfl)
def y_M_agree : MethodName := ⟨R_M, "agree", "(III)I"⟩
abbrev b_M_agree : ByteArray := prog_14_method_76_code
def dl_M_agree : List (Nat × Instr × Nat) := [(0, .aload_n 0, 1), (1, .iconst 0, 1), (2, .putfield 97, 3), (5, .aload_n 0, 1), (6, .iload_n 1, 1), (7, .invokevirtual 222, 3), (10, .ifCond .eq 19, 3), (13, .aload_n 0, 1), (14, .iload_n 2, 1), (15, .invokevirtual 142, 3), (18, .ifCond .eq 11, 3), (21, .aload_n 0, 1), (22, .iload_n 3, 1), (23, .invokevirtual 142, 3), (26, .ifCond .ne 5, 3), (29, .iconst (-1), 1), (30, .ireturn, 1), (31, .aload_n 0, 1), (32, .iload_n 1, 1), (33, .invokevirtual 229, 3), (36, .iconst 0, 1), (37, .istore 4, 2), (39, .iconst 1, 1), (40, .istore 5, 2), (42, .iload 5, 2), (44, .aload_n 0, 1), (45, .getfield 113, 3), (48, .if_icmp .ge 33, 3), (51, .aload_n 0, 1), (52, .iload 5, 2), (54, .iload_n 2, 1), (55, .iload_n 3, 1), (56, .invokevirtual 316, 3), (59, .aload_n 0, 1), (60, .iload 4, 2), (62, .iload_n 2, 1), (63, .iload_n 3, 1), (64, .invokevirtual 316, 3), (67, .lcmp, 1), (68, .ifCond .le 7, 3), (71, .iload 5, 2), (73, .istore 4, 2), (75, .iinc 5 1, 3), (78, .goto (-36), 3), (81, .aload_n 0, 1), (82, .iconst 0, 1), (83, .putfield 100, 3), (86, .aload_n 0, 1), (87, .aload_n 0, 1), (88, .iload 4, 2), (90, .iload_n 2, 1), (91, .iload_n 3, 1), (92, .invokevirtual 316, 3), (95, .invokevirtual 109, 3), (98, .iload 4, 2), (100, .ireturn, 1)]
theorem dk_M_agree : zw_dk b_M_agree dl_M_agree = true := by decide +kernel
theorem ce_M_agree : zw_cev y_M_agree b_M_agree 6 (some .int) 3 := ⟨⟨kt_in 1898 (by decide +kernel) rfl, kt_in 98 (by decide +kernel) rfl, by decide +kernel⟩, kt_in 1896 (by decide +kernel) rfl, kt_in 1897 (by decide +kernel) rfl⟩
def fn_M_agree_l1 (c10 : zw_Ct) (one2 : Int32) (other3 : Int32) : Int32 × Int32 → Option ((Int32) ⊕ (Int32 × Int32)) := fun (best11, s12) =>
  if (s12 < (c10.1 71 2)) then
  ((fn_M_moreTogether c10 s12 one2 other3).bind fun r17 =>
  (fn_M_moreTogether c10 best11 one2 other3).bind fun r18 =>
  (if (r18 < r17) then
  (some (s12 : Int32))
  else
  (some (best11 : Int32))).bind fun best19 =>
  some (.inr (best19, (s12 + 1))))
  else
  (some (.inl best11))
def fn_M_agree (c : zw_Ct) (p1 : Int32) (one2 : Int32) (other3 : Int32) : Option (Int32 × zw_Ct) :=
  (some (zw_wI c 71 9 0)).bind fun c4 =>
  (fn_M_isPay c4 p1).bind fun r5 =>
  if (((¬ (¬ r5 = 0)) ∨ (¬ (¬ (fn_M_isSaying c4 one2) = 0))) ∨ (¬ (¬ (fn_M_isSaying c4 other3) = 0))) then
  (some ((-1), c4))
  else
  ((fn_M_layPay c4 p1).bind fun c10 =>
  (zw_whl (fn_M_agree_l1 c10 one2 other3) zw_F (0, 1)).bind fun best13 =>
  (some (zw_wI c10 71 8 0)).bind fun c22 =>
  (fn_M_moreTogether c22 best13 one2 other3).bind fun r23 =>
  (fn_M_tell c22 r23).bind fun c24 =>
  some (best13, c24))
set_option maxRecDepth 100000 in
theorem km_M_agree {l : Launch} {g : zw_G} {rr : zw_RR} {sh : zw_Sh} {c : zw_Ct} {p1 : Int32} {one2 : Int32} {other3 : Int32} {r : Int32} {c2 : zw_Ct} (hS : zw_Ok 0 101 sh rr) (hsem : fn_M_agree c p1 one2 other3 = some (r, c2)) : zw_Met l g y_M_agree b_M_agree 6 (some .int) 107 rr sh [.ref 71, .int p1, .int one2, .int other3] c (some (.int r)) c2 := by
  unfold fn_M_agree at hsem
  refine zw_Met.of (by decide +kernel) (Nat.le_of_ble_eq_true rfl) (fun p e s m args below meth cd X => ?_)
  refine zw_eL (L2 := [some (.ref 71), some (.int p1), some (.int one2), some (.int other3), none, none]) rfl ?_
  refine r_aload_n X (pc := 0) (i := 0) (zw_dg dk_M_agree 0 rfl) rfl rfl ?_
  refine r_iconst X (pc := 1) (v := 0) (zw_dg dk_M_agree 1 rfl) (by decide) ?_
  refine r_putI X (pc := 2) ci_M (zo hS 71 rfl rfl) rfl lk_M_97 rfl ⟨rfl, rfl⟩ (zw_dg dk_M_agree 2 rfl) ?_
  obtain ⟨c4, hc4, hsem⟩ := zw_bd hsem
  refine zw_topC hc4 ?_
  refine r_aload_n X (pc := 5) (i := 0) (zw_dg dk_M_agree 3 rfl) rfl rfl ?_
  refine r_iload_n X (pc := 6) (i := 1) (zw_dg dk_M_agree 4 rfl) rfl rfl ?_
  obtain ⟨r5, hr5, hsem⟩ := zw_bd hsem
  refine r_callVi X (pc := 7) (As := [_]) (st := []) (km_M_isPay hS hr5) ce_M_isPay kw_1688 (zo hS 71 rfl rfl) rfl rfl ⟨Nat.le_of_ble_eq_true rfl, Nat.le_of_ble_eq_true rfl⟩ (Nat.le_of_ble_eq_true rfl) (zw_dg dk_M_agree 5 rfl) ?_
  refine zw_cnd (P := (((¬ (¬ r5 = 0)) ∨ (¬ (¬ (fn_M_isSaying c4 one2) = 0))) ∨ (¬ (¬ (fn_M_isSaying c4 other3) = 0)))) (J1 := 29) (J2 := 31) (st2 := []) (fun jT jF => ?_) (fun p6 => ?_) (fun p6 => ?_)
  · --
    refine r_if_eq X (pc := 10) (tgt := 29) (zw_dg dk_M_agree 6 rfl) (by decide) (fun q7 => ?_) (fun q7 => ?_)
    · --
      exact jT (Or.inl (Or.inl (fun z => z q7)))
    · --
      refine r_aload_n X (pc := 13) (i := 0) (zw_dg dk_M_agree 7 rfl) rfl rfl ?_
      refine r_iload_n X (pc := 14) (i := 2) (zw_dg dk_M_agree 8 rfl) rfl rfl ?_
      refine r_callVi X (pc := 15) (As := [_]) (st := []) (km_M_isSaying hS rfl) ce_M_isSaying kw_1609 (zo hS 71 rfl rfl) rfl rfl ⟨Nat.le_of_ble_eq_true rfl, Nat.le_of_ble_eq_true rfl⟩ (Nat.le_of_ble_eq_true rfl) (zw_dg dk_M_agree 9 rfl) ?_
      refine r_if_eq X (pc := 18) (tgt := 29) (zw_dg dk_M_agree 10 rfl) (by decide) (fun q8 => ?_) (fun q8 => ?_)
      · --
        exact jT (Or.inl (Or.inr (fun z => z q8)))
      · --
        refine r_aload_n X (pc := 21) (i := 0) (zw_dg dk_M_agree 11 rfl) rfl rfl ?_
        refine r_iload_n X (pc := 22) (i := 3) (zw_dg dk_M_agree 12 rfl) rfl rfl ?_
        refine r_callVi X (pc := 23) (As := [_]) (st := []) (km_M_isSaying hS rfl) ce_M_isSaying kw_1609 (zo hS 71 rfl rfl) rfl rfl ⟨Nat.le_of_ble_eq_true rfl, Nat.le_of_ble_eq_true rfl⟩ (Nat.le_of_ble_eq_true rfl) (zw_dg dk_M_agree 13 rfl) ?_
        refine r_if_ne X (pc := 26) (tgt := 31) (zw_dg dk_M_agree 14 rfl) (by decide) (fun q9 => ?_) (fun q9 => ?_)
        · --
          exact jF (fun q => q.elim (fun q => q.elim (fun q => q q7) (fun q => q q8)) (fun q => q q9))
        · --
          exact jT (Or.inr (fun z => z q9))
  · --
    have hsem := zw_ifp p6 hsem
    refine r_iconst X (pc := 29) (v := (-1)) (zw_dg dk_M_agree 15 rfl) (by decide) ?_
    obtain ⟨rfl, rfl⟩ := zw_in2 hsem
    exact r_iret X (pc := 30) rfl (zw_dg dk_M_agree 16 rfl)
  · --
    have hsem := zw_ifn p6 hsem
    refine r_aload_n X (pc := 31) (i := 0) (zw_dg dk_M_agree 17 rfl) rfl rfl ?_
    refine r_iload_n X (pc := 32) (i := 1) (zw_dg dk_M_agree 18 rfl) rfl rfl ?_
    obtain ⟨c10, hc10, hsem⟩ := zw_bd hsem
    refine r_callVv X (pc := 33) (As := [_]) (st := []) (km_M_layPay hS hc10) ce_M_layPay kw_1700 (zo hS 71 rfl rfl) rfl rfl ⟨Nat.le_of_ble_eq_true rfl, Nat.le_of_ble_eq_true rfl⟩ (Nat.le_of_ble_eq_true rfl) (zw_dg dk_M_agree 19 rfl) ?_
    refine r_iconst X (pc := 36) (v := 0) (zw_dg dk_M_agree 20 rfl) (by decide) ?_
    refine r_istore X (pc := 37) (i := 4) (zw_dg dk_M_agree 21 rfl) (by decide) rfl ?_
    refine r_iconst X (pc := 39) (v := 1) (zw_dg dk_M_agree 22 rfl) (by decide) ?_
    refine r_istore X (pc := 40) (i := 5) (zw_dg dk_M_agree 23 rfl) (by decide) rfl ?_
    obtain ⟨best13, hl14, hsl14⟩ := zw_bd hsem
    refine r_loop (pc := 42) (pce := 81) hl14 (fun (best11, s12) => [some (.ref 71), some (.int p1), some (.int one2), some (.int other3), some (.int best11), some (.int s12)] : Int32 × Int32 → zw_Lc) (fun (best11, s12) => c10 : Int32 × Int32 → zw_Ct) (fun best13 => [some (.ref 71), some (.int p1), some (.int one2), some (.int other3), some (.int best13), none] : Int32 → zw_Lc) (fun best13 => c10 : Int32 → zw_Ct) ?_ rfl rfl ?_
    · rintro ⟨best11, s12⟩ rr hsem hK hP
      try unfold fn_M_agree_l1 at hsem
      refine r_iload X (pc := 42) (i := 5) (zw_dg dk_M_agree 24 rfl) rfl ?_
      refine r_aload_n X (pc := 44) (i := 0) (zw_dg dk_M_agree 25 rfl) rfl rfl ?_
      refine r_getI X (pc := 45) ci_M (zo hS 71 rfl rfl) rfl lk_M_113 (zw_dg dk_M_agree 26 rfl) ?_
      refine r_icmp_ge X (pc := 48) (tgt := 81) (zw_dg dk_M_agree 27 rfl) (by decide) (fun q16 => ?_) (fun q16 => ?_)
      · --
        have p15 : ¬ (s12 < (c10.1 71 2)) := (Int32.not_lt.mpr q16)
        have hsem := zw_ifn p15 hsem
        have jj := hK _ (Option.some.inj hsem).symm
        exact (r_fgt [5] rfl jj)
      · --
        have p15 : (s12 < (c10.1 71 2)) := (Int32.not_le.mp q16)
        have hsem := zw_ifp p15 hsem
        refine r_aload_n X (pc := 51) (i := 0) (zw_dg dk_M_agree 28 rfl) rfl rfl ?_
        refine r_iload X (pc := 52) (i := 5) (zw_dg dk_M_agree 29 rfl) rfl ?_
        refine r_iload_n X (pc := 54) (i := 2) (zw_dg dk_M_agree 30 rfl) rfl rfl ?_
        refine r_iload_n X (pc := 55) (i := 3) (zw_dg dk_M_agree 31 rfl) rfl rfl ?_
        obtain ⟨r17, hr17, hsem⟩ := zw_bd hsem
        refine r_callVl X (pc := 56) (As := [_, _, _]) (st := []) (km_M_moreTogether hS hr17) ce_M_moreTogether kw_1899 (zo hS 71 rfl rfl) rfl rfl ⟨Nat.le_of_ble_eq_true rfl, Nat.le_of_ble_eq_true rfl⟩ (Nat.le_of_ble_eq_true rfl) (zw_dg dk_M_agree 32 rfl) ?_
        refine r_aload_n X (pc := 59) (i := 0) (zw_dg dk_M_agree 33 rfl) rfl rfl ?_
        refine r_iload X (pc := 60) (i := 4) (zw_dg dk_M_agree 34 rfl) rfl ?_
        refine r_iload_n X (pc := 62) (i := 2) (zw_dg dk_M_agree 35 rfl) rfl rfl ?_
        refine r_iload_n X (pc := 63) (i := 3) (zw_dg dk_M_agree 36 rfl) rfl rfl ?_
        obtain ⟨r18, hr18, hsem⟩ := zw_bd hsem
        refine r_callVl X (pc := 64) (As := [_, _, _]) (st := [.long r17]) (km_M_moreTogether hS hr18) ce_M_moreTogether kw_1899 (zo hS 71 rfl rfl) rfl rfl ⟨Nat.le_of_ble_eq_true rfl, Nat.le_of_ble_eq_true rfl⟩ (Nat.le_of_ble_eq_true rfl) (zw_dg dk_M_agree 37 rfl) ?_
        obtain ⟨best19, ht75, hs75⟩ := zw_bd hsem
        refine zw_jn (J := 75) (L2 := [some (.ref 71), some (.int p1), some (.int one2), some (.int other3), some (.int best19), some (.int s12)]) (c2 := c10) (fun jj => ?_) ?_
        · have hsem := ht75
          refine r_lcmp_le X (pc := 67) (tgt := 75) (zw_dg dk_M_agree 38 rfl) (zw_dg dk_M_agree 39 rfl) (by decide) (fun q21 => ?_) (fun q21 => ?_)
          · --
            have p20 : ¬ (r18 < r17) := (Int64.not_lt.mpr q21)
            have hsem := zw_ifn p20 hsem
            cases hsem
            exact (r_fgt [] rfl jj)
          · --
            have p20 : (r18 < r17) := (Int64.not_le.mp q21)
            have hsem := zw_ifp p20 hsem
            refine r_iload X (pc := 71) (i := 5) (zw_dg dk_M_agree 40 rfl) rfl ?_
            refine r_istore X (pc := 73) (i := 4) (zw_dg dk_M_agree 41 rfl) (by decide) rfl ?_
            cases hsem
            exact (r_fgt [] rfl jj)
        have hsem := hs75
        refine r_iinc X (pc := 75) (i := 5) (k := 1) (zw_dg dk_M_agree 42 rfl) rfl (by decide) (by decide) rfl ?_
        refine r_goto X (pc := 78) (tgt := 42) (zw_dg dk_M_agree 43 rfl) (by decide) ?_
        have jj := hP _ (Option.some.inj hsem).symm
        exact (r_fgt [] rfl jj)
    have hsem := hsl14
    refine r_aload_n X (pc := 81) (i := 0) (zw_dg dk_M_agree 44 rfl) rfl rfl ?_
    refine r_iconst X (pc := 82) (v := 0) (zw_dg dk_M_agree 45 rfl) (by decide) ?_
    refine r_putI X (pc := 83) ci_M (zo hS 71 rfl rfl) rfl lk_M_100 rfl ⟨rfl, rfl⟩ (zw_dg dk_M_agree 46 rfl) ?_
    obtain ⟨c22, hc22, hsem⟩ := zw_bd hsem
    refine zw_topC hc22 ?_
    refine r_aload_n X (pc := 86) (i := 0) (zw_dg dk_M_agree 47 rfl) rfl rfl ?_
    refine r_aload_n X (pc := 87) (i := 0) (zw_dg dk_M_agree 48 rfl) rfl rfl ?_
    refine r_iload X (pc := 88) (i := 4) (zw_dg dk_M_agree 49 rfl) rfl ?_
    refine r_iload_n X (pc := 90) (i := 2) (zw_dg dk_M_agree 50 rfl) rfl rfl ?_
    refine r_iload_n X (pc := 91) (i := 3) (zw_dg dk_M_agree 51 rfl) rfl rfl ?_
    obtain ⟨r23, hr23, hsem⟩ := zw_bd hsem
    refine r_callVl X (pc := 92) (As := [_, _, _]) (st := [.ref 71]) (km_M_moreTogether hS hr23) ce_M_moreTogether kw_1899 (zo hS 71 rfl rfl) rfl rfl ⟨Nat.le_of_ble_eq_true rfl, Nat.le_of_ble_eq_true rfl⟩ (Nat.le_of_ble_eq_true rfl) (zw_dg dk_M_agree 52 rfl) ?_
    obtain ⟨c24, hc24, hsem⟩ := zw_bd hsem
    refine r_callVv X (pc := 95) (As := [_]) (st := []) (km_M_tell hS hc24) ce_M_tell kw_1704 (zo hS 71 rfl rfl) rfl rfl ⟨Nat.le_of_ble_eq_true rfl, Nat.le_of_ble_eq_true rfl⟩ (Nat.le_of_ble_eq_true rfl) (zw_dg dk_M_agree 53 rfl) ?_
    refine r_iload X (pc := 98) (i := 4) (zw_dg dk_M_agree 54 rfl) rfl ?_
    obtain ⟨rfl, rfl⟩ := zw_in2 hsem
    exact r_iret X (pc := 100) rfl (zw_dg dk_M_agree 55 rfl)
