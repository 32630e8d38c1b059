/-! PaidForThinking: names, functions, contracts (by program: wip/whole/gen) -/
def y_P_lot : MethodName := ⟨R_P, "lot", "(III)I"⟩
abbrev b_P_lot : ByteArray := prog_1_method_29_code
def dl_P_lot : List (Nat × Instr × Nat) := [(0, .aload_n 0, 1), (1, .getfield 53, 3), (4, .iload_n 1, 1), (5, .invokevirtual 163, 3), (8, .astore 4, 2), (10, .aload 4, 2), (12, .ifnull 27, 3), (15, .iload_n 2, 1), (16, .sipush (-9999), 3), (19, .sipush 9999, 3), (22, .invokestatic 100, 3), (25, .ifCond .eq 14, 3), (28, .iload_n 3, 1), (29, .iconst 1, 1), (30, .sipush 9999, 3), (33, .invokestatic 100, 3), (36, .ifCond .ne 5, 3), (39, .iconst (-1), 1), (40, .ireturn, 1), (41, .aload 4, 2), (43, .aload_n 0, 1), (44, .getfield 53, 3), (47, .aload 4, 2), (49, .invokevirtual 169, 3), (52, .iaload, 1), (53, .i2l, 1), (54, .lstore 5, 2), (56, .aload_n 0, 1), (57, .getfield 53, 3), (60, .aload 4, 2), (62, .invokevirtual 180, 3), (65, .i2l, 1), (66, .lstore 7, 2), (68, .aload_n 0, 1), (69, .getfield 60, 3), (72, .invokevirtual 173, 3), (75, .aload_n 0, 1), (76, .getfield 60, 3), (79, .lload 5, 2), (81, .lneg, 1), (82, .invokevirtual 176, 3), (85, .aload_n 0, 1), (86, .getfield 60, 3), (89, .lload 7, 2), (91, .lload 5, 2), (93, .lsub, 1), (94, .invokevirtual 176, 3), (97, .lload 5, 2), (99, .iload_n 2, 1), (100, .i2l, 1), (101, .ladd, 1), (102, .lconst 0, 1), (103, .lcmp, 1), (104, .ifCond .lt 18, 3), (107, .lload 7, 2), (109, .iload_n 2, 1), (110, .i2l, 1), (111, .ladd, 1), (112, .iload_n 3, 1), (113, .i2l, 1), (114, .lcmp, 1), (115, .ifCond .gt 7, 3), (118, .iconst 1, 1), (119, .goto 4, 3), (122, .iconst 0, 1), (123, .ireturn, 1)]
theorem dk_P_lot : zw_dk b_P_lot dl_P_lot = true := by decide +kernel
theorem ce_P_lot : zw_cev y_P_lot b_P_lot 9 (some .int) 3 := ⟨⟨kt_in 997 (by decide +kernel) rfl, kt_in 85 (by decide +kernel) rfl, by decide +kernel⟩, kt_in 995 (by decide +kernel) rfl, kt_in 996 (by decide +kernel) rfl⟩
def fn_P_lot (c : zw_Ct) (pay1 : Int32) (add2 : Int32) (top3 : Int32) : Option (Int32 × zw_Ct) :=
  (fn_Pays_valuesOf c pay1).bind fun (r4, c5) =>
  if (((r4 = none) ∨ (¬ (¬ (fn_P_within add2 (-9999) 9999) = 0))) ∨ (¬ (¬ (fn_P_within top3 1 9999) = 0))) then
  (some ((-1), c5))
  else
  ((r4).bind fun a10 =>
  (r4).bind fun a11 =>
  (fn_Pays_leastAt c5 a11).bind fun r12 =>
  (zw_dI SH 0 c5 a10 r12).bind fun x13 =>
  (some (x13.toInt64 : Int64)).bind fun least14 =>
  (fn_Pays_greatestOf c5 a11).bind fun r15 =>
  (some (r15.toInt64 : Int64)).bind fun greatest16 =>
  (fn_Row_clear c5).bind fun c17 =>
  (fn_Row_add c17 (-least14)).bind fun c18 =>
  (fn_Row_add c18 (greatest16 - least14)).bind fun c19 =>
  some ((if ((0 ≤ (least14 + add2.toInt64)) ∧ ((greatest16 + add2.toInt64) ≤ top3.toInt64)) then (1 : Int32) else 0), c19))
set_option maxRecDepth 100000 in
theorem km_P_lot {l : Launch} {g : zw_G} {rr : zw_RR} {sh : zw_Sh} {c : zw_Ct} {pay1 : Int32} {add2 : Int32} {top3 : Int32} {r : Int32} {c2 : zw_Ct} (hS : zw_Ok 0 101 sh rr) (hsem : fn_P_lot c pay1 add2 top3 = some (r, c2)) : zw_Met l g y_P_lot b_P_lot 9 (some .int) 5 rr sh [.ref 0, .int pay1, .int add2, .int top3] c (some (.int r)) c2 := by
  unfold fn_P_lot at hsem
  refine zw_Met.of (by decide +kernel) (Nat.le_of_ble_eq_true rfl) (fun p e s m args below meth cd X => ?_)
  refine zw_eL (L2 := [some (.ref 0), some (.int pay1), some (.int add2), some (.int top3), none, none, none, none, none]) rfl ?_
  refine r_aload_n X (pc := 0) (i := 0) (zw_dg dk_P_lot 0 rfl) rfl rfl ?_
  refine r_getR X (pc := 1) (r := 45) ci_P (zo hS 0 rfl rfl) rfl (zr hS 0 5 rfl rfl) lk_P_53 (zw_dg dk_P_lot 1 rfl) ?_
  refine r_iload_n X (pc := 4) (i := 1) (zw_dg dk_P_lot 2 rfl) rfl rfl ?_
  obtain ⟨⟨r4, c5⟩, hr4_c5, hsem⟩ := zw_bd hsem
  refine r_callVO X (pc := 5) (As := [_]) (st := []) (km_Pays_valuesOf hS hr4_c5) ce_Pays_valuesOf kw_705 (zo hS 45 rfl rfl) rfl rfl ⟨Nat.le_of_ble_eq_true rfl, Nat.le_of_ble_eq_true rfl⟩ (Nat.le_of_ble_eq_true rfl) (zw_dg dk_P_lot 3 rfl) ?_
  refine r_astoreO X (pc := 8) (i := 4) (zw_dg dk_P_lot 4 rfl) (by decide) rfl ?_
  refine zw_cnd (P := (((r4 = none) ∨ (¬ (¬ (fn_P_within add2 (-9999) 9999) = 0))) ∨ (¬ (¬ (fn_P_within top3 1 9999) = 0)))) (J1 := 39) (J2 := 41) (st2 := []) (fun jT jF => ?_) (fun p6 => ?_) (fun p6 => ?_)
  · --
    refine r_aloadO X (pc := 10) (i := 4) (zw_dg dk_P_lot 5 rfl) rfl ?_
    refine r_ifnull X (pc := 12) (tgt := 39) (zw_dg dk_P_lot 6 rfl) (by decide) (fun q7 => ?_) (fun q7 => ?_)
    · --
      exact jT (Or.inl (Or.inl q7))
    · --
      refine r_iload_n X (pc := 15) (i := 2) (zw_dg dk_P_lot 7 rfl) rfl rfl ?_
      refine r_sipush X (pc := 16) (v := (-9999)) (zw_dg dk_P_lot 8 rfl) (by decide) ?_
      refine r_sipush X (pc := 19) (v := 9999) (zw_dg dk_P_lot 9 rfl) (by decide) ?_
      refine r_callSi X (pc := 22) (As := [_, _, _]) (st := []) (km_P_within hS rfl) ce_P_within kw_492 rfl ⟨Nat.le_of_ble_eq_true rfl, Nat.le_of_ble_eq_true rfl⟩ (Nat.le_of_ble_eq_true rfl) (zw_dg dk_P_lot 10 rfl) ?_
      refine r_if_eq X (pc := 25) (tgt := 39) (zw_dg dk_P_lot 11 rfl) (by decide) (fun q8 => ?_) (fun q8 => ?_)
      · --
        exact jT (Or.inl (Or.inr (fun z => z q8)))
      · --
        refine r_iload_n X (pc := 28) (i := 3) (zw_dg dk_P_lot 12 rfl) rfl rfl ?_
        refine r_iconst X (pc := 29) (v := 1) (zw_dg dk_P_lot 13 rfl) (by decide) ?_
        refine r_sipush X (pc := 30) (v := 9999) (zw_dg dk_P_lot 14 rfl) (by decide) ?_
        refine r_callSi X (pc := 33) (As := [_, _, _]) (st := []) (km_P_within hS rfl) ce_P_within kw_492 rfl ⟨Nat.le_of_ble_eq_true rfl, Nat.le_of_ble_eq_true rfl⟩ (Nat.le_of_ble_eq_true rfl) (zw_dg dk_P_lot 15 rfl) ?_
        refine r_if_ne X (pc := 36) (tgt := 41) (zw_dg dk_P_lot 16 rfl) (by decide) (fun q9 => ?_) (fun q9 => ?_)
        · --
          exact jF (fun q => q.elim (fun q => q.elim q7 (fun q => q q8)) (fun q => q q9))
        · --
          exact jT (Or.inr (fun z => z q9))
  · --
    have hsem := zw_ifp p6 hsem
    refine r_iconst X (pc := 39) (v := (-1)) (zw_dg dk_P_lot 17 rfl) (by decide) ?_
    obtain ⟨rfl, rfl⟩ := zw_in2 hsem
    exact r_iret X (pc := 40) rfl (zw_dg dk_P_lot 18 rfl)
  · --
    have hsem := zw_ifn p6 hsem
    refine r_aloadO X (pc := 41) (i := 4) (zw_dg dk_P_lot 19 rfl) rfl ?_
    obtain ⟨a10, ha10, hsem⟩ := zw_bd hsem
    refine zw_topO ha10 ?_
    refine r_aload_n X (pc := 43) (i := 0) (zw_dg dk_P_lot 20 rfl) rfl rfl ?_
    refine r_getR X (pc := 44) (r := 45) ci_P (zo hS 0 rfl rfl) rfl (zr hS 0 5 rfl rfl) lk_P_53 (zw_dg dk_P_lot 21 rfl) ?_
    refine r_aloadO X (pc := 47) (i := 4) (zw_dg dk_P_lot 22 rfl) rfl ?_
    obtain ⟨a11, ha11, hs_a11⟩ := zw_bd hsem
    subst ha11
    have hsem := hs_a11
    obtain ⟨r12, hr12, hsem⟩ := zw_bd hsem
    refine r_callVi X (pc := 49) (As := [_]) (st := [.ref _]) (km_Pays_leastAt hS hr12) ce_Pays_leastAt kw_737 (zo hS 45 rfl rfl) rfl rfl ⟨Nat.le_of_ble_eq_true rfl, Nat.le_of_ble_eq_true rfl⟩ (Nat.le_of_ble_eq_true rfl) (zw_dg dk_P_lot 23 rfl) ?_
    obtain ⟨x13, hx13, hsem⟩ := zw_bd hsem
    obtain ⟨_, hnx13, hx13⟩ := zw_bd hx13
    refine r_iald X (pc := 52) (zd hS (zw_len_of hnx13)) hx13 (zw_dg dk_P_lot 24 rfl) ?_
    refine r_i2l X (pc := 53) (zw_dg dk_P_lot 25 rfl)  ?_
    obtain ⟨least14, hleast14, hsem⟩ := zw_bd hsem
    refine zw_topJ hleast14 ?_
    refine r_lstore X (pc := 54) (i := 5) (L2 := [some (.ref 0), some (.int pay1), some (.int add2), some (.int top3), some (.ref a11), some (.long least14), none, none, none]) (zw_dg dk_P_lot 26 rfl) (by decide) rfl ?_
    refine r_aload_n X (pc := 56) (i := 0) (zw_dg dk_P_lot 27 rfl) rfl rfl ?_
    refine r_getR X (pc := 57) (r := 45) ci_P (zo hS 0 rfl rfl) rfl (zr hS 0 5 rfl rfl) lk_P_53 (zw_dg dk_P_lot 28 rfl) ?_
    refine r_aload X (pc := 60) (i := 4) (zw_dg dk_P_lot 29 rfl) rfl ?_
    obtain ⟨r15, hr15, hsem⟩ := zw_bd hsem
    refine r_callVi X (pc := 62) (As := [_]) (st := []) (km_Pays_greatestOf hS hr15) ce_Pays_greatestOf kw_749 (zo hS 45 rfl rfl) rfl rfl ⟨Nat.le_of_ble_eq_true rfl, Nat.le_of_ble_eq_true rfl⟩ (Nat.le_of_ble_eq_true rfl) (zw_dg dk_P_lot 30 rfl) ?_
    refine r_i2l X (pc := 65) (zw_dg dk_P_lot 31 rfl)  ?_
    obtain ⟨greatest16, hgreatest16, hsem⟩ := zw_bd hsem
    refine zw_topJ hgreatest16 ?_
    refine r_lstore X (pc := 66) (i := 7) (L2 := [some (.ref 0), some (.int pay1), some (.int add2), some (.int top3), some (.ref a11), some (.long least14), none, some (.long greatest16), none]) (zw_dg dk_P_lot 32 rfl) (by decide) rfl ?_
    refine r_aload_n X (pc := 68) (i := 0) (zw_dg dk_P_lot 33 rfl) rfl rfl ?_
    refine r_getR X (pc := 69) (r := 61) ci_P (zo hS 0 rfl rfl) rfl (zr hS 0 6 rfl rfl) lk_P_60 (zw_dg dk_P_lot 34 rfl) ?_
    obtain ⟨c17, hc17, hsem⟩ := zw_bd hsem
    refine r_callVv X (pc := 72) (As := []) (st := []) (km_Row_clear hS hc17) ce_Row_clear kw_741 (zo hS 61 rfl rfl) rfl rfl ⟨Nat.le_of_ble_eq_true rfl, Nat.le_of_ble_eq_true rfl⟩ (Nat.le_of_ble_eq_true rfl) (zw_dg dk_P_lot 35 rfl) ?_
    refine r_aload_n X (pc := 75) (i := 0) (zw_dg dk_P_lot 36 rfl) rfl rfl ?_
    refine r_getR X (pc := 76) (r := 61) ci_P (zo hS 0 rfl rfl) rfl (zr hS 0 6 rfl rfl) lk_P_60 (zw_dg dk_P_lot 37 rfl) ?_
    refine r_lload X (pc := 79) (i := 5) (zw_dg dk_P_lot 38 rfl) rfl ?_
    refine r_lneg X (pc := 81) (zw_dg dk_P_lot 39 rfl)  ?_
    obtain ⟨c18, hc18, hsem⟩ := zw_bd hsem
    refine r_callVv X (pc := 82) (As := [_]) (st := []) (km_Row_add hS hc18) ce_Row_add kw_745 (zo hS 61 rfl rfl) rfl rfl ⟨Nat.le_of_ble_eq_true rfl, Nat.le_of_ble_eq_true rfl⟩ (Nat.le_of_ble_eq_true rfl) (zw_dg dk_P_lot 40 rfl) ?_
    refine r_aload_n X (pc := 85) (i := 0) (zw_dg dk_P_lot 41 rfl) rfl rfl ?_
    refine r_getR X (pc := 86) (r := 61) ci_P (zo hS 0 rfl rfl) rfl (zr hS 0 6 rfl rfl) lk_P_60 (zw_dg dk_P_lot 42 rfl) ?_
    refine r_lload X (pc := 89) (i := 7) (zw_dg dk_P_lot 43 rfl) rfl ?_
    refine r_lload X (pc := 91) (i := 5) (zw_dg dk_P_lot 44 rfl) rfl ?_
    refine r_lsub X (pc := 93) (zw_dg dk_P_lot 45 rfl)  ?_
    obtain ⟨c19, hc19, hsem⟩ := zw_bd hsem
    refine r_callVv X (pc := 94) (As := [_]) (st := []) (km_Row_add hS hc19) ce_Row_add kw_745 (zo hS 61 rfl rfl) rfl rfl ⟨Nat.le_of_ble_eq_true rfl, Nat.le_of_ble_eq_true rfl⟩ (Nat.le_of_ble_eq_true rfl) (zw_dg dk_P_lot 46 rfl) ?_
    refine zw_ter (P := ((0 ≤ (least14 + add2.toInt64)) ∧ ((greatest16 + add2.toInt64) ≤ top3.toInt64))) (f := Value.int) (x := 1) (y := 0) (J := 123) (st2 := []) (fun jT jF => ?_) ?_
    · --
      refine r_lload X (pc := 97) (i := 5) (zw_dg dk_P_lot 47 rfl) rfl ?_
      refine r_iload_n X (pc := 99) (i := 2) (zw_dg dk_P_lot 48 rfl) rfl rfl ?_
      refine r_i2l X (pc := 100) (zw_dg dk_P_lot 49 rfl)  ?_
      refine r_ladd X (pc := 101) (zw_dg dk_P_lot 50 rfl)  ?_
      refine r_lconst X (pc := 102) (v := 0) (zw_dg dk_P_lot 51 rfl) (by decide) ?_
      refine r_lcmp_lt X (pc := 103) (tgt := 122) (zw_dg dk_P_lot 52 rfl) (zw_dg dk_P_lot 53 rfl) (by decide) (fun q20 => ?_) (fun q20 => ?_)
      · --
        refine r_iconst X (pc := 122) (v := 0) (zw_dg dk_P_lot 64 rfl) (by decide) ?_
        exact jF (fun q => (Int64.not_le.mpr q20) q.1)
      · --
        refine r_lload X (pc := 107) (i := 7) (zw_dg dk_P_lot 54 rfl) rfl ?_
        refine r_iload_n X (pc := 109) (i := 2) (zw_dg dk_P_lot 55 rfl) rfl rfl ?_
        refine r_i2l X (pc := 110) (zw_dg dk_P_lot 56 rfl)  ?_
        refine r_ladd X (pc := 111) (zw_dg dk_P_lot 57 rfl)  ?_
        refine r_iload_n X (pc := 112) (i := 3) (zw_dg dk_P_lot 58 rfl) rfl rfl ?_
        refine r_i2l X (pc := 113) (zw_dg dk_P_lot 59 rfl)  ?_
        refine r_lcmp_gt X (pc := 114) (tgt := 122) (zw_dg dk_P_lot 60 rfl) (zw_dg dk_P_lot 61 rfl) (by decide) (fun q21 => ?_) (fun q21 => ?_)
        · --
          refine r_iconst X (pc := 122) (v := 0) (zw_dg dk_P_lot 64 rfl) (by decide) ?_
          exact jF (fun q => (Int64.not_le.mpr q21) q.2)
        · --
          refine r_iconst X (pc := 118) (v := 1) (zw_dg dk_P_lot 62 rfl) (by decide) ?_
          refine r_goto X (pc := 119) (tgt := 123) (zw_dg dk_P_lot 63 rfl) (by decide) ?_
          exact jT ⟨(Int64.not_lt.mp q20), (Int64.not_lt.mp q21)⟩
    obtain ⟨rfl, rfl⟩ := zw_in2 hsem
    exact r_iret X (pc := 123) rfl (zw_dg dk_P_lot 65 rfl)
def y_P_bribe : MethodName := ⟨R_P, "bribe", "(IIIII)I"⟩
abbrev b_P_bribe : ByteArray := prog_1_method_30_code
def dl_P_bribe : List (Nat × Instr × Nat) := [(0, .aload_n 0, 1), (1, .getfield 53, 3), (4, .iload_n 1, 1), (5, .invokevirtual 163, 3), (8, .astore 6, 2), (10, .aload 6, 2), (12, .ifnull 25, 3), (15, .aload_n 0, 1), (16, .getfield 25, 3), (19, .iload_n 2, 1), (20, .invokevirtual 122, 3), (23, .ifCond .eq 14, 3), (26, .aload_n 0, 1), (27, .getfield 25, 3), (30, .iload_n 3, 1), (31, .invokevirtual 126, 3), (34, .ifCond .ne 5, 3), (37, .iconst (-1), 1), (38, .ireturn, 1), (39, .iload 4, 2), (41, .iconst 0, 1), (42, .bipush 12, 2), (44, .invokestatic 100, 3), (47, .ifCond .eq 15, 3), (50, .iload 5, 2), (52, .iconst 0, 1), (53, .sipush 9999, 3), (56, .invokestatic 100, 3), (59, .ifCond .ne 5, 3), (62, .iconst (-1), 1), (63, .ireturn, 1), (64, .aload_n 0, 1), (65, .getfield 73, 3), (68, .iload_n 3, 1), (69, .iload 4, 2), (71, .iload 5, 2), (73, .invokevirtual 262, 3), (76, .aload_n 0, 1), (77, .getfield 60, 3), (80, .invokevirtual 173, 3), (83, .aload_n 0, 1), (84, .getfield 60, 3), (87, .aload_n 0, 1), (88, .getfield 73, 3), (91, .aload 6, 2), (93, .iload_n 2, 1), (94, .invokevirtual 266, 3), (97, .i2l, 1), (98, .invokevirtual 176, 3), (101, .aload_n 0, 1), (102, .getfield 73, 3), (105, .aload 6, 2), (107, .iload_n 2, 1), (108, .invokevirtual 270, 3), (111, .ireturn, 1)]
theorem dk_P_bribe : zw_dk b_P_bribe dl_P_bribe = true := by decide +kernel
theorem ce_P_bribe : zw_cev y_P_bribe b_P_bribe 7 (some .int) 5 := ⟨⟨kt_in 1001 (by decide +kernel) rfl, kt_in 85 (by decide +kernel) rfl, by decide +kernel⟩, kt_in 999 (by decide +kernel) rfl, kt_in 1000 (by decide +kernel) rfl⟩
def fn_P_bribe (c : zw_Ct) (pay1 : Int32) (thought2 : Int32) (event3 : Int32) (least4 : Int32) (gift5 : Int32) : Option (Int32 × zw_Ct) :=
  (fn_Pays_valuesOf c pay1).bind fun (r6, c7) =>
  if (((r6 = none) ∨ (¬ (¬ (fn_Sayings_has c7 thought2) = 0))) ∨ (¬ (¬ (fn_Sayings_hasEvent c7 event3) = 0))) then
  (some ((-1), c7))
  else
  (if ((¬ (¬ (fn_P_within least4 0 12) = 0)) ∨ (¬ (¬ (fn_P_within gift5 0 9999) = 0))) then
  (some ((-1), c7))
  else
  ((fn_Lures_offer c7 event3 least4 gift5).bind fun c15 =>
  (fn_Row_clear c15).bind fun c16 =>
  (r6).bind fun a17 =>
  (fn_Lures_timesAgainstBribe c16 a17 thought2).bind fun r18 =>
  (fn_Row_add c16 r18.toInt64).bind fun c19 =>
  (fn_Lures_bestBribed c19 a17 thought2).bind fun (r20, c21) =>
  some (r20, c21)))
set_option maxRecDepth 100000 in
theorem km_P_bribe {l : Launch} {g : zw_G} {rr : zw_RR} {sh : zw_Sh} {c : zw_Ct} {pay1 : Int32} {thought2 : Int32} {event3 : Int32} {least4 : Int32} {gift5 : Int32} {r : Int32} {c2 : zw_Ct} (hS : zw_Ok 0 101 sh rr) (hsem : fn_P_bribe c pay1 thought2 event3 least4 gift5 = some (r, c2)) : zw_Met l g y_P_bribe b_P_bribe 7 (some .int) 5 rr sh [.ref 0, .int pay1, .int thought2, .int event3, .int least4, .int gift5] c (some (.int r)) c2 := by
  unfold fn_P_bribe at hsem
  refine zw_Met.of (by decide +kernel) (Nat.le_of_ble_eq_true rfl) (fun p e s m args below meth cd X => ?_)
  refine zw_eL (L2 := [some (.ref 0), some (.int pay1), some (.int thought2), some (.int event3), some (.int least4), some (.int gift5), none]) rfl ?_
  refine r_aload_n X (pc := 0) (i := 0) (zw_dg dk_P_bribe 0 rfl) rfl rfl ?_
  refine r_getR X (pc := 1) (r := 45) ci_P (zo hS 0 rfl rfl) rfl (zr hS 0 5 rfl rfl) lk_P_53 (zw_dg dk_P_bribe 1 rfl) ?_
  refine r_iload_n X (pc := 4) (i := 1) (zw_dg dk_P_bribe 2 rfl) rfl rfl ?_
  obtain ⟨⟨r6, c7⟩, hr6_c7, hsem⟩ := zw_bd hsem
  refine r_callVO X (pc := 5) (As := [_]) (st := []) (km_Pays_valuesOf hS hr6_c7) ce_Pays_valuesOf kw_705 (zo hS 45 rfl rfl) rfl rfl ⟨Nat.le_of_ble_eq_true rfl, Nat.le_of_ble_eq_true rfl⟩ (Nat.le_of_ble_eq_true rfl) (zw_dg dk_P_bribe 3 rfl) ?_
  refine r_astoreO X (pc := 8) (i := 6) (zw_dg dk_P_bribe 4 rfl) (by decide) rfl ?_
  refine zw_cnd (P := (((r6 = none) ∨ (¬ (¬ (fn_Sayings_has c7 thought2) = 0))) ∨ (¬ (¬ (fn_Sayings_hasEvent c7 event3) = 0)))) (J1 := 37) (J2 := 39) (st2 := []) (fun jT jF => ?_) (fun p8 => ?_) (fun p8 => ?_)
  · --
    refine r_aloadO X (pc := 10) (i := 6) (zw_dg dk_P_bribe 5 rfl) rfl ?_
    refine r_ifnull X (pc := 12) (tgt := 37) (zw_dg dk_P_bribe 6 rfl) (by decide) (fun q9 => ?_) (fun q9 => ?_)
    · --
      exact jT (Or.inl (Or.inl q9))
    · --
      refine r_aload_n X (pc := 15) (i := 0) (zw_dg dk_P_bribe 7 rfl) rfl rfl ?_
      refine r_getR X (pc := 16) (r := 1) ci_P (zo hS 0 rfl rfl) rfl (zr hS 0 0 rfl rfl) lk_P_25 (zw_dg dk_P_bribe 8 rfl) ?_
      refine r_iload_n X (pc := 19) (i := 2) (zw_dg dk_P_bribe 9 rfl) rfl rfl ?_
      refine r_callVi X (pc := 20) (As := [_]) (st := []) (km_Sayings_has hS rfl) ce_Sayings_has kw_758 (zo hS 1 rfl rfl) rfl rfl ⟨Nat.le_of_ble_eq_true rfl, Nat.le_of_ble_eq_true rfl⟩ (Nat.le_of_ble_eq_true rfl) (zw_dg dk_P_bribe 10 rfl) ?_
      refine r_if_eq X (pc := 23) (tgt := 37) (zw_dg dk_P_bribe 11 rfl) (by decide) (fun q10 => ?_) (fun q10 => ?_)
      · --
        exact jT (Or.inl (Or.inr (fun z => z q10)))
      · --
        refine r_aload_n X (pc := 26) (i := 0) (zw_dg dk_P_bribe 12 rfl) rfl rfl ?_
        refine r_getR X (pc := 27) (r := 1) ci_P (zo hS 0 rfl rfl) rfl (zr hS 0 0 rfl rfl) lk_P_25 (zw_dg dk_P_bribe 13 rfl) ?_
        refine r_iload_n X (pc := 30) (i := 3) (zw_dg dk_P_bribe 14 rfl) rfl rfl ?_
        refine r_callVi X (pc := 31) (As := [_]) (st := []) (km_Sayings_hasEvent hS rfl) ce_Sayings_hasEvent kw_1002 (zo hS 1 rfl rfl) rfl rfl ⟨Nat.le_of_ble_eq_true rfl, Nat.le_of_ble_eq_true rfl⟩ (Nat.le_of_ble_eq_true rfl) (zw_dg dk_P_bribe 15 rfl) ?_
        refine r_if_ne X (pc := 34) (tgt := 39) (zw_dg dk_P_bribe 16 rfl) (by decide) (fun q11 => ?_) (fun q11 => ?_)
        · --
          exact jF (fun q => q.elim (fun q => q.elim q9 (fun q => q q10)) (fun q => q q11))
        · --
          exact jT (Or.inr (fun z => z q11))
  · --
    have hsem := zw_ifp p8 hsem
    refine r_iconst X (pc := 37) (v := (-1)) (zw_dg dk_P_bribe 17 rfl) (by decide) ?_
    obtain ⟨rfl, rfl⟩ := zw_in2 hsem
    exact r_iret X (pc := 38) rfl (zw_dg dk_P_bribe 18 rfl)
  · --
    have hsem := zw_ifn p8 hsem
    refine zw_cnd (P := ((¬ (¬ (fn_P_within least4 0 12) = 0)) ∨ (¬ (¬ (fn_P_within gift5 0 9999) = 0)))) (J1 := 62) (J2 := 64) (st2 := []) (fun jT jF => ?_) (fun p12 => ?_) (fun p12 => ?_)
    · --
      refine r_iload X (pc := 39) (i := 4) (zw_dg dk_P_bribe 19 rfl) rfl ?_
      refine r_iconst X (pc := 41) (v := 0) (zw_dg dk_P_bribe 20 rfl) (by decide) ?_
      refine r_bipush X (pc := 42) (v := 12) (zw_dg dk_P_bribe 21 rfl) (by decide) ?_
      refine r_callSi X (pc := 44) (As := [_, _, _]) (st := []) (km_P_within hS rfl) ce_P_within kw_492 rfl ⟨Nat.le_of_ble_eq_true rfl, Nat.le_of_ble_eq_true rfl⟩ (Nat.le_of_ble_eq_true rfl) (zw_dg dk_P_bribe 22 rfl) ?_
      refine r_if_eq X (pc := 47) (tgt := 62) (zw_dg dk_P_bribe 23 rfl) (by decide) (fun q13 => ?_) (fun q13 => ?_)
      · --
        exact jT (Or.inl (fun z => z q13))
      · --
        refine r_iload X (pc := 50) (i := 5) (zw_dg dk_P_bribe 24 rfl) rfl ?_
        refine r_iconst X (pc := 52) (v := 0) (zw_dg dk_P_bribe 25 rfl) (by decide) ?_
        refine r_sipush X (pc := 53) (v := 9999) (zw_dg dk_P_bribe 26 rfl) (by decide) ?_
        refine r_callSi X (pc := 56) (As := [_, _, _]) (st := []) (km_P_within hS rfl) ce_P_within kw_492 rfl ⟨Nat.le_of_ble_eq_true rfl, Nat.le_of_ble_eq_true rfl⟩ (Nat.le_of_ble_eq_true rfl) (zw_dg dk_P_bribe 27 rfl) ?_
        refine r_if_ne X (pc := 59) (tgt := 64) (zw_dg dk_P_bribe 28 rfl) (by decide) (fun q14 => ?_) (fun q14 => ?_)
        · --
          exact jF (fun q => q.elim (fun q => q q13) (fun q => q q14))
        · --
          exact jT (Or.inr (fun z => z q14))
    · --
      have hsem := zw_ifp p12 hsem
      refine r_iconst X (pc := 62) (v := (-1)) (zw_dg dk_P_bribe 29 rfl) (by decide) ?_
      obtain ⟨rfl, rfl⟩ := zw_in2 hsem
      exact r_iret X (pc := 63) rfl (zw_dg dk_P_bribe 30 rfl)
    · --
      have hsem := zw_ifn p12 hsem
      refine r_aload_n X (pc := 64) (i := 0) (zw_dg dk_P_bribe 31 rfl) rfl rfl ?_
      refine r_getR X (pc := 65) (r := 63) ci_P (zo hS 0 rfl rfl) rfl (zr hS 0 8 rfl rfl) lk_P_73 (zw_dg dk_P_bribe 32 rfl) ?_
      refine r_iload_n X (pc := 68) (i := 3) (zw_dg dk_P_bribe 33 rfl) rfl rfl ?_
      refine r_iload X (pc := 69) (i := 4) (zw_dg dk_P_bribe 34 rfl) rfl ?_
      refine r_iload X (pc := 71) (i := 5) (zw_dg dk_P_bribe 35 rfl) rfl ?_
      obtain ⟨c15, hc15, hsem⟩ := zw_bd hsem
      refine r_callVv X (pc := 73) (As := [_, _, _]) (st := []) (km_Lures_offer hS hc15) ce_Lures_offer kw_1006 (zo hS 63 rfl rfl) rfl rfl ⟨Nat.le_of_ble_eq_true rfl, Nat.le_of_ble_eq_true rfl⟩ (Nat.le_of_ble_eq_true rfl) (zw_dg dk_P_bribe 36 rfl) ?_
      refine r_aload_n X (pc := 76) (i := 0) (zw_dg dk_P_bribe 37 rfl) rfl rfl ?_
      refine r_getR X (pc := 77) (r := 61) ci_P (zo hS 0 rfl rfl) rfl (zr hS 0 6 rfl rfl) lk_P_60 (zw_dg dk_P_bribe 38 rfl) ?_
      obtain ⟨c16, hc16, hsem⟩ := zw_bd hsem
      refine r_callVv X (pc := 80) (As := []) (st := []) (km_Row_clear hS hc16) ce_Row_clear kw_741 (zo hS 61 rfl rfl) rfl rfl ⟨Nat.le_of_ble_eq_true rfl, Nat.le_of_ble_eq_true rfl⟩ (Nat.le_of_ble_eq_true rfl) (zw_dg dk_P_bribe 39 rfl) ?_
      refine r_aload_n X (pc := 83) (i := 0) (zw_dg dk_P_bribe 40 rfl) rfl rfl ?_
      refine r_getR X (pc := 84) (r := 61) ci_P (zo hS 0 rfl rfl) rfl (zr hS 0 6 rfl rfl) lk_P_60 (zw_dg dk_P_bribe 41 rfl) ?_
      refine r_aload_n X (pc := 87) (i := 0) (zw_dg dk_P_bribe 42 rfl) rfl rfl ?_
      refine r_getR X (pc := 88) (r := 63) ci_P (zo hS 0 rfl rfl) rfl (zr hS 0 8 rfl rfl) lk_P_73 (zw_dg dk_P_bribe 43 rfl) ?_
      refine r_aloadO X (pc := 91) (i := 6) (zw_dg dk_P_bribe 44 rfl) rfl ?_
      refine r_iload_n X (pc := 93) (i := 2) (zw_dg dk_P_bribe 45 rfl) rfl rfl ?_
      obtain ⟨a17, ha17, hs_a17⟩ := zw_bd hsem
      subst ha17
      have hsem := hs_a17
      obtain ⟨r18, hr18, hsem⟩ := zw_bd hsem
      refine r_callVi X (pc := 94) (As := [_, _]) (st := [.ref 61]) (km_Lures_timesAgainstBribe hS hr18) ce_Lures_timesAgainstBribe kw_1010 (zo hS 63 rfl rfl) rfl rfl ⟨Nat.le_of_ble_eq_true rfl, Nat.le_of_ble_eq_true rfl⟩ (Nat.le_of_ble_eq_true rfl) (zw_dg dk_P_bribe 46 rfl) ?_
      refine r_i2l X (pc := 97) (zw_dg dk_P_bribe 47 rfl)  ?_
      obtain ⟨c19, hc19, hsem⟩ := zw_bd hsem
      refine r_callVv X (pc := 98) (As := [_]) (st := []) (km_Row_add hS hc19) ce_Row_add kw_745 (zo hS 61 rfl rfl) rfl rfl ⟨Nat.le_of_ble_eq_true rfl, Nat.le_of_ble_eq_true rfl⟩ (Nat.le_of_ble_eq_true rfl) (zw_dg dk_P_bribe 48 rfl) ?_
      refine r_aload_n X (pc := 101) (i := 0) (zw_dg dk_P_bribe 49 rfl) rfl rfl ?_
      refine r_getR X (pc := 102) (r := 63) ci_P (zo hS 0 rfl rfl) rfl (zr hS 0 8 rfl rfl) lk_P_73 (zw_dg dk_P_bribe 50 rfl) ?_
      refine r_aload X (pc := 105) (i := 6) (zw_dg dk_P_bribe 51 rfl) rfl ?_
      refine r_iload_n X (pc := 107) (i := 2) (zw_dg dk_P_bribe 52 rfl) rfl rfl ?_
      obtain ⟨⟨r20, c21⟩, hr20_c21, hsem⟩ := zw_bd hsem
      refine r_callVi X (pc := 108) (As := [_, _]) (st := []) (km_Lures_bestBribed hS hr20_c21) ce_Lures_bestBribed kw_1024 (zo hS 63 rfl rfl) rfl rfl ⟨Nat.le_of_ble_eq_true rfl, Nat.le_of_ble_eq_true rfl⟩ (Nat.le_of_ble_eq_true rfl) (zw_dg dk_P_bribe 53 rfl) ?_
      obtain ⟨rfl, rfl⟩ := zw_in2 hsem
      exact r_iret X (pc := 111) rfl (zw_dg dk_P_bribe 54 rfl)
def y_P_safe : MethodName := ⟨R_P, "safe", "(I)I"⟩
abbrev b_P_safe : ByteArray := prog_1_method_31_code
def dl_P_safe : List (Nat × Instr × Nat) := [(0, .aload_n 0, 1), (1, .getfield 53, 3), (4, .iload_n 1, 1), (5, .invokevirtual 163, 3), (8, .astore_n 2, 1), (9, .aload_n 2, 1), (10, .ifnonnull 7, 3), (13, .iconst (-1), 1), (14, .goto 11, 3), (17, .aload_n 0, 1), (18, .getfield 73, 3), (21, .aload_n 2, 1), (22, .invokevirtual 273, 3), (25, .ireturn, 1)]
theorem dk_P_safe : zw_dk b_P_safe dl_P_safe = true := by decide +kernel
theorem ce_P_safe : zw_cev y_P_safe b_P_safe 3 (some .int) 1 := ⟨⟨kt_in 1031 (by decide +kernel) rfl, kt_in 85 (by decide +kernel) rfl, by decide +kernel⟩, kt_in 1029 (by decide +kernel) rfl, kt_in 1030 (by decide +kernel) rfl⟩
def fn_P_safe (c : zw_Ct) (pay1 : Int32) : Option (Int32 × zw_Ct) :=
  (fn_Pays_valuesOf c pay1).bind fun (r2, c3) =>
  (if (r2 = none) then
  (some (((-1) : Int32), c3))
  else
  ((r2).bind fun a8 =>
  (fn_Lures_greatestSafeGift c3 a8).bind fun (r9, c10) =>
  some ((r9 : Int32), c10))).bind fun (v4, c5) =>
  some (v4, c5)
set_option maxRecDepth 100000 in
theorem km_P_safe {l : Launch} {g : zw_G} {rr : zw_RR} {sh : zw_Sh} {c : zw_Ct} {pay1 : Int32} {r : Int32} {c2 : zw_Ct} (hS : zw_Ok 0 101 sh rr) (hsem : fn_P_safe c pay1 = some (r, c2)) : zw_Met l g y_P_safe b_P_safe 3 (some .int) 5 rr sh [.ref 0, .int pay1] c (some (.int r)) c2 := by
  unfold fn_P_safe at hsem
  refine zw_Met.of (by decide +kernel) (Nat.le_of_ble_eq_true rfl) (fun p e s m args below meth cd X => ?_)
  refine zw_eL (L2 := [some (.ref 0), some (.int pay1), none]) rfl ?_
  refine r_aload_n X (pc := 0) (i := 0) (zw_dg dk_P_safe 0 rfl) rfl rfl ?_
  refine r_getR X (pc := 1) (r := 45) ci_P (zo hS 0 rfl rfl) rfl (zr hS 0 5 rfl rfl) lk_P_53 (zw_dg dk_P_safe 1 rfl) ?_
  refine r_iload_n X (pc := 4) (i := 1) (zw_dg dk_P_safe 2 rfl) rfl rfl ?_
  obtain ⟨⟨r2, c3⟩, hr2_c3, hsem⟩ := zw_bd hsem
  refine r_callVO X (pc := 5) (As := [_]) (st := []) (km_Pays_valuesOf hS hr2_c3) ce_Pays_valuesOf kw_705 (zo hS 45 rfl rfl) rfl rfl ⟨Nat.le_of_ble_eq_true rfl, Nat.le_of_ble_eq_true rfl⟩ (Nat.le_of_ble_eq_true rfl) (zw_dg dk_P_safe 3 rfl) ?_
  refine r_astore_nO X (pc := 8) (i := 2) (zw_dg dk_P_safe 4 rfl) rfl (by decide) rfl ?_
  obtain ⟨⟨v4, c5⟩, hv4, hsv4⟩ := zw_bd hsem
  refine zw_terO (f := Value.int) (v := v4) (J := 25) (st2 := []) (c2 := c5) (fun jj => ?_) ?_
  · have hsem := hv4
    refine r_aload_nO X (pc := 9) (i := 2) (zw_dg dk_P_safe 5 rfl) rfl rfl ?_
    refine r_ifnonnull X (pc := 10) (tgt := 17) (zw_dg dk_P_safe 6 rfl) (by decide) (fun q7 => ?_) (fun q7 => ?_)
    · --
      have p6 : ¬ (r2 = none) := q7
      have hsem := zw_ifn p6 hsem
      refine r_aload_n X (pc := 17) (i := 0) (zw_dg dk_P_safe 9 rfl) rfl rfl ?_
      refine r_getR X (pc := 18) (r := 63) ci_P (zo hS 0 rfl rfl) rfl (zr hS 0 8 rfl rfl) lk_P_73 (zw_dg dk_P_safe 10 rfl) ?_
      refine r_aload_nO X (pc := 21) (i := 2) (zw_dg dk_P_safe 11 rfl) rfl rfl ?_
      obtain ⟨a8, ha8, hs_a8⟩ := zw_bd hsem
      subst ha8
      have hsem := hs_a8
      obtain ⟨⟨r9, c10⟩, hr9_c10, hsem⟩ := zw_bd hsem
      refine r_callVi X (pc := 22) (As := [_]) (st := []) (km_Lures_greatestSafeGift hS hr9_c10) ce_Lures_greatestSafeGift kw_1032 (zo hS 63 rfl rfl) rfl rfl ⟨Nat.le_of_ble_eq_true rfl, Nat.le_of_ble_eq_true rfl⟩ (Nat.le_of_ble_eq_true rfl) (zw_dg dk_P_safe 12 rfl) ?_
      cases hsem; exact jj
    · --
      have p6 : (r2 = none) := q7
      have hsem := zw_ifp p6 hsem
      refine r_iconst X (pc := 13) (v := (-1)) (zw_dg dk_P_safe 7 rfl) (by decide) ?_
      refine r_goto X (pc := 14) (tgt := 25) (zw_dg dk_P_safe 8 rfl) (by decide) ?_
      cases hsem; exact jj
  have hsem := hsv4
  obtain ⟨rfl, rfl⟩ := zw_in2 hsem
  exact r_iret X (pc := 25) rfl (zw_dg dk_P_safe 13 rfl)
def y_P_person : MethodName := ⟨R_P, "person", "(I)I"⟩
abbrev b_P_person : ByteArray := prog_1_method_32_code
def dl_P_person : List (Nat × Instr × Nat) := [(0, .aload_n 0, 1), (1, .getfield 25, 3), (4, .iload_n 1, 1), (5, .invokevirtual 122, 3), (8, .ifCond .eq 15, 3), (11, .aload_n 0, 1), (12, .getfield 29, 3), (15, .getfield 276, 3), (18, .bipush 6, 2), (20, .if_icmp .lt 5, 3), (23, .iconst (-1), 1), (24, .ireturn, 1), (25, .aload_n 0, 1), (26, .getfield 29, 3), (29, .getfield 279, 3), (32, .aload_n 0, 1), (33, .getfield 29, 3), (36, .getfield 276, 3), (39, .iload_n 1, 1), (40, .iastore, 1), (41, .aload_n 0, 1), (42, .getfield 29, 3), (45, .dup, 1), (46, .getfield 276, 3), (49, .iconst 1, 1), (50, .iadd, 1), (51, .putfield 276, 3), (54, .aload_n 0, 1), (55, .getfield 29, 3), (58, .getfield 276, 3), (61, .iconst 1, 1), (62, .isub, 1), (63, .ireturn, 1)]
theorem dk_P_person : zw_dk b_P_person dl_P_person = true := by decide +kernel
theorem ce_P_person : zw_cev y_P_person b_P_person 2 (some .int) 1 := ⟨⟨kt_in 1041 (by decide +kernel) rfl, kt_in 85 (by decide +kernel) rfl, by decide +kernel⟩, kt_in 1039 (by decide +kernel) rfl, kt_in 1040 (by decide +kernel) rfl⟩
def fn_P_person (c : zw_Ct) (thought1 : Int32) : Option (Int32 × zw_Ct) :=
  if ((¬ (¬ (fn_Sayings_has c thought1) = 0)) ∨ (6 ≤ (c.1 3 2))) then
  (some ((-1), c))
  else
  ((zw_uI 6 c 5 (c.1 3 2) thought1).bind fun c5 =>
  (some (zw_wI c5 3 2 ((c5.1 3 2) + 1))).bind fun c6 =>
  some (((c6.1 3 2) - 1), c6))
set_option maxRecDepth 100000 in
theorem km_P_person {l : Launch} {g : zw_G} {rr : zw_RR} {sh : zw_Sh} {c : zw_Ct} {thought1 : Int32} {r : Int32} {c2 : zw_Ct} (hS : zw_Ok 0 101 sh rr) (hsem : fn_P_person c thought1 = some (r, c2)) : zw_Met l g y_P_person b_P_person 2 (some .int) 2 rr sh [.ref 0, .int thought1] c (some (.int r)) c2 := by
  unfold fn_P_person at hsem
  refine zw_Met.of (by decide +kernel) (Nat.le_of_ble_eq_true rfl) (fun p e s m args below meth cd X => ?_)
  refine zw_eL (L2 := [some (.ref 0), some (.int thought1)]) rfl ?_
  refine zw_cnd (P := ((¬ (¬ (fn_Sayings_has c thought1) = 0)) ∨ (6 ≤ (c.1 3 2)))) (J1 := 23) (J2 := 25) (st2 := []) (fun jT jF => ?_) (fun p2 => ?_) (fun p2 => ?_)
  · --
    refine r_aload_n X (pc := 0) (i := 0) (zw_dg dk_P_person 0 rfl) rfl rfl ?_
    refine r_getR X (pc := 1) (r := 1) ci_P (zo hS 0 rfl rfl) rfl (zr hS 0 0 rfl rfl) lk_P_25 (zw_dg dk_P_person 1 rfl) ?_
    refine r_iload_n X (pc := 4) (i := 1) (zw_dg dk_P_person 2 rfl) rfl rfl ?_
    refine r_callVi X (pc := 5) (As := [_]) (st := []) (km_Sayings_has hS rfl) ce_Sayings_has kw_758 (zo hS 1 rfl rfl) rfl rfl ⟨Nat.le_of_ble_eq_true rfl, Nat.le_of_ble_eq_true rfl⟩ (Nat.le_of_ble_eq_true rfl) (zw_dg dk_P_person 3 rfl) ?_
    refine r_if_eq X (pc := 8) (tgt := 23) (zw_dg dk_P_person 4 rfl) (by decide) (fun q3 => ?_) (fun q3 => ?_)
    · --
      exact jT (Or.inl (fun z => z q3))
    · --
      refine r_aload_n X (pc := 11) (i := 0) (zw_dg dk_P_person 5 rfl) rfl rfl ?_
      refine r_getR X (pc := 12) (r := 3) ci_P (zo hS 0 rfl rfl) rfl (zr hS 0 1 rfl rfl) lk_P_29 (zw_dg dk_P_person 6 rfl) ?_
      refine r_getI X (pc := 15) ci_Held (zo hS 3 rfl rfl) rfl lk_P_276 (zw_dg dk_P_person 7 rfl) ?_
      refine r_bipush X (pc := 18) (v := 6) (zw_dg dk_P_person 8 rfl) (by decide) ?_
      refine r_icmp_lt X (pc := 20) (tgt := 25) (zw_dg dk_P_person 9 rfl) (by decide) (fun q4 => ?_) (fun q4 => ?_)
      · --
        exact jF (fun q => q.elim (fun q => q q3) (Int32.not_le.mpr q4))
      · --
        exact jT (Or.inr (Int32.not_lt.mp q4))
  · --
    have hsem := zw_ifp p2 hsem
    refine r_iconst X (pc := 23) (v := (-1)) (zw_dg dk_P_person 10 rfl) (by decide) ?_
    obtain ⟨rfl, rfl⟩ := zw_in2 hsem
    exact r_iret X (pc := 24) rfl (zw_dg dk_P_person 11 rfl)
  · --
    have hsem := zw_ifn p2 hsem
    refine r_aload_n X (pc := 25) (i := 0) (zw_dg dk_P_person 12 rfl) rfl rfl ?_
    refine r_getR X (pc := 26) (r := 3) ci_P (zo hS 0 rfl rfl) rfl (zr hS 0 1 rfl rfl) lk_P_29 (zw_dg dk_P_person 13 rfl) ?_
    refine r_getR X (pc := 29) (r := 5) ci_Held (zo hS 3 rfl rfl) rfl (zr hS 3 1 rfl rfl) lk_P_279 (zw_dg dk_P_person 14 rfl) ?_
    refine r_aload_n X (pc := 32) (i := 0) (zw_dg dk_P_person 15 rfl) rfl rfl ?_
    refine r_getR X (pc := 33) (r := 3) ci_P (zo hS 0 rfl rfl) rfl (zr hS 0 1 rfl rfl) lk_P_29 (zw_dg dk_P_person 16 rfl) ?_
    refine r_getI X (pc := 36) ci_Held (zo hS 3 rfl rfl) rfl lk_P_276 (zw_dg dk_P_person 17 rfl) ?_
    refine r_iload_n X (pc := 39) (i := 1) (zw_dg dk_P_person 18 rfl) rfl rfl ?_
    obtain ⟨c5, hc5, hsem⟩ := zw_bd hsem
    refine r_iast X (pc := 40) (zo hS 5 rfl rfl) hc5 (zw_dg dk_P_person 19 rfl) ?_
    refine r_aload_n X (pc := 41) (i := 0) (zw_dg dk_P_person 20 rfl) rfl rfl ?_
    refine r_getR X (pc := 42) (r := 3) ci_P (zo hS 0 rfl rfl) rfl (zr hS 0 1 rfl rfl) lk_P_29 (zw_dg dk_P_person 21 rfl) ?_
    refine r_dup X (pc := 45) (zw_dg dk_P_person 22 rfl) rfl ?_
    refine r_getI X (pc := 46) ci_Held (zo hS 3 rfl rfl) rfl lk_P_276 (zw_dg dk_P_person 23 rfl) ?_
    refine r_iconst X (pc := 49) (v := 1) (zw_dg dk_P_person 24 rfl) (by decide) ?_
    refine r_iadd X (pc := 50) (zw_dg dk_P_person 25 rfl)  ?_
    refine r_putI X (pc := 51) ci_Held (zo hS 3 rfl rfl) rfl lk_P_276 rfl ⟨rfl, rfl⟩ (zw_dg dk_P_person 26 rfl) ?_
    obtain ⟨c6, hc6, hsem⟩ := zw_bd hsem
    refine zw_topC hc6 ?_
    refine r_aload_n X (pc := 54) (i := 0) (zw_dg dk_P_person 27 rfl) rfl rfl ?_
    refine r_getR X (pc := 55) (r := 3) ci_P (zo hS 0 rfl rfl) rfl (zr hS 0 1 rfl rfl) lk_P_29 (zw_dg dk_P_person 28 rfl) ?_
    refine r_getI X (pc := 58) ci_Held (zo hS 3 rfl rfl) rfl lk_P_276 (zw_dg dk_P_person 29 rfl) ?_
    refine r_iconst X (pc := 61) (v := 1) (zw_dg dk_P_person 30 rfl) (by decide) ?_
    refine r_isub X (pc := 62) (zw_dg dk_P_person 31 rfl)  ?_
    obtain ⟨rfl, rfl⟩ := zw_in2 hsem
    exact r_iret X (pc := 63) rfl (zw_dg dk_P_person 32 rfl)
def y_P_go : MethodName := ⟨R_P, "go", "()I"⟩
abbrev b_P_go : ByteArray := prog_1_method_33_code
def dl_P_go : List (Nat × Instr × Nat) := [(0, .aload_n 0, 1), (1, .getfield 29, 3), (4, .getfield 276, 3), (7, .istore_n 1, 1), (8, .aload_n 0, 1), (9, .getfield 29, 3), (12, .invokevirtual 282, 3), (15, .iload_n 1, 1), (16, .ireturn, 1)]
theorem dk_P_go : zw_dk b_P_go dl_P_go = true := by decide +kernel
theorem ce_P_go : zw_cev y_P_go b_P_go 2 (some .int) 0 := ⟨⟨kt_in 1045 (by decide +kernel) rfl, kt_in 85 (by decide +kernel) rfl, by decide +kernel⟩, kt_in 1043 (by decide +kernel) rfl, kt_in 1044 (by decide +kernel) rfl⟩
def fn_P_go (c : zw_Ct) : Option (Int32 × zw_Ct) :=
  (some ((c.1 3 2) : Int32)).bind fun were1 =>
  (fn_Held_dropPeople 3 c).bind fun c3 =>
  some (were1, c3)
set_option maxRecDepth 100000 in
theorem km_P_go {l : Launch} {g : zw_G} {rr : zw_RR} {sh : zw_Sh} {c : zw_Ct} {r : Int32} {c2 : zw_Ct} (hS : zw_Ok 0 101 sh rr) (hsem : fn_P_go c = some (r, c2)) : zw_Met l g y_P_go b_P_go 2 (some .int) 2 rr sh [.ref 0] c (some (.int r)) c2 := by
  unfold fn_P_go at hsem
  refine zw_Met.of (by decide +kernel) (Nat.le_of_ble_eq_true rfl) (fun p e s m args below meth cd X => ?_)
  refine zw_eL (L2 := [some (.ref 0), none]) rfl ?_
  refine r_aload_n X (pc := 0) (i := 0) (zw_dg dk_P_go 0 rfl) rfl rfl ?_
  refine r_getR X (pc := 1) (r := 3) ci_P (zo hS 0 rfl rfl) rfl (zr hS 0 1 rfl rfl) lk_P_29 (zw_dg dk_P_go 1 rfl) ?_
  refine r_getI X (pc := 4) ci_Held (zo hS 3 rfl rfl) rfl lk_P_276 (zw_dg dk_P_go 2 rfl) ?_
  obtain ⟨were1, hwere1, hsem⟩ := zw_bd hsem
  refine zw_topI hwere1 ?_
  refine r_istore_n X (pc := 7) (i := 1) (zw_dg dk_P_go 3 rfl) rfl (by decide) rfl ?_
  refine r_aload_n X (pc := 8) (i := 0) (zw_dg dk_P_go 4 rfl) rfl rfl ?_
  refine r_getR X (pc := 9) (r := 3) ci_P (zo hS 0 rfl rfl) rfl (zr hS 0 1 rfl rfl) lk_P_29 (zw_dg dk_P_go 5 rfl) ?_
  obtain ⟨c3, hc3, hsem⟩ := zw_bd hsem
  refine r_callVv X (pc := 12) (As := []) (st := []) (km_Held_dropPeople (zho hS 3 rfl) hc3) ce_Held_dropPeople kw_1046 (zo hS 3 rfl rfl) rfl rfl ⟨Nat.le_of_ble_eq_true rfl, Nat.le_of_ble_eq_true rfl⟩ (Nat.le_of_ble_eq_true rfl) (zw_dg dk_P_go 6 rfl) ?_
  refine r_iload_n X (pc := 15) (i := 1) (zw_dg dk_P_go 7 rfl) rfl rfl ?_
  obtain ⟨rfl, rfl⟩ := zw_in2 hsem
  exact r_iret X (pc := 16) rfl (zw_dg dk_P_go 8 rfl)
def y_P_prize : MethodName := ⟨R_P, "prize", "(III)I"⟩
abbrev b_P_prize : ByteArray := prog_1_method_34_code
def dl_P_prize : List (Nat × Instr × Nat) := [(0, .aload_n 0, 1), (1, .getfield 53, 3), (4, .iload_n 1, 1), (5, .invokevirtual 163, 3), (8, .astore 4, 2), (10, .aload 4, 2), (12, .ifnull 25, 3), (15, .aload_n 0, 1), (16, .getfield 29, 3), (19, .iload_n 2, 1), (20, .invokevirtual 285, 3), (23, .ifCond .eq 14, 3), (26, .aload_n 0, 1), (27, .getfield 25, 3), (30, .iload_n 3, 1), (31, .invokevirtual 122, 3), (34, .ifCond .ne 5, 3), (37, .iconst (-1), 1), (38, .ireturn, 1), (39, .aload_n 0, 1), (40, .getfield 80, 3), (43, .aload 4, 2), (45, .iload_n 2, 1), (46, .iload_n 3, 1), (47, .invokevirtual 288, 3), (50, .ireturn, 1)]
theorem dk_P_prize : zw_dk b_P_prize dl_P_prize = true := by decide +kernel
theorem ce_P_prize : zw_cev y_P_prize b_P_prize 5 (some .int) 3 := ⟨⟨kt_in 1050 (by decide +kernel) rfl, kt_in 85 (by decide +kernel) rfl, by decide +kernel⟩, kt_in 1048 (by decide +kernel) rfl, kt_in 1049 (by decide +kernel) rfl⟩
def fn_P_prize (c : zw_Ct) (pay1 : Int32) (who2 : Int32) (saying3 : Int32) : Option (Int32 × zw_Ct) :=
  (fn_Pays_valuesOf c pay1).bind fun (r4, c5) =>
  if (((r4 = none) ∨ (¬ (¬ (fn_Held_hasPerson 3 c5 who2) = 0))) ∨ (¬ (¬ (fn_Sayings_has c5 saying3) = 0))) then
  (some ((-1), c5))
  else
  ((r4).bind fun a10 =>
  (fn_Contest_prizeFor c5 a10 who2 saying3).bind fun (r11, c12) =>
  some (r11, c12))
set_option maxRecDepth 100000 in
theorem km_P_prize {l : Launch} {g : zw_G} {rr : zw_RR} {sh : zw_Sh} {c : zw_Ct} {pay1 : Int32} {who2 : Int32} {saying3 : Int32} {r : Int32} {c2 : zw_Ct} (hS : zw_Ok 0 101 sh rr) (hsem : fn_P_prize c pay1 who2 saying3 = some (r, c2)) : zw_Met l g y_P_prize b_P_prize 5 (some .int) 5 rr sh [.ref 0, .int pay1, .int who2, .int saying3] c (some (.int r)) c2 := by
  unfold fn_P_prize at hsem
  refine zw_Met.of (by decide +kernel) (Nat.le_of_ble_eq_true rfl) (fun p e s m args below meth cd X => ?_)
  refine zw_eL (L2 := [some (.ref 0), some (.int pay1), some (.int who2), some (.int saying3), none]) rfl ?_
  refine r_aload_n X (pc := 0) (i := 0) (zw_dg dk_P_prize 0 rfl) rfl rfl ?_
  refine r_getR X (pc := 1) (r := 45) ci_P (zo hS 0 rfl rfl) rfl (zr hS 0 5 rfl rfl) lk_P_53 (zw_dg dk_P_prize 1 rfl) ?_
  refine r_iload_n X (pc := 4) (i := 1) (zw_dg dk_P_prize 2 rfl) rfl rfl ?_
  obtain ⟨⟨r4, c5⟩, hr4_c5, hsem⟩ := zw_bd hsem
  refine r_callVO X (pc := 5) (As := [_]) (st := []) (km_Pays_valuesOf hS hr4_c5) ce_Pays_valuesOf kw_705 (zo hS 45 rfl rfl) rfl rfl ⟨Nat.le_of_ble_eq_true rfl, Nat.le_of_ble_eq_true rfl⟩ (Nat.le_of_ble_eq_true rfl) (zw_dg dk_P_prize 3 rfl) ?_
  refine r_astoreO X (pc := 8) (i := 4) (zw_dg dk_P_prize 4 rfl) (by decide) rfl ?_
  refine zw_cnd (P := (((r4 = none) ∨ (¬ (¬ (fn_Held_hasPerson 3 c5 who2) = 0))) ∨ (¬ (¬ (fn_Sayings_has c5 saying3) = 0)))) (J1 := 37) (J2 := 39) (st2 := []) (fun jT jF => ?_) (fun p6 => ?_) (fun p6 => ?_)
  · --
    refine r_aloadO X (pc := 10) (i := 4) (zw_dg dk_P_prize 5 rfl) rfl ?_
    refine r_ifnull X (pc := 12) (tgt := 37) (zw_dg dk_P_prize 6 rfl) (by decide) (fun q7 => ?_) (fun q7 => ?_)
    · --
      exact jT (Or.inl (Or.inl q7))
    · --
      refine r_aload_n X (pc := 15) (i := 0) (zw_dg dk_P_prize 7 rfl) rfl rfl ?_
      refine r_getR X (pc := 16) (r := 3) ci_P (zo hS 0 rfl rfl) rfl (zr hS 0 1 rfl rfl) lk_P_29 (zw_dg dk_P_prize 8 rfl) ?_
      refine r_iload_n X (pc := 19) (i := 2) (zw_dg dk_P_prize 9 rfl) rfl rfl ?_
      refine r_callVi X (pc := 20) (As := [_]) (st := []) (km_Held_hasPerson (zho hS 3 rfl) rfl) ce_Held_hasPerson kw_1051 (zo hS 3 rfl rfl) rfl rfl ⟨Nat.le_of_ble_eq_true rfl, Nat.le_of_ble_eq_true rfl⟩ (Nat.le_of_ble_eq_true rfl) (zw_dg dk_P_prize 10 rfl) ?_
      refine r_if_eq X (pc := 23) (tgt := 37) (zw_dg dk_P_prize 11 rfl) (by decide) (fun q8 => ?_) (fun q8 => ?_)
      · --
        exact jT (Or.inl (Or.inr (fun z => z q8)))
      · --
        refine r_aload_n X (pc := 26) (i := 0) (zw_dg dk_P_prize 12 rfl) rfl rfl ?_
        refine r_getR X (pc := 27) (r := 1) ci_P (zo hS 0 rfl rfl) rfl (zr hS 0 0 rfl rfl) lk_P_25 (zw_dg dk_P_prize 13 rfl) ?_
        refine r_iload_n X (pc := 30) (i := 3) (zw_dg dk_P_prize 14 rfl) rfl rfl ?_
        refine r_callVi X (pc := 31) (As := [_]) (st := []) (km_Sayings_has hS rfl) ce_Sayings_has kw_758 (zo hS 1 rfl rfl) rfl rfl ⟨Nat.le_of_ble_eq_true rfl, Nat.le_of_ble_eq_true rfl⟩ (Nat.le_of_ble_eq_true rfl) (zw_dg dk_P_prize 15 rfl) ?_
        refine r_if_ne X (pc := 34) (tgt := 39) (zw_dg dk_P_prize 16 rfl) (by decide) (fun q9 => ?_) (fun q9 => ?_)
        · --
          exact jF (fun q => q.elim (fun q => q.elim q7 (fun q => q q8)) (fun q => q q9))
        · --
          exact jT (Or.inr (fun z => z q9))
  · --
    have hsem := zw_ifp p6 hsem
    refine r_iconst X (pc := 37) (v := (-1)) (zw_dg dk_P_prize 17 rfl) (by decide) ?_
    obtain ⟨rfl, rfl⟩ := zw_in2 hsem
    exact r_iret X (pc := 38) rfl (zw_dg dk_P_prize 18 rfl)
  · --
    have hsem := zw_ifn p6 hsem
    refine r_aload_n X (pc := 39) (i := 0) (zw_dg dk_P_prize 19 rfl) rfl rfl ?_
    refine r_getR X (pc := 40) (r := 65) ci_P (zo hS 0 rfl rfl) rfl (zr hS 0 9 rfl rfl) lk_P_80 (zw_dg dk_P_prize 20 rfl) ?_
    refine r_aloadO X (pc := 43) (i := 4) (zw_dg dk_P_prize 21 rfl) rfl ?_
    refine r_iload_n X (pc := 45) (i := 2) (zw_dg dk_P_prize 22 rfl) rfl rfl ?_
    refine r_iload_n X (pc := 46) (i := 3) (zw_dg dk_P_prize 23 rfl) rfl rfl ?_
    obtain ⟨a10, ha10, hs_a10⟩ := zw_bd hsem
    subst ha10
    have hsem := hs_a10
    obtain ⟨⟨r11, c12⟩, hr11_c12, hsem⟩ := zw_bd hsem
    refine r_callVi X (pc := 47) (As := [_, _, _]) (st := []) (km_Contest_prizeFor hS hr11_c12) ce_Contest_prizeFor kw_1055 (zo hS 65 rfl rfl) rfl rfl ⟨Nat.le_of_ble_eq_true rfl, Nat.le_of_ble_eq_true rfl⟩ (Nat.le_of_ble_eq_true rfl) (zw_dg dk_P_prize 24 rfl) ?_
    obtain ⟨rfl, rfl⟩ := zw_in2 hsem
    exact r_iret X (pc := 50) rfl (zw_dg dk_P_prize 25 rfl)
def y_P_boast : MethodName := ⟨R_P, "boast", "(II)I"⟩
abbrev b_P_boast : ByteArray := prog_1_method_35_code
def dl_P_boast : List (Nat × Instr × Nat) := [(0, .aload_n 0, 1), (1, .getfield 53, 3), (4, .iload_n 1, 1), (5, .invokevirtual 163, 3), (8, .astore_n 3, 1), (9, .aload_n 3, 1), (10, .ifnull 14, 3), (13, .aload_n 0, 1), (14, .getfield 29, 3), (17, .iload_n 2, 1), (18, .invokevirtual 285, 3), (21, .ifCond .ne 5, 3), (24, .iconst (-1), 1), (25, .ireturn, 1), (26, .aload_n 0, 1), (27, .getfield 80, 3), (30, .aload_n 3, 1), (31, .iload_n 2, 1), (32, .aload_n 0, 1), (33, .getfield 60, 3), (36, .invokevirtual 292, 3), (39, .ireturn, 1)]
theorem dk_P_boast : zw_dk b_P_boast dl_P_boast = true := by decide +kernel
theorem ce_P_boast : zw_cev y_P_boast b_P_boast 4 (some .int) 2 := ⟨⟨kt_in 1076 (by decide +kernel) rfl, kt_in 85 (by decide +kernel) rfl, by decide +kernel⟩, kt_in 1074 (by decide +kernel) rfl, kt_in 1075 (by decide +kernel) rfl⟩
def fn_P_boast (c : zw_Ct) (pay1 : Int32) (who2 : Int32) : Option (Int32 × zw_Ct) :=
  (fn_Pays_valuesOf c pay1).bind fun (r3, c4) =>
  if ((r3 = none) ∨ (¬ (¬ (fn_Held_hasPerson 3 c4 who2) = 0))) then
  (some ((-1), c4))
  else
  ((r3).bind fun a8 =>
  (fn_Contest_tellBoast c4 a8 who2).bind fun (r9, c10) =>
  some (r9, c10))
set_option maxRecDepth 100000 in
theorem km_P_boast {l : Launch} {g : zw_G} {rr : zw_RR} {sh : zw_Sh} {c : zw_Ct} {pay1 : Int32} {who2 : Int32} {r : Int32} {c2 : zw_Ct} (hS : zw_Ok 0 101 sh rr) (hsem : fn_P_boast c pay1 who2 = some (r, c2)) : zw_Met l g y_P_boast b_P_boast 4 (some .int) 5 rr sh [.ref 0, .int pay1, .int who2] c (some (.int r)) c2 := by
  unfold fn_P_boast at hsem
  refine zw_Met.of (by decide +kernel) (Nat.le_of_ble_eq_true rfl) (fun p e s m args below meth cd X => ?_)
  refine zw_eL (L2 := [some (.ref 0), some (.int pay1), some (.int who2), none]) rfl ?_
  refine r_aload_n X (pc := 0) (i := 0) (zw_dg dk_P_boast 0 rfl) rfl rfl ?_
  refine r_getR X (pc := 1) (r := 45) ci_P (zo hS 0 rfl rfl) rfl (zr hS 0 5 rfl rfl) lk_P_53 (zw_dg dk_P_boast 1 rfl) ?_
  refine r_iload_n X (pc := 4) (i := 1) (zw_dg dk_P_boast 2 rfl) rfl rfl ?_
  obtain ⟨⟨r3, c4⟩, hr3_c4, hsem⟩ := zw_bd hsem
  refine r_callVO X (pc := 5) (As := [_]) (st := []) (km_Pays_valuesOf hS hr3_c4) ce_Pays_valuesOf kw_705 (zo hS 45 rfl rfl) rfl rfl ⟨Nat.le_of_ble_eq_true rfl, Nat.le_of_ble_eq_true rfl⟩ (Nat.le_of_ble_eq_true rfl) (zw_dg dk_P_boast 3 rfl) ?_
  refine r_astore_nO X (pc := 8) (i := 3) (zw_dg dk_P_boast 4 rfl) rfl (by decide) rfl ?_
  refine zw_cnd (P := ((r3 = none) ∨ (¬ (¬ (fn_Held_hasPerson 3 c4 who2) = 0)))) (J1 := 24) (J2 := 26) (st2 := []) (fun jT jF => ?_) (fun p5 => ?_) (fun p5 => ?_)
  · --
    refine r_aload_nO X (pc := 9) (i := 3) (zw_dg dk_P_boast 5 rfl) rfl rfl ?_
    refine r_ifnull X (pc := 10) (tgt := 24) (zw_dg dk_P_boast 6 rfl) (by decide) (fun q6 => ?_) (fun q6 => ?_)
    · --
      exact jT (Or.inl q6)
    · --
      refine r_aload_n X (pc := 13) (i := 0) (zw_dg dk_P_boast 7 rfl) rfl rfl ?_
      refine r_getR X (pc := 14) (r := 3) ci_P (zo hS 0 rfl rfl) rfl (zr hS 0 1 rfl rfl) lk_P_29 (zw_dg dk_P_boast 8 rfl) ?_
      refine r_iload_n X (pc := 17) (i := 2) (zw_dg dk_P_boast 9 rfl) rfl rfl ?_
      refine r_callVi X (pc := 18) (As := [_]) (st := []) (km_Held_hasPerson (zho hS 3 rfl) rfl) ce_Held_hasPerson kw_1051 (zo hS 3 rfl rfl) rfl rfl ⟨Nat.le_of_ble_eq_true rfl, Nat.le_of_ble_eq_true rfl⟩ (Nat.le_of_ble_eq_true rfl) (zw_dg dk_P_boast 10 rfl) ?_
      refine r_if_ne X (pc := 21) (tgt := 26) (zw_dg dk_P_boast 11 rfl) (by decide) (fun q7 => ?_) (fun q7 => ?_)
      · --
        exact jF (fun q => q.elim q6 (fun q => q q7))
      · --
        exact jT (Or.inr (fun z => z q7))
  · --
    have hsem := zw_ifp p5 hsem
    refine r_iconst X (pc := 24) (v := (-1)) (zw_dg dk_P_boast 12 rfl) (by decide) ?_
    obtain ⟨rfl, rfl⟩ := zw_in2 hsem
    exact r_iret X (pc := 25) rfl (zw_dg dk_P_boast 13 rfl)
  · --
    have hsem := zw_ifn p5 hsem
    refine r_aload_n X (pc := 26) (i := 0) (zw_dg dk_P_boast 14 rfl) rfl rfl ?_
    refine r_getR X (pc := 27) (r := 65) ci_P (zo hS 0 rfl rfl) rfl (zr hS 0 9 rfl rfl) lk_P_80 (zw_dg dk_P_boast 15 rfl) ?_
    refine r_aload_nO X (pc := 30) (i := 3) (zw_dg dk_P_boast 16 rfl) rfl rfl ?_
    refine r_iload_n X (pc := 31) (i := 2) (zw_dg dk_P_boast 17 rfl) rfl rfl ?_
    refine r_aload_n X (pc := 32) (i := 0) (zw_dg dk_P_boast 18 rfl) rfl rfl ?_
    refine r_getR X (pc := 33) (r := 61) ci_P (zo hS 0 rfl rfl) rfl (zr hS 0 6 rfl rfl) lk_P_60 (zw_dg dk_P_boast 19 rfl) ?_
    obtain ⟨a8, ha8, hs_a8⟩ := zw_bd hsem
    subst ha8
    have hsem := hs_a8
    obtain ⟨⟨r9, c10⟩, hr9_c10, hsem⟩ := zw_bd hsem
    refine r_callVi X (pc := 36) (As := [_, _, _]) (st := []) (km_Contest_tellBoast hS hr9_c10) ce_Contest_tellBoast kw_1077 (zo hS 65 rfl rfl) rfl rfl ⟨Nat.le_of_ble_eq_true rfl, Nat.le_of_ble_eq_true rfl⟩ (Nat.le_of_ble_eq_true rfl) (zw_dg dk_P_boast 20 rfl) ?_
    obtain ⟨rfl, rfl⟩ := zw_in2 hsem
    exact r_iret X (pc := 39) rfl (zw_dg dk_P_boast 21 rfl)
def y_P_rest : MethodName := ⟨R_P, "rest", "(I)I"⟩
abbrev b_P_rest : ByteArray := prog_1_method_36_code
def dl_P_rest : List (Nat × Instr × Nat) := [(0, .aload_n 0, 1), (1, .getfield 53, 3), (4, .iload_n 1, 1), (5, .invokevirtual 163, 3), (8, .astore_n 2, 1), (9, .aload_n 2, 1), (10, .ifnull 13, 3), (13, .aload_n 0, 1), (14, .getfield 29, 3), (17, .getfield 276, 3), (20, .ifCond .ne 5, 3), (23, .iconst (-1), 1), (24, .ireturn, 1), (25, .aload_n 0, 1), (26, .getfield 80, 3), (29, .aload_n 2, 1), (30, .aload_n 0, 1), (31, .getfield 60, 3), (34, .invokevirtual 295, 3), (37, .ireturn, 1)]
theorem dk_P_rest : zw_dk b_P_rest dl_P_rest = true := by decide +kernel
theorem ce_P_rest : zw_cev y_P_rest b_P_rest 3 (some .int) 1 := ⟨⟨kt_in 1097 (by decide +kernel) rfl, kt_in 85 (by decide +kernel) rfl, by decide +kernel⟩, kt_in 1095 (by decide +kernel) rfl, kt_in 1096 (by decide +kernel) rfl⟩
def fn_P_rest (c : zw_Ct) (pay1 : Int32) : Option (Int32 × zw_Ct) :=
  (fn_Pays_valuesOf c pay1).bind fun (r2, c3) =>
  if ((r2 = none) ∨ ((c3.1 3 2) = 0)) then
  (some ((-1), c3))
  else
  ((r2).bind fun a7 =>
  (fn_Contest_tellRest c3 a7).bind fun (r8, c9) =>
  some (r8, c9))
set_option maxRecDepth 100000 in
theorem km_P_rest {l : Launch} {g : zw_G} {rr : zw_RR} {sh : zw_Sh} {c : zw_Ct} {pay1 : Int32} {r : Int32} {c2 : zw_Ct} (hS : zw_Ok 0 101 sh rr) (hsem : fn_P_rest c pay1 = some (r, c2)) : zw_Met l g y_P_rest b_P_rest 3 (some .int) 6 rr sh [.ref 0, .int pay1] c (some (.int r)) c2 := by
  unfold fn_P_rest at hsem
  refine zw_Met.of (by decide +kernel) (Nat.le_of_ble_eq_true rfl) (fun p e s m args below meth cd X => ?_)
  refine zw_eL (L2 := [some (.ref 0), some (.int pay1), none]) rfl ?_
  refine r_aload_n X (pc := 0) (i := 0) (zw_dg dk_P_rest 0 rfl) rfl rfl ?_
  refine r_getR X (pc := 1) (r := 45) ci_P (zo hS 0 rfl rfl) rfl (zr hS 0 5 rfl rfl) lk_P_53 (zw_dg dk_P_rest 1 rfl) ?_
  refine r_iload_n X (pc := 4) (i := 1) (zw_dg dk_P_rest 2 rfl) rfl rfl ?_
  obtain ⟨⟨r2, c3⟩, hr2_c3, hsem⟩ := zw_bd hsem
  refine r_callVO X (pc := 5) (As := [_]) (st := []) (km_Pays_valuesOf hS hr2_c3) ce_Pays_valuesOf kw_705 (zo hS 45 rfl rfl) rfl rfl ⟨Nat.le_of_ble_eq_true rfl, Nat.le_of_ble_eq_true rfl⟩ (Nat.le_of_ble_eq_true rfl) (zw_dg dk_P_rest 3 rfl) ?_
  refine r_astore_nO X (pc := 8) (i := 2) (zw_dg dk_P_rest 4 rfl) rfl (by decide) rfl ?_
  refine zw_cnd (P := ((r2 = none) ∨ ((c3.1 3 2) = 0))) (J1 := 23) (J2 := 25) (st2 := []) (fun jT jF => ?_) (fun p4 => ?_) (fun p4 => ?_)
  · --
    refine r_aload_nO X (pc := 9) (i := 2) (zw_dg dk_P_rest 5 rfl) rfl rfl ?_
    refine r_ifnull X (pc := 10) (tgt := 23) (zw_dg dk_P_rest 6 rfl) (by decide) (fun q5 => ?_) (fun q5 => ?_)
    · --
      exact jT (Or.inl q5)
    · --
      refine r_aload_n X (pc := 13) (i := 0) (zw_dg dk_P_rest 7 rfl) rfl rfl ?_
      refine r_getR X (pc := 14) (r := 3) ci_P (zo hS 0 rfl rfl) rfl (zr hS 0 1 rfl rfl) lk_P_29 (zw_dg dk_P_rest 8 rfl) ?_
      refine r_getI X (pc := 17) ci_Held (zo hS 3 rfl rfl) rfl lk_P_276 (zw_dg dk_P_rest 9 rfl) ?_
      refine r_if_ne X (pc := 20) (tgt := 25) (zw_dg dk_P_rest 10 rfl) (by decide) (fun q6 => ?_) (fun q6 => ?_)
      · --
        exact jF (fun q => q.elim q5 q6)
      · --
        exact jT (Or.inr q6)
  · --
    have hsem := zw_ifp p4 hsem
    refine r_iconst X (pc := 23) (v := (-1)) (zw_dg dk_P_rest 11 rfl) (by decide) ?_
    obtain ⟨rfl, rfl⟩ := zw_in2 hsem
    exact r_iret X (pc := 24) rfl (zw_dg dk_P_rest 12 rfl)
  · --
    have hsem := zw_ifn p4 hsem
    refine r_aload_n X (pc := 25) (i := 0) (zw_dg dk_P_rest 13 rfl) rfl rfl ?_
    refine r_getR X (pc := 26) (r := 65) ci_P (zo hS 0 rfl rfl) rfl (zr hS 0 9 rfl rfl) lk_P_80 (zw_dg dk_P_rest 14 rfl) ?_
    refine r_aload_nO X (pc := 29) (i := 2) (zw_dg dk_P_rest 15 rfl) rfl rfl ?_
    refine r_aload_n X (pc := 30) (i := 0) (zw_dg dk_P_rest 16 rfl) rfl rfl ?_
    refine r_getR X (pc := 31) (r := 61) ci_P (zo hS 0 rfl rfl) rfl (zr hS 0 6 rfl rfl) lk_P_60 (zw_dg dk_P_rest 17 rfl) ?_
    obtain ⟨a7, ha7, hs_a7⟩ := zw_bd hsem
    subst ha7
    have hsem := hs_a7
    obtain ⟨⟨r8, c9⟩, hr8_c9, hsem⟩ := zw_bd hsem
    refine r_callVi X (pc := 34) (As := [_, _]) (st := []) (km_Contest_tellRest hS hr8_c9) ce_Contest_tellRest kw_1098 (zo hS 65 rfl rfl) rfl rfl ⟨Nat.le_of_ble_eq_true rfl, Nat.le_of_ble_eq_true rfl⟩ (Nat.le_of_ble_eq_true rfl) (zw_dg dk_P_rest 18 rfl) ?_
    obtain ⟨rfl, rfl⟩ := zw_in2 hsem
    exact r_iret X (pc := 37) rfl (zw_dg dk_P_rest 19 rfl)
def y_P_agree : MethodName := ⟨R_P, "agree", "(III)I"⟩
abbrev b_P_agree : ByteArray := prog_1_method_37_code
def dl_P_agree : List (Nat × Instr × Nat) := [(0, .aload_n 0, 1), (1, .getfield 53, 3), (4, .iload_n 1, 1), (5, .invokevirtual 163, 3), (8, .astore 4, 2), (10, .aload 4, 2), (12, .ifnull 25, 3), (15, .aload_n 0, 1), (16, .getfield 25, 3), (19, .iload_n 2, 1), (20, .invokevirtual 122, 3), (23, .ifCond .eq 14, 3), (26, .aload_n 0, 1), (27, .getfield 25, 3), (30, .iload_n 3, 1), (31, .invokevirtual 122, 3), (34, .ifCond .ne 5, 3), (37, .iconst (-1), 1), (38, .ireturn, 1), (39, .aload_n 0, 1), (40, .getfield 80, 3), (43, .aload 4, 2), (45, .iload_n 2, 1), (46, .iload_n 3, 1), (47, .aload_n 0, 1), (48, .getfield 60, 3), (51, .invokevirtual 298, 3), (54, .ireturn, 1)]
theorem dk_P_agree : zw_dk b_P_agree dl_P_agree = true := by decide +kernel
theorem ce_P_agree : zw_cev y_P_agree b_P_agree 5 (some .int) 3 := ⟨⟨kt_in 1109 (by decide +kernel) rfl, kt_in 85 (by decide +kernel) rfl, by decide +kernel⟩, kt_in 1107 (by decide +kernel) rfl, kt_in 1108 (by decide +kernel) rfl⟩
def fn_P_agree (c : zw_Ct) (pay1 : Int32) (one2 : Int32) (other3 : Int32) : Option (Int32 × zw_Ct) :=
  (fn_Pays_valuesOf c pay1).bind fun (r4, c5) =>
  if (((r4 = none) ∨ (¬ (¬ (fn_Sayings_has c5 one2) = 0))) ∨ (¬ (¬ (fn_Sayings_has c5 other3) = 0))) then
  (some ((-1), c5))
  else
  ((r4).bind fun a10 =>
  (fn_Contest_tellAgreed c5 a10 one2 other3).bind fun (r11, c12) =>
  some (r11, c12))
set_option maxRecDepth 100000 in
theorem km_P_agree {l : Launch} {g : zw_G} {rr : zw_RR} {sh : zw_Sh} {c : zw_Ct} {pay1 : Int32} {one2 : Int32} {other3 : Int32} {r : Int32} {c2 : zw_Ct} (hS : zw_Ok 0 101 sh rr) (hsem : fn_P_agree c pay1 one2 other3 = some (r, c2)) : zw_Met l g y_P_agree b_P_agree 5 (some .int) 5 rr sh [.ref 0, .int pay1, .int one2, .int other3] c (some (.int r)) c2 := by
  unfold fn_P_agree at hsem
  refine zw_Met.of (by decide +kernel) (Nat.le_of_ble_eq_true rfl) (fun p e s m args below meth cd X => ?_)
  refine zw_eL (L2 := [some (.ref 0), some (.int pay1), some (.int one2), some (.int other3), none]) rfl ?_
  refine r_aload_n X (pc := 0) (i := 0) (zw_dg dk_P_agree 0 rfl) rfl rfl ?_
  refine r_getR X (pc := 1) (r := 45) ci_P (zo hS 0 rfl rfl) rfl (zr hS 0 5 rfl rfl) lk_P_53 (zw_dg dk_P_agree 1 rfl) ?_
  refine r_iload_n X (pc := 4) (i := 1) (zw_dg dk_P_agree 2 rfl) rfl rfl ?_
  obtain ⟨⟨r4, c5⟩, hr4_c5, hsem⟩ := zw_bd hsem
  refine r_callVO X (pc := 5) (As := [_]) (st := []) (km_Pays_valuesOf hS hr4_c5) ce_Pays_valuesOf kw_705 (zo hS 45 rfl rfl) rfl rfl ⟨Nat.le_of_ble_eq_true rfl, Nat.le_of_ble_eq_true rfl⟩ (Nat.le_of_ble_eq_true rfl) (zw_dg dk_P_agree 3 rfl) ?_
  refine r_astoreO X (pc := 8) (i := 4) (zw_dg dk_P_agree 4 rfl) (by decide) rfl ?_
  refine zw_cnd (P := (((r4 = none) ∨ (¬ (¬ (fn_Sayings_has c5 one2) = 0))) ∨ (¬ (¬ (fn_Sayings_has c5 other3) = 0)))) (J1 := 37) (J2 := 39) (st2 := []) (fun jT jF => ?_) (fun p6 => ?_) (fun p6 => ?_)
  · --
    refine r_aloadO X (pc := 10) (i := 4) (zw_dg dk_P_agree 5 rfl) rfl ?_
    refine r_ifnull X (pc := 12) (tgt := 37) (zw_dg dk_P_agree 6 rfl) (by decide) (fun q7 => ?_) (fun q7 => ?_)
    · --
      exact jT (Or.inl (Or.inl q7))
    · --
      refine r_aload_n X (pc := 15) (i := 0) (zw_dg dk_P_agree 7 rfl) rfl rfl ?_
      refine r_getR X (pc := 16) (r := 1) ci_P (zo hS 0 rfl rfl) rfl (zr hS 0 0 rfl rfl) lk_P_25 (zw_dg dk_P_agree 8 rfl) ?_
      refine r_iload_n X (pc := 19) (i := 2) (zw_dg dk_P_agree 9 rfl) rfl rfl ?_
      refine r_callVi X (pc := 20) (As := [_]) (st := []) (km_Sayings_has hS rfl) ce_Sayings_has kw_758 (zo hS 1 rfl rfl) rfl rfl ⟨Nat.le_of_ble_eq_true rfl, Nat.le_of_ble_eq_true rfl⟩ (Nat.le_of_ble_eq_true rfl) (zw_dg dk_P_agree 10 rfl) ?_
      refine r_if_eq X (pc := 23) (tgt := 37) (zw_dg dk_P_agree 11 rfl) (by decide) (fun q8 => ?_) (fun q8 => ?_)
      · --
        exact jT (Or.inl (Or.inr (fun z => z q8)))
      · --
        refine r_aload_n X (pc := 26) (i := 0) (zw_dg dk_P_agree 12 rfl) rfl rfl ?_
        refine r_getR X (pc := 27) (r := 1) ci_P (zo hS 0 rfl rfl) rfl (zr hS 0 0 rfl rfl) lk_P_25 (zw_dg dk_P_agree 13 rfl) ?_
        refine r_iload_n X (pc := 30) (i := 3) (zw_dg dk_P_agree 14 rfl) rfl rfl ?_
        refine r_callVi X (pc := 31) (As := [_]) (st := []) (km_Sayings_has hS rfl) ce_Sayings_has kw_758 (zo hS 1 rfl rfl) rfl rfl ⟨Nat.le_of_ble_eq_true rfl, Nat.le_of_ble_eq_true rfl⟩ (Nat.le_of_ble_eq_true rfl) (zw_dg dk_P_agree 15 rfl) ?_
        refine r_if_ne X (pc := 34) (tgt := 39) (zw_dg dk_P_agree 16 rfl) (by decide) (fun q9 => ?_) (fun q9 => ?_)
        · --
          exact jF (fun q => q.elim (fun q => q.elim q7 (fun q => q q8)) (fun q => q q9))
        · --
          exact jT (Or.inr (fun z => z q9))
  · --
    have hsem := zw_ifp p6 hsem
    refine r_iconst X (pc := 37) (v := (-1)) (zw_dg dk_P_agree 17 rfl) (by decide) ?_
    obtain ⟨rfl, rfl⟩ := zw_in2 hsem
    exact r_iret X (pc := 38) rfl (zw_dg dk_P_agree 18 rfl)
  · --
    have hsem := zw_ifn p6 hsem
    refine r_aload_n X (pc := 39) (i := 0) (zw_dg dk_P_agree 19 rfl) rfl rfl ?_
    refine r_getR X (pc := 40) (r := 65) ci_P (zo hS 0 rfl rfl) rfl (zr hS 0 9 rfl rfl) lk_P_80 (zw_dg dk_P_agree 20 rfl) ?_
    refine r_aloadO X (pc := 43) (i := 4) (zw_dg dk_P_agree 21 rfl) rfl ?_
    refine r_iload_n X (pc := 45) (i := 2) (zw_dg dk_P_agree 22 rfl) rfl rfl ?_
    refine r_iload_n X (pc := 46) (i := 3) (zw_dg dk_P_agree 23 rfl) rfl rfl ?_
    refine r_aload_n X (pc := 47) (i := 0) (zw_dg dk_P_agree 24 rfl) rfl rfl ?_
    refine r_getR X (pc := 48) (r := 61) ci_P (zo hS 0 rfl rfl) rfl (zr hS 0 6 rfl rfl) lk_P_60 (zw_dg dk_P_agree 25 rfl) ?_
    obtain ⟨a10, ha10, hs_a10⟩ := zw_bd hsem
    subst ha10
    have hsem := hs_a10
    obtain ⟨⟨r11, c12⟩, hr11_c12, hsem⟩ := zw_bd hsem
    refine r_callVi X (pc := 51) (As := [_, _, _, _]) (st := []) (km_Contest_tellAgreed hS hr11_c12) ce_Contest_tellAgreed kw_1110 (zo hS 65 rfl rfl) rfl rfl ⟨Nat.le_of_ble_eq_true rfl, Nat.le_of_ble_eq_true rfl⟩ (Nat.le_of_ble_eq_true rfl) (zw_dg dk_P_agree 26 rfl) ?_
    obtain ⟨rfl, rfl⟩ := zw_in2 hsem
    exact r_iret X (pc := 54) rfl (zw_dg dk_P_agree 27 rfl)
def y_P_gain : MethodName := ⟨R_P, "gain", "(I)I"⟩
abbrev b_P_gain : ByteArray := prog_1_method_38_code
def dl_P_gain : List (Nat × Instr × Nat) := [(0, .aload_n 0, 1), (1, .getfield 53, 3), (4, .iload_n 1, 1), (5, .invokevirtual 163, 3), (8, .astore_n 2, 1), (9, .aload_n 2, 1), (10, .ifnonnull 5, 3), (13, .iconst (-1), 1), (14, .ireturn, 1), (15, .aload_n 0, 1), (16, .getfield 25, 3), (19, .getfield 114, 3), (22, .bipush 91, 2), (24, .if_icmp .le 6, 3), (27, .bipush (-3), 2), (29, .ireturn, 1), (30, .aload_n 0, 1), (31, .getfield 80, 3), (34, .aload_n 2, 1), (35, .aload_n 0, 1), (36, .getfield 60, 3), (39, .invokevirtual 301, 3), (42, .ireturn, 1)]
theorem dk_P_gain : zw_dk b_P_gain dl_P_gain = true := by decide +kernel
theorem ce_P_gain : zw_cev y_P_gain b_P_gain 3 (some .int) 1 := ⟨⟨kt_in 1126 (by decide +kernel) rfl, kt_in 85 (by decide +kernel) rfl, by decide +kernel⟩, kt_in 1124 (by decide +kernel) rfl, kt_in 1125 (by decide +kernel) rfl⟩
def fn_P_gain (c : zw_Ct) (pay1 : Int32) : Option (Int32 × zw_Ct) :=
  (fn_Pays_valuesOf c pay1).bind fun (r2, c3) =>
  if (r2 = none) then
  (some ((-1), c3))
  else
  (if (91 < (c3.1 1 2)) then
  (some ((-3), c3))
  else
  ((r2).bind fun a8 =>
  (fn_Contest_tellGainingPairs c3 a8).bind fun (r9, c10) =>
  some (r9, c10)))
set_option maxRecDepth 100000 in
theorem km_P_gain {l : Launch} {g : zw_G} {rr : zw_RR} {sh : zw_Sh} {c : zw_Ct} {pay1 : Int32} {r : Int32} {c2 : zw_Ct} (hS : zw_Ok 0 101 sh rr) (hsem : fn_P_gain c pay1 = some (r, c2)) : zw_Met l g y_P_gain b_P_gain 3 (some .int) 5 rr sh [.ref 0, .int pay1] c (some (.int r)) c2 := by
  unfold fn_P_gain at hsem
  refine zw_Met.of (by decide +kernel) (Nat.le_of_ble_eq_true rfl) (fun p e s m args below meth cd X => ?_)
  refine zw_eL (L2 := [some (.ref 0), some (.int pay1), none]) rfl ?_
  refine r_aload_n X (pc := 0) (i := 0) (zw_dg dk_P_gain 0 rfl) rfl rfl ?_
  refine r_getR X (pc := 1) (r := 45) ci_P (zo hS 0 rfl rfl) rfl (zr hS 0 5 rfl rfl) lk_P_53 (zw_dg dk_P_gain 1 rfl) ?_
  refine r_iload_n X (pc := 4) (i := 1) (zw_dg dk_P_gain 2 rfl) rfl rfl ?_
  obtain ⟨⟨r2, c3⟩, hr2_c3, hsem⟩ := zw_bd hsem
  refine r_callVO X (pc := 5) (As := [_]) (st := []) (km_Pays_valuesOf hS hr2_c3) ce_Pays_valuesOf kw_705 (zo hS 45 rfl rfl) rfl rfl ⟨Nat.le_of_ble_eq_true rfl, Nat.le_of_ble_eq_true rfl⟩ (Nat.le_of_ble_eq_true rfl) (zw_dg dk_P_gain 3 rfl) ?_
  refine r_astore_nO X (pc := 8) (i := 2) (zw_dg dk_P_gain 4 rfl) rfl (by decide) rfl ?_
  refine r_aload_nO X (pc := 9) (i := 2) (zw_dg dk_P_gain 5 rfl) rfl rfl ?_
  refine r_ifnonnull X (pc := 10) (tgt := 15) (zw_dg dk_P_gain 6 rfl) (by decide) (fun q5 => ?_) (fun q5 => ?_)
  · --
    have p4 : ¬ (r2 = none) := q5
    have hsem := zw_ifn p4 hsem
    refine r_aload_n X (pc := 15) (i := 0) (zw_dg dk_P_gain 9 rfl) rfl rfl ?_
    refine r_getR X (pc := 16) (r := 1) ci_P (zo hS 0 rfl rfl) rfl (zr hS 0 0 rfl rfl) lk_P_25 (zw_dg dk_P_gain 10 rfl) ?_
    refine r_getI X (pc := 19) ci_Sayings (zo hS 1 rfl rfl) rfl lk_P_114 (zw_dg dk_P_gain 11 rfl) ?_
    refine r_bipush X (pc := 22) (v := 91) (zw_dg dk_P_gain 12 rfl) (by decide) ?_
    refine r_icmp_le X (pc := 24) (tgt := 30) (zw_dg dk_P_gain 13 rfl) (by decide) (fun q7 => ?_) (fun q7 => ?_)
    · --
      have p6 : ¬ (91 < (c3.1 1 2)) := (Int32.not_lt.mpr q7)
      have hsem := zw_ifn p6 hsem
      refine r_aload_n X (pc := 30) (i := 0) (zw_dg dk_P_gain 16 rfl) rfl rfl ?_
      refine r_getR X (pc := 31) (r := 65) ci_P (zo hS 0 rfl rfl) rfl (zr hS 0 9 rfl rfl) lk_P_80 (zw_dg dk_P_gain 17 rfl) ?_
      refine r_aload_nO X (pc := 34) (i := 2) (zw_dg dk_P_gain 18 rfl) rfl rfl ?_
      refine r_aload_n X (pc := 35) (i := 0) (zw_dg dk_P_gain 19 rfl) rfl rfl ?_
      refine r_getR X (pc := 36) (r := 61) ci_P (zo hS 0 rfl rfl) rfl (zr hS 0 6 rfl rfl) lk_P_60 (zw_dg dk_P_gain 20 rfl) ?_
      obtain ⟨a8, ha8, hs_a8⟩ := zw_bd hsem
      subst ha8
      have hsem := hs_a8
      obtain ⟨⟨r9, c10⟩, hr9_c10, hsem⟩ := zw_bd hsem
      refine r_callVi X (pc := 39) (As := [_, _]) (st := []) (km_Contest_tellGainingPairs hS hr9_c10) ce_Contest_tellGainingPairs kw_1127 (zo hS 65 rfl rfl) rfl rfl ⟨Nat.le_of_ble_eq_true rfl, Nat.le_of_ble_eq_true rfl⟩ (Nat.le_of_ble_eq_true rfl) (zw_dg dk_P_gain 21 rfl) ?_
      obtain ⟨rfl, rfl⟩ := zw_in2 hsem
      exact r_iret X (pc := 42) rfl (zw_dg dk_P_gain 22 rfl)
    · --
      have p6 : (91 < (c3.1 1 2)) := (Int32.not_le.mp q7)
      have hsem := zw_ifp p6 hsem
      refine r_bipush X (pc := 27) (v := (-3)) (zw_dg dk_P_gain 14 rfl) (by decide) ?_
      obtain ⟨rfl, rfl⟩ := zw_in2 hsem
      exact r_iret X (pc := 29) rfl (zw_dg dk_P_gain 15 rfl)
  · --
    have p4 : (r2 = none) := q5
    have hsem := zw_ifp p4 hsem
    refine r_iconst X (pc := 13) (v := (-1)) (zw_dg dk_P_gain 7 rfl) (by decide) ?_
    obtain ⟨rfl, rfl⟩ := zw_in2 hsem
    exact r_iret X (pc := 14) rfl (zw_dg dk_P_gain 8 rfl)
def y_P_peers : MethodName := ⟨R_P, "peers", "(III)I"⟩
abbrev b_P_peers : ByteArray := prog_1_method_39_code
def dl_P_peers : List (Nat × Instr × Nat) := [(0, .aload_n 0, 1), (1, .getfield 53, 3), (4, .iload_n 1, 1), (5, .invokevirtual 163, 3), (8, .astore 4, 2), (10, .aload 4, 2), (12, .ifnull 25, 3), (15, .aload_n 0, 1), (16, .getfield 25, 3), (19, .iload_n 2, 1), (20, .invokevirtual 122, 3), (23, .ifCond .eq 14, 3), (26, .aload_n 0, 1), (27, .getfield 25, 3), (30, .iload_n 3, 1), (31, .invokevirtual 122, 3), (34, .ifCond .ne 5, 3), (37, .iconst (-1), 1), (38, .ireturn, 1), (39, .aload_n 0, 1), (40, .getfield 25, 3), (43, .getfield 114, 3), (46, .bipush 91, 2), (48, .if_icmp .le 6, 3), (51, .bipush (-3), 2), (53, .ireturn, 1), (54, .aload_n 0, 1), (55, .getfield 80, 3), (58, .aload 4, 2), (60, .iload_n 2, 1), (61, .iload_n 3, 1), (62, .aload_n 0, 1), (63, .getfield 60, 3), (66, .invokevirtual 304, 3), (69, .ireturn, 1)]
theorem dk_P_peers : zw_dk b_P_peers dl_P_peers = true := by decide +kernel
theorem ce_P_peers : zw_cev y_P_peers b_P_peers 5 (some .int) 3 := ⟨⟨kt_in 1138 (by decide +kernel) rfl, kt_in 85 (by decide +kernel) rfl, by decide +kernel⟩, kt_in 1136 (by decide +kernel) rfl, kt_in 1137 (by decide +kernel) rfl⟩
def fn_P_peers (c : zw_Ct) (pay1 : Int32) (one2 : Int32) (other3 : Int32) : Option (Int32 × zw_Ct) :=
  (fn_Pays_valuesOf c pay1).bind fun (r4, c5) =>
  if (((r4 = none) ∨ (¬ (¬ (fn_Sayings_has c5 one2) = 0))) ∨ (¬ (¬ (fn_Sayings_has c5 other3) = 0))) then
  (some ((-1), c5))
  else
  (if (91 < (c5.1 1 2)) then
  (some ((-3), c5))
  else
  ((r4).bind fun a12 =>
  (fn_Contest_tellPeers c5 a12 one2 other3).bind fun (r13, c14) =>
  some (r13, c14)))
set_option maxRecDepth 100000 in
theorem km_P_peers {l : Launch} {g : zw_G} {rr : zw_RR} {sh : zw_Sh} {c : zw_Ct} {pay1 : Int32} {one2 : Int32} {other3 : Int32} {r : Int32} {c2 : zw_Ct} (hS : zw_Ok 0 101 sh rr) (hsem : fn_P_peers c pay1 one2 other3 = some (r, c2)) : zw_Met l g y_P_peers b_P_peers 5 (some .int) 5 rr sh [.ref 0, .int pay1, .int one2, .int other3] c (some (.int r)) c2 := by
  unfold fn_P_peers at hsem
  refine zw_Met.of (by decide +kernel) (Nat.le_of_ble_eq_true rfl) (fun p e s m args below meth cd X => ?_)
  refine zw_eL (L2 := [some (.ref 0), some (.int pay1), some (.int one2), some (.int other3), none]) rfl ?_
  refine r_aload_n X (pc := 0) (i := 0) (zw_dg dk_P_peers 0 rfl) rfl rfl ?_
  refine r_getR X (pc := 1) (r := 45) ci_P (zo hS 0 rfl rfl) rfl (zr hS 0 5 rfl rfl) lk_P_53 (zw_dg dk_P_peers 1 rfl) ?_
  refine r_iload_n X (pc := 4) (i := 1) (zw_dg dk_P_peers 2 rfl) rfl rfl ?_
  obtain ⟨⟨r4, c5⟩, hr4_c5, hsem⟩ := zw_bd hsem
  refine r_callVO X (pc := 5) (As := [_]) (st := []) (km_Pays_valuesOf hS hr4_c5) ce_Pays_valuesOf kw_705 (zo hS 45 rfl rfl) rfl rfl ⟨Nat.le_of_ble_eq_true rfl, Nat.le_of_ble_eq_true rfl⟩ (Nat.le_of_ble_eq_true rfl) (zw_dg dk_P_peers 3 rfl) ?_
  refine r_astoreO X (pc := 8) (i := 4) (zw_dg dk_P_peers 4 rfl) (by decide) rfl ?_
  refine zw_cnd (P := (((r4 = none) ∨ (¬ (¬ (fn_Sayings_has c5 one2) = 0))) ∨ (¬ (¬ (fn_Sayings_has c5 other3) = 0)))) (J1 := 37) (J2 := 39) (st2 := []) (fun jT jF => ?_) (fun p6 => ?_) (fun p6 => ?_)
  · --
    refine r_aloadO X (pc := 10) (i := 4) (zw_dg dk_P_peers 5 rfl) rfl ?_
    refine r_ifnull X (pc := 12) (tgt := 37) (zw_dg dk_P_peers 6 rfl) (by decide) (fun q7 => ?_) (fun q7 => ?_)
    · --
      exact jT (Or.inl (Or.inl q7))
    · --
      refine r_aload_n X (pc := 15) (i := 0) (zw_dg dk_P_peers 7 rfl) rfl rfl ?_
      refine r_getR X (pc := 16) (r := 1) ci_P (zo hS 0 rfl rfl) rfl (zr hS 0 0 rfl rfl) lk_P_25 (zw_dg dk_P_peers 8 rfl) ?_
      refine r_iload_n X (pc := 19) (i := 2) (zw_dg dk_P_peers 9 rfl) rfl rfl ?_
      refine r_callVi X (pc := 20) (As := [_]) (st := []) (km_Sayings_has hS rfl) ce_Sayings_has kw_758 (zo hS 1 rfl rfl) rfl rfl ⟨Nat.le_of_ble_eq_true rfl, Nat.le_of_ble_eq_true rfl⟩ (Nat.le_of_ble_eq_true rfl) (zw_dg dk_P_peers 10 rfl) ?_
      refine r_if_eq X (pc := 23) (tgt := 37) (zw_dg dk_P_peers 11 rfl) (by decide) (fun q8 => ?_) (fun q8 => ?_)
      · --
        exact jT (Or.inl (Or.inr (fun z => z q8)))
      · --
        refine r_aload_n X (pc := 26) (i := 0) (zw_dg dk_P_peers 12 rfl) rfl rfl ?_
        refine r_getR X (pc := 27) (r := 1) ci_P (zo hS 0 rfl rfl) rfl (zr hS 0 0 rfl rfl) lk_P_25 (zw_dg dk_P_peers 13 rfl) ?_
        refine r_iload_n X (pc := 30) (i := 3) (zw_dg dk_P_peers 14 rfl) rfl rfl ?_
        refine r_callVi X (pc := 31) (As := [_]) (st := []) (km_Sayings_has hS rfl) ce_Sayings_has kw_758 (zo hS 1 rfl rfl) rfl rfl ⟨Nat.le_of_ble_eq_true rfl, Nat.le_of_ble_eq_true rfl⟩ (Nat.le_of_ble_eq_true rfl) (zw_dg dk_P_peers 15 rfl) ?_
        refine r_if_ne X (pc := 34) (tgt := 39) (zw_dg dk_P_peers 16 rfl) (by decide) (fun q9 => ?_) (fun q9 => ?_)
        · --
          exact jF (fun q => q.elim (fun q => q.elim q7 (fun q => q q8)) (fun q => q q9))
        · --
          exact jT (Or.inr (fun z => z q9))
  · --
    have hsem := zw_ifp p6 hsem
    refine r_iconst X (pc := 37) (v := (-1)) (zw_dg dk_P_peers 17 rfl) (by decide) ?_
    obtain ⟨rfl, rfl⟩ := zw_in2 hsem
    exact r_iret X (pc := 38) rfl (zw_dg dk_P_peers 18 rfl)
  · --
    have hsem := zw_ifn p6 hsem
    refine r_aload_n X (pc := 39) (i := 0) (zw_dg dk_P_peers 19 rfl) rfl rfl ?_
    refine r_getR X (pc := 40) (r := 1) ci_P (zo hS 0 rfl rfl) rfl (zr hS 0 0 rfl rfl) lk_P_25 (zw_dg dk_P_peers 20 rfl) ?_
    refine r_getI X (pc := 43) ci_Sayings (zo hS 1 rfl rfl) rfl lk_P_114 (zw_dg dk_P_peers 21 rfl) ?_
    refine r_bipush X (pc := 46) (v := 91) (zw_dg dk_P_peers 22 rfl) (by decide) ?_
    refine r_icmp_le X (pc := 48) (tgt := 54) (zw_dg dk_P_peers 23 rfl) (by decide) (fun q11 => ?_) (fun q11 => ?_)
    · --
      have p10 : ¬ (91 < (c5.1 1 2)) := (Int32.not_lt.mpr q11)
      have hsem := zw_ifn p10 hsem
      refine r_aload_n X (pc := 54) (i := 0) (zw_dg dk_P_peers 26 rfl) rfl rfl ?_
      refine r_getR X (pc := 55) (r := 65) ci_P (zo hS 0 rfl rfl) rfl (zr hS 0 9 rfl rfl) lk_P_80 (zw_dg dk_P_peers 27 rfl) ?_
      refine r_aloadO X (pc := 58) (i := 4) (zw_dg dk_P_peers 28 rfl) rfl ?_
      refine r_iload_n X (pc := 60) (i := 2) (zw_dg dk_P_peers 29 rfl) rfl rfl ?_
      refine r_iload_n X (pc := 61) (i := 3) (zw_dg dk_P_peers 30 rfl) rfl rfl ?_
      refine r_aload_n X (pc := 62) (i := 0) (zw_dg dk_P_peers 31 rfl) rfl rfl ?_
      refine r_getR X (pc := 63) (r := 61) ci_P (zo hS 0 rfl rfl) rfl (zr hS 0 6 rfl rfl) lk_P_60 (zw_dg dk_P_peers 32 rfl) ?_
      obtain ⟨a12, ha12, hs_a12⟩ := zw_bd hsem
      subst ha12
      have hsem := hs_a12
      obtain ⟨⟨r13, c14⟩, hr13_c14, hsem⟩ := zw_bd hsem
      refine r_callVi X (pc := 66) (As := [_, _, _, _]) (st := []) (km_Contest_tellPeers hS hr13_c14) ce_Contest_tellPeers kw_1139 (zo hS 65 rfl rfl) rfl rfl ⟨Nat.le_of_ble_eq_true rfl, Nat.le_of_ble_eq_true rfl⟩ (Nat.le_of_ble_eq_true rfl) (zw_dg dk_P_peers 33 rfl) ?_
      obtain ⟨rfl, rfl⟩ := zw_in2 hsem
      exact r_iret X (pc := 69) rfl (zw_dg dk_P_peers 34 rfl)
    · --
      have p10 : (91 < (c5.1 1 2)) := (Int32.not_le.mp q11)
      have hsem := zw_ifp p10 hsem
      refine r_bipush X (pc := 51) (v := (-3)) (zw_dg dk_P_peers 24 rfl) (by decide) ?_
      obtain ⟨rfl, rfl⟩ := zw_in2 hsem
      exact r_iret X (pc := 53) rfl (zw_dg dk_P_peers 25 rfl)
def y_P_isDecision : MethodName := ⟨R_P, "isDecision", "(III)Z"⟩
abbrev b_P_isDecision : ByteArray := prog_1_method_59_code
def dl_P_isDecision : List (Nat × Instr × Nat) := [(0, .iload_n 1, 1), (1, .iconst 0, 1), (2, .bipush 12, 2), (4, .invokestatic 100, 3), (7, .ifCond .eq 29, 3), (10, .aload_n 0, 1), (11, .getfield 25, 3), (14, .iload_n 2, 1), (15, .invokevirtual 122, 3), (18, .ifCond .eq 18, 3), (21, .aload_n 0, 1), (22, .getfield 25, 3), (25, .iload_n 3, 1), (26, .invokevirtual 122, 3), (29, .ifCond .eq 7, 3), (32, .iconst 1, 1), (33, .goto 4, 3), (36, .iconst 0, 1), (37, .ireturn, 1)]
theorem dk_P_isDecision : zw_dk b_P_isDecision dl_P_isDecision = true := by decide +kernel
theorem ce_P_isDecision : zw_cev y_P_isDecision b_P_isDecision 4 (some .boolean) 3 := ⟨⟨kt_in 1160 (by decide +kernel) rfl, kt_in 85 (by decide +kernel) rfl, by decide +kernel⟩, kt_in 1159 (by decide +kernel) rfl, kt_in 29 (by decide +kernel) rfl⟩
def fn_P_isDecision (c : zw_Ct) (least1 : Int32) (then2 : Int32) (otherwise3 : Int32) : Int32 :=
  (if (((¬ (fn_P_within least1 0 12) = 0) ∧ (¬ (fn_Sayings_has c then2) = 0)) ∧ (¬ (fn_Sayings_has c otherwise3) = 0)) then (1 : Int32) else 0)
theorem kb_P_isDecision (c : zw_Ct) (least1 : Int32) (then2 : Int32) (otherwise3 : Int32) : fn_P_isDecision c least1 then2 otherwise3 = 0 ∨ fn_P_isDecision c least1 then2 otherwise3 = 1 := by
  unfold fn_P_isDecision
  first | exact zw_ite01
set_option maxRecDepth 100000 in
theorem km_P_isDecision {l : Launch} {g : zw_G} {rr : zw_RR} {sh : zw_Sh} {c : zw_Ct} {least1 : Int32} {then2 : Int32} {otherwise3 : Int32} {r : Int32} (hS : zw_Ok 0 101 sh rr) (hsem : fn_P_isDecision c least1 then2 otherwise3 = r) : zw_Met l g y_P_isDecision b_P_isDecision 4 (some .boolean) 2 rr sh [.ref 0, .int least1, .int then2, .int otherwise3] c (some (.int r)) c := by
  unfold fn_P_isDecision at hsem
  refine zw_Met.of (by decide +kernel) (Nat.le_of_ble_eq_true rfl) (fun p e s m args below meth cd X => ?_)
  refine zw_eL (L2 := [some (.ref 0), some (.int least1), some (.int then2), some (.int otherwise3)]) rfl ?_
  refine zw_ter (P := (((¬ (fn_P_within least1 0 12) = 0) ∧ (¬ (fn_Sayings_has c then2) = 0)) ∧ (¬ (fn_Sayings_has c otherwise3) = 0))) (f := Value.int) (x := 1) (y := 0) (J := 37) (st2 := []) (fun jT jF => ?_) ?_
  · --
    refine r_iload_n X (pc := 0) (i := 1) (zw_dg dk_P_isDecision 0 rfl) rfl rfl ?_
    refine r_iconst X (pc := 1) (v := 0) (zw_dg dk_P_isDecision 1 rfl) (by decide) ?_
    refine r_bipush X (pc := 2) (v := 12) (zw_dg dk_P_isDecision 2 rfl) (by decide) ?_
    refine r_callSi X (pc := 4) (As := [_, _, _]) (st := []) (km_P_within hS rfl) ce_P_within kw_492 rfl ⟨Nat.le_of_ble_eq_true rfl, Nat.le_of_ble_eq_true rfl⟩ (Nat.le_of_ble_eq_true rfl) (zw_dg dk_P_isDecision 3 rfl) ?_
    refine r_if_eq X (pc := 7) (tgt := 36) (zw_dg dk_P_isDecision 4 rfl) (by decide) (fun q4 => ?_) (fun q4 => ?_)
    · --
      refine r_iconst X (pc := 36) (v := 0) (zw_dg dk_P_isDecision 17 rfl) (by decide) ?_
      exact jF (fun q => (fun q => (fun z => z q4) q.1) q.1)
    · --
      refine r_aload_n X (pc := 10) (i := 0) (zw_dg dk_P_isDecision 5 rfl) rfl rfl ?_
      refine r_getR X (pc := 11) (r := 1) ci_P (zo hS 0 rfl rfl) rfl (zr hS 0 0 rfl rfl) lk_P_25 (zw_dg dk_P_isDecision 6 rfl) ?_
      refine r_iload_n X (pc := 14) (i := 2) (zw_dg dk_P_isDecision 7 rfl) rfl rfl ?_
      refine r_callVi X (pc := 15) (As := [_]) (st := []) (km_Sayings_has hS rfl) ce_Sayings_has kw_758 (zo hS 1 rfl rfl) rfl rfl ⟨Nat.le_of_ble_eq_true rfl, Nat.le_of_ble_eq_true rfl⟩ (Nat.le_of_ble_eq_true rfl) (zw_dg dk_P_isDecision 8 rfl) ?_
      refine r_if_eq X (pc := 18) (tgt := 36) (zw_dg dk_P_isDecision 9 rfl) (by decide) (fun q5 => ?_) (fun q5 => ?_)
      · --
        refine r_iconst X (pc := 36) (v := 0) (zw_dg dk_P_isDecision 17 rfl) (by decide) ?_
        exact jF (fun q => (fun q => (fun z => z q5) q.2) q.1)
      · --
        refine r_aload_n X (pc := 21) (i := 0) (zw_dg dk_P_isDecision 10 rfl) rfl rfl ?_
        refine r_getR X (pc := 22) (r := 1) ci_P (zo hS 0 rfl rfl) rfl (zr hS 0 0 rfl rfl) lk_P_25 (zw_dg dk_P_isDecision 11 rfl) ?_
        refine r_iload_n X (pc := 25) (i := 3) (zw_dg dk_P_isDecision 12 rfl) rfl rfl ?_
        refine r_callVi X (pc := 26) (As := [_]) (st := []) (km_Sayings_has hS rfl) ce_Sayings_has kw_758 (zo hS 1 rfl rfl) rfl rfl ⟨Nat.le_of_ble_eq_true rfl, Nat.le_of_ble_eq_true rfl⟩ (Nat.le_of_ble_eq_true rfl) (zw_dg dk_P_isDecision 13 rfl) ?_
        refine r_if_eq X (pc := 29) (tgt := 36) (zw_dg dk_P_isDecision 14 rfl) (by decide) (fun q6 => ?_) (fun q6 => ?_)
        · --
          refine r_iconst X (pc := 36) (v := 0) (zw_dg dk_P_isDecision 17 rfl) (by decide) ?_
          exact jF (fun q => (fun z => z q6) q.2)
        · --
          refine r_iconst X (pc := 32) (v := 1) (zw_dg dk_P_isDecision 15 rfl) (by decide) ?_
          refine r_goto X (pc := 33) (tgt := 37) (zw_dg dk_P_isDecision 16 rfl) (by decide) ?_
          exact jT ⟨⟨q4, q5⟩, q6⟩
  have hsem : ((if (((¬ (fn_P_within least1 0 12) = 0) ∧ (¬ (fn_Sayings_has c then2) = 0)) ∧ (¬ (fn_Sayings_has c otherwise3) = 0)) then (1 : Int32) else 0) : _) = r := hsem
  have hbz : ((if (((¬ (fn_P_within least1 0 12) = 0) ∧ (¬ (fn_Sayings_has c then2) = 0)) ∧ (¬ (fn_Sayings_has c otherwise3) = 0)) then (1 : Int32) else 0) : Int32) = 0 ∨ ((if (((¬ (fn_P_within least1 0 12) = 0) ∧ (¬ (fn_Sayings_has c then2) = 0)) ∧ (¬ (fn_Sayings_has c otherwise3) = 0)) then (1 : Int32) else 0) : Int32) = 1 := zw_ite01
  cases hsem
  exact r_zret X (pc := 37) rfl (zw_bzn hbz).1 (zw_dg dk_P_isDecision 18 rfl)
def y_P_decide : MethodName := ⟨R_P, "decide", "(IIII)I"⟩
abbrev b_P_decide : ByteArray := prog_1_method_40_code
def dl_P_decide : List (Nat × Instr × Nat) := [(0, .aload_n 0, 1), (1, .getfield 53, 3), (4, .iload_n 1, 1), (5, .invokevirtual 163, 3), (8, .astore 5, 2), (10, .aload 5, 2), (12, .ifnull 14, 3), (15, .aload_n 0, 1), (16, .iload_n 2, 1), (17, .iload_n 3, 1), (18, .iload 4, 2), (20, .invokevirtual 307, 3), (23, .ifCond .ne 5, 3), (26, .iconst (-1), 1), (27, .ireturn, 1), (28, .aload_n 0, 1), (29, .getfield 87, 3), (32, .aload 5, 2), (34, .iload_n 2, 1), (35, .iload_n 3, 1), (36, .iload 4, 2), (38, .aload_n 0, 1), (39, .getfield 60, 3), (42, .invokevirtual 310, 3), (45, .ireturn, 1)]
theorem dk_P_decide : zw_dk b_P_decide dl_P_decide = true := by decide +kernel
theorem ce_P_decide : zw_cev y_P_decide b_P_decide 6 (some .int) 4 := ⟨⟨kt_in 1156 (by decide +kernel) rfl, kt_in 85 (by decide +kernel) rfl, by decide +kernel⟩, kt_in 1154 (by decide +kernel) rfl, kt_in 1155 (by decide +kernel) rfl⟩
def fn_P_decide (c : zw_Ct) (pay1 : Int32) (least2 : Int32) (then3 : Int32) (otherwise4 : Int32) : Option (Int32 × zw_Ct) :=
  (fn_Pays_valuesOf c pay1).bind fun (r5, c6) =>
  if ((r5 = none) ∨ (¬ (¬ (fn_P_isDecision c6 least2 then3 otherwise4) = 0))) then
  (some ((-1), c6))
  else
  ((r5).bind fun a10 =>
  (fn_Chooser_tellDecided c6 a10 least2 then3 otherwise4).bind fun (r11, c12) =>
  some (r11, c12))
set_option maxRecDepth 100000 in
theorem km_P_decide {l : Launch} {g : zw_G} {rr : zw_RR} {sh : zw_Sh} {c : zw_Ct} {pay1 : Int32} {least2 : Int32} {then3 : Int32} {otherwise4 : Int32} {r : Int32} {c2 : zw_Ct} (hS : zw_Ok 0 101 sh rr) (hsem : fn_P_decide c pay1 least2 then3 otherwise4 = some (r, c2)) : zw_Met l g y_P_decide b_P_decide 6 (some .int) 5 rr sh [.ref 0, .int pay1, .int least2, .int then3, .int otherwise4] c (some (.int r)) c2 := by
  unfold fn_P_decide at hsem
  refine zw_Met.of (by decide +kernel) (Nat.le_of_ble_eq_true rfl) (fun p e s m args below meth cd X => ?_)
  refine zw_eL (L2 := [some (.ref 0), some (.int pay1), some (.int least2), some (.int then3), some (.int otherwise4), none]) rfl ?_
  refine r_aload_n X (pc := 0) (i := 0) (zw_dg dk_P_decide 0 rfl) rfl rfl ?_
  refine r_getR X (pc := 1) (r := 45) ci_P (zo hS 0 rfl rfl) rfl (zr hS 0 5 rfl rfl) lk_P_53 (zw_dg dk_P_decide 1 rfl) ?_
  refine r_iload_n X (pc := 4) (i := 1) (zw_dg dk_P_decide 2 rfl) rfl rfl ?_
  obtain ⟨⟨r5, c6⟩, hr5_c6, hsem⟩ := zw_bd hsem
  refine r_callVO X (pc := 5) (As := [_]) (st := []) (km_Pays_valuesOf hS hr5_c6) ce_Pays_valuesOf kw_705 (zo hS 45 rfl rfl) rfl rfl ⟨Nat.le_of_ble_eq_true rfl, Nat.le_of_ble_eq_true rfl⟩ (Nat.le_of_ble_eq_true rfl) (zw_dg dk_P_decide 3 rfl) ?_
  refine r_astoreO X (pc := 8) (i := 5) (zw_dg dk_P_decide 4 rfl) (by decide) rfl ?_
  refine zw_cnd (P := ((r5 = none) ∨ (¬ (¬ (fn_P_isDecision c6 least2 then3 otherwise4) = 0)))) (J1 := 26) (J2 := 28) (st2 := []) (fun jT jF => ?_) (fun p7 => ?_) (fun p7 => ?_)
  · --
    refine r_aloadO X (pc := 10) (i := 5) (zw_dg dk_P_decide 5 rfl) rfl ?_
    refine r_ifnull X (pc := 12) (tgt := 26) (zw_dg dk_P_decide 6 rfl) (by decide) (fun q8 => ?_) (fun q8 => ?_)
    · --
      exact jT (Or.inl q8)
    · --
      refine r_aload_n X (pc := 15) (i := 0) (zw_dg dk_P_decide 7 rfl) rfl rfl ?_
      refine r_iload_n X (pc := 16) (i := 2) (zw_dg dk_P_decide 8 rfl) rfl rfl ?_
      refine r_iload_n X (pc := 17) (i := 3) (zw_dg dk_P_decide 9 rfl) rfl rfl ?_
      refine r_iload X (pc := 18) (i := 4) (zw_dg dk_P_decide 10 rfl) rfl ?_
      refine r_callVi X (pc := 20) (As := [_, _, _]) (st := []) (km_P_isDecision hS rfl) ce_P_isDecision kw_1157 (zo hS 0 rfl rfl) rfl rfl ⟨Nat.le_of_ble_eq_true rfl, Nat.le_of_ble_eq_true rfl⟩ (Nat.le_of_ble_eq_true rfl) (zw_dg dk_P_decide 11 rfl) ?_
      refine r_if_ne X (pc := 23) (tgt := 28) (zw_dg dk_P_decide 12 rfl) (by decide) (fun q9 => ?_) (fun q9 => ?_)
      · --
        exact jF (fun q => q.elim q8 (fun q => q q9))
      · --
        exact jT (Or.inr (fun z => z q9))
  · --
    have hsem := zw_ifp p7 hsem
    refine r_iconst X (pc := 26) (v := (-1)) (zw_dg dk_P_decide 13 rfl) (by decide) ?_
    obtain ⟨rfl, rfl⟩ := zw_in2 hsem
    exact r_iret X (pc := 27) rfl (zw_dg dk_P_decide 14 rfl)
  · --
    have hsem := zw_ifn p7 hsem
    refine r_aload_n X (pc := 28) (i := 0) (zw_dg dk_P_decide 15 rfl) rfl rfl ?_
    refine r_getR X (pc := 29) (r := 68) ci_P (zo hS 0 rfl rfl) rfl (zr hS 0 10 rfl rfl) lk_P_87 (zw_dg dk_P_decide 16 rfl) ?_
    refine r_aloadO X (pc := 32) (i := 5) (zw_dg dk_P_decide 17 rfl) rfl ?_
    refine r_iload_n X (pc := 34) (i := 2) (zw_dg dk_P_decide 18 rfl) rfl rfl ?_
    refine r_iload_n X (pc := 35) (i := 3) (zw_dg dk_P_decide 19 rfl) rfl rfl ?_
    refine r_iload X (pc := 36) (i := 4) (zw_dg dk_P_decide 20 rfl) rfl ?_
    refine r_aload_n X (pc := 38) (i := 0) (zw_dg dk_P_decide 21 rfl) rfl rfl ?_
    refine r_getR X (pc := 39) (r := 61) ci_P (zo hS 0 rfl rfl) rfl (zr hS 0 6 rfl rfl) lk_P_60 (zw_dg dk_P_decide 22 rfl) ?_
    obtain ⟨a10, ha10, hs_a10⟩ := zw_bd hsem
    subst ha10
    have hsem := hs_a10
    obtain ⟨⟨r11, c12⟩, hr11_c12, hsem⟩ := zw_bd hsem
    refine r_callVi X (pc := 42) (As := [_, _, _, _, _]) (st := []) (km_Chooser_tellDecided hS hr11_c12) ce_Chooser_tellDecided kw_1161 (zo hS 68 rfl rfl) rfl rfl ⟨Nat.le_of_ble_eq_true rfl, Nat.le_of_ble_eq_true rfl⟩ (Nat.le_of_ble_eq_true rfl) (zw_dg dk_P_decide 23 rfl) ?_
    obtain ⟨rfl, rfl⟩ := zw_in2 hsem
    exact r_iret X (pc := 45) rfl (zw_dg dk_P_decide 24 rfl)
def y_P_coin : MethodName := ⟨R_P, "coin", "(IIII)I"⟩
abbrev b_P_coin : ByteArray := prog_1_method_41_code
def dl_P_coin : List (Nat × Instr × Nat) := [(0, .aload_n 0, 1), (1, .getfield 53, 3), (4, .iload_n 1, 1), (5, .invokevirtual 163, 3), (8, .astore 5, 2), (10, .aload 5, 2), (12, .ifnull 14, 3), (15, .aload_n 0, 1), (16, .iload_n 2, 1), (17, .iload_n 3, 1), (18, .iload 4, 2), (20, .invokevirtual 307, 3), (23, .ifCond .ne 5, 3), (26, .iconst (-1), 1), (27, .ireturn, 1), (28, .aload_n 0, 1), (29, .getfield 87, 3), (32, .aload 5, 2), (34, .iload_n 2, 1), (35, .iload_n 3, 1), (36, .iload 4, 2), (38, .aload_n 0, 1), (39, .getfield 60, 3), (42, .invokevirtual 314, 3), (45, .ireturn, 1)]
theorem dk_P_coin : zw_dk b_P_coin dl_P_coin = true := by decide +kernel
theorem ce_P_coin : zw_cev y_P_coin b_P_coin 6 (some .int) 4 := ⟨⟨kt_in 1178 (by decide +kernel) rfl, kt_in 85 (by decide +kernel) rfl, by decide +kernel⟩, kt_in 1176 (by decide +kernel) rfl, kt_in 1177 (by decide +kernel) rfl⟩
def fn_P_coin (c : zw_Ct) (pay1 : Int32) (least2 : Int32) (then3 : Int32) (otherwise4 : Int32) : Option (Int32 × zw_Ct) :=
  (fn_Pays_valuesOf c pay1).bind fun (r5, c6) =>
  if ((r5 = none) ∨ (¬ (¬ (fn_P_isDecision c6 least2 then3 otherwise4) = 0))) then
  (some ((-1), c6))
  else
  ((r5).bind fun a10 =>
  (fn_Chooser_tellCoin c6 a10 least2 then3 otherwise4).bind fun (r11, c12) =>
  some (r11, c12))
set_option maxRecDepth 100000 in
theorem km_P_coin {l : Launch} {g : zw_G} {rr : zw_RR} {sh : zw_Sh} {c : zw_Ct} {pay1 : Int32} {least2 : Int32} {then3 : Int32} {otherwise4 : Int32} {r : Int32} {c2 : zw_Ct} (hS : zw_Ok 0 101 sh rr) (hsem : fn_P_coin c pay1 least2 then3 otherwise4 = some (r, c2)) : zw_Met l g y_P_coin b_P_coin 6 (some .int) 7 rr sh [.ref 0, .int pay1, .int least2, .int then3, .int otherwise4] c (some (.int r)) c2 := by
  unfold fn_P_coin at hsem
  refine zw_Met.of (by decide +kernel) (Nat.le_of_ble_eq_true rfl) (fun p e s m args below meth cd X => ?_)
  refine zw_eL (L2 := [some (.ref 0), some (.int pay1), some (.int least2), some (.int then3), some (.int otherwise4), none]) rfl ?_
  refine r_aload_n X (pc := 0) (i := 0) (zw_dg dk_P_coin 0 rfl) rfl rfl ?_
  refine r_getR X (pc := 1) (r := 45) ci_P (zo hS 0 rfl rfl) rfl (zr hS 0 5 rfl rfl) lk_P_53 (zw_dg dk_P_coin 1 rfl) ?_
  refine r_iload_n X (pc := 4) (i := 1) (zw_dg dk_P_coin 2 rfl) rfl rfl ?_
  obtain ⟨⟨r5, c6⟩, hr5_c6, hsem⟩ := zw_bd hsem
  refine r_callVO X (pc := 5) (As := [_]) (st := []) (km_Pays_valuesOf hS hr5_c6) ce_Pays_valuesOf kw_705 (zo hS 45 rfl rfl) rfl rfl ⟨Nat.le_of_ble_eq_true rfl, Nat.le_of_ble_eq_true rfl⟩ (Nat.le_of_ble_eq_true rfl) (zw_dg dk_P_coin 3 rfl) ?_
  refine r_astoreO X (pc := 8) (i := 5) (zw_dg dk_P_coin 4 rfl) (by decide) rfl ?_
  refine zw_cnd (P := ((r5 = none) ∨ (¬ (¬ (fn_P_isDecision c6 least2 then3 otherwise4) = 0)))) (J1 := 26) (J2 := 28) (st2 := []) (fun jT jF => ?_) (fun p7 => ?_) (fun p7 => ?_)
  · --
    refine r_aloadO X (pc := 10) (i := 5) (zw_dg dk_P_coin 5 rfl) rfl ?_
    refine r_ifnull X (pc := 12) (tgt := 26) (zw_dg dk_P_coin 6 rfl) (by decide) (fun q8 => ?_) (fun q8 => ?_)
    · --
      exact jT (Or.inl q8)
    · --
      refine r_aload_n X (pc := 15) (i := 0) (zw_dg dk_P_coin 7 rfl) rfl rfl ?_
      refine r_iload_n X (pc := 16) (i := 2) (zw_dg dk_P_coin 8 rfl) rfl rfl ?_
      refine r_iload_n X (pc := 17) (i := 3) (zw_dg dk_P_coin 9 rfl) rfl rfl ?_
      refine r_iload X (pc := 18) (i := 4) (zw_dg dk_P_coin 10 rfl) rfl ?_
      refine r_callVi X (pc := 20) (As := [_, _, _]) (st := []) (km_P_isDecision hS rfl) ce_P_isDecision kw_1157 (zo hS 0 rfl rfl) rfl rfl ⟨Nat.le_of_ble_eq_true rfl, Nat.le_of_ble_eq_true rfl⟩ (Nat.le_of_ble_eq_true rfl) (zw_dg dk_P_coin 11 rfl) ?_
      refine r_if_ne X (pc := 23) (tgt := 28) (zw_dg dk_P_coin 12 rfl) (by decide) (fun q9 => ?_) (fun q9 => ?_)
      · --
        exact jF (fun q => q.elim q8 (fun q => q q9))
      · --
        exact jT (Or.inr (fun z => z q9))
  · --
    have hsem := zw_ifp p7 hsem
    refine r_iconst X (pc := 26) (v := (-1)) (zw_dg dk_P_coin 13 rfl) (by decide) ?_
    obtain ⟨rfl, rfl⟩ := zw_in2 hsem
    exact r_iret X (pc := 27) rfl (zw_dg dk_P_coin 14 rfl)
  · --
    have hsem := zw_ifn p7 hsem
    refine r_aload_n X (pc := 28) (i := 0) (zw_dg dk_P_coin 15 rfl) rfl rfl ?_
    refine r_getR X (pc := 29) (r := 68) ci_P (zo hS 0 rfl rfl) rfl (zr hS 0 10 rfl rfl) lk_P_87 (zw_dg dk_P_coin 16 rfl) ?_
    refine r_aloadO X (pc := 32) (i := 5) (zw_dg dk_P_coin 17 rfl) rfl ?_
    refine r_iload_n X (pc := 34) (i := 2) (zw_dg dk_P_coin 18 rfl) rfl rfl ?_
    refine r_iload_n X (pc := 35) (i := 3) (zw_dg dk_P_coin 19 rfl) rfl rfl ?_
    refine r_iload X (pc := 36) (i := 4) (zw_dg dk_P_coin 20 rfl) rfl ?_
    refine r_aload_n X (pc := 38) (i := 0) (zw_dg dk_P_coin 21 rfl) rfl rfl ?_
    refine r_getR X (pc := 39) (r := 61) ci_P (zo hS 0 rfl rfl) rfl (zr hS 0 6 rfl rfl) lk_P_60 (zw_dg dk_P_coin 22 rfl) ?_
    obtain ⟨a10, ha10, hs_a10⟩ := zw_bd hsem
    subst ha10
    have hsem := hs_a10
    obtain ⟨⟨r11, c12⟩, hr11_c12, hsem⟩ := zw_bd hsem
    refine r_callVi X (pc := 42) (As := [_, _, _, _, _]) (st := []) (km_Chooser_tellCoin hS hr11_c12) ce_Chooser_tellCoin kw_1179 (zo hS 68 rfl rfl) rfl rfl ⟨Nat.le_of_ble_eq_true rfl, Nat.le_of_ble_eq_true rfl⟩ (Nat.le_of_ble_eq_true rfl) (zw_dg dk_P_coin 23 rfl) ?_
    obtain ⟨rfl, rfl⟩ := zw_in2 hsem
    exact r_iret X (pc := 45) rfl (zw_dg dk_P_coin 24 rfl)
def y_P_says : MethodName := ⟨R_P, "says", "(II)I"⟩
abbrev b_P_says : ByteArray := prog_1_method_42_code
def dl_P_says : List (Nat × Instr × Nat) := [(0, .aload_n 0, 1), (1, .getfield 53, 3), (4, .iload_n 1, 1), (5, .invokevirtual 163, 3), (8, .astore_n 3, 1), (9, .aload_n 3, 1), (10, .ifnull 14, 3), (13, .aload_n 0, 1), (14, .getfield 25, 3), (17, .iload_n 2, 1), (18, .invokevirtual 122, 3), (21, .ifCond .ne 5, 3), (24, .iconst (-1), 1), (25, .ireturn, 1), (26, .aload_n 0, 1), (27, .getfield 60, 3), (30, .invokevirtual 173, 3), (33, .aload_n 0, 1), (34, .getfield 60, 3), (37, .aload_n 0, 1), (38, .getfield 25, 3), (41, .iload_n 2, 1), (42, .invokevirtual 317, 3), (45, .i2l, 1), (46, .invokevirtual 176, 3), (49, .aload_n 0, 1), (50, .getfield 60, 3), (53, .aload_n 0, 1), (54, .getfield 25, 3), (57, .iload_n 2, 1), (58, .invokevirtual 320, 3), (61, .i2l, 1), (62, .invokevirtual 176, 3), (65, .aload_n 0, 1), (66, .getfield 87, 3), (69, .aload_n 3, 1), (70, .iload_n 2, 1), (71, .invokevirtual 323, 3), (74, .ireturn, 1)]
theorem dk_P_says : zw_dk b_P_says dl_P_says = true := by decide +kernel
theorem ce_P_says : zw_cev y_P_says b_P_says 4 (some .int) 2 := ⟨⟨kt_in 1199 (by decide +kernel) rfl, kt_in 85 (by decide +kernel) rfl, by decide +kernel⟩, kt_in 1197 (by decide +kernel) rfl, kt_in 1198 (by decide +kernel) rfl⟩
def fn_P_says (c : zw_Ct) (pay1 : Int32) (thought2 : Int32) : Option (Int32 × zw_Ct) :=
  (fn_Pays_valuesOf c pay1).bind fun (r3, c4) =>
  if ((r3 = none) ∨ (¬ (¬ (fn_Sayings_has c4 thought2) = 0))) then
  (some ((-1), c4))
  else
  ((fn_Row_clear c4).bind fun c8 =>
  (fn_Sayings_leastMiddle c8 thought2).bind fun r9 =>
  (fn_Row_add c8 r9.toInt64).bind fun c10 =>
  (fn_Sayings_mode c10 thought2).bind fun r11 =>
  (fn_Row_add c10 r11.toInt64).bind fun c12 =>
  (r3).bind fun a13 =>
  (fn_Chooser_bestNumber c12 a13 thought2).bind fun r14 =>
  some (r14, c12))
set_option maxRecDepth 100000 in
theorem km_P_says {l : Launch} {g : zw_G} {rr : zw_RR} {sh : zw_Sh} {c : zw_Ct} {pay1 : Int32} {thought2 : Int32} {r : Int32} {c2 : zw_Ct} (hS : zw_Ok 0 101 sh rr) (hsem : fn_P_says c pay1 thought2 = some (r, c2)) : zw_Met l g y_P_says b_P_says 4 (some .int) 5 rr sh [.ref 0, .int pay1, .int thought2] c (some (.int r)) c2 := by
  unfold fn_P_says at hsem
  refine zw_Met.of (by decide +kernel) (Nat.le_of_ble_eq_true rfl) (fun p e s m args below meth cd X => ?_)
  refine zw_eL (L2 := [some (.ref 0), some (.int pay1), some (.int thought2), none]) rfl ?_
  refine r_aload_n X (pc := 0) (i := 0) (zw_dg dk_P_says 0 rfl) rfl rfl ?_
  refine r_getR X (pc := 1) (r := 45) ci_P (zo hS 0 rfl rfl) rfl (zr hS 0 5 rfl rfl) lk_P_53 (zw_dg dk_P_says 1 rfl) ?_
  refine r_iload_n X (pc := 4) (i := 1) (zw_dg dk_P_says 2 rfl) rfl rfl ?_
  obtain ⟨⟨r3, c4⟩, hr3_c4, hsem⟩ := zw_bd hsem
  refine r_callVO X (pc := 5) (As := [_]) (st := []) (km_Pays_valuesOf hS hr3_c4) ce_Pays_valuesOf kw_705 (zo hS 45 rfl rfl) rfl rfl ⟨Nat.le_of_ble_eq_true rfl, Nat.le_of_ble_eq_true rfl⟩ (Nat.le_of_ble_eq_true rfl) (zw_dg dk_P_says 3 rfl) ?_
  refine r_astore_nO X (pc := 8) (i := 3) (zw_dg dk_P_says 4 rfl) rfl (by decide) rfl ?_
  refine zw_cnd (P := ((r3 = none) ∨ (¬ (¬ (fn_Sayings_has c4 thought2) = 0)))) (J1 := 24) (J2 := 26) (st2 := []) (fun jT jF => ?_) (fun p5 => ?_) (fun p5 => ?_)
  · --
    refine r_aload_nO X (pc := 9) (i := 3) (zw_dg dk_P_says 5 rfl) rfl rfl ?_
    refine r_ifnull X (pc := 10) (tgt := 24) (zw_dg dk_P_says 6 rfl) (by decide) (fun q6 => ?_) (fun q6 => ?_)
    · --
      exact jT (Or.inl q6)
    · --
      refine r_aload_n X (pc := 13) (i := 0) (zw_dg dk_P_says 7 rfl) rfl rfl ?_
      refine r_getR X (pc := 14) (r := 1) ci_P (zo hS 0 rfl rfl) rfl (zr hS 0 0 rfl rfl) lk_P_25 (zw_dg dk_P_says 8 rfl) ?_
      refine r_iload_n X (pc := 17) (i := 2) (zw_dg dk_P_says 9 rfl) rfl rfl ?_
      refine r_callVi X (pc := 18) (As := [_]) (st := []) (km_Sayings_has hS rfl) ce_Sayings_has kw_758 (zo hS 1 rfl rfl) rfl rfl ⟨Nat.le_of_ble_eq_true rfl, Nat.le_of_ble_eq_true rfl⟩ (Nat.le_of_ble_eq_true rfl) (zw_dg dk_P_says 10 rfl) ?_
      refine r_if_ne X (pc := 21) (tgt := 26) (zw_dg dk_P_says 11 rfl) (by decide) (fun q7 => ?_) (fun q7 => ?_)
      · --
        exact jF (fun q => q.elim q6 (fun q => q q7))
      · --
        exact jT (Or.inr (fun z => z q7))
  · --
    have hsem := zw_ifp p5 hsem
    refine r_iconst X (pc := 24) (v := (-1)) (zw_dg dk_P_says 12 rfl) (by decide) ?_
    obtain ⟨rfl, rfl⟩ := zw_in2 hsem
    exact r_iret X (pc := 25) rfl (zw_dg dk_P_says 13 rfl)
  · --
    have hsem := zw_ifn p5 hsem
    refine r_aload_n X (pc := 26) (i := 0) (zw_dg dk_P_says 14 rfl) rfl rfl ?_
    refine r_getR X (pc := 27) (r := 61) ci_P (zo hS 0 rfl rfl) rfl (zr hS 0 6 rfl rfl) lk_P_60 (zw_dg dk_P_says 15 rfl) ?_
    obtain ⟨c8, hc8, hsem⟩ := zw_bd hsem
    refine r_callVv X (pc := 30) (As := []) (st := []) (km_Row_clear hS hc8) ce_Row_clear kw_741 (zo hS 61 rfl rfl) rfl rfl ⟨Nat.le_of_ble_eq_true rfl, Nat.le_of_ble_eq_true rfl⟩ (Nat.le_of_ble_eq_true rfl) (zw_dg dk_P_says 16 rfl) ?_
    refine r_aload_n X (pc := 33) (i := 0) (zw_dg dk_P_says 17 rfl) rfl rfl ?_
    refine r_getR X (pc := 34) (r := 61) ci_P (zo hS 0 rfl rfl) rfl (zr hS 0 6 rfl rfl) lk_P_60 (zw_dg dk_P_says 18 rfl) ?_
    refine r_aload_n X (pc := 37) (i := 0) (zw_dg dk_P_says 19 rfl) rfl rfl ?_
    refine r_getR X (pc := 38) (r := 1) ci_P (zo hS 0 rfl rfl) rfl (zr hS 0 0 rfl rfl) lk_P_25 (zw_dg dk_P_says 20 rfl) ?_
    refine r_iload_n X (pc := 41) (i := 2) (zw_dg dk_P_says 21 rfl) rfl rfl ?_
    obtain ⟨r9, hr9, hsem⟩ := zw_bd hsem
    refine r_callVi X (pc := 42) (As := [_]) (st := [.ref 61]) (km_Sayings_leastMiddle hS hr9) ce_Sayings_leastMiddle kw_1200 (zo hS 1 rfl rfl) rfl rfl ⟨Nat.le_of_ble_eq_true rfl, Nat.le_of_ble_eq_true rfl⟩ (Nat.le_of_ble_eq_true rfl) (zw_dg dk_P_says 22 rfl) ?_
    refine r_i2l X (pc := 45) (zw_dg dk_P_says 23 rfl)  ?_
    obtain ⟨c10, hc10, hsem⟩ := zw_bd hsem
    refine r_callVv X (pc := 46) (As := [_]) (st := []) (km_Row_add hS hc10) ce_Row_add kw_745 (zo hS 61 rfl rfl) rfl rfl ⟨Nat.le_of_ble_eq_true rfl, Nat.le_of_ble_eq_true rfl⟩ (Nat.le_of_ble_eq_true rfl) (zw_dg dk_P_says 24 rfl) ?_
    refine r_aload_n X (pc := 49) (i := 0) (zw_dg dk_P_says 25 rfl) rfl rfl ?_
    refine r_getR X (pc := 50) (r := 61) ci_P (zo hS 0 rfl rfl) rfl (zr hS 0 6 rfl rfl) lk_P_60 (zw_dg dk_P_says 26 rfl) ?_
    refine r_aload_n X (pc := 53) (i := 0) (zw_dg dk_P_says 27 rfl) rfl rfl ?_
    refine r_getR X (pc := 54) (r := 1) ci_P (zo hS 0 rfl rfl) rfl (zr hS 0 0 rfl rfl) lk_P_25 (zw_dg dk_P_says 28 rfl) ?_
    refine r_iload_n X (pc := 57) (i := 2) (zw_dg dk_P_says 29 rfl) rfl rfl ?_
    obtain ⟨r11, hr11, hsem⟩ := zw_bd hsem
    refine r_callVi X (pc := 58) (As := [_]) (st := [.ref 61]) (km_Sayings_mode hS hr11) ce_Sayings_mode kw_1204 (zo hS 1 rfl rfl) rfl rfl ⟨Nat.le_of_ble_eq_true rfl, Nat.le_of_ble_eq_true rfl⟩ (Nat.le_of_ble_eq_true rfl) (zw_dg dk_P_says 30 rfl) ?_
    refine r_i2l X (pc := 61) (zw_dg dk_P_says 31 rfl)  ?_
    obtain ⟨c12, hc12, hsem⟩ := zw_bd hsem
    refine r_callVv X (pc := 62) (As := [_]) (st := []) (km_Row_add hS hc12) ce_Row_add kw_745 (zo hS 61 rfl rfl) rfl rfl ⟨Nat.le_of_ble_eq_true rfl, Nat.le_of_ble_eq_true rfl⟩ (Nat.le_of_ble_eq_true rfl) (zw_dg dk_P_says 32 rfl) ?_
    refine r_aload_n X (pc := 65) (i := 0) (zw_dg dk_P_says 33 rfl) rfl rfl ?_
    refine r_getR X (pc := 66) (r := 68) ci_P (zo hS 0 rfl rfl) rfl (zr hS 0 10 rfl rfl) lk_P_87 (zw_dg dk_P_says 34 rfl) ?_
    refine r_aload_nO X (pc := 69) (i := 3) (zw_dg dk_P_says 35 rfl) rfl rfl ?_
    refine r_iload_n X (pc := 70) (i := 2) (zw_dg dk_P_says 36 rfl) rfl rfl ?_
    obtain ⟨a13, ha13, hs_a13⟩ := zw_bd hsem
    subst ha13
    have hsem := hs_a13
    obtain ⟨r14, hr14, hsem⟩ := zw_bd hsem
    refine r_callVi X (pc := 71) (As := [_, _]) (st := []) (km_Chooser_bestNumber hS hr14) ce_Chooser_bestNumber kw_1205 (zo hS 68 rfl rfl) rfl rfl ⟨Nat.le_of_ble_eq_true rfl, Nat.le_of_ble_eq_true rfl⟩ (Nat.le_of_ble_eq_true rfl) (zw_dg dk_P_says 37 rfl) ?_
    obtain ⟨rfl, rfl⟩ := zw_in2 hsem
    exact r_iret X (pc := 74) rfl (zw_dg dk_P_says 38 rfl)
def y_P_middle : MethodName := ⟨R_P, "middle", "(III)I"⟩
abbrev b_P_middle : ByteArray := prog_1_method_43_code
def dl_P_middle : List (Nat × Instr × Nat) := [(0, .aload_n 0, 1), (1, .getfield 25, 3), (4, .iload_n 1, 1), (5, .invokevirtual 122, 3), (8, .ifCond .eq 23, 3), (11, .iload_n 2, 1), (12, .iconst 0, 1), (13, .bipush 9, 2), (15, .invokestatic 100, 3), (18, .ifCond .eq 13, 3), (21, .iload_n 3, 1), (22, .iconst 0, 1), (23, .bipush 9, 2), (25, .invokestatic 100, 3), (28, .ifCond .ne 5, 3), (31, .iconst (-1), 1), (32, .ireturn, 1), (33, .aload_n 0, 1), (34, .getfield 87, 3), (37, .iload_n 1, 1), (38, .iload_n 2, 1), (39, .iload_n 3, 1), (40, .aload_n 0, 1), (41, .getfield 60, 3), (44, .invokevirtual 326, 3), (47, .ireturn, 1)]
theorem dk_P_middle : zw_dk b_P_middle dl_P_middle = true := by decide +kernel
theorem ce_P_middle : zw_cev y_P_middle b_P_middle 4 (some .int) 3 := ⟨⟨kt_in 1217 (by decide +kernel) rfl, kt_in 85 (by decide +kernel) rfl, by decide +kernel⟩, kt_in 1215 (by decide +kernel) rfl, kt_in 1216 (by decide +kernel) rfl⟩
def fn_P_middle (c : zw_Ct) (thought1 : Int32) (a2 : Int32) (b3 : Int32) : Option (Int32 × zw_Ct) :=
  if (((¬ (¬ (fn_Sayings_has c thought1) = 0)) ∨ (¬ (¬ (fn_P_within a2 0 9) = 0))) ∨ (¬ (¬ (fn_P_within b3 0 9) = 0))) then
  (some ((-1), c))
  else
  ((fn_Chooser_tellMiddle c thought1 a2 b3).bind fun (r8, c9) =>
  some (r8, c9))
set_option maxRecDepth 100000 in
theorem km_P_middle {l : Launch} {g : zw_G} {rr : zw_RR} {sh : zw_Sh} {c : zw_Ct} {thought1 : Int32} {a2 : Int32} {b3 : Int32} {r : Int32} {c2 : zw_Ct} (hS : zw_Ok 0 101 sh rr) (hsem : fn_P_middle c thought1 a2 b3 = some (r, c2)) : zw_Met l g y_P_middle b_P_middle 4 (some .int) 4 rr sh [.ref 0, .int thought1, .int a2, .int b3] c (some (.int r)) c2 := by
  unfold fn_P_middle at hsem
  refine zw_Met.of (by decide +kernel) (Nat.le_of_ble_eq_true rfl) (fun p e s m args below meth cd X => ?_)
  refine zw_eL (L2 := [some (.ref 0), some (.int thought1), some (.int a2), some (.int b3)]) rfl ?_
  refine zw_cnd (P := (((¬ (¬ (fn_Sayings_has c thought1) = 0)) ∨ (¬ (¬ (fn_P_within a2 0 9) = 0))) ∨ (¬ (¬ (fn_P_within b3 0 9) = 0)))) (J1 := 31) (J2 := 33) (st2 := []) (fun jT jF => ?_) (fun p4 => ?_) (fun p4 => ?_)
  · --
    refine r_aload_n X (pc := 0) (i := 0) (zw_dg dk_P_middle 0 rfl) rfl rfl ?_
    refine r_getR X (pc := 1) (r := 1) ci_P (zo hS 0 rfl rfl) rfl (zr hS 0 0 rfl rfl) lk_P_25 (zw_dg dk_P_middle 1 rfl) ?_
    refine r_iload_n X (pc := 4) (i := 1) (zw_dg dk_P_middle 2 rfl) rfl rfl ?_
    refine r_callVi X (pc := 5) (As := [_]) (st := []) (km_Sayings_has hS rfl) ce_Sayings_has kw_758 (zo hS 1 rfl rfl) rfl rfl ⟨Nat.le_of_ble_eq_true rfl, Nat.le_of_ble_eq_true rfl⟩ (Nat.le_of_ble_eq_true rfl) (zw_dg dk_P_middle 3 rfl) ?_
    refine r_if_eq X (pc := 8) (tgt := 31) (zw_dg dk_P_middle 4 rfl) (by decide) (fun q5 => ?_) (fun q5 => ?_)
    · --
      exact jT (Or.inl (Or.inl (fun z => z q5)))
    · --
      refine r_iload_n X (pc := 11) (i := 2) (zw_dg dk_P_middle 5 rfl) rfl rfl ?_
      refine r_iconst X (pc := 12) (v := 0) (zw_dg dk_P_middle 6 rfl) (by decide) ?_
      refine r_bipush X (pc := 13) (v := 9) (zw_dg dk_P_middle 7 rfl) (by decide) ?_
      refine r_callSi X (pc := 15) (As := [_, _, _]) (st := []) (km_P_within hS rfl) ce_P_within kw_492 rfl ⟨Nat.le_of_ble_eq_true rfl, Nat.le_of_ble_eq_true rfl⟩ (Nat.le_of_ble_eq_true rfl) (zw_dg dk_P_middle 8 rfl) ?_
      refine r_if_eq X (pc := 18) (tgt := 31) (zw_dg dk_P_middle 9 rfl) (by decide) (fun q6 => ?_) (fun q6 => ?_)
      · --
        exact jT (Or.inl (Or.inr (fun z => z q6)))
      · --
        refine r_iload_n X (pc := 21) (i := 3) (zw_dg dk_P_middle 10 rfl) rfl rfl ?_
        refine r_iconst X (pc := 22) (v := 0) (zw_dg dk_P_middle 11 rfl) (by decide) ?_
        refine r_bipush X (pc := 23) (v := 9) (zw_dg dk_P_middle 12 rfl) (by decide) ?_
        refine r_callSi X (pc := 25) (As := [_, _, _]) (st := []) (km_P_within hS rfl) ce_P_within kw_492 rfl ⟨Nat.le_of_ble_eq_true rfl, Nat.le_of_ble_eq_true rfl⟩ (Nat.le_of_ble_eq_true rfl) (zw_dg dk_P_middle 13 rfl) ?_
        refine r_if_ne X (pc := 28) (tgt := 33) (zw_dg dk_P_middle 14 rfl) (by decide) (fun q7 => ?_) (fun q7 => ?_)
        · --
          exact jF (fun q => q.elim (fun q => q.elim (fun q => q q5) (fun q => q q6)) (fun q => q q7))
        · --
          exact jT (Or.inr (fun z => z q7))
  · --
    have hsem := zw_ifp p4 hsem
    refine r_iconst X (pc := 31) (v := (-1)) (zw_dg dk_P_middle 15 rfl) (by decide) ?_
    obtain ⟨rfl, rfl⟩ := zw_in2 hsem
    exact r_iret X (pc := 32) rfl (zw_dg dk_P_middle 16 rfl)
  · --
    have hsem := zw_ifn p4 hsem
    refine r_aload_n X (pc := 33) (i := 0) (zw_dg dk_P_middle 17 rfl) rfl rfl ?_
    refine r_getR X (pc := 34) (r := 68) ci_P (zo hS 0 rfl rfl) rfl (zr hS 0 10 rfl rfl) lk_P_87 (zw_dg dk_P_middle 18 rfl) ?_
    refine r_iload_n X (pc := 37) (i := 1) (zw_dg dk_P_middle 19 rfl) rfl rfl ?_
    refine r_iload_n X (pc := 38) (i := 2) (zw_dg dk_P_middle 20 rfl) rfl rfl ?_
    refine r_iload_n X (pc := 39) (i := 3) (zw_dg dk_P_middle 21 rfl) rfl rfl ?_
    refine r_aload_n X (pc := 40) (i := 0) (zw_dg dk_P_middle 22 rfl) rfl rfl ?_
    refine r_getR X (pc := 41) (r := 61) ci_P (zo hS 0 rfl rfl) rfl (zr hS 0 6 rfl rfl) lk_P_60 (zw_dg dk_P_middle 23 rfl) ?_
    obtain ⟨⟨r8, c9⟩, hr8_c9, hsem⟩ := zw_bd hsem
    refine r_callVi X (pc := 44) (As := [_, _, _, _]) (st := []) (km_Chooser_tellMiddle hS hr8_c9) ce_Chooser_tellMiddle kw_1218 (zo hS 68 rfl rfl) rfl rfl ⟨Nat.le_of_ble_eq_true rfl, Nat.le_of_ble_eq_true rfl⟩ (Nat.le_of_ble_eq_true rfl) (zw_dg dk_P_middle 24 rfl) ?_
    obtain ⟨rfl, rfl⟩ := zw_in2 hsem
    exact r_iret X (pc := 47) rfl (zw_dg dk_P_middle 25 rfl)
def y_P_word : MethodName := ⟨R_P, "word", "(III)Z"⟩
abbrev b_P_word : ByteArray := prog_1_method_44_code
def dl_P_word : List (Nat × Instr × Nat) := [(0, .iload_n 1, 1), (1, .iconst 0, 1), (2, .iconst 5, 1), (3, .invokestatic 100, 3), (6, .ifCond .eq 23, 3), (9, .iload_n 2, 1), (10, .ifCond .lt 19, 3), (13, .iload_n 2, 1), (14, .iload_n 3, 1), (15, .if_icmp .gt 14, 3), (18, .iload_n 3, 1), (19, .aload_n 0, 1), (20, .getfield 25, 3), (23, .getfield 187, 3), (26, .if_icmp .le 5, 3), (29, .iconst 0, 1), (30, .ireturn, 1), (31, .aload_n 0, 1), (32, .getfield 29, 3), (35, .iload_n 1, 1), (36, .iload_n 2, 1), (37, .iload_n 3, 1), (38, .invokevirtual 330, 3), (41, .iconst 1, 1), (42, .ireturn, 1)]
theorem dk_P_word : zw_dk b_P_word dl_P_word = true := by decide +kernel
theorem ce_P_word : zw_cev y_P_word b_P_word 4 (some .boolean) 3 := ⟨⟨kt_in 1229 (by decide +kernel) rfl, kt_in 85 (by decide +kernel) rfl, by decide +kernel⟩, kt_in 1227 (by decide +kernel) rfl, kt_in 1228 (by decide +kernel) rfl⟩
def fn_P_word (c : zw_Ct) (i1 : Int32) (from2 : Int32) (to3 : Int32) : Option (Int32 × zw_Ct) :=
  if ((((¬ (¬ (fn_P_within i1 0 5) = 0)) ∨ (from2 < 0)) ∨ (to3 < from2)) ∨ ((c.1 1 1) < to3)) then
  (some (0, c))
  else
  ((fn_Held_setWord 3 c i1 from2 to3).bind fun c9 =>
  some (1, c9))
set_option maxRecDepth 100000 in
theorem km_P_word {l : Launch} {g : zw_G} {rr : zw_RR} {sh : zw_Sh} {c : zw_Ct} {i1 : Int32} {from2 : Int32} {to3 : Int32} {r : Int32} {c2 : zw_Ct} (hS : zw_Ok 0 101 sh rr) (hsem : fn_P_word c i1 from2 to3 = some (r, c2)) : zw_Met l g y_P_word b_P_word 4 (some .boolean) 2 rr sh [.ref 0, .int i1, .int from2, .int to3] c (some (.int r)) c2 := by
  unfold fn_P_word at hsem
  refine zw_Met.of (by decide +kernel) (Nat.le_of_ble_eq_true rfl) (fun p e s m args below meth cd X => ?_)
  refine zw_eL (L2 := [some (.ref 0), some (.int i1), some (.int from2), some (.int to3)]) rfl ?_
  refine zw_cnd (P := ((((¬ (¬ (fn_P_within i1 0 5) = 0)) ∨ (from2 < 0)) ∨ (to3 < from2)) ∨ ((c.1 1 1) < to3))) (J1 := 29) (J2 := 31) (st2 := []) (fun jT jF => ?_) (fun p4 => ?_) (fun p4 => ?_)
  · --
    refine r_iload_n X (pc := 0) (i := 1) (zw_dg dk_P_word 0 rfl) rfl rfl ?_
    refine r_iconst X (pc := 1) (v := 0) (zw_dg dk_P_word 1 rfl) (by decide) ?_
    refine r_iconst X (pc := 2) (v := 5) (zw_dg dk_P_word 2 rfl) (by decide) ?_
    refine r_callSi X (pc := 3) (As := [_, _, _]) (st := []) (km_P_within hS rfl) ce_P_within kw_492 rfl ⟨Nat.le_of_ble_eq_true rfl, Nat.le_of_ble_eq_true rfl⟩ (Nat.le_of_ble_eq_true rfl) (zw_dg dk_P_word 3 rfl) ?_
    refine r_if_eq X (pc := 6) (tgt := 29) (zw_dg dk_P_word 4 rfl) (by decide) (fun q5 => ?_) (fun q5 => ?_)
    · --
      exact jT (Or.inl (Or.inl (Or.inl (fun z => z q5))))
    · --
      refine r_iload_n X (pc := 9) (i := 2) (zw_dg dk_P_word 5 rfl) rfl rfl ?_
      refine r_if_lt X (pc := 10) (tgt := 29) (zw_dg dk_P_word 6 rfl) (by decide) (fun q6 => ?_) (fun q6 => ?_)
      · --
        exact jT (Or.inl (Or.inl (Or.inr q6)))
      · --
        refine r_iload_n X (pc := 13) (i := 2) (zw_dg dk_P_word 7 rfl) rfl rfl ?_
        refine r_iload_n X (pc := 14) (i := 3) (zw_dg dk_P_word 8 rfl) rfl rfl ?_
        refine r_icmp_gt X (pc := 15) (tgt := 29) (zw_dg dk_P_word 9 rfl) (by decide) (fun q7 => ?_) (fun q7 => ?_)
        · --
          exact jT (Or.inl (Or.inr q7))
        · --
          refine r_iload_n X (pc := 18) (i := 3) (zw_dg dk_P_word 10 rfl) rfl rfl ?_
          refine r_aload_n X (pc := 19) (i := 0) (zw_dg dk_P_word 11 rfl) rfl rfl ?_
          refine r_getR X (pc := 20) (r := 1) ci_P (zo hS 0 rfl rfl) rfl (zr hS 0 0 rfl rfl) lk_P_25 (zw_dg dk_P_word 12 rfl) ?_
          refine r_getI X (pc := 23) ci_Sayings (zo hS 1 rfl rfl) rfl lk_P_187 (zw_dg dk_P_word 13 rfl) ?_
          refine r_icmp_le X (pc := 26) (tgt := 31) (zw_dg dk_P_word 14 rfl) (by decide) (fun q8 => ?_) (fun q8 => ?_)
          · --
            exact jF (fun q => q.elim (fun q => q.elim (fun q => q.elim (fun q => q q5) q6) q7) (Int32.not_lt.mpr q8))
          · --
            exact jT (Or.inr (Int32.not_le.mp q8))
  · --
    have hsem := zw_ifp p4 hsem
    refine r_iconst X (pc := 29) (v := 0) (zw_dg dk_P_word 15 rfl) (by decide) ?_
    have hbz : (0 : Int32) = 0 ∨ (0 : Int32) = 1 := (by decide)
    obtain ⟨rfl, rfl⟩ := zw_in2 hsem
    exact r_zret X (pc := 30) rfl (zw_bzn hbz).1 (zw_dg dk_P_word 16 rfl)
  · --
    have hsem := zw_ifn p4 hsem
    refine r_aload_n X (pc := 31) (i := 0) (zw_dg dk_P_word 17 rfl) rfl rfl ?_
    refine r_getR X (pc := 32) (r := 3) ci_P (zo hS 0 rfl rfl) rfl (zr hS 0 1 rfl rfl) lk_P_29 (zw_dg dk_P_word 18 rfl) ?_
    refine r_iload_n X (pc := 35) (i := 1) (zw_dg dk_P_word 19 rfl) rfl rfl ?_
    refine r_iload_n X (pc := 36) (i := 2) (zw_dg dk_P_word 20 rfl) rfl rfl ?_
    refine r_iload_n X (pc := 37) (i := 3) (zw_dg dk_P_word 21 rfl) rfl rfl ?_
    obtain ⟨c9, hc9, hsem⟩ := zw_bd hsem
    refine r_callVv X (pc := 38) (As := [_, _, _]) (st := []) (km_Held_setWord (zho hS 3 rfl) hc9) ce_Held_setWord kw_1230 (zo hS 3 rfl rfl) rfl rfl ⟨Nat.le_of_ble_eq_true rfl, Nat.le_of_ble_eq_true rfl⟩ (Nat.le_of_ble_eq_true rfl) (zw_dg dk_P_word 22 rfl) ?_
    refine r_iconst X (pc := 41) (v := 1) (zw_dg dk_P_word 23 rfl) (by decide) ?_
    have hbz : (1 : Int32) = 0 ∨ (1 : Int32) = 1 := (by decide)
    obtain ⟨rfl, rfl⟩ := zw_in2 hsem
    exact r_zret X (pc := 42) rfl (zw_bzn hbz).1 (zw_dg dk_P_word 24 rfl)
def y_P_words : MethodName := ⟨R_P, "words", "(I)I"⟩
abbrev b_P_words : ByteArray := prog_1_method_45_code
def dl_P_words : List (Nat × Instr × Nat) := [(0, .aload_n 0, 1), (1, .getfield 25, 3), (4, .iload_n 1, 1), (5, .invokevirtual 122, 3), (8, .ifCond .eq 22, 3), (11, .aload_n 0, 1), (12, .getfield 29, 3), (15, .aload_n 0, 1), (16, .getfield 25, 3), (19, .iload_n 1, 1), (20, .iconst 0, 1), (21, .invokevirtual 136, 3), (24, .invokevirtual 333, 3), (27, .goto 4, 3), (30, .iconst (-1), 1), (31, .ireturn, 1)]
theorem dk_P_words : zw_dk b_P_words dl_P_words = true := by decide +kernel
theorem ce_P_words : zw_cev y_P_words b_P_words 2 (some .int) 1 := ⟨⟨kt_in 1237 (by decide +kernel) rfl, kt_in 85 (by decide +kernel) rfl, by decide +kernel⟩, kt_in 1235 (by decide +kernel) rfl, kt_in 1236 (by decide +kernel) rfl⟩
def fn_P_words (c : zw_Ct) (saying1 : Int32) : Option Int32 :=
  (if (¬ (fn_Sayings_has c saying1) = 0) then
  ((fn_Sayings_partOf c saying1 0).bind fun r5 =>
  (fn_Held_wordsFor 3 c r5).bind fun r6 =>
  some (r6 : Int32))
  else
  (some ((-1) : Int32))).bind fun v2 =>
  some v2
set_option maxRecDepth 100000 in
theorem km_P_words {l : Launch} {g : zw_G} {rr : zw_RR} {sh : zw_Sh} {c : zw_Ct} {saying1 : Int32} {r : Int32} (hS : zw_Ok 0 101 sh rr) (hsem : fn_P_words c saying1 = some r) : zw_Met l g y_P_words b_P_words 2 (some .int) 4 rr sh [.ref 0, .int saying1] c (some (.int r)) c := by
  unfold fn_P_words at hsem
  refine zw_Met.of (by decide +kernel) (Nat.le_of_ble_eq_true rfl) (fun p e s m args below meth cd X => ?_)
  refine zw_eL (L2 := [some (.ref 0), some (.int saying1)]) rfl ?_
  obtain ⟨v2, hv2, hsv2⟩ := zw_bd hsem
  refine zw_terO (f := Value.int) (v := v2) (J := 31) (st2 := []) (c2 := c) (fun jj => ?_) ?_
  · have hsem := hv2
    refine r_aload_n X (pc := 0) (i := 0) (zw_dg dk_P_words 0 rfl) rfl rfl ?_
    refine r_getR X (pc := 1) (r := 1) ci_P (zo hS 0 rfl rfl) rfl (zr hS 0 0 rfl rfl) lk_P_25 (zw_dg dk_P_words 1 rfl) ?_
    refine r_iload_n X (pc := 4) (i := 1) (zw_dg dk_P_words 2 rfl) rfl rfl ?_
    refine r_callVi X (pc := 5) (As := [_]) (st := []) (km_Sayings_has hS rfl) ce_Sayings_has kw_758 (zo hS 1 rfl rfl) rfl rfl ⟨Nat.le_of_ble_eq_true rfl, Nat.le_of_ble_eq_true rfl⟩ (Nat.le_of_ble_eq_true rfl) (zw_dg dk_P_words 3 rfl) ?_
    refine r_if_eq X (pc := 8) (tgt := 30) (zw_dg dk_P_words 4 rfl) (by decide) (fun q4 => ?_) (fun q4 => ?_)
    · --
      have p3 : ¬ (¬ (fn_Sayings_has c saying1) = 0) := (fun z => z q4)
      have hsem := zw_ifn p3 hsem
      refine r_iconst X (pc := 30) (v := (-1)) (zw_dg dk_P_words 14 rfl) (by decide) ?_
      cases hsem; exact jj
    · --
      have p3 : (¬ (fn_Sayings_has c saying1) = 0) := q4
      have hsem := zw_ifp p3 hsem
      refine r_aload_n X (pc := 11) (i := 0) (zw_dg dk_P_words 5 rfl) rfl rfl ?_
      refine r_getR X (pc := 12) (r := 3) ci_P (zo hS 0 rfl rfl) rfl (zr hS 0 1 rfl rfl) lk_P_29 (zw_dg dk_P_words 6 rfl) ?_
      refine r_aload_n X (pc := 15) (i := 0) (zw_dg dk_P_words 7 rfl) rfl rfl ?_
      refine r_getR X (pc := 16) (r := 1) ci_P (zo hS 0 rfl rfl) rfl (zr hS 0 0 rfl rfl) lk_P_25 (zw_dg dk_P_words 8 rfl) ?_
      refine r_iload_n X (pc := 19) (i := 1) (zw_dg dk_P_words 9 rfl) rfl rfl ?_
      refine r_iconst X (pc := 20) (v := 0) (zw_dg dk_P_words 10 rfl) (by decide) ?_
      obtain ⟨r5, hr5, hsem⟩ := zw_bd hsem
      refine r_callVi X (pc := 21) (As := [_, _]) (st := [.ref 3]) (km_Sayings_partOf hS hr5) ce_Sayings_partOf kw_1238 (zo hS 1 rfl rfl) rfl rfl ⟨Nat.le_of_ble_eq_true rfl, Nat.le_of_ble_eq_true rfl⟩ (Nat.le_of_ble_eq_true rfl) (zw_dg dk_P_words 11 rfl) ?_
      obtain ⟨r6, hr6, hsem⟩ := zw_bd hsem
      refine r_callVi X (pc := 24) (As := [_]) (st := []) (km_Held_wordsFor (zho hS 3 rfl) hr6) ce_Held_wordsFor kw_1239 (zo hS 3 rfl rfl) rfl rfl ⟨Nat.le_of_ble_eq_true rfl, Nat.le_of_ble_eq_true rfl⟩ (Nat.le_of_ble_eq_true rfl) (zw_dg dk_P_words 12 rfl) ?_
      refine r_goto X (pc := 27) (tgt := 31) (zw_dg dk_P_words 13 rfl) (by decide) ?_
      cases hsem; exact jj
  have hsem := hsv2
  cases hsem
  exact r_iret X (pc := 31) rfl (zw_dg dk_P_words 15 rfl)
def y_P_evening : MethodName := ⟨R_P, "evening", "(III)I"⟩
abbrev b_P_evening : ByteArray := prog_1_method_46_code
def dl_P_evening : List (Nat × Instr × Nat) := [(0, .aload_n 0, 1), (1, .getfield 29, 3), (4, .iload_n 1, 1), (5, .invokevirtual 285, 3), (8, .ifCond .eq 25, 3), (11, .aload_n 0, 1), (12, .getfield 25, 3), (15, .iload_n 2, 1), (16, .invokevirtual 122, 3), (19, .ifCond .eq 14, 3), (22, .aload_n 0, 1), (23, .getfield 25, 3), (26, .iload_n 3, 1), (27, .invokevirtual 126, 3), (30, .ifCond .ne 5, 3), (33, .iconst (-1), 1), (34, .ireturn, 1), (35, .aload_n 0, 1), (36, .getfield 29, 3), (39, .iload_n 1, 1), (40, .iload_n 2, 1), (41, .iload_n 3, 1), (42, .invokevirtual 336, 3), (45, .ifCond .eq 13, 3), (48, .aload_n 0, 1), (49, .getfield 29, 3), (52, .getfield 339, 3), (55, .goto 4, 3), (58, .iconst (-1), 1), (59, .ireturn, 1)]
theorem dk_P_evening : zw_dk b_P_evening dl_P_evening = true := by decide +kernel
theorem ce_P_evening : zw_cev y_P_evening b_P_evening 4 (some .int) 3 := ⟨⟨kt_in 1254 (by decide +kernel) rfl, kt_in 85 (by decide +kernel) rfl, by decide +kernel⟩, kt_in 1252 (by decide +kernel) rfl, kt_in 1253 (by decide +kernel) rfl⟩
def fn_P_evening (c : zw_Ct) (who1 : Int32) (saying2 : Int32) (event3 : Int32) : Option (Int32 × zw_Ct) :=
  if (((¬ (¬ (fn_Held_hasPerson 3 c who1) = 0)) ∨ (¬ (¬ (fn_Sayings_has c saying2) = 0))) ∨ (¬ (¬ (fn_Sayings_hasEvent c event3) = 0))) then
  (some ((-1), c))
  else
  ((fn_Held_addEvening 3 c who1 saying2 event3).bind fun (r8, c9) =>
  some ((if (¬ r8 = 0) then ((c9.1 3 6) : Int32) else (-1)), c9))
set_option maxRecDepth 100000 in
theorem km_P_evening {l : Launch} {g : zw_G} {rr : zw_RR} {sh : zw_Sh} {c : zw_Ct} {who1 : Int32} {saying2 : Int32} {event3 : Int32} {r : Int32} {c2 : zw_Ct} (hS : zw_Ok 0 101 sh rr) (hsem : fn_P_evening c who1 saying2 event3 = some (r, c2)) : zw_Met l g y_P_evening b_P_evening 4 (some .int) 2 rr sh [.ref 0, .int who1, .int saying2, .int event3] c (some (.int r)) c2 := by
  unfold fn_P_evening at hsem
  refine zw_Met.of (by decide +kernel) (Nat.le_of_ble_eq_true rfl) (fun p e s m args below meth cd X => ?_)
  refine zw_eL (L2 := [some (.ref 0), some (.int who1), some (.int saying2), some (.int event3)]) rfl ?_
  refine zw_cnd (P := (((¬ (¬ (fn_Held_hasPerson 3 c who1) = 0)) ∨ (¬ (¬ (fn_Sayings_has c saying2) = 0))) ∨ (¬ (¬ (fn_Sayings_hasEvent c event3) = 0)))) (J1 := 33) (J2 := 35) (st2 := []) (fun jT jF => ?_) (fun p4 => ?_) (fun p4 => ?_)
  · --
    refine r_aload_n X (pc := 0) (i := 0) (zw_dg dk_P_evening 0 rfl) rfl rfl ?_
    refine r_getR X (pc := 1) (r := 3) ci_P (zo hS 0 rfl rfl) rfl (zr hS 0 1 rfl rfl) lk_P_29 (zw_dg dk_P_evening 1 rfl) ?_
    refine r_iload_n X (pc := 4) (i := 1) (zw_dg dk_P_evening 2 rfl) rfl rfl ?_
    refine r_callVi X (pc := 5) (As := [_]) (st := []) (km_Held_hasPerson (zho hS 3 rfl) rfl) ce_Held_hasPerson kw_1051 (zo hS 3 rfl rfl) rfl rfl ⟨Nat.le_of_ble_eq_true rfl, Nat.le_of_ble_eq_true rfl⟩ (Nat.le_of_ble_eq_true rfl) (zw_dg dk_P_evening 3 rfl) ?_
    refine r_if_eq X (pc := 8) (tgt := 33) (zw_dg dk_P_evening 4 rfl) (by decide) (fun q5 => ?_) (fun q5 => ?_)
    · --
      exact jT (Or.inl (Or.inl (fun z => z q5)))
    · --
      refine r_aload_n X (pc := 11) (i := 0) (zw_dg dk_P_evening 5 rfl) rfl rfl ?_
      refine r_getR X (pc := 12) (r := 1) ci_P (zo hS 0 rfl rfl) rfl (zr hS 0 0 rfl rfl) lk_P_25 (zw_dg dk_P_evening 6 rfl) ?_
      refine r_iload_n X (pc := 15) (i := 2) (zw_dg dk_P_evening 7 rfl) rfl rfl ?_
      refine r_callVi X (pc := 16) (As := [_]) (st := []) (km_Sayings_has hS rfl) ce_Sayings_has kw_758 (zo hS 1 rfl rfl) rfl rfl ⟨Nat.le_of_ble_eq_true rfl, Nat.le_of_ble_eq_true rfl⟩ (Nat.le_of_ble_eq_true rfl) (zw_dg dk_P_evening 8 rfl) ?_
      refine r_if_eq X (pc := 19) (tgt := 33) (zw_dg dk_P_evening 9 rfl) (by decide) (fun q6 => ?_) (fun q6 => ?_)
      · --
        exact jT (Or.inl (Or.inr (fun z => z q6)))
      · --
        refine r_aload_n X (pc := 22) (i := 0) (zw_dg dk_P_evening 10 rfl) rfl rfl ?_
        refine r_getR X (pc := 23) (r := 1) ci_P (zo hS 0 rfl rfl) rfl (zr hS 0 0 rfl rfl) lk_P_25 (zw_dg dk_P_evening 11 rfl) ?_
        refine r_iload_n X (pc := 26) (i := 3) (zw_dg dk_P_evening 12 rfl) rfl rfl ?_
        refine r_callVi X (pc := 27) (As := [_]) (st := []) (km_Sayings_hasEvent hS rfl) ce_Sayings_hasEvent kw_1002 (zo hS 1 rfl rfl) rfl rfl ⟨Nat.le_of_ble_eq_true rfl, Nat.le_of_ble_eq_true rfl⟩ (Nat.le_of_ble_eq_true rfl) (zw_dg dk_P_evening 13 rfl) ?_
        refine r_if_ne X (pc := 30) (tgt := 35) (zw_dg dk_P_evening 14 rfl) (by decide) (fun q7 => ?_) (fun q7 => ?_)
        · --
          exact jF (fun q => q.elim (fun q => q.elim (fun q => q q5) (fun q => q q6)) (fun q => q q7))
        · --
          exact jT (Or.inr (fun z => z q7))
  · --
    have hsem := zw_ifp p4 hsem
    refine r_iconst X (pc := 33) (v := (-1)) (zw_dg dk_P_evening 15 rfl) (by decide) ?_
    obtain ⟨rfl, rfl⟩ := zw_in2 hsem
    exact r_iret X (pc := 34) rfl (zw_dg dk_P_evening 16 rfl)
  · --
    have hsem := zw_ifn p4 hsem
    refine r_aload_n X (pc := 35) (i := 0) (zw_dg dk_P_evening 17 rfl) rfl rfl ?_
    refine r_getR X (pc := 36) (r := 3) ci_P (zo hS 0 rfl rfl) rfl (zr hS 0 1 rfl rfl) lk_P_29 (zw_dg dk_P_evening 18 rfl) ?_
    refine r_iload_n X (pc := 39) (i := 1) (zw_dg dk_P_evening 19 rfl) rfl rfl ?_
    refine r_iload_n X (pc := 40) (i := 2) (zw_dg dk_P_evening 20 rfl) rfl rfl ?_
    refine r_iload_n X (pc := 41) (i := 3) (zw_dg dk_P_evening 21 rfl) rfl rfl ?_
    obtain ⟨⟨r8, c9⟩, hr8_c9, hsem⟩ := zw_bd hsem
    refine r_callVi X (pc := 42) (As := [_, _, _]) (st := []) (km_Held_addEvening (zho hS 3 rfl) hr8_c9) ce_Held_addEvening kw_1255 (zo hS 3 rfl rfl) rfl rfl ⟨Nat.le_of_ble_eq_true rfl, Nat.le_of_ble_eq_true rfl⟩ (Nat.le_of_ble_eq_true rfl) (zw_dg dk_P_evening 22 rfl) ?_
    refine zw_ter (P := (¬ r8 = 0)) (f := Value.int) (x := (c9.1 3 6)) (y := (-1)) (J := 59) (st2 := []) (fun jT jF => ?_) ?_
    · --
      refine r_if_eq X (pc := 45) (tgt := 58) (zw_dg dk_P_evening 23 rfl) (by decide) (fun q10 => ?_) (fun q10 => ?_)
      · --
        refine r_iconst X (pc := 58) (v := (-1)) (zw_dg dk_P_evening 28 rfl) (by decide) ?_
        exact jF (fun z => z q10)
      · --
        refine r_aload_n X (pc := 48) (i := 0) (zw_dg dk_P_evening 24 rfl) rfl rfl ?_
        refine r_getR X (pc := 49) (r := 3) ci_P (zo hS 0 rfl rfl) rfl (zr hS 0 1 rfl rfl) lk_P_29 (zw_dg dk_P_evening 25 rfl) ?_
        refine r_getI X (pc := 52) ci_Held (zo hS 3 rfl rfl) rfl lk_P_339 (zw_dg dk_P_evening 26 rfl) ?_
        refine r_goto X (pc := 55) (tgt := 59) (zw_dg dk_P_evening 27 rfl) (by decide) ?_
        exact jT q10
    obtain ⟨rfl, rfl⟩ := zw_in2 hsem
    exact r_iret X (pc := 59) rfl (zw_dg dk_P_evening 29 rfl)
def y_P_forget : MethodName := ⟨R_P, "forget", "()I"⟩
abbrev b_P_forget : ByteArray := prog_1_method_47_code
def dl_P_forget : List (Nat × Instr × Nat) := [(0, .aload_n 0, 1), (1, .getfield 29, 3), (4, .getfield 339, 3), (7, .ifCond .ne 5, 3), (10, .iconst (-1), 1), (11, .ireturn, 1), (12, .aload_n 0, 1), (13, .getfield 29, 3), (16, .dup, 1), (17, .getfield 339, 3), (20, .iconst 1, 1), (21, .isub, 1), (22, .putfield 339, 3), (25, .aload_n 0, 1), (26, .getfield 29, 3), (29, .getfield 339, 3), (32, .ireturn, 1)]
theorem dk_P_forget : zw_dk b_P_forget dl_P_forget = true := by decide +kernel
theorem ce_P_forget : zw_cev y_P_forget b_P_forget 1 (some .int) 0 := ⟨⟨kt_in 1262 (by decide +kernel) rfl, kt_in 85 (by decide +kernel) rfl, by decide +kernel⟩, kt_in 1260 (by decide +kernel) rfl, kt_in 1261 (by decide +kernel) rfl⟩
def fn_P_forget (c : zw_Ct) : Option (Int32 × zw_Ct) :=
  if ((c.1 3 6) = 0) then
  (some ((-1), c))
  else
  ((some (zw_wI c 3 6 ((c.1 3 6) - 1))).bind fun c3 =>
  some ((c3.1 3 6), c3))
set_option maxRecDepth 100000 in
theorem km_P_forget {l : Launch} {g : zw_G} {rr : zw_RR} {sh : zw_Sh} {c : zw_Ct} {r : Int32} {c2 : zw_Ct} (hS : zw_Ok 0 101 sh rr) (hsem : fn_P_forget c = some (r, c2)) : zw_Met l g y_P_forget b_P_forget 1 (some .int) 1 rr sh [.ref 0] c (some (.int r)) c2 := by
  unfold fn_P_forget at hsem
  refine zw_Met.of (by decide +kernel) (Nat.le_of_ble_eq_true rfl) (fun p e s m args below meth cd X => ?_)
  refine zw_eL (L2 := [some (.ref 0)]) rfl ?_
  refine r_aload_n X (pc := 0) (i := 0) (zw_dg dk_P_forget 0 rfl) rfl rfl ?_
  refine r_getR X (pc := 1) (r := 3) ci_P (zo hS 0 rfl rfl) rfl (zr hS 0 1 rfl rfl) lk_P_29 (zw_dg dk_P_forget 1 rfl) ?_
  refine r_getI X (pc := 4) ci_Held (zo hS 3 rfl rfl) rfl lk_P_339 (zw_dg dk_P_forget 2 rfl) ?_
  refine r_if_ne X (pc := 7) (tgt := 12) (zw_dg dk_P_forget 3 rfl) (by decide) (fun q2 => ?_) (fun q2 => ?_)
  · --
    have p1 : ¬ ((c.1 3 6) = 0) := q2
    have hsem := zw_ifn p1 hsem
    refine r_aload_n X (pc := 12) (i := 0) (zw_dg dk_P_forget 6 rfl) rfl rfl ?_
    refine r_getR X (pc := 13) (r := 3) ci_P (zo hS 0 rfl rfl) rfl (zr hS 0 1 rfl rfl) lk_P_29 (zw_dg dk_P_forget 7 rfl) ?_
    refine r_dup X (pc := 16) (zw_dg dk_P_forget 8 rfl) rfl ?_
    refine r_getI X (pc := 17) ci_Held (zo hS 3 rfl rfl) rfl lk_P_339 (zw_dg dk_P_forget 9 rfl) ?_
    refine r_iconst X (pc := 20) (v := 1) (zw_dg dk_P_forget 10 rfl) (by decide) ?_
    refine r_isub X (pc := 21) (zw_dg dk_P_forget 11 rfl)  ?_
    refine r_putI X (pc := 22) ci_Held (zo hS 3 rfl rfl) rfl lk_P_339 rfl ⟨rfl, rfl⟩ (zw_dg dk_P_forget 12 rfl) ?_
    obtain ⟨c3, hc3, hsem⟩ := zw_bd hsem
    refine zw_topC hc3 ?_
    refine r_aload_n X (pc := 25) (i := 0) (zw_dg dk_P_forget 13 rfl) rfl rfl ?_
    refine r_getR X (pc := 26) (r := 3) ci_P (zo hS 0 rfl rfl) rfl (zr hS 0 1 rfl rfl) lk_P_29 (zw_dg dk_P_forget 14 rfl) ?_
    refine r_getI X (pc := 29) ci_Held (zo hS 3 rfl rfl) rfl lk_P_339 (zw_dg dk_P_forget 15 rfl) ?_
    obtain ⟨rfl, rfl⟩ := zw_in2 hsem
    exact r_iret X (pc := 32) rfl (zw_dg dk_P_forget 16 rfl)
  · --
    have p1 : ((c.1 3 6) = 0) := q2
    have hsem := zw_ifp p1 hsem
    refine r_iconst X (pc := 10) (v := (-1)) (zw_dg dk_P_forget 4 rfl) (by decide) ?_
    obtain ⟨rfl, rfl⟩ := zw_in2 hsem
    exact r_iret X (pc := 11) rfl (zw_dg dk_P_forget 5 rfl)
def y_P_paid : MethodName := ⟨R_P, "paid", "(II)I"⟩
abbrev b_P_paid : ByteArray := prog_1_method_48_code
def dl_P_paid : List (Nat × Instr × Nat) := [(0, .aload_n 0, 1), (1, .getfield 53, 3), (4, .iload_n 1, 1), (5, .invokevirtual 163, 3), (8, .astore_n 3, 1), (9, .aload_n 3, 1), (10, .ifnull 14, 3), (13, .aload_n 0, 1), (14, .getfield 29, 3), (17, .iload_n 2, 1), (18, .invokevirtual 285, 3), (21, .ifCond .ne 5, 3), (24, .iconst (-1), 1), (25, .ireturn, 1), (26, .aload_n 0, 1), (27, .getfield 96, 3), (30, .aload_n 3, 1), (31, .iload_n 2, 1), (32, .aload_n 0, 1), (33, .getfield 60, 3), (36, .invokevirtual 342, 3), (39, .ireturn, 1)]
theorem dk_P_paid : zw_dk b_P_paid dl_P_paid = true := by decide +kernel
theorem ce_P_paid : zw_cev y_P_paid b_P_paid 4 (some .int) 2 := ⟨⟨kt_in 1266 (by decide +kernel) rfl, kt_in 85 (by decide +kernel) rfl, by decide +kernel⟩, kt_in 1264 (by decide +kernel) rfl, kt_in 1265 (by decide +kernel) rfl⟩
def fn_P_paid (c : zw_Ct) (pay1 : Int32) (who2 : Int32) : Option (Int32 × zw_Ct) :=
  (fn_Pays_valuesOf c pay1).bind fun (r3, c4) =>
  if ((r3 = none) ∨ (¬ (¬ (fn_Held_hasPerson 3 c4 who2) = 0))) then
  (some ((-1), c4))
  else
  ((r3).bind fun a8 =>
  (fn_Ledger_tellPaid c4 a8 who2).bind fun (r9, c10) =>
  some (r9, c10))
set_option maxRecDepth 100000 in
theorem km_P_paid {l : Launch} {g : zw_G} {rr : zw_RR} {sh : zw_Sh} {c : zw_Ct} {pay1 : Int32} {who2 : Int32} {r : Int32} {c2 : zw_Ct} (hS : zw_Ok 0 101 sh rr) (hsem : fn_P_paid c pay1 who2 = some (r, c2)) : zw_Met l g y_P_paid b_P_paid 4 (some .int) 5 rr sh [.ref 0, .int pay1, .int who2] c (some (.int r)) c2 := by
  unfold fn_P_paid at hsem
  refine zw_Met.of (by decide +kernel) (Nat.le_of_ble_eq_true rfl) (fun p e s m args below meth cd X => ?_)
  refine zw_eL (L2 := [some (.ref 0), some (.int pay1), some (.int who2), none]) rfl ?_
  refine r_aload_n X (pc := 0) (i := 0) (zw_dg dk_P_paid 0 rfl) rfl rfl ?_
  refine r_getR X (pc := 1) (r := 45) ci_P (zo hS 0 rfl rfl) rfl (zr hS 0 5 rfl rfl) lk_P_53 (zw_dg dk_P_paid 1 rfl) ?_
  refine r_iload_n X (pc := 4) (i := 1) (zw_dg dk_P_paid 2 rfl) rfl rfl ?_
  obtain ⟨⟨r3, c4⟩, hr3_c4, hsem⟩ := zw_bd hsem
  refine r_callVO X (pc := 5) (As := [_]) (st := []) (km_Pays_valuesOf hS hr3_c4) ce_Pays_valuesOf kw_705 (zo hS 45 rfl rfl) rfl rfl ⟨Nat.le_of_ble_eq_true rfl, Nat.le_of_ble_eq_true rfl⟩ (Nat.le_of_ble_eq_true rfl) (zw_dg dk_P_paid 3 rfl) ?_
  refine r_astore_nO X (pc := 8) (i := 3) (zw_dg dk_P_paid 4 rfl) rfl (by decide) rfl ?_
  refine zw_cnd (P := ((r3 = none) ∨ (¬ (¬ (fn_Held_hasPerson 3 c4 who2) = 0)))) (J1 := 24) (J2 := 26) (st2 := []) (fun jT jF => ?_) (fun p5 => ?_) (fun p5 => ?_)
  · --
    refine r_aload_nO X (pc := 9) (i := 3) (zw_dg dk_P_paid 5 rfl) rfl rfl ?_
    refine r_ifnull X (pc := 10) (tgt := 24) (zw_dg dk_P_paid 6 rfl) (by decide) (fun q6 => ?_) (fun q6 => ?_)
    · --
      exact jT (Or.inl q6)
    · --
      refine r_aload_n X (pc := 13) (i := 0) (zw_dg dk_P_paid 7 rfl) rfl rfl ?_
      refine r_getR X (pc := 14) (r := 3) ci_P (zo hS 0 rfl rfl) rfl (zr hS 0 1 rfl rfl) lk_P_29 (zw_dg dk_P_paid 8 rfl) ?_
      refine r_iload_n X (pc := 17) (i := 2) (zw_dg dk_P_paid 9 rfl) rfl rfl ?_
      refine r_callVi X (pc := 18) (As := [_]) (st := []) (km_Held_hasPerson (zho hS 3 rfl) rfl) ce_Held_hasPerson kw_1051 (zo hS 3 rfl rfl) rfl rfl ⟨Nat.le_of_ble_eq_true rfl, Nat.le_of_ble_eq_true rfl⟩ (Nat.le_of_ble_eq_true rfl) (zw_dg dk_P_paid 10 rfl) ?_
      refine r_if_ne X (pc := 21) (tgt := 26) (zw_dg dk_P_paid 11 rfl) (by decide) (fun q7 => ?_) (fun q7 => ?_)
      · --
        exact jF (fun q => q.elim q6 (fun q => q q7))
      · --
        exact jT (Or.inr (fun z => z q7))
  · --
    have hsem := zw_ifp p5 hsem
    refine r_iconst X (pc := 24) (v := (-1)) (zw_dg dk_P_paid 12 rfl) (by decide) ?_
    obtain ⟨rfl, rfl⟩ := zw_in2 hsem
    exact r_iret X (pc := 25) rfl (zw_dg dk_P_paid 13 rfl)
  · --
    have hsem := zw_ifn p5 hsem
    refine r_aload_n X (pc := 26) (i := 0) (zw_dg dk_P_paid 14 rfl) rfl rfl ?_
    refine r_getR X (pc := 27) (r := 69) ci_P (zo hS 0 rfl rfl) rfl (zr hS 0 11 rfl rfl) lk_P_96 (zw_dg dk_P_paid 15 rfl) ?_
    refine r_aload_nO X (pc := 30) (i := 3) (zw_dg dk_P_paid 16 rfl) rfl rfl ?_
    refine r_iload_n X (pc := 31) (i := 2) (zw_dg dk_P_paid 17 rfl) rfl rfl ?_
    refine r_aload_n X (pc := 32) (i := 0) (zw_dg dk_P_paid 18 rfl) rfl rfl ?_
    refine r_getR X (pc := 33) (r := 61) ci_P (zo hS 0 rfl rfl) rfl (zr hS 0 6 rfl rfl) lk_P_60 (zw_dg dk_P_paid 19 rfl) ?_
    obtain ⟨a8, ha8, hs_a8⟩ := zw_bd hsem
    subst ha8
    have hsem := hs_a8
    obtain ⟨⟨r9, c10⟩, hr9_c10, hsem⟩ := zw_bd hsem
    refine r_callVi X (pc := 36) (As := [_, _, _]) (st := []) (km_Ledger_tellPaid hS hr9_c10) ce_Ledger_tellPaid kw_1267 (zo hS 69 rfl rfl) rfl rfl ⟨Nat.le_of_ble_eq_true rfl, Nat.le_of_ble_eq_true rfl⟩ (Nat.le_of_ble_eq_true rfl) (zw_dg dk_P_paid 20 rfl) ?_
    obtain ⟨rfl, rfl⟩ := zw_in2 hsem
    exact r_iret X (pc := 39) rfl (zw_dg dk_P_paid 21 rfl)
def y_P_first : MethodName := ⟨R_P, "first", "(I)I"⟩
abbrev b_P_first : ByteArray := prog_1_method_49_code
def dl_P_first : List (Nat × Instr × Nat) := [(0, .aload_n 0, 1), (1, .getfield 53, 3), (4, .iload_n 1, 1), (5, .invokevirtual 163, 3), (8, .astore_n 2, 1), (9, .aload_n 2, 1), (10, .ifnonnull 7, 3), (13, .iconst (-1), 1), (14, .goto 15, 3), (17, .aload_n 0, 1), (18, .getfield 96, 3), (21, .aload_n 2, 1), (22, .aload_n 0, 1), (23, .getfield 60, 3), (26, .invokevirtual 345, 3), (29, .ireturn, 1)]
theorem dk_P_first : zw_dk b_P_first dl_P_first = true := by decide +kernel
theorem ce_P_first : zw_cev y_P_first b_P_first 3 (some .int) 1 := ⟨⟨kt_in 1289 (by decide +kernel) rfl, kt_in 85 (by decide +kernel) rfl, by decide +kernel⟩, kt_in 1287 (by decide +kernel) rfl, kt_in 1288 (by decide +kernel) rfl⟩
def fn_P_first (c : zw_Ct) (pay1 : Int32) : Option (Int32 × zw_Ct) :=
  (fn_Pays_valuesOf c pay1).bind fun (r2, c3) =>
  (if (r2 = none) then
  (some (((-1) : Int32), c3))
  else
  ((r2).bind fun a8 =>
  (fn_Ledger_tellFirst c3 a8).bind fun (r9, c10) =>
  some ((r9 : Int32), c10))).bind fun (v4, c5) =>
  some (v4, c5)
set_option maxRecDepth 100000 in
theorem km_P_first {l : Launch} {g : zw_G} {rr : zw_RR} {sh : zw_Sh} {c : zw_Ct} {pay1 : Int32} {r : Int32} {c2 : zw_Ct} (hS : zw_Ok 0 101 sh rr) (hsem : fn_P_first c pay1 = some (r, c2)) : zw_Met l g y_P_first b_P_first 3 (some .int) 5 rr sh [.ref 0, .int pay1] c (some (.int r)) c2 := by
  unfold fn_P_first at hsem
  refine zw_Met.of (by decide +kernel) (Nat.le_of_ble_eq_true rfl) (fun p e s m args below meth cd X => ?_)
  refine zw_eL (L2 := [some (.ref 0), some (.int pay1), none]) rfl ?_
  refine r_aload_n X (pc := 0) (i := 0) (zw_dg dk_P_first 0 rfl) rfl rfl ?_
  refine r_getR X (pc := 1) (r := 45) ci_P (zo hS 0 rfl rfl) rfl (zr hS 0 5 rfl rfl) lk_P_53 (zw_dg dk_P_first 1 rfl) ?_
  refine r_iload_n X (pc := 4) (i := 1) (zw_dg dk_P_first 2 rfl) rfl rfl ?_
  obtain ⟨⟨r2, c3⟩, hr2_c3, hsem⟩ := zw_bd hsem
  refine r_callVO X (pc := 5) (As := [_]) (st := []) (km_Pays_valuesOf hS hr2_c3) ce_Pays_valuesOf kw_705 (zo hS 45 rfl rfl) rfl rfl ⟨Nat.le_of_ble_eq_true rfl, Nat.le_of_ble_eq_true rfl⟩ (Nat.le_of_ble_eq_true rfl) (zw_dg dk_P_first 3 rfl) ?_
  refine r_astore_nO X (pc := 8) (i := 2) (zw_dg dk_P_first 4 rfl) rfl (by decide) rfl ?_
  obtain ⟨⟨v4, c5⟩, hv4, hsv4⟩ := zw_bd hsem
  refine zw_terO (f := Value.int) (v := v4) (J := 29) (st2 := []) (c2 := c5) (fun jj => ?_) ?_
  · have hsem := hv4
    refine r_aload_nO X (pc := 9) (i := 2) (zw_dg dk_P_first 5 rfl) rfl rfl ?_
    refine r_ifnonnull X (pc := 10) (tgt := 17) (zw_dg dk_P_first 6 rfl) (by decide) (fun q7 => ?_) (fun q7 => ?_)
    · --
      have p6 : ¬ (r2 = none) := q7
      have hsem := zw_ifn p6 hsem
      refine r_aload_n X (pc := 17) (i := 0) (zw_dg dk_P_first 9 rfl) rfl rfl ?_
      refine r_getR X (pc := 18) (r := 69) ci_P (zo hS 0 rfl rfl) rfl (zr hS 0 11 rfl rfl) lk_P_96 (zw_dg dk_P_first 10 rfl) ?_
      refine r_aload_nO X (pc := 21) (i := 2) (zw_dg dk_P_first 11 rfl) rfl rfl ?_
      refine r_aload_n X (pc := 22) (i := 0) (zw_dg dk_P_first 12 rfl) rfl rfl ?_
      refine r_getR X (pc := 23) (r := 61) ci_P (zo hS 0 rfl rfl) rfl (zr hS 0 6 rfl rfl) lk_P_60 (zw_dg dk_P_first 13 rfl) ?_
      obtain ⟨a8, ha8, hs_a8⟩ := zw_bd hsem
      subst ha8
      have hsem := hs_a8
      obtain ⟨⟨r9, c10⟩, hr9_c10, hsem⟩ := zw_bd hsem
      refine r_callVi X (pc := 26) (As := [_, _]) (st := []) (km_Ledger_tellFirst hS hr9_c10) ce_Ledger_tellFirst kw_1290 (zo hS 69 rfl rfl) rfl rfl ⟨Nat.le_of_ble_eq_true rfl, Nat.le_of_ble_eq_true rfl⟩ (Nat.le_of_ble_eq_true rfl) (zw_dg dk_P_first 14 rfl) ?_
      cases hsem; exact jj
    · --
      have p6 : (r2 = none) := q7
      have hsem := zw_ifp p6 hsem
      refine r_iconst X (pc := 13) (v := (-1)) (zw_dg dk_P_first 7 rfl) (by decide) ?_
      refine r_goto X (pc := 14) (tgt := 29) (zw_dg dk_P_first 8 rfl) (by decide) ?_
      cases hsem; exact jj
  have hsem := hsv4
  obtain ⟨rfl, rfl⟩ := zw_in2 hsem
  exact r_iret X (pc := 29) rfl (zw_dg dk_P_first 15 rfl)
def y_P_right : MethodName := ⟨R_P, "right", "(III)I"⟩
abbrev b_P_right : ByteArray := prog_1_method_50_code
def dl_P_right : List (Nat × Instr × Nat) := [(0, .aload_n 0, 1), (1, .getfield 29, 3), (4, .iload_n 1, 1), (5, .invokevirtual 285, 3), (8, .ifCond .eq 24, 3), (11, .aload_n 0, 1), (12, .getfield 25, 3), (15, .iload_n 2, 1), (16, .invokevirtual 126, 3), (19, .ifCond .eq 13, 3), (22, .iload_n 3, 1), (23, .iconst 0, 1), (24, .bipush 12, 2), (26, .invokestatic 100, 3), (29, .ifCond .ne 5, 3), (32, .iconst (-1), 1), (33, .ireturn, 1), (34, .aload_n 0, 1), (35, .getfield 96, 3), (38, .iload_n 1, 1), (39, .iload_n 2, 1), (40, .iload_n 3, 1), (41, .aload_n 0, 1), (42, .getfield 60, 3), (45, .invokevirtual 348, 3), (48, .ireturn, 1)]
theorem dk_P_right : zw_dk b_P_right dl_P_right = true := by decide +kernel
theorem ce_P_right : zw_cev y_P_right b_P_right 4 (some .int) 3 := ⟨⟨kt_in 1298 (by decide +kernel) rfl, kt_in 85 (by decide +kernel) rfl, by decide +kernel⟩, kt_in 1296 (by decide +kernel) rfl, kt_in 1297 (by decide +kernel) rfl⟩
def fn_P_right (c : zw_Ct) (who1 : Int32) (event2 : Int32) (k3 : Int32) : Option (Int32 × zw_Ct) :=
  if (((¬ (¬ (fn_Held_hasPerson 3 c who1) = 0)) ∨ (¬ (¬ (fn_Sayings_hasEvent c event2) = 0))) ∨ (¬ (¬ (fn_P_within k3 0 12) = 0))) then
  (some ((-1), c))
  else
  ((fn_Ledger_tellRight c who1 event2 k3).bind fun (r8, c9) =>
  some (r8, c9))
set_option maxRecDepth 100000 in
theorem km_P_right {l : Launch} {g : zw_G} {rr : zw_RR} {sh : zw_Sh} {c : zw_Ct} {who1 : Int32} {event2 : Int32} {k3 : Int32} {r : Int32} {c2 : zw_Ct} (hS : zw_Ok 0 101 sh rr) (hsem : fn_P_right c who1 event2 k3 = some (r, c2)) : zw_Met l g y_P_right b_P_right 4 (some .int) 4 rr sh [.ref 0, .int who1, .int event2, .int k3] c (some (.int r)) c2 := by
  unfold fn_P_right at hsem
  refine zw_Met.of (by decide +kernel) (Nat.le_of_ble_eq_true rfl) (fun p e s m args below meth cd X => ?_)
  refine zw_eL (L2 := [some (.ref 0), some (.int who1), some (.int event2), some (.int k3)]) rfl ?_
  refine zw_cnd (P := (((¬ (¬ (fn_Held_hasPerson 3 c who1) = 0)) ∨ (¬ (¬ (fn_Sayings_hasEvent c event2) = 0))) ∨ (¬ (¬ (fn_P_within k3 0 12) = 0)))) (J1 := 32) (J2 := 34) (st2 := []) (fun jT jF => ?_) (fun p4 => ?_) (fun p4 => ?_)
  · --
    refine r_aload_n X (pc := 0) (i := 0) (zw_dg dk_P_right 0 rfl) rfl rfl ?_
    refine r_getR X (pc := 1) (r := 3) ci_P (zo hS 0 rfl rfl) rfl (zr hS 0 1 rfl rfl) lk_P_29 (zw_dg dk_P_right 1 rfl) ?_
    refine r_iload_n X (pc := 4) (i := 1) (zw_dg dk_P_right 2 rfl) rfl rfl ?_
    refine r_callVi X (pc := 5) (As := [_]) (st := []) (km_Held_hasPerson (zho hS 3 rfl) rfl) ce_Held_hasPerson kw_1051 (zo hS 3 rfl rfl) rfl rfl ⟨Nat.le_of_ble_eq_true rfl, Nat.le_of_ble_eq_true rfl⟩ (Nat.le_of_ble_eq_true rfl) (zw_dg dk_P_right 3 rfl) ?_
    refine r_if_eq X (pc := 8) (tgt := 32) (zw_dg dk_P_right 4 rfl) (by decide) (fun q5 => ?_) (fun q5 => ?_)
    · --
      exact jT (Or.inl (Or.inl (fun z => z q5)))
    · --
      refine r_aload_n X (pc := 11) (i := 0) (zw_dg dk_P_right 5 rfl) rfl rfl ?_
      refine r_getR X (pc := 12) (r := 1) ci_P (zo hS 0 rfl rfl) rfl (zr hS 0 0 rfl rfl) lk_P_25 (zw_dg dk_P_right 6 rfl) ?_
      refine r_iload_n X (pc := 15) (i := 2) (zw_dg dk_P_right 7 rfl) rfl rfl ?_
      refine r_callVi X (pc := 16) (As := [_]) (st := []) (km_Sayings_hasEvent hS rfl) ce_Sayings_hasEvent kw_1002 (zo hS 1 rfl rfl) rfl rfl ⟨Nat.le_of_ble_eq_true rfl, Nat.le_of_ble_eq_true rfl⟩ (Nat.le_of_ble_eq_true rfl) (zw_dg dk_P_right 8 rfl) ?_
      refine r_if_eq X (pc := 19) (tgt := 32) (zw_dg dk_P_right 9 rfl) (by decide) (fun q6 => ?_) (fun q6 => ?_)
      · --
        exact jT (Or.inl (Or.inr (fun z => z q6)))
      · --
        refine r_iload_n X (pc := 22) (i := 3) (zw_dg dk_P_right 10 rfl) rfl rfl ?_
        refine r_iconst X (pc := 23) (v := 0) (zw_dg dk_P_right 11 rfl) (by decide) ?_
        refine r_bipush X (pc := 24) (v := 12) (zw_dg dk_P_right 12 rfl) (by decide) ?_
        refine r_callSi X (pc := 26) (As := [_, _, _]) (st := []) (km_P_within hS rfl) ce_P_within kw_492 rfl ⟨Nat.le_of_ble_eq_true rfl, Nat.le_of_ble_eq_true rfl⟩ (Nat.le_of_ble_eq_true rfl) (zw_dg dk_P_right 13 rfl) ?_
        refine r_if_ne X (pc := 29) (tgt := 34) (zw_dg dk_P_right 14 rfl) (by decide) (fun q7 => ?_) (fun q7 => ?_)
        · --
          exact jF (fun q => q.elim (fun q => q.elim (fun q => q q5) (fun q => q q6)) (fun q => q q7))
        · --
          exact jT (Or.inr (fun z => z q7))
  · --
    have hsem := zw_ifp p4 hsem
    refine r_iconst X (pc := 32) (v := (-1)) (zw_dg dk_P_right 15 rfl) (by decide) ?_
    obtain ⟨rfl, rfl⟩ := zw_in2 hsem
    exact r_iret X (pc := 33) rfl (zw_dg dk_P_right 16 rfl)
  · --
    have hsem := zw_ifn p4 hsem
    refine r_aload_n X (pc := 34) (i := 0) (zw_dg dk_P_right 17 rfl) rfl rfl ?_
    refine r_getR X (pc := 35) (r := 69) ci_P (zo hS 0 rfl rfl) rfl (zr hS 0 11 rfl rfl) lk_P_96 (zw_dg dk_P_right 18 rfl) ?_
    refine r_iload_n X (pc := 38) (i := 1) (zw_dg dk_P_right 19 rfl) rfl rfl ?_
    refine r_iload_n X (pc := 39) (i := 2) (zw_dg dk_P_right 20 rfl) rfl rfl ?_
    refine r_iload_n X (pc := 40) (i := 3) (zw_dg dk_P_right 21 rfl) rfl rfl ?_
    refine r_aload_n X (pc := 41) (i := 0) (zw_dg dk_P_right 22 rfl) rfl rfl ?_
    refine r_getR X (pc := 42) (r := 61) ci_P (zo hS 0 rfl rfl) rfl (zr hS 0 6 rfl rfl) lk_P_60 (zw_dg dk_P_right 23 rfl) ?_
    obtain ⟨⟨r8, c9⟩, hr8_c9, hsem⟩ := zw_bd hsem
    refine r_callVi X (pc := 45) (As := [_, _, _, _]) (st := []) (km_Ledger_tellRight hS hr8_c9) ce_Ledger_tellRight kw_1299 (zo hS 69 rfl rfl) rfl rfl ⟨Nat.le_of_ble_eq_true rfl, Nat.le_of_ble_eq_true rfl⟩ (Nat.le_of_ble_eq_true rfl) (zw_dg dk_P_right 24 rfl) ?_
    obtain ⟨rfl, rfl⟩ := zw_in2 hsem
    exact r_iret X (pc := 48) rfl (zw_dg dk_P_right 25 rfl)
def y_P_meant : MethodName := ⟨R_P, "meant", "(I)I"⟩
abbrev b_P_meant : ByteArray := prog_1_method_51_code
def dl_P_meant : List (Nat × Instr × Nat) := [(0, .aload_n 0, 1), (1, .getfield 29, 3), (4, .iload_n 1, 1), (5, .invokevirtual 351, 3), (8, .ifCond .eq 18, 3), (11, .aload_n 0, 1), (12, .getfield 96, 3), (15, .iload_n 1, 1), (16, .aload_n 0, 1), (17, .getfield 60, 3), (20, .invokevirtual 354, 3), (23, .goto 4, 3), (26, .iconst (-1), 1), (27, .ireturn, 1)]
theorem dk_P_meant : zw_dk b_P_meant dl_P_meant = true := by decide +kernel
theorem ce_P_meant : zw_cev y_P_meant b_P_meant 2 (some .int) 1 := ⟨⟨kt_in 1312 (by decide +kernel) rfl, kt_in 85 (by decide +kernel) rfl, by decide +kernel⟩, kt_in 1310 (by decide +kernel) rfl, kt_in 1311 (by decide +kernel) rfl⟩
def fn_P_meant (c : zw_Ct) (i1 : Int32) : Option (Int32 × zw_Ct) :=
  (if (¬ (fn_Held_isWord 3 c i1) = 0) then
  ((fn_Ledger_tellMeant c i1).bind fun (r6, c7) =>
  some ((r6 : Int32), c7))
  else
  (some (((-1) : Int32), c))).bind fun (v2, c3) =>
  some (v2, c3)
set_option maxRecDepth 100000 in
theorem km_P_meant {l : Launch} {g : zw_G} {rr : zw_RR} {sh : zw_Sh} {c : zw_Ct} {i1 : Int32} {r : Int32} {c2 : zw_Ct} (hS : zw_Ok 0 101 sh rr) (hsem : fn_P_meant c i1 = some (r, c2)) : zw_Met l g y_P_meant b_P_meant 2 (some .int) 4 rr sh [.ref 0, .int i1] c (some (.int r)) c2 := by
  unfold fn_P_meant at hsem
  refine zw_Met.of (by decide +kernel) (Nat.le_of_ble_eq_true rfl) (fun p e s m args below meth cd X => ?_)
  refine zw_eL (L2 := [some (.ref 0), some (.int i1)]) rfl ?_
  obtain ⟨⟨v2, c3⟩, hv2, hsv2⟩ := zw_bd hsem
  refine zw_terO (f := Value.int) (v := v2) (J := 27) (st2 := []) (c2 := c3) (fun jj => ?_) ?_
  · have hsem := hv2
    refine r_aload_n X (pc := 0) (i := 0) (zw_dg dk_P_meant 0 rfl) rfl rfl ?_
    refine r_getR X (pc := 1) (r := 3) ci_P (zo hS 0 rfl rfl) rfl (zr hS 0 1 rfl rfl) lk_P_29 (zw_dg dk_P_meant 1 rfl) ?_
    refine r_iload_n X (pc := 4) (i := 1) (zw_dg dk_P_meant 2 rfl) rfl rfl ?_
    refine r_callVi X (pc := 5) (As := [_]) (st := []) (km_Held_isWord (zho hS 3 rfl) rfl) ce_Held_isWord kw_1313 (zo hS 3 rfl rfl) rfl rfl ⟨Nat.le_of_ble_eq_true rfl, Nat.le_of_ble_eq_true rfl⟩ (Nat.le_of_ble_eq_true rfl) (zw_dg dk_P_meant 3 rfl) ?_
    refine r_if_eq X (pc := 8) (tgt := 26) (zw_dg dk_P_meant 4 rfl) (by decide) (fun q5 => ?_) (fun q5 => ?_)
    · --
      have p4 : ¬ (¬ (fn_Held_isWord 3 c i1) = 0) := (fun z => z q5)
      have hsem := zw_ifn p4 hsem
      refine r_iconst X (pc := 26) (v := (-1)) (zw_dg dk_P_meant 12 rfl) (by decide) ?_
      cases hsem; exact jj
    · --
      have p4 : (¬ (fn_Held_isWord 3 c i1) = 0) := q5
      have hsem := zw_ifp p4 hsem
      refine r_aload_n X (pc := 11) (i := 0) (zw_dg dk_P_meant 5 rfl) rfl rfl ?_
      refine r_getR X (pc := 12) (r := 69) ci_P (zo hS 0 rfl rfl) rfl (zr hS 0 11 rfl rfl) lk_P_96 (zw_dg dk_P_meant 6 rfl) ?_
      refine r_iload_n X (pc := 15) (i := 1) (zw_dg dk_P_meant 7 rfl) rfl rfl ?_
      refine r_aload_n X (pc := 16) (i := 0) (zw_dg dk_P_meant 8 rfl) rfl rfl ?_
      refine r_getR X (pc := 17) (r := 61) ci_P (zo hS 0 rfl rfl) rfl (zr hS 0 6 rfl rfl) lk_P_60 (zw_dg dk_P_meant 9 rfl) ?_
      obtain ⟨⟨r6, c7⟩, hr6_c7, hsem⟩ := zw_bd hsem
      refine r_callVi X (pc := 20) (As := [_, _]) (st := []) (km_Ledger_tellMeant hS hr6_c7) ce_Ledger_tellMeant kw_1314 (zo hS 69 rfl rfl) rfl rfl ⟨Nat.le_of_ble_eq_true rfl, Nat.le_of_ble_eq_true rfl⟩ (Nat.le_of_ble_eq_true rfl) (zw_dg dk_P_meant 10 rfl) ?_
      refine r_goto X (pc := 23) (tgt := 27) (zw_dg dk_P_meant 11 rfl) (by decide) ?_
      cases hsem; exact jj
  have hsem := hsv2
  obtain ⟨rfl, rfl⟩ := zw_in2 hsem
  exact r_iret X (pc := 27) rfl (zw_dg dk_P_meant 13 rfl)
def y_P_thinks : MethodName := ⟨R_P, "thinks", "(II)I"⟩
abbrev b_P_thinks : ByteArray := prog_1_method_52_code
def dl_P_thinks : List (Nat × Instr × Nat) := [(0, .aload_n 0, 1), (1, .getfield 53, 3), (4, .iload_n 1, 1), (5, .invokevirtual 163, 3), (8, .astore_n 3, 1), (9, .aload_n 3, 1), (10, .ifnull 14, 3), (13, .aload_n 0, 1), (14, .getfield 29, 3), (17, .iload_n 2, 1), (18, .invokevirtual 285, 3), (21, .ifCond .ne 5, 3), (24, .iconst (-1), 1), (25, .ireturn, 1), (26, .aload_n 0, 1), (27, .getfield 96, 3), (30, .aload_n 3, 1), (31, .iload_n 2, 1), (32, .aload_n 0, 1), (33, .getfield 60, 3), (36, .invokevirtual 358, 3), (39, .ireturn, 1)]
theorem dk_P_thinks : zw_dk b_P_thinks dl_P_thinks = true := by decide +kernel
theorem ce_P_thinks : zw_cev y_P_thinks b_P_thinks 4 (some .int) 2 := ⟨⟨kt_in 1322 (by decide +kernel) rfl, kt_in 85 (by decide +kernel) rfl, by decide +kernel⟩, kt_in 1320 (by decide +kernel) rfl, kt_in 1321 (by decide +kernel) rfl⟩
def fn_P_thinks (c : zw_Ct) (pay1 : Int32) (who2 : Int32) : Option (Int32 × zw_Ct) :=
  (fn_Pays_valuesOf c pay1).bind fun (r3, c4) =>
  if ((r3 = none) ∨ (¬ (¬ (fn_Held_hasPerson 3 c4 who2) = 0))) then
  (some ((-1), c4))
  else
  ((r3).bind fun a8 =>
  (fn_Ledger_tellThoughts c4 a8 who2).bind fun (r9, c10) =>
  some (r9, c10))
set_option maxRecDepth 100000 in
theorem km_P_thinks {l : Launch} {g : zw_G} {rr : zw_RR} {sh : zw_Sh} {c : zw_Ct} {pay1 : Int32} {who2 : Int32} {r : Int32} {c2 : zw_Ct} (hS : zw_Ok 0 101 sh rr) (hsem : fn_P_thinks c pay1 who2 = some (r, c2)) : zw_Met l g y_P_thinks b_P_thinks 4 (some .int) 6 rr sh [.ref 0, .int pay1, .int who2] c (some (.int r)) c2 := by
  unfold fn_P_thinks at hsem
  refine zw_Met.of (by decide +kernel) (Nat.le_of_ble_eq_true rfl) (fun p e s m args below meth cd X => ?_)
  refine zw_eL (L2 := [some (.ref 0), some (.int pay1), some (.int who2), none]) rfl ?_
  refine r_aload_n X (pc := 0) (i := 0) (zw_dg dk_P_thinks 0 rfl) rfl rfl ?_
  refine r_getR X (pc := 1) (r := 45) ci_P (zo hS 0 rfl rfl) rfl (zr hS 0 5 rfl rfl) lk_P_53 (zw_dg dk_P_thinks 1 rfl) ?_
  refine r_iload_n X (pc := 4) (i := 1) (zw_dg dk_P_thinks 2 rfl) rfl rfl ?_
  obtain ⟨⟨r3, c4⟩, hr3_c4, hsem⟩ := zw_bd hsem
  refine r_callVO X (pc := 5) (As := [_]) (st := []) (km_Pays_valuesOf hS hr3_c4) ce_Pays_valuesOf kw_705 (zo hS 45 rfl rfl) rfl rfl ⟨Nat.le_of_ble_eq_true rfl, Nat.le_of_ble_eq_true rfl⟩ (Nat.le_of_ble_eq_true rfl) (zw_dg dk_P_thinks 3 rfl) ?_
  refine r_astore_nO X (pc := 8) (i := 3) (zw_dg dk_P_thinks 4 rfl) rfl (by decide) rfl ?_
  refine zw_cnd (P := ((r3 = none) ∨ (¬ (¬ (fn_Held_hasPerson 3 c4 who2) = 0)))) (J1 := 24) (J2 := 26) (st2 := []) (fun jT jF => ?_) (fun p5 => ?_) (fun p5 => ?_)
  · --
    refine r_aload_nO X (pc := 9) (i := 3) (zw_dg dk_P_thinks 5 rfl) rfl rfl ?_
    refine r_ifnull X (pc := 10) (tgt := 24) (zw_dg dk_P_thinks 6 rfl) (by decide) (fun q6 => ?_) (fun q6 => ?_)
    · --
      exact jT (Or.inl q6)
    · --
      refine r_aload_n X (pc := 13) (i := 0) (zw_dg dk_P_thinks 7 rfl) rfl rfl ?_
      refine r_getR X (pc := 14) (r := 3) ci_P (zo hS 0 rfl rfl) rfl (zr hS 0 1 rfl rfl) lk_P_29 (zw_dg dk_P_thinks 8 rfl) ?_
      refine r_iload_n X (pc := 17) (i := 2) (zw_dg dk_P_thinks 9 rfl) rfl rfl ?_
      refine r_callVi X (pc := 18) (As := [_]) (st := []) (km_Held_hasPerson (zho hS 3 rfl) rfl) ce_Held_hasPerson kw_1051 (zo hS 3 rfl rfl) rfl rfl ⟨Nat.le_of_ble_eq_true rfl, Nat.le_of_ble_eq_true rfl⟩ (Nat.le_of_ble_eq_true rfl) (zw_dg dk_P_thinks 10 rfl) ?_
      refine r_if_ne X (pc := 21) (tgt := 26) (zw_dg dk_P_thinks 11 rfl) (by decide) (fun q7 => ?_) (fun q7 => ?_)
      · --
        exact jF (fun q => q.elim q6 (fun q => q q7))
      · --
        exact jT (Or.inr (fun z => z q7))
  · --
    have hsem := zw_ifp p5 hsem
    refine r_iconst X (pc := 24) (v := (-1)) (zw_dg dk_P_thinks 12 rfl) (by decide) ?_
    obtain ⟨rfl, rfl⟩ := zw_in2 hsem
    exact r_iret X (pc := 25) rfl (zw_dg dk_P_thinks 13 rfl)
  · --
    have hsem := zw_ifn p5 hsem
    refine r_aload_n X (pc := 26) (i := 0) (zw_dg dk_P_thinks 14 rfl) rfl rfl ?_
    refine r_getR X (pc := 27) (r := 69) ci_P (zo hS 0 rfl rfl) rfl (zr hS 0 11 rfl rfl) lk_P_96 (zw_dg dk_P_thinks 15 rfl) ?_
    refine r_aload_nO X (pc := 30) (i := 3) (zw_dg dk_P_thinks 16 rfl) rfl rfl ?_
    refine r_iload_n X (pc := 31) (i := 2) (zw_dg dk_P_thinks 17 rfl) rfl rfl ?_
    refine r_aload_n X (pc := 32) (i := 0) (zw_dg dk_P_thinks 18 rfl) rfl rfl ?_
    refine r_getR X (pc := 33) (r := 61) ci_P (zo hS 0 rfl rfl) rfl (zr hS 0 6 rfl rfl) lk_P_60 (zw_dg dk_P_thinks 19 rfl) ?_
    obtain ⟨a8, ha8, hs_a8⟩ := zw_bd hsem
    subst ha8
    have hsem := hs_a8
    obtain ⟨⟨r9, c10⟩, hr9_c10, hsem⟩ := zw_bd hsem
    refine r_callVi X (pc := 36) (As := [_, _, _]) (st := []) (km_Ledger_tellThoughts hS hr9_c10) ce_Ledger_tellThoughts kw_1323 (zo hS 69 rfl rfl) rfl rfl ⟨Nat.le_of_ble_eq_true rfl, Nat.le_of_ble_eq_true rfl⟩ (Nat.le_of_ble_eq_true rfl) (zw_dg dk_P_thinks 20 rfl) ?_
    obtain ⟨rfl, rfl⟩ := zw_in2 hsem
    exact r_iret X (pc := 39) rfl (zw_dg dk_P_thinks 21 rfl)
def y_P_keep : MethodName := ⟨R_P, "keep", "(I)Z"⟩
abbrev b_P_keep : ByteArray := prog_1_method_53_code
def dl_P_keep : List (Nat × Instr × Nat) := [(0, .iload_n 1, 1), (1, .iconst 0, 1), (2, .iconst 2, 1), (3, .invokestatic 100, 3), (6, .ifCond .ne 5, 3), (9, .iconst 0, 1), (10, .ireturn, 1), (11, .aload_n 0, 1), (12, .getfield 33, 3), (15, .iload_n 1, 1), (16, .aaload, 1), (17, .aload_n 0, 1), (18, .getfield 29, 3), (21, .invokevirtual 361, 3), (24, .aload_n 0, 1), (25, .getfield 37, 3), (28, .iload_n 1, 1), (29, .iconst 1, 1), (30, .bastore, 1), (31, .iconst 1, 1), (32, .ireturn, 1)]
theorem dk_P_keep : zw_dk b_P_keep dl_P_keep = true := by decide +kernel
theorem ce_P_keep : zw_cev y_P_keep b_P_keep 2 (some .boolean) 1 := ⟨⟨kt_in 1337 (by decide +kernel) rfl, kt_in 85 (by decide +kernel) rfl, by decide +kernel⟩, kt_in 1335 (by decide +kernel) rfl, kt_in 1336 (by decide +kernel) rfl⟩
def fn_P_keep (c : zw_Ct) (i1 : Int32) : Option (Int32 × zw_Ct) :=
  if (¬ (¬ (fn_P_within i1 0 2) = 0)) then
  (some (0, c))
  else
  ((zw_gr 15 3 8 i1).bind fun r4 =>
  (fn_Held_copy r4 c 3).bind fun c5 =>
  (zw_uI 3 c5 39 i1 1).bind fun c6 =>
  some (1, c6))
set_option maxRecDepth 100000 in
theorem km_P_keep {l : Launch} {g : zw_G} {rr : zw_RR} {sh : zw_Sh} {c : zw_Ct} {i1 : Int32} {r : Int32} {c2 : zw_Ct} (hS : zw_Ok 0 101 sh rr) (hsem : fn_P_keep c i1 = some (r, c2)) : zw_Met l g y_P_keep b_P_keep 2 (some .boolean) 2 rr sh [.ref 0, .int i1] c (some (.int r)) c2 := by
  unfold fn_P_keep at hsem
  refine zw_Met.of (by decide +kernel) (Nat.le_of_ble_eq_true rfl) (fun p e s m args below meth cd X => ?_)
  refine zw_eL (L2 := [some (.ref 0), some (.int i1)]) rfl ?_
  refine r_iload_n X (pc := 0) (i := 1) (zw_dg dk_P_keep 0 rfl) rfl rfl ?_
  refine r_iconst X (pc := 1) (v := 0) (zw_dg dk_P_keep 1 rfl) (by decide) ?_
  refine r_iconst X (pc := 2) (v := 2) (zw_dg dk_P_keep 2 rfl) (by decide) ?_
  refine r_callSi X (pc := 3) (As := [_, _, _]) (st := []) (km_P_within hS rfl) ce_P_within kw_492 rfl ⟨Nat.le_of_ble_eq_true rfl, Nat.le_of_ble_eq_true rfl⟩ (Nat.le_of_ble_eq_true rfl) (zw_dg dk_P_keep 3 rfl) ?_
  refine r_if_ne X (pc := 6) (tgt := 11) (zw_dg dk_P_keep 4 rfl) (by decide) (fun q3 => ?_) (fun q3 => ?_)
  · --
    have p2 : ¬ (¬ (¬ (fn_P_within i1 0 2) = 0)) := (fun q => q q3)
    have hsem := zw_ifn p2 hsem
    refine r_aload_n X (pc := 11) (i := 0) (zw_dg dk_P_keep 7 rfl) rfl rfl ?_
    refine r_getR X (pc := 12) (r := 14) ci_P (zo hS 0 rfl rfl) rfl (zr hS 0 2 rfl rfl) lk_P_33 (zw_dg dk_P_keep 8 rfl) ?_
    refine r_iload_n X (pc := 15) (i := 1) (zw_dg dk_P_keep 9 rfl) rfl rfl ?_
    obtain ⟨r4, hr4, hsem⟩ := zw_bd hsem
    refine r_aald X (pc := 16) (t := 6) (zo hS 14 rfl rfl) (by decide) rfl rfl (zw_gr_in hr4) (zgr hS 14 hr4 rfl) (zw_dg dk_P_keep 10 rfl) ?_
    refine r_aload_n X (pc := 17) (i := 0) (zw_dg dk_P_keep 11 rfl) rfl rfl ?_
    refine r_getR X (pc := 18) (r := 3) ci_P (zo hS 0 rfl rfl) rfl (zr hS 0 1 rfl rfl) lk_P_29 (zw_dg dk_P_keep 12 rfl) ?_
    obtain ⟨c5, hc5, hsem⟩ := zw_bd hsem
    refine r_callVv X (pc := 21) (As := [_]) (st := []) (km_Held_copy (zhk hS hr4) (zho hS 3 rfl) hc5) ce_Held_copy kw_1338 (zh (zhk hS hr4) 0 rfl) rfl rfl ⟨Nat.le_of_ble_eq_true rfl, Nat.le_of_ble_eq_true rfl⟩ (Nat.le_of_ble_eq_true rfl) (zw_dg dk_P_keep 13 rfl) ?_
    refine r_aload_n X (pc := 24) (i := 0) (zw_dg dk_P_keep 14 rfl) rfl rfl ?_
    refine r_getR X (pc := 25) (r := 39) ci_P (zo hS 0 rfl rfl) rfl (zr hS 0 3 rfl rfl) lk_P_37 (zw_dg dk_P_keep 15 rfl) ?_
    refine r_iload_n X (pc := 28) (i := 1) (zw_dg dk_P_keep 16 rfl) rfl rfl ?_
    refine r_iconst X (pc := 29) (v := 1) (zw_dg dk_P_keep 17 rfl) (by decide) ?_
    obtain ⟨c6, hc6, hsem⟩ := zw_bd hsem
    refine r_zast X (pc := 30) (zo hS 39 rfl rfl) (by rw [(zw_bzn (by decide)).2.2]; exact hc6) (zw_dg dk_P_keep 18 rfl) ?_
    refine r_iconst X (pc := 31) (v := 1) (zw_dg dk_P_keep 19 rfl) (by decide) ?_
    have hbz : (1 : Int32) = 0 ∨ (1 : Int32) = 1 := (by decide)
    obtain ⟨rfl, rfl⟩ := zw_in2 hsem
    exact r_zret X (pc := 32) rfl (zw_bzn hbz).1 (zw_dg dk_P_keep 20 rfl)
  · --
    have p2 : (¬ (¬ (fn_P_within i1 0 2) = 0)) := (fun z => z q3)
    have hsem := zw_ifp p2 hsem
    refine r_iconst X (pc := 9) (v := 0) (zw_dg dk_P_keep 5 rfl) (by decide) ?_
    have hbz : (0 : Int32) = 0 ∨ (0 : Int32) = 1 := (by decide)
    obtain ⟨rfl, rfl⟩ := zw_in2 hsem
    exact r_zret X (pc := 10) rfl (zw_bzn hbz).1 (zw_dg dk_P_keep 6 rfl)
def y_P_again : MethodName := ⟨R_P, "again", "(I)Z"⟩
abbrev b_P_again : ByteArray := prog_1_method_54_code
def dl_P_again : List (Nat × Instr × Nat) := [(0, .iload_n 1, 1), (1, .iconst 0, 1), (2, .iconst 2, 1), (3, .invokestatic 100, 3), (6, .ifCond .eq 12, 3), (9, .aload_n 0, 1), (10, .getfield 37, 3), (13, .iload_n 1, 1), (14, .baload, 1), (15, .ifCond .ne 5, 3), (18, .iconst 0, 1), (19, .ireturn, 1), (20, .aload_n 0, 1), (21, .getfield 29, 3), (24, .aload_n 0, 1), (25, .getfield 33, 3), (28, .iload_n 1, 1), (29, .aaload, 1), (30, .invokevirtual 361, 3), (33, .aload_n 0, 1), (34, .getfield 53, 3), (37, .invokevirtual 144, 3), (40, .iconst 1, 1), (41, .ireturn, 1)]
theorem dk_P_again : zw_dk b_P_again dl_P_again = true := by decide +kernel
theorem ce_P_again : zw_cev y_P_again b_P_again 2 (some .boolean) 1 := ⟨⟨kt_in 1346 (by decide +kernel) rfl, kt_in 85 (by decide +kernel) rfl, by decide +kernel⟩, kt_in 1344 (by decide +kernel) rfl, kt_in 1345 (by decide +kernel) rfl⟩
def fn_P_again (c : zw_Ct) (i1 : Int32) : Option (Int32 × zw_Ct) :=
  if (¬ (¬ (fn_P_within i1 0 2) = 0)) then
  (some (0, c))
  else
  ((zw_aI 3 c 39 i1).bind fun x4 =>
  if (¬ (¬ x4 = 0)) then
  (some (0, c))
  else
  ((zw_gr 15 3 8 i1).bind fun r7 =>
  (fn_Held_copy 3 c r7).bind fun c8 =>
  (fn_Pays_turnChanged c8).bind fun c9 =>
  some (1, c9)))
set_option maxRecDepth 100000 in
theorem km_P_again {l : Launch} {g : zw_G} {rr : zw_RR} {sh : zw_Sh} {c : zw_Ct} {i1 : Int32} {r : Int32} {c2 : zw_Ct} (hS : zw_Ok 0 101 sh rr) (hsem : fn_P_again c i1 = some (r, c2)) : zw_Met l g y_P_again b_P_again 2 (some .boolean) 2 rr sh [.ref 0, .int i1] c (some (.int r)) c2 := by
  unfold fn_P_again at hsem
  refine zw_Met.of (by decide +kernel) (Nat.le_of_ble_eq_true rfl) (fun p e s m args below meth cd X => ?_)
  refine zw_eL (L2 := [some (.ref 0), some (.int i1)]) rfl ?_
  refine r_iload_n X (pc := 0) (i := 1) (zw_dg dk_P_again 0 rfl) rfl rfl ?_
  refine r_iconst X (pc := 1) (v := 0) (zw_dg dk_P_again 1 rfl) (by decide) ?_
  refine r_iconst X (pc := 2) (v := 2) (zw_dg dk_P_again 2 rfl) (by decide) ?_
  refine r_callSi X (pc := 3) (As := [_, _, _]) (st := []) (km_P_within hS rfl) ce_P_within kw_492 rfl ⟨Nat.le_of_ble_eq_true rfl, Nat.le_of_ble_eq_true rfl⟩ (Nat.le_of_ble_eq_true rfl) (zw_dg dk_P_again 3 rfl) ?_
  refine r_if_eq X (pc := 6) (tgt := 18) (zw_dg dk_P_again 4 rfl) (by decide) (fun q3 => ?_) (fun q3 => ?_)
  · --
    have p2 : (¬ (¬ (fn_P_within i1 0 2) = 0)) := (fun z => z q3)
    have hsem := zw_ifp p2 hsem
    refine r_iconst X (pc := 18) (v := 0) (zw_dg dk_P_again 10 rfl) (by decide) ?_
    have hbz : (0 : Int32) = 0 ∨ (0 : Int32) = 1 := (by decide)
    obtain ⟨rfl, rfl⟩ := zw_in2 hsem
    exact r_zret X (pc := 19) rfl (zw_bzn hbz).1 (zw_dg dk_P_again 11 rfl)
  · --
    have p2 : ¬ (¬ (¬ (fn_P_within i1 0 2) = 0)) := (fun q => q q3)
    have hsem := zw_ifn p2 hsem
    refine r_aload_n X (pc := 9) (i := 0) (zw_dg dk_P_again 5 rfl) rfl rfl ?_
    refine r_getR X (pc := 10) (r := 39) ci_P (zo hS 0 rfl rfl) rfl (zr hS 0 3 rfl rfl) lk_P_37 (zw_dg dk_P_again 6 rfl) ?_
    refine r_iload_n X (pc := 13) (i := 1) (zw_dg dk_P_again 7 rfl) rfl rfl ?_
    obtain ⟨x4, hx4, hsem⟩ := zw_bd hsem
    refine r_zald X (pc := 14) (zo hS 39 rfl rfl) hx4 (zw_dg dk_P_again 8 rfl) ?_
    refine r_if_ne X (pc := 15) (tgt := 20) (zw_dg dk_P_again 9 rfl) (by decide) (fun q6 => ?_) (fun q6 => ?_)
    · --
      have p5 : ¬ (¬ (¬ x4 = 0)) := (fun q => q q6)
      have hsem := zw_ifn p5 hsem
      refine r_aload_n X (pc := 20) (i := 0) (zw_dg dk_P_again 12 rfl) rfl rfl ?_
      refine r_getR X (pc := 21) (r := 3) ci_P (zo hS 0 rfl rfl) rfl (zr hS 0 1 rfl rfl) lk_P_29 (zw_dg dk_P_again 13 rfl) ?_
      refine r_aload_n X (pc := 24) (i := 0) (zw_dg dk_P_again 14 rfl) rfl rfl ?_
      refine r_getR X (pc := 25) (r := 14) ci_P (zo hS 0 rfl rfl) rfl (zr hS 0 2 rfl rfl) lk_P_33 (zw_dg dk_P_again 15 rfl) ?_
      refine r_iload_n X (pc := 28) (i := 1) (zw_dg dk_P_again 16 rfl) rfl rfl ?_
      obtain ⟨r7, hr7, hsem⟩ := zw_bd hsem
      refine r_aald X (pc := 29) (t := 6) (zo hS 14 rfl rfl) (by decide) rfl rfl (zw_gr_in hr7) (zgr hS 14 hr7 rfl) (zw_dg dk_P_again 17 rfl) ?_
      obtain ⟨c8, hc8, hsem⟩ := zw_bd hsem
      refine r_callVv X (pc := 30) (As := [_]) (st := []) (km_Held_copy (zho hS 3 rfl) (zhk hS hr7) hc8) ce_Held_copy kw_1338 (zo hS 3 rfl rfl) rfl rfl ⟨Nat.le_of_ble_eq_true rfl, Nat.le_of_ble_eq_true rfl⟩ (Nat.le_of_ble_eq_true rfl) (zw_dg dk_P_again 18 rfl) ?_
      refine r_aload_n X (pc := 33) (i := 0) (zw_dg dk_P_again 19 rfl) rfl rfl ?_
      refine r_getR X (pc := 34) (r := 45) ci_P (zo hS 0 rfl rfl) rfl (zr hS 0 5 rfl rfl) lk_P_53 (zw_dg dk_P_again 20 rfl) ?_
      obtain ⟨c9, hc9, hsem⟩ := zw_bd hsem
      refine r_callVv X (pc := 37) (As := []) (st := []) (km_Pays_turnChanged hS hc9) ce_Pays_turnChanged kw_528 (zo hS 45 rfl rfl) rfl rfl ⟨Nat.le_of_ble_eq_true rfl, Nat.le_of_ble_eq_true rfl⟩ (Nat.le_of_ble_eq_true rfl) (zw_dg dk_P_again 21 rfl) ?_
      refine r_iconst X (pc := 40) (v := 1) (zw_dg dk_P_again 22 rfl) (by decide) ?_
      have hbz : (1 : Int32) = 0 ∨ (1 : Int32) = 1 := (by decide)
      obtain ⟨rfl, rfl⟩ := zw_in2 hsem
      exact r_zret X (pc := 41) rfl (zw_bzn hbz).1 (zw_dg dk_P_again 23 rfl)
    · --
      have p5 : (¬ (¬ x4 = 0)) := (fun z => z q6)
      have hsem := zw_ifp p5 hsem
      refine r_iconst X (pc := 18) (v := 0) (zw_dg dk_P_again 10 rfl) (by decide) ?_
      have hbz : (0 : Int32) = 0 ∨ (0 : Int32) = 1 := (by decide)
      obtain ⟨rfl, rfl⟩ := zw_in2 hsem
      exact r_zret X (pc := 19) rfl (zw_bzn hbz).1 (zw_dg dk_P_again 11 rfl)
def y_P_count : MethodName := ⟨R_P, "count", "(I)I"⟩
abbrev b_P_count : ByteArray := prog_1_method_55_code
def dl_P_count : List (Nat × Instr × Nat) := [(0, .iload_n 1, 1), (1, .tableswitch 123 0 8 #[51, 59, 67, 75, 83, 91, 99, 107, 115], 51), (52, .aload_n 0, 1), (53, .getfield 25, 3), (56, .getfield 220, 3), (59, .ireturn, 1), (60, .aload_n 0, 1), (61, .getfield 25, 3), (64, .getfield 187, 3), (67, .ireturn, 1), (68, .aload_n 0, 1), (69, .getfield 25, 3), (72, .getfield 114, 3), (75, .ireturn, 1), (76, .aload_n 0, 1), (77, .getfield 53, 3), (80, .invokevirtual 365, 3), (83, .ireturn, 1), (84, .aload_n 0, 1), (85, .getfield 29, 3), (88, .getfield 276, 3), (91, .ireturn, 1), (92, .aload_n 0, 1), (93, .getfield 29, 3), (96, .getfield 339, 3), (99, .ireturn, 1), (100, .aload_n 0, 1), (101, .getfield 29, 3), (104, .getfield 369, 3), (107, .ireturn, 1), (108, .aload_n 0, 1), (109, .getfield 60, 3), (112, .getfield 372, 3), (115, .ireturn, 1), (116, .aload_n 0, 1), (117, .getfield 44, 3), (120, .getfield 373, 3), (123, .ireturn, 1), (124, .iconst (-1), 1), (125, .ireturn, 1)]
theorem dk_P_count : zw_dk b_P_count dl_P_count = true := by decide +kernel
theorem ce_P_count : zw_cev y_P_count b_P_count 2 (some .int) 1 := ⟨⟨kt_in 1350 (by decide +kernel) rfl, kt_in 85 (by decide +kernel) rfl, by decide +kernel⟩, kt_in 1348 (by decide +kernel) rfl, kt_in 1349 (by decide +kernel) rfl⟩
def fn_P_count (c : zw_Ct) (what1 : Int32) : Option Int32 :=
  if what1 = 0 then
  (some (c.1 1 0))
  else
  (if what1 = 1 then
  (some (c.1 1 1))
  else
  (if what1 = 2 then
  (some (c.1 1 2))
  else
  (if what1 = 3 then
  ((fn_Pays_bits c).bind fun r6 =>
  some r6)
  else
  (if what1 = 4 then
  (some (c.1 3 2))
  else
  (if what1 = 5 then
  (some (c.1 3 6))
  else
  (if what1 = 6 then
  (some (c.1 3 9))
  else
  (if what1 = 7 then
  (some (c.1 61 1))
  else
  (if what1 = 8 then
  (some (c.1 40 1))
  else
  (some (-1))))))))))
set_option maxRecDepth 100000 in
theorem km_P_count {l : Launch} {g : zw_G} {rr : zw_RR} {sh : zw_Sh} {c : zw_Ct} {what1 : Int32} {r : Int32} (hS : zw_Ok 0 101 sh rr) (hsem : fn_P_count c what1 = some r) : zw_Met l g y_P_count b_P_count 2 (some .int) 2 rr sh [.ref 0, .int what1] c (some (.int r)) c := by
  unfold fn_P_count at hsem
  refine zw_Met.of (by decide +kernel) (Nat.le_of_ble_eq_true rfl) (fun p e s m args below meth cd X => ?_)
  refine zw_eL (L2 := [some (.ref 0), some (.int what1)]) rfl ?_
  refine r_iload_n X (pc := 0) (i := 1) (zw_dg dk_P_count 0 rfl) rfl rfl ?_
  by_cases k2 : what1 = 0
  · have hsem := zw_ifp k2 hsem
    refine zw_eqtI k2 ?_
    refine r_tableIn X (pc := 1) (tgt := 52) (off := 51) (zw_dg dk_P_count 1 rfl) (by decide) (by decide) (by decide) (by decide) ?_
    refine r_aload_n X (pc := 52) (i := 0) (zw_dg dk_P_count 2 rfl) rfl rfl ?_
    refine r_getR X (pc := 53) (r := 1) ci_P (zo hS 0 rfl rfl) rfl (zr hS 0 0 rfl rfl) lk_P_25 (zw_dg dk_P_count 3 rfl) ?_
    refine r_getI X (pc := 56) ci_Sayings (zo hS 1 rfl rfl) rfl lk_P_220 (zw_dg dk_P_count 4 rfl) ?_
    cases hsem
    exact r_iret X (pc := 59) rfl (zw_dg dk_P_count 5 rfl)
  · have hsem := zw_ifn k2 hsem
    by_cases k3 : what1 = 1
    · have hsem := zw_ifp k3 hsem
      refine zw_eqtI k3 ?_
      refine r_tableIn X (pc := 1) (tgt := 60) (off := 59) (zw_dg dk_P_count 1 rfl) (by decide) (by decide) (by decide) (by decide) ?_
      refine r_aload_n X (pc := 60) (i := 0) (zw_dg dk_P_count 6 rfl) rfl rfl ?_
      refine r_getR X (pc := 61) (r := 1) ci_P (zo hS 0 rfl rfl) rfl (zr hS 0 0 rfl rfl) lk_P_25 (zw_dg dk_P_count 7 rfl) ?_
      refine r_getI X (pc := 64) ci_Sayings (zo hS 1 rfl rfl) rfl lk_P_187 (zw_dg dk_P_count 8 rfl) ?_
      cases hsem
      exact r_iret X (pc := 67) rfl (zw_dg dk_P_count 9 rfl)
    · have hsem := zw_ifn k3 hsem
      by_cases k4 : what1 = 2
      · have hsem := zw_ifp k4 hsem
        refine zw_eqtI k4 ?_
        refine r_tableIn X (pc := 1) (tgt := 68) (off := 67) (zw_dg dk_P_count 1 rfl) (by decide) (by decide) (by decide) (by decide) ?_
        refine r_aload_n X (pc := 68) (i := 0) (zw_dg dk_P_count 10 rfl) rfl rfl ?_
        refine r_getR X (pc := 69) (r := 1) ci_P (zo hS 0 rfl rfl) rfl (zr hS 0 0 rfl rfl) lk_P_25 (zw_dg dk_P_count 11 rfl) ?_
        refine r_getI X (pc := 72) ci_Sayings (zo hS 1 rfl rfl) rfl lk_P_114 (zw_dg dk_P_count 12 rfl) ?_
        cases hsem
        exact r_iret X (pc := 75) rfl (zw_dg dk_P_count 13 rfl)
      · have hsem := zw_ifn k4 hsem
        by_cases k5 : what1 = 3
        · have hsem := zw_ifp k5 hsem
          refine zw_eqtI k5 ?_
          refine r_tableIn X (pc := 1) (tgt := 76) (off := 75) (zw_dg dk_P_count 1 rfl) (by decide) (by decide) (by decide) (by decide) ?_
          refine r_aload_n X (pc := 76) (i := 0) (zw_dg dk_P_count 14 rfl) rfl rfl ?_
          refine r_getR X (pc := 77) (r := 45) ci_P (zo hS 0 rfl rfl) rfl (zr hS 0 5 rfl rfl) lk_P_53 (zw_dg dk_P_count 15 rfl) ?_
          obtain ⟨r6, hr6, hsem⟩ := zw_bd hsem
          refine r_callVi X (pc := 80) (As := []) (st := []) (km_Pays_bits hS hr6) ce_Pays_bits kw_1351 (zo hS 45 rfl rfl) rfl rfl ⟨Nat.le_of_ble_eq_true rfl, Nat.le_of_ble_eq_true rfl⟩ (Nat.le_of_ble_eq_true rfl) (zw_dg dk_P_count 16 rfl) ?_
          cases hsem
          exact r_iret X (pc := 83) rfl (zw_dg dk_P_count 17 rfl)
        · have hsem := zw_ifn k5 hsem
          by_cases k7 : what1 = 4
          · have hsem := zw_ifp k7 hsem
            refine zw_eqtI k7 ?_
            refine r_tableIn X (pc := 1) (tgt := 84) (off := 83) (zw_dg dk_P_count 1 rfl) (by decide) (by decide) (by decide) (by decide) ?_
            refine r_aload_n X (pc := 84) (i := 0) (zw_dg dk_P_count 18 rfl) rfl rfl ?_
            refine r_getR X (pc := 85) (r := 3) ci_P (zo hS 0 rfl rfl) rfl (zr hS 0 1 rfl rfl) lk_P_29 (zw_dg dk_P_count 19 rfl) ?_
            refine r_getI X (pc := 88) ci_Held (zo hS 3 rfl rfl) rfl lk_P_276 (zw_dg dk_P_count 20 rfl) ?_
            cases hsem
            exact r_iret X (pc := 91) rfl (zw_dg dk_P_count 21 rfl)
          · have hsem := zw_ifn k7 hsem
            by_cases k8 : what1 = 5
            · have hsem := zw_ifp k8 hsem
              refine zw_eqtI k8 ?_
              refine r_tableIn X (pc := 1) (tgt := 92) (off := 91) (zw_dg dk_P_count 1 rfl) (by decide) (by decide) (by decide) (by decide) ?_
              refine r_aload_n X (pc := 92) (i := 0) (zw_dg dk_P_count 22 rfl) rfl rfl ?_
              refine r_getR X (pc := 93) (r := 3) ci_P (zo hS 0 rfl rfl) rfl (zr hS 0 1 rfl rfl) lk_P_29 (zw_dg dk_P_count 23 rfl) ?_
              refine r_getI X (pc := 96) ci_Held (zo hS 3 rfl rfl) rfl lk_P_339 (zw_dg dk_P_count 24 rfl) ?_
              cases hsem
              exact r_iret X (pc := 99) rfl (zw_dg dk_P_count 25 rfl)
            · have hsem := zw_ifn k8 hsem
              by_cases k9 : what1 = 6
              · have hsem := zw_ifp k9 hsem
                refine zw_eqtI k9 ?_
                refine r_tableIn X (pc := 1) (tgt := 100) (off := 99) (zw_dg dk_P_count 1 rfl) (by decide) (by decide) (by decide) (by decide) ?_
                refine r_aload_n X (pc := 100) (i := 0) (zw_dg dk_P_count 26 rfl) rfl rfl ?_
                refine r_getR X (pc := 101) (r := 3) ci_P (zo hS 0 rfl rfl) rfl (zr hS 0 1 rfl rfl) lk_P_29 (zw_dg dk_P_count 27 rfl) ?_
                refine r_getI X (pc := 104) ci_Held (zo hS 3 rfl rfl) rfl lk_P_369 (zw_dg dk_P_count 28 rfl) ?_
                cases hsem
                exact r_iret X (pc := 107) rfl (zw_dg dk_P_count 29 rfl)
              · have hsem := zw_ifn k9 hsem
                by_cases k10 : what1 = 7
                · have hsem := zw_ifp k10 hsem
                  refine zw_eqtI k10 ?_
                  refine r_tableIn X (pc := 1) (tgt := 108) (off := 107) (zw_dg dk_P_count 1 rfl) (by decide) (by decide) (by decide) (by decide) ?_
                  refine r_aload_n X (pc := 108) (i := 0) (zw_dg dk_P_count 30 rfl) rfl rfl ?_
                  refine r_getR X (pc := 109) (r := 61) ci_P (zo hS 0 rfl rfl) rfl (zr hS 0 6 rfl rfl) lk_P_60 (zw_dg dk_P_count 31 rfl) ?_
                  refine r_getI X (pc := 112) ci_Row (zo hS 61 rfl rfl) rfl lk_P_372 (zw_dg dk_P_count 32 rfl) ?_
                  cases hsem
                  exact r_iret X (pc := 115) rfl (zw_dg dk_P_count 33 rfl)
                · have hsem := zw_ifn k10 hsem
                  by_cases k11 : what1 = 8
                  · have hsem := zw_ifp k11 hsem
                    refine zw_eqtI k11 ?_
                    refine r_tableIn X (pc := 1) (tgt := 116) (off := 115) (zw_dg dk_P_count 1 rfl) (by decide) (by decide) (by decide) (by decide) ?_
                    refine r_aload_n X (pc := 116) (i := 0) (zw_dg dk_P_count 34 rfl) rfl rfl ?_
                    refine r_getR X (pc := 117) (r := 40) ci_P (zo hS 0 rfl rfl) rfl (zr hS 0 4 rfl rfl) lk_P_44 (zw_dg dk_P_count 35 rfl) ?_
                    refine r_getI X (pc := 120) ci_Text (zo hS 40 rfl rfl) rfl lk_P_373 (zw_dg dk_P_count 36 rfl) ?_
                    cases hsem
                    exact r_iret X (pc := 123) rfl (zw_dg dk_P_count 37 rfl)
                  · have hsem := zw_ifn k11 hsem
                    have e0 := lv_neT (fun z => k2 z) (show (0 : Int32).toInt = 0 from by decide)
                    have e1 := lv_neT (fun z => k3 z) (show (1 : Int32).toInt = 1 from by decide)
                    have e2 := lv_neT (fun z => k4 z) (show (2 : Int32).toInt = 2 from by decide)
                    have e3 := lv_neT (fun z => k5 z) (show (3 : Int32).toInt = 3 from by decide)
                    have e4 := lv_neT (fun z => k7 z) (show (4 : Int32).toInt = 4 from by decide)
                    have e5 := lv_neT (fun z => k8 z) (show (5 : Int32).toInt = 5 from by decide)
                    have e6 := lv_neT (fun z => k9 z) (show (6 : Int32).toInt = 6 from by decide)
                    have e7 := lv_neT (fun z => k10 z) (show (7 : Int32).toInt = 7 from by decide)
                    have e8 := lv_neT (fun z => k11 z) (show (8 : Int32).toInt = 8 from by decide)
                    refine r_tableOut X (pc := 1) (tgt := 124) (zw_dg dk_P_count 1 rfl) (by omega) (by decide) ?_
                    refine r_iconst X (pc := 124) (v := (-1)) (zw_dg dk_P_count 38 rfl) (by decide) ?_
                    cases hsem
                    exact r_iret X (pc := 125) rfl (zw_dg dk_P_count 39 rfl)
