/-! PaidForThinkingModel: names, functions, contracts (by program: wip/whole/gen) -/
def y_M_pay : MethodName := ⟨R_M, "pay", "(I)I"⟩
abbrev b_M_pay : ByteArray := prog_14_method_28_code
def dl_M_pay : List (Nat × Instr × Nat) := [(0, .aload_n 0, 1), (1, .iconst 0, 1), (2, .putfield 97, 3), (5, .aload_n 0, 1), (6, .getfield 166, 3), (9, .istore_n 2, 1), (10, .aload_n 0, 1), (11, .iconst 0, 1), (12, .putfield 166, 3), (15, .iload_n 1, 1), (16, .i2l, 1), (17, .lconst 0, 1), (18, .ldc2_w 157, 3), (21, .invokestatic 120, 3), (24, .ifCond .ne 6, 3), (27, .bipush (-100), 2), (29, .ireturn, 1), (30, .aload_n 0, 1), (31, .aload_n 0, 1), (32, .getfield 23, 3), (35, .putfield 175, 3), (38, .aload_n 0, 1), (39, .iload_n 2, 1), (40, .putfield 172, 3), (43, .aload_n 0, 1), (44, .iconst 0, 1), (45, .putfield 169, 3), (48, .aload_n 0, 1), (49, .iconst (-1), 1), (50, .putfield 178, 3), (53, .aload_n 0, 1), (54, .iconst (-1), 1), (55, .putfield 212, 3), (58, .iload_n 2, 1), (59, .ifCond .le 35, 3), (62, .aload_n 0, 1), (63, .iconst 0, 1), (64, .invokevirtual 202, 3), (67, .pop, 1), (68, .aload_n 0, 1), (69, .getfield 169, 3), (72, .iload_n 2, 1), (73, .if_icmp .ge 7, 3), (76, .aload_n 0, 1), (77, .invokevirtual 205, 3), (80, .aload_n 0, 1), (81, .invokevirtual 181, 3), (84, .ifCond .ne 10, 3), (87, .iconst (-1), 1), (88, .aload_n 0, 1), (89, .getfield 178, 3), (92, .isub, 1), (93, .ireturn, 1), (94, .iconst 0, 1), (95, .istore_n 3, 1), (96, .iload_n 3, 1), (97, .iload_n 2, 1), (98, .if_icmp .ge 23, 3), (101, .aload_n 0, 1), (102, .getfield 33, 3), (105, .iload_n 1, 1), (106, .aaload, 1), (107, .iload_n 3, 1), (108, .aload_n 0, 1), (109, .getfield 23, 3), (112, .iload_n 3, 1), (113, .baload, 1), (114, .bastore, 1), (115, .iinc 3 1, 3), (118, .goto (-22), 3), (121, .aload_n 0, 1), (122, .getfield 36, 3), (125, .iload_n 1, 1), (126, .iload_n 2, 1), (127, .iastore, 1), (128, .aload_n 0, 1), (129, .getfield 39, 3), (132, .iload_n 1, 1), (133, .iconst 0, 1), (134, .bastore, 1), (135, .iconst 0, 1), (136, .ireturn, 1)]
theorem dk_M_pay : zw_dk b_M_pay dl_M_pay = true := by decide +kernel
theorem ce_M_pay : zw_cev y_M_pay b_M_pay 4 (some .int) 1 := ⟨⟨kt_in 1645 (by decide +kernel) rfl, kt_in 98 (by decide +kernel) rfl, by decide +kernel⟩, kt_in 1643 (by decide +kernel) rfl, kt_in 1644 (by decide +kernel) rfl⟩
def fn_M_pay_l1 (n4 : Int32) (i1 : Int32) : Int32 × zw_Ct → Option ((zw_Ct) ⊕ (Int32 × zw_Ct)) := fun (k15, c16) =>
  if (k15 < n4) then
  ((zw_gr 77 4 1 i1).bind fun r21 =>
  (zw_aI 80 c16 74 k15).bind fun x22 =>
  (zw_eI SH 2 c16 r21 k15 (vp_nar .byte x22)).bind fun c23 =>
  some (.inr ((k15 + 1), c23)))
  else
  (some (.inl c16))
def fn_M_pay_l2 (n4 : Int32) (i1 : Int32) : Int32 × zw_Ct → Option ((zw_Ct) ⊕ (Int32 × zw_Ct)) := fun (k34, c35) =>
  if (k34 < n4) then
  ((zw_gr 77 4 1 i1).bind fun r40 =>
  (zw_aI 80 c35 74 k34).bind fun x41 =>
  (zw_eI SH 2 c35 r40 k34 (vp_nar .byte x41)).bind fun c42 =>
  some (.inr ((k34 + 1), c42)))
  else
  (some (.inl c35))
def fn_M_pay (c : zw_Ct) (i1 : Int32) : Option (Int32 × zw_Ct) :=
  (some (zw_wI c 71 9 0)).bind fun c3 =>
  (some ((c3.1 71 6) : Int32)).bind fun n4 =>
  (some (zw_wI c3 71 6 0)).bind fun c5 =>
  if (¬ (¬ (fn_M_in i1.toInt64 0 3) = 0)) then
  (some ((-100), c5))
  else
  ((some (zw_wI c5 71 15 (nI 74))).bind fun c8 =>
  (some (zw_wI c8 71 16 n4)).bind fun c9 =>
  (some (zw_wI c9 71 17 0)).bind fun c10 =>
  (some (zw_wI c10 71 18 (-1))).bind fun c11 =>
  (some (zw_wI c11 71 19 (-1))).bind fun c12 =>
  if (0 < n4) then
  ((fn_M_rec 100 0 c12 0).bind fun (r26, c27) =>
  (if ((c27.1 71 17) < n4) then
  ((fn_M_isWrong c27).bind fun c31 =>
  some c31)
  else
  (some c27)).bind fun c28 =>
  if (¬ (¬ (fn_M_fine c28) = 0)) then
  (some (((-1) - (c28.1 71 18)), c28))
  else
  ((zw_whl (fn_M_pay_l2 n4 i1) zw_F (0, c28)).bind fun c36 =>
  (zw_uI 4 c36 81 i1 n4).bind fun c43 =>
  (zw_uI 4 c43 82 i1 0).bind fun c44 =>
  some (0, c44)))
  else
  ((zw_whl (fn_M_pay_l1 n4 i1) zw_F (0, c12)).bind fun c17 =>
  (zw_uI 4 c17 81 i1 n4).bind fun c24 =>
  (zw_uI 4 c24 82 i1 0).bind fun c25 =>
  some (0, c25)))
set_option maxRecDepth 100000 in
theorem km_M_pay {l : Launch} {g : zw_G} {rr : zw_RR} {sh : zw_Sh} {c : zw_Ct} {i1 : Int32} {r : Int32} {c2 : zw_Ct} (hS : zw_Ok 0 101 sh rr) (hsem : fn_M_pay c i1 = some (r, c2)) : zw_Met l g y_M_pay b_M_pay 4 (some .int) 105 rr sh [.ref 71, .int i1] c (some (.int r)) c2 := by
  unfold fn_M_pay at hsem
  refine zw_Met.of (by decide +kernel) (Nat.le_of_ble_eq_true rfl) (fun p e s m args below meth cd X => ?_)
  refine zw_eL (L2 := [some (.ref 71), some (.int i1), none, none]) rfl ?_
  refine r_aload_n X (pc := 0) (i := 0) (zw_dg dk_M_pay 0 rfl) rfl rfl ?_
  refine r_iconst X (pc := 1) (v := 0) (zw_dg dk_M_pay 1 rfl) (by decide) ?_
  refine r_putI X (pc := 2) ci_M (zo hS 71 rfl rfl) rfl lk_M_97 rfl ⟨rfl, rfl⟩ (zw_dg dk_M_pay 2 rfl) ?_
  obtain ⟨c3, hc3, hsem⟩ := zw_bd hsem
  refine zw_topC hc3 ?_
  refine r_aload_n X (pc := 5) (i := 0) (zw_dg dk_M_pay 3 rfl) rfl rfl ?_
  refine r_getI X (pc := 6) ci_M (zo hS 71 rfl rfl) rfl lk_M_166 (zw_dg dk_M_pay 4 rfl) ?_
  obtain ⟨n4, hn4, hsem⟩ := zw_bd hsem
  refine zw_topI hn4 ?_
  refine r_istore_n X (pc := 9) (i := 2) (zw_dg dk_M_pay 5 rfl) rfl (by decide) rfl ?_
  refine r_aload_n X (pc := 10) (i := 0) (zw_dg dk_M_pay 6 rfl) rfl rfl ?_
  refine r_iconst X (pc := 11) (v := 0) (zw_dg dk_M_pay 7 rfl) (by decide) ?_
  refine r_putI X (pc := 12) ci_M (zo hS 71 rfl rfl) rfl lk_M_166 rfl ⟨rfl, rfl⟩ (zw_dg dk_M_pay 8 rfl) ?_
  obtain ⟨c5, hc5, hsem⟩ := zw_bd hsem
  refine zw_topC hc5 ?_
  refine r_iload_n X (pc := 15) (i := 1) (zw_dg dk_M_pay 9 rfl) rfl rfl ?_
  refine r_i2l X (pc := 16) (zw_dg dk_M_pay 10 rfl)  ?_
  refine r_lconst X (pc := 17) (v := 0) (zw_dg dk_M_pay 11 rfl) (by decide) ?_
  refine r_ldc2 X (pc := 18) (v := 3) kw_1631 (zw_dg dk_M_pay 12 rfl) ?_
  refine r_callSi X (pc := 21) (As := [_, _, _]) (st := []) (km_M_in hS rfl) ce_M_in kw_1597 rfl ⟨Nat.le_of_ble_eq_true rfl, Nat.le_of_ble_eq_true rfl⟩ (Nat.le_of_ble_eq_true rfl) (zw_dg dk_M_pay 13 rfl) ?_
  refine r_if_ne X (pc := 24) (tgt := 30) (zw_dg dk_M_pay 14 rfl) (by decide) (fun q7 => ?_) (fun q7 => ?_)
  · --
    have p6 : ¬ (¬ (¬ (fn_M_in i1.toInt64 0 3) = 0)) := (fun q => q q7)
    have hsem := zw_ifn p6 hsem
    refine r_aload_n X (pc := 30) (i := 0) (zw_dg dk_M_pay 17 rfl) rfl rfl ?_
    refine r_aload_n X (pc := 31) (i := 0) (zw_dg dk_M_pay 18 rfl) rfl rfl ?_
    refine r_getR X (pc := 32) (r := 74) ci_M (zo hS 71 rfl rfl) rfl (zr hS 71 5 rfl rfl) lk_M_23 (zw_dg dk_M_pay 19 rfl) ?_
    refine r_putM X (pc := 35) ci_M (zo hS 71 rfl rfl) rfl lk_M_175 rfl (by decide) (fun _ => ⟨rfl, rfl⟩) (zw_dg dk_M_pay 20 rfl) ?_
    obtain ⟨c8, hc8, hsem⟩ := zw_bd hsem
    refine zw_topC hc8 ?_
    refine r_aload_n X (pc := 38) (i := 0) (zw_dg dk_M_pay 21 rfl) rfl rfl ?_
    refine r_iload_n X (pc := 39) (i := 2) (zw_dg dk_M_pay 22 rfl) rfl rfl ?_
    refine r_putI X (pc := 40) ci_M (zo hS 71 rfl rfl) rfl lk_M_172 rfl ⟨rfl, rfl⟩ (zw_dg dk_M_pay 23 rfl) ?_
    obtain ⟨c9, hc9, hsem⟩ := zw_bd hsem
    refine zw_topC hc9 ?_
    refine r_aload_n X (pc := 43) (i := 0) (zw_dg dk_M_pay 24 rfl) rfl rfl ?_
    refine r_iconst X (pc := 44) (v := 0) (zw_dg dk_M_pay 25 rfl) (by decide) ?_
    refine r_putI X (pc := 45) ci_M (zo hS 71 rfl rfl) rfl lk_M_169 rfl ⟨rfl, rfl⟩ (zw_dg dk_M_pay 26 rfl) ?_
    obtain ⟨c10, hc10, hsem⟩ := zw_bd hsem
    refine zw_topC hc10 ?_
    refine r_aload_n X (pc := 48) (i := 0) (zw_dg dk_M_pay 27 rfl) rfl rfl ?_
    refine r_iconst X (pc := 49) (v := (-1)) (zw_dg dk_M_pay 28 rfl) (by decide) ?_
    refine r_putI X (pc := 50) ci_M (zo hS 71 rfl rfl) rfl lk_M_178 rfl ⟨rfl, rfl⟩ (zw_dg dk_M_pay 29 rfl) ?_
    obtain ⟨c11, hc11, hsem⟩ := zw_bd hsem
    refine zw_topC hc11 ?_
    refine r_aload_n X (pc := 53) (i := 0) (zw_dg dk_M_pay 30 rfl) rfl rfl ?_
    refine r_iconst X (pc := 54) (v := (-1)) (zw_dg dk_M_pay 31 rfl) (by decide) ?_
    refine r_putI X (pc := 55) ci_M (zo hS 71 rfl rfl) rfl lk_M_212 rfl ⟨rfl, rfl⟩ (zw_dg dk_M_pay 32 rfl) ?_
    obtain ⟨c12, hc12, hsem⟩ := zw_bd hsem
    refine zw_topC hc12 ?_
    refine r_iload_n X (pc := 58) (i := 2) (zw_dg dk_M_pay 33 rfl) rfl rfl ?_
    refine r_if_le X (pc := 59) (tgt := 94) (zw_dg dk_M_pay 34 rfl) (by decide) (fun q14 => ?_) (fun q14 => ?_)
    · --
      have p13 : ¬ (0 < n4) := (Int32.not_lt.mpr q14)
      have hsem := zw_ifn p13 hsem
      refine r_iconst X (pc := 94) (v := 0) (zw_dg dk_M_pay 53 rfl) (by decide) ?_
      refine r_istore_n X (pc := 95) (i := 3) (zw_dg dk_M_pay 54 rfl) rfl (by decide) rfl ?_
      obtain ⟨c17, hl18, hsl18⟩ := zw_bd hsem
      refine r_loop (pc := 96) (pce := 121) hl18 (fun (k15, c16) => [some (.ref 71), some (.int i1), some (.int n4), some (.int k15)] : Int32 × zw_Ct → zw_Lc) (fun (k15, c16) => c16 : Int32 × zw_Ct → zw_Ct) (fun c17 => [some (.ref 71), some (.int i1), some (.int n4), none] : zw_Ct → zw_Lc) (fun c17 => c17 : zw_Ct → zw_Ct) ?_ rfl rfl ?_
      · rintro ⟨k15, c16⟩ rr hsem hK hP
        try unfold fn_M_pay_l1 at hsem
        refine r_iload_n X (pc := 96) (i := 3) (zw_dg dk_M_pay 55 rfl) rfl rfl ?_
        refine r_iload_n X (pc := 97) (i := 2) (zw_dg dk_M_pay 56 rfl) rfl rfl ?_
        refine r_icmp_ge X (pc := 98) (tgt := 121) (zw_dg dk_M_pay 57 rfl) (by decide) (fun q20 => ?_) (fun q20 => ?_)
        · --
          have p19 : ¬ (k15 < n4) := (Int32.not_lt.mpr q20)
          have hsem := zw_ifn p19 hsem
          have jj := hK _ (Option.some.inj hsem).symm
          exact (r_fgt [3] rfl jj)
        · --
          have p19 : (k15 < n4) := (Int32.not_le.mp q20)
          have hsem := zw_ifp p19 hsem
          refine r_aload_n X (pc := 101) (i := 0) (zw_dg dk_M_pay 58 rfl) rfl rfl ?_
          refine r_getR X (pc := 102) (r := 76) ci_M (zo hS 71 rfl rfl) rfl (zr hS 71 11 rfl rfl) lk_M_33 (zw_dg dk_M_pay 59 rfl) ?_
          refine r_iload_n X (pc := 105) (i := 1) (zw_dg dk_M_pay 60 rfl) rfl rfl ?_
          obtain ⟨r21, hr21, hsem⟩ := zw_bd hsem
          refine r_aald X (pc := 106) (t := 5) (zo hS 76 rfl rfl) (by decide) rfl rfl (zw_gr_in hr21) (zgr hS 76 hr21 rfl) (zw_dg dk_M_pay 61 rfl) ?_
          refine r_iload_n X (pc := 107) (i := 3) (zw_dg dk_M_pay 62 rfl) rfl rfl ?_
          refine r_aload_n X (pc := 108) (i := 0) (zw_dg dk_M_pay 63 rfl) rfl rfl ?_
          refine r_getR X (pc := 109) (r := 74) ci_M (zo hS 71 rfl rfl) rfl (zr hS 71 5 rfl rfl) lk_M_23 (zw_dg dk_M_pay 64 rfl) ?_
          refine r_iload_n X (pc := 112) (i := 3) (zw_dg dk_M_pay 65 rfl) rfl rfl ?_
          obtain ⟨x22, hx22, hsem⟩ := zw_bd hsem
          refine r_bald X (pc := 113) (zo hS 74 rfl rfl) hx22 (zw_dg dk_M_pay 66 rfl) ?_
          obtain ⟨c23, hc23, hsem⟩ := zw_bd hsem
          obtain ⟨_, hnc23, hc23⟩ := zw_bd hc23
          refine r_bast X (pc := 114) (zd hS (zw_len_of hnc23)) hc23 (zw_dg dk_M_pay 67 rfl) ?_
          refine r_iinc X (pc := 115) (i := 3) (k := 1) (zw_dg dk_M_pay 68 rfl) rfl (by decide) (by decide) rfl ?_
          refine r_goto X (pc := 118) (tgt := 96) (zw_dg dk_M_pay 69 rfl) (by decide) ?_
          have jj := hP _ (Option.some.inj hsem).symm
          exact (r_fgt [] rfl jj)
      have hsem := hsl18
      refine r_aload_n X (pc := 121) (i := 0) (zw_dg dk_M_pay 70 rfl) rfl rfl ?_
      refine r_getR X (pc := 122) (r := 81) ci_M (zo hS 71 rfl rfl) rfl (zr hS 71 12 rfl rfl) lk_M_36 (zw_dg dk_M_pay 71 rfl) ?_
      refine r_iload_n X (pc := 125) (i := 1) (zw_dg dk_M_pay 72 rfl) rfl rfl ?_
      refine r_iload_n X (pc := 126) (i := 2) (zw_dg dk_M_pay 73 rfl) rfl rfl ?_
      obtain ⟨c24, hc24, hsem⟩ := zw_bd hsem
      refine r_iast X (pc := 127) (zo hS 81 rfl rfl) hc24 (zw_dg dk_M_pay 74 rfl) ?_
      refine r_aload_n X (pc := 128) (i := 0) (zw_dg dk_M_pay 75 rfl) rfl rfl ?_
      refine r_getR X (pc := 129) (r := 82) ci_M (zo hS 71 rfl rfl) rfl (zr hS 71 13 rfl rfl) lk_M_39 (zw_dg dk_M_pay 76 rfl) ?_
      refine r_iload_n X (pc := 132) (i := 1) (zw_dg dk_M_pay 77 rfl) rfl rfl ?_
      refine r_iconst X (pc := 133) (v := 0) (zw_dg dk_M_pay 78 rfl) (by decide) ?_
      obtain ⟨c25, hc25, hsem⟩ := zw_bd hsem
      refine r_zast X (pc := 134) (zo hS 82 rfl rfl) (by rw [(zw_bzn (by decide)).2.2]; exact hc25) (zw_dg dk_M_pay 79 rfl) ?_
      refine r_iconst X (pc := 135) (v := 0) (zw_dg dk_M_pay 80 rfl) (by decide) ?_
      obtain ⟨rfl, rfl⟩ := zw_in2 hsem
      exact r_iret X (pc := 136) rfl (zw_dg dk_M_pay 81 rfl)
    · --
      have p13 : (0 < n4) := (Int32.not_le.mp q14)
      have hsem := zw_ifp p13 hsem
      refine r_aload_n X (pc := 62) (i := 0) (zw_dg dk_M_pay 35 rfl) rfl rfl ?_
      refine r_iconst X (pc := 63) (v := 0) (zw_dg dk_M_pay 36 rfl) (by decide) ?_
      obtain ⟨⟨r26, c27⟩, hr26_c27, hsem⟩ := zw_bd hsem
      refine r_callVi X (pc := 64) (As := [_]) (st := []) (km_M_rec0 hS 100 _ _ _ _ hr26_c27) ce_M_held kw_1646 (zo hS 71 rfl rfl) rfl rfl ⟨Nat.le_of_ble_eq_true rfl, Nat.le_of_ble_eq_true rfl⟩ (Nat.le_of_ble_eq_true rfl) (zw_dg dk_M_pay 37 rfl) ?_
      refine r_pop X (pc := 67) (zw_dg dk_M_pay 38 rfl) rfl ?_
      obtain ⟨c28, ht80, hs80⟩ := zw_bd hsem
      refine zw_jn (J := 80) (L2 := [some (.ref 71), some (.int i1), some (.int n4), none]) (c2 := c28) (fun jj => ?_) ?_
      · have hsem := ht80
        refine r_aload_n X (pc := 68) (i := 0) (zw_dg dk_M_pay 39 rfl) rfl rfl ?_
        refine r_getI X (pc := 69) ci_M (zo hS 71 rfl rfl) rfl lk_M_169 (zw_dg dk_M_pay 40 rfl) ?_
        refine r_iload_n X (pc := 72) (i := 2) (zw_dg dk_M_pay 41 rfl) rfl rfl ?_
        refine r_icmp_ge X (pc := 73) (tgt := 80) (zw_dg dk_M_pay 42 rfl) (by decide) (fun q30 => ?_) (fun q30 => ?_)
        · --
          have p29 : ¬ ((c27.1 71 17) < n4) := (Int32.not_lt.mpr q30)
          have hsem := zw_ifn p29 hsem
          cases hsem
          exact (r_fgt [] rfl jj)
        · --
          have p29 : ((c27.1 71 17) < n4) := (Int32.not_le.mp q30)
          have hsem := zw_ifp p29 hsem
          refine r_aload_n X (pc := 76) (i := 0) (zw_dg dk_M_pay 43 rfl) rfl rfl ?_
          obtain ⟨c31, hc31, hsem⟩ := zw_bd hsem
          refine r_callVv X (pc := 77) (As := []) (st := []) (km_M_isWrong hS hc31) ce_M_isWrong kw_1674 (zo hS 71 rfl rfl) rfl rfl ⟨Nat.le_of_ble_eq_true rfl, Nat.le_of_ble_eq_true rfl⟩ (Nat.le_of_ble_eq_true rfl) (zw_dg dk_M_pay 44 rfl) ?_
          cases hsem
          exact (r_fgt [] rfl jj)
      have hsem := hs80
      refine r_aload_n X (pc := 80) (i := 0) (zw_dg dk_M_pay 45 rfl) rfl rfl ?_
      refine r_callVi X (pc := 81) (As := []) (st := []) (km_M_fine hS rfl) ce_M_fine kw_1666 (zo hS 71 rfl rfl) rfl rfl ⟨Nat.le_of_ble_eq_true rfl, Nat.le_of_ble_eq_true rfl⟩ (Nat.le_of_ble_eq_true rfl) (zw_dg dk_M_pay 46 rfl) ?_
      refine r_if_ne X (pc := 84) (tgt := 94) (zw_dg dk_M_pay 47 rfl) (by decide) (fun q33 => ?_) (fun q33 => ?_)
      · --
        have p32 : ¬ (¬ (¬ (fn_M_fine c28) = 0)) := (fun q => q q33)
        have hsem := zw_ifn p32 hsem
        refine r_iconst X (pc := 94) (v := 0) (zw_dg dk_M_pay 53 rfl) (by decide) ?_
        refine r_istore_n X (pc := 95) (i := 3) (zw_dg dk_M_pay 54 rfl) rfl (by decide) rfl ?_
        obtain ⟨c36, hl37, hsl37⟩ := zw_bd hsem
        refine r_loop (pc := 96) (pce := 121) hl37 (fun (k34, c35) => [some (.ref 71), some (.int i1), some (.int n4), some (.int k34)] : Int32 × zw_Ct → zw_Lc) (fun (k34, c35) => c35 : Int32 × zw_Ct → zw_Ct) (fun c36 => [some (.ref 71), some (.int i1), some (.int n4), none] : zw_Ct → zw_Lc) (fun c36 => c36 : zw_Ct → zw_Ct) ?_ rfl rfl ?_
        · rintro ⟨k34, c35⟩ rr hsem hK hP
          try unfold fn_M_pay_l2 at hsem
          refine r_iload_n X (pc := 96) (i := 3) (zw_dg dk_M_pay 55 rfl) rfl rfl ?_
          refine r_iload_n X (pc := 97) (i := 2) (zw_dg dk_M_pay 56 rfl) rfl rfl ?_
          refine r_icmp_ge X (pc := 98) (tgt := 121) (zw_dg dk_M_pay 57 rfl) (by decide) (fun q39 => ?_) (fun q39 => ?_)
          · --
            have p38 : ¬ (k34 < n4) := (Int32.not_lt.mpr q39)
            have hsem := zw_ifn p38 hsem
            have jj := hK _ (Option.some.inj hsem).symm
            exact (r_fgt [3] rfl jj)
          · --
            have p38 : (k34 < n4) := (Int32.not_le.mp q39)
            have hsem := zw_ifp p38 hsem
            refine r_aload_n X (pc := 101) (i := 0) (zw_dg dk_M_pay 58 rfl) rfl rfl ?_
            refine r_getR X (pc := 102) (r := 76) ci_M (zo hS 71 rfl rfl) rfl (zr hS 71 11 rfl rfl) lk_M_33 (zw_dg dk_M_pay 59 rfl) ?_
            refine r_iload_n X (pc := 105) (i := 1) (zw_dg dk_M_pay 60 rfl) rfl rfl ?_
            obtain ⟨r40, hr40, hsem⟩ := zw_bd hsem
            refine r_aald X (pc := 106) (t := 5) (zo hS 76 rfl rfl) (by decide) rfl rfl (zw_gr_in hr40) (zgr hS 76 hr40 rfl) (zw_dg dk_M_pay 61 rfl) ?_
            refine r_iload_n X (pc := 107) (i := 3) (zw_dg dk_M_pay 62 rfl) rfl rfl ?_
            refine r_aload_n X (pc := 108) (i := 0) (zw_dg dk_M_pay 63 rfl) rfl rfl ?_
            refine r_getR X (pc := 109) (r := 74) ci_M (zo hS 71 rfl rfl) rfl (zr hS 71 5 rfl rfl) lk_M_23 (zw_dg dk_M_pay 64 rfl) ?_
            refine r_iload_n X (pc := 112) (i := 3) (zw_dg dk_M_pay 65 rfl) rfl rfl ?_
            obtain ⟨x41, hx41, hsem⟩ := zw_bd hsem
            refine r_bald X (pc := 113) (zo hS 74 rfl rfl) hx41 (zw_dg dk_M_pay 66 rfl) ?_
            obtain ⟨c42, hc42, hsem⟩ := zw_bd hsem
            obtain ⟨_, hnc42, hc42⟩ := zw_bd hc42
            refine r_bast X (pc := 114) (zd hS (zw_len_of hnc42)) hc42 (zw_dg dk_M_pay 67 rfl) ?_
            refine r_iinc X (pc := 115) (i := 3) (k := 1) (zw_dg dk_M_pay 68 rfl) rfl (by decide) (by decide) rfl ?_
            refine r_goto X (pc := 118) (tgt := 96) (zw_dg dk_M_pay 69 rfl) (by decide) ?_
            have jj := hP _ (Option.some.inj hsem).symm
            exact (r_fgt [] rfl jj)
        have hsem := hsl37
        refine r_aload_n X (pc := 121) (i := 0) (zw_dg dk_M_pay 70 rfl) rfl rfl ?_
        refine r_getR X (pc := 122) (r := 81) ci_M (zo hS 71 rfl rfl) rfl (zr hS 71 12 rfl rfl) lk_M_36 (zw_dg dk_M_pay 71 rfl) ?_
        refine r_iload_n X (pc := 125) (i := 1) (zw_dg dk_M_pay 72 rfl) rfl rfl ?_
        refine r_iload_n X (pc := 126) (i := 2) (zw_dg dk_M_pay 73 rfl) rfl rfl ?_
        obtain ⟨c43, hc43, hsem⟩ := zw_bd hsem
        refine r_iast X (pc := 127) (zo hS 81 rfl rfl) hc43 (zw_dg dk_M_pay 74 rfl) ?_
        refine r_aload_n X (pc := 128) (i := 0) (zw_dg dk_M_pay 75 rfl) rfl rfl ?_
        refine r_getR X (pc := 129) (r := 82) ci_M (zo hS 71 rfl rfl) rfl (zr hS 71 13 rfl rfl) lk_M_39 (zw_dg dk_M_pay 76 rfl) ?_
        refine r_iload_n X (pc := 132) (i := 1) (zw_dg dk_M_pay 77 rfl) rfl rfl ?_
        refine r_iconst X (pc := 133) (v := 0) (zw_dg dk_M_pay 78 rfl) (by decide) ?_
        obtain ⟨c44, hc44, hsem⟩ := zw_bd hsem
        refine r_zast X (pc := 134) (zo hS 82 rfl rfl) (by rw [(zw_bzn (by decide)).2.2]; exact hc44) (zw_dg dk_M_pay 79 rfl) ?_
        refine r_iconst X (pc := 135) (v := 0) (zw_dg dk_M_pay 80 rfl) (by decide) ?_
        obtain ⟨rfl, rfl⟩ := zw_in2 hsem
        exact r_iret X (pc := 136) rfl (zw_dg dk_M_pay 81 rfl)
      · --
        have p32 : (¬ (¬ (fn_M_fine c28) = 0)) := (fun z => z q33)
        have hsem := zw_ifp p32 hsem
        refine r_iconst X (pc := 87) (v := (-1)) (zw_dg dk_M_pay 48 rfl) (by decide) ?_
        refine r_aload_n X (pc := 88) (i := 0) (zw_dg dk_M_pay 49 rfl) rfl rfl ?_
        refine r_getI X (pc := 89) ci_M (zo hS 71 rfl rfl) rfl lk_M_178 (zw_dg dk_M_pay 50 rfl) ?_
        refine r_isub X (pc := 92) (zw_dg dk_M_pay 51 rfl)  ?_
        obtain ⟨rfl, rfl⟩ := zw_in2 hsem
        exact r_iret X (pc := 93) rfl (zw_dg dk_M_pay 52 rfl)
  · --
    have p6 : (¬ (¬ (fn_M_in i1.toInt64 0 3) = 0)) := (fun z => z q7)
    have hsem := zw_ifp p6 hsem
    refine r_bipush X (pc := 27) (v := (-100)) (zw_dg dk_M_pay 15 rfl) (by decide) ?_
    obtain ⟨rfl, rfl⟩ := zw_in2 hsem
    exact r_iret X (pc := 29) rfl (zw_dg dk_M_pay 16 rfl)
def y_M_payFor : MethodName := ⟨R_M, "payFor", "(III)I"⟩
abbrev b_M_payFor : ByteArray := prog_14_method_29_code
def dl_M_payFor : List (Nat × Instr × Nat) := [(0, .aload_n 0, 1), (1, .getfield 39, 3), (4, .iload_n 1, 1), (5, .baload, 1), (6, .ifCond .eq 20, 3), (9, .aload_n 0, 1), (10, .getfield 43, 3), (13, .iconst 4, 1), (14, .sipush 455, 3), (17, .iload_n 1, 1), (18, .imul, 1), (19, .iload_n 2, 1), (20, .iadd, 1), (21, .imul, 1), (22, .iload_n 3, 1), (23, .iadd, 1), (24, .iaload, 1), (25, .ireturn, 1), (26, .aload_n 0, 1), (27, .aload_n 0, 1), (28, .getfield 33, 3), (31, .iload_n 1, 1), (32, .aaload, 1), (33, .putfield 175, 3), (36, .aload_n 0, 1), (37, .aload_n 0, 1), (38, .getfield 36, 3), (41, .iload_n 1, 1), (42, .iaload, 1), (43, .putfield 172, 3), (46, .aload_n 0, 1), (47, .iconst 0, 1), (48, .putfield 169, 3), (51, .aload_n 0, 1), (52, .iconst (-1), 1), (53, .putfield 178, 3), (56, .aload_n 0, 1), (57, .iload_n 2, 1), (58, .putfield 212, 3), (61, .aload_n 0, 1), (62, .iload_n 3, 1), (63, .putfield 219, 3), (66, .aload_n 0, 1), (67, .iconst 0, 1), (68, .invokevirtual 202, 3), (71, .ireturn, 1)]
theorem dk_M_payFor : zw_dk b_M_payFor dl_M_payFor = true := by decide +kernel
theorem ce_M_payFor : zw_cev y_M_payFor b_M_payFor 4 (some .int) 3 := ⟨⟨kt_in 1695 (by decide +kernel) rfl, kt_in 98 (by decide +kernel) rfl, by decide +kernel⟩, kt_in 1694 (by decide +kernel) rfl, kt_in 54 (by decide +kernel) rfl⟩
def fn_M_payFor (c : zw_Ct) (p1 : Int32) (s2 : Int32) (e3 : Int32) : Option (Int32 × zw_Ct) :=
  (zw_aI 4 c 82 p1).bind fun x4 =>
  if (¬ x4 = 0) then
  ((zw_aI 7280 c 83 ((4 * ((455 * p1) + s2)) + e3)).bind fun x17 =>
  some (x17, c))
  else
  ((zw_gr 77 4 1 p1).bind fun r7 =>
  (some (zw_wI c 71 15 (nI r7))).bind fun c8 =>
  (zw_aI 4 c8 81 p1).bind fun x9 =>
  (some (zw_wI c8 71 16 x9)).bind fun c10 =>
  (some (zw_wI c10 71 17 0)).bind fun c11 =>
  (some (zw_wI c11 71 18 (-1))).bind fun c12 =>
  (some (zw_wI c12 71 19 s2)).bind fun c13 =>
  (some (zw_wI c13 71 20 e3)).bind fun c14 =>
  (fn_M_rec 100 0 c14 0).bind fun (r15, c16) =>
  some (r15, c16))
set_option maxRecDepth 100000 in
theorem km_M_payFor {l : Launch} {g : zw_G} {rr : zw_RR} {sh : zw_Sh} {c : zw_Ct} {p1 : Int32} {s2 : Int32} {e3 : Int32} {r : Int32} {c2 : zw_Ct} (hS : zw_Ok 0 101 sh rr) (hsem : fn_M_payFor c p1 s2 e3 = some (r, c2)) : zw_Met l g y_M_payFor b_M_payFor 4 (some .int) 105 rr sh [.ref 71, .int p1, .int s2, .int e3] c (some (.int r)) c2 := by
  unfold fn_M_payFor at hsem
  refine zw_Met.of (by decide +kernel) (Nat.le_of_ble_eq_true rfl) (fun p e s m args below meth cd X => ?_)
  refine zw_eL (L2 := [some (.ref 71), some (.int p1), some (.int s2), some (.int e3)]) rfl ?_
  refine r_aload_n X (pc := 0) (i := 0) (zw_dg dk_M_payFor 0 rfl) rfl rfl ?_
  refine r_getR X (pc := 1) (r := 82) ci_M (zo hS 71 rfl rfl) rfl (zr hS 71 13 rfl rfl) lk_M_39 (zw_dg dk_M_payFor 1 rfl) ?_
  refine r_iload_n X (pc := 4) (i := 1) (zw_dg dk_M_payFor 2 rfl) rfl rfl ?_
  obtain ⟨x4, hx4, hsem⟩ := zw_bd hsem
  refine r_zald X (pc := 5) (zo hS 82 rfl rfl) hx4 (zw_dg dk_M_payFor 3 rfl) ?_
  refine r_if_eq X (pc := 6) (tgt := 26) (zw_dg dk_M_payFor 4 rfl) (by decide) (fun q6 => ?_) (fun q6 => ?_)
  · --
    have p5 : ¬ (¬ x4 = 0) := (fun z => z q6)
    have hsem := zw_ifn p5 hsem
    refine r_aload_n X (pc := 26) (i := 0) (zw_dg dk_M_payFor 18 rfl) rfl rfl ?_
    refine r_aload_n X (pc := 27) (i := 0) (zw_dg dk_M_payFor 19 rfl) rfl rfl ?_
    refine r_getR X (pc := 28) (r := 76) ci_M (zo hS 71 rfl rfl) rfl (zr hS 71 11 rfl rfl) lk_M_33 (zw_dg dk_M_payFor 20 rfl) ?_
    refine r_iload_n X (pc := 31) (i := 1) (zw_dg dk_M_payFor 21 rfl) rfl rfl ?_
    obtain ⟨r7, hr7, hsem⟩ := zw_bd hsem
    refine r_aald X (pc := 32) (t := 5) (zo hS 76 rfl rfl) (by decide) rfl rfl (zw_gr_in hr7) (zgr hS 76 hr7 rfl) (zw_dg dk_M_payFor 22 rfl) ?_
    refine r_putM X (pc := 33) ci_M (zo hS 71 rfl rfl) rfl lk_M_175 rfl ⟨zw_gr_pos hr7 (by decide), zw_gr_lt hr7 (by decide)⟩ (fun _ => ⟨rfl, rfl⟩) (zw_dg dk_M_payFor 23 rfl) ?_
    obtain ⟨c8, hc8, hsem⟩ := zw_bd hsem
    refine zw_topC hc8 ?_
    refine r_aload_n X (pc := 36) (i := 0) (zw_dg dk_M_payFor 24 rfl) rfl rfl ?_
    refine r_aload_n X (pc := 37) (i := 0) (zw_dg dk_M_payFor 25 rfl) rfl rfl ?_
    refine r_getR X (pc := 38) (r := 81) ci_M (zo hS 71 rfl rfl) rfl (zr hS 71 12 rfl rfl) lk_M_36 (zw_dg dk_M_payFor 26 rfl) ?_
    refine r_iload_n X (pc := 41) (i := 1) (zw_dg dk_M_payFor 27 rfl) rfl rfl ?_
    obtain ⟨x9, hx9, hsem⟩ := zw_bd hsem
    refine r_iald X (pc := 42) (zo hS 81 rfl rfl) hx9 (zw_dg dk_M_payFor 28 rfl) ?_
    refine r_putI X (pc := 43) ci_M (zo hS 71 rfl rfl) rfl lk_M_172 rfl ⟨rfl, rfl⟩ (zw_dg dk_M_payFor 29 rfl) ?_
    obtain ⟨c10, hc10, hsem⟩ := zw_bd hsem
    refine zw_topC hc10 ?_
    refine r_aload_n X (pc := 46) (i := 0) (zw_dg dk_M_payFor 30 rfl) rfl rfl ?_
    refine r_iconst X (pc := 47) (v := 0) (zw_dg dk_M_payFor 31 rfl) (by decide) ?_
    refine r_putI X (pc := 48) ci_M (zo hS 71 rfl rfl) rfl lk_M_169 rfl ⟨rfl, rfl⟩ (zw_dg dk_M_payFor 32 rfl) ?_
    obtain ⟨c11, hc11, hsem⟩ := zw_bd hsem
    refine zw_topC hc11 ?_
    refine r_aload_n X (pc := 51) (i := 0) (zw_dg dk_M_payFor 33 rfl) rfl rfl ?_
    refine r_iconst X (pc := 52) (v := (-1)) (zw_dg dk_M_payFor 34 rfl) (by decide) ?_
    refine r_putI X (pc := 53) ci_M (zo hS 71 rfl rfl) rfl lk_M_178 rfl ⟨rfl, rfl⟩ (zw_dg dk_M_payFor 35 rfl) ?_
    obtain ⟨c12, hc12, hsem⟩ := zw_bd hsem
    refine zw_topC hc12 ?_
    refine r_aload_n X (pc := 56) (i := 0) (zw_dg dk_M_payFor 36 rfl) rfl rfl ?_
    refine r_iload_n X (pc := 57) (i := 2) (zw_dg dk_M_payFor 37 rfl) rfl rfl ?_
    refine r_putI X (pc := 58) ci_M (zo hS 71 rfl rfl) rfl lk_M_212 rfl ⟨rfl, rfl⟩ (zw_dg dk_M_payFor 38 rfl) ?_
    obtain ⟨c13, hc13, hsem⟩ := zw_bd hsem
    refine zw_topC hc13 ?_
    refine r_aload_n X (pc := 61) (i := 0) (zw_dg dk_M_payFor 39 rfl) rfl rfl ?_
    refine r_iload_n X (pc := 62) (i := 3) (zw_dg dk_M_payFor 40 rfl) rfl rfl ?_
    refine r_putI X (pc := 63) ci_M (zo hS 71 rfl rfl) rfl lk_M_219 rfl ⟨rfl, rfl⟩ (zw_dg dk_M_payFor 41 rfl) ?_
    obtain ⟨c14, hc14, hsem⟩ := zw_bd hsem
    refine zw_topC hc14 ?_
    refine r_aload_n X (pc := 66) (i := 0) (zw_dg dk_M_payFor 42 rfl) rfl rfl ?_
    refine r_iconst X (pc := 67) (v := 0) (zw_dg dk_M_payFor 43 rfl) (by decide) ?_
    obtain ⟨⟨r15, c16⟩, hr15_c16, hsem⟩ := zw_bd hsem
    refine r_callVi X (pc := 68) (As := [_]) (st := []) (km_M_rec0 hS 100 _ _ _ _ hr15_c16) ce_M_held kw_1646 (zo hS 71 rfl rfl) rfl rfl ⟨Nat.le_of_ble_eq_true rfl, Nat.le_of_ble_eq_true rfl⟩ (Nat.le_of_ble_eq_true rfl) (zw_dg dk_M_payFor 44 rfl) ?_
    obtain ⟨rfl, rfl⟩ := zw_in2 hsem
    exact r_iret X (pc := 71) rfl (zw_dg dk_M_payFor 45 rfl)
  · --
    have p5 : (¬ x4 = 0) := q6
    have hsem := zw_ifp p5 hsem
    refine r_aload_n X (pc := 9) (i := 0) (zw_dg dk_M_payFor 5 rfl) rfl rfl ?_
    refine r_getR X (pc := 10) (r := 83) ci_M (zo hS 71 rfl rfl) rfl (zr hS 71 14 rfl rfl) lk_M_43 (zw_dg dk_M_payFor 6 rfl) ?_
    refine r_iconst X (pc := 13) (v := 4) (zw_dg dk_M_payFor 7 rfl) (by decide) ?_
    refine r_sipush X (pc := 14) (v := 455) (zw_dg dk_M_payFor 8 rfl) (by decide) ?_
    refine r_iload_n X (pc := 17) (i := 1) (zw_dg dk_M_payFor 9 rfl) rfl rfl ?_
    refine r_imul X (pc := 18) (zw_dg dk_M_payFor 10 rfl)  ?_
    refine r_iload_n X (pc := 19) (i := 2) (zw_dg dk_M_payFor 11 rfl) rfl rfl ?_
    refine r_iadd X (pc := 20) (zw_dg dk_M_payFor 12 rfl)  ?_
    refine r_imul X (pc := 21) (zw_dg dk_M_payFor 13 rfl)  ?_
    refine r_iload_n X (pc := 22) (i := 3) (zw_dg dk_M_payFor 14 rfl) rfl rfl ?_
    refine r_iadd X (pc := 23) (zw_dg dk_M_payFor 15 rfl)  ?_
    obtain ⟨x17, hx17, hsem⟩ := zw_bd hsem
    refine r_iald X (pc := 24) (zo hS 83 rfl rfl) hx17 (zw_dg dk_M_payFor 16 rfl) ?_
    obtain ⟨rfl, rfl⟩ := zw_in2 hsem
    exact r_iret X (pc := 25) rfl (zw_dg dk_M_payFor 17 rfl)
def y_M_gets : MethodName := ⟨R_M, "gets", "(III)I"⟩
abbrev b_M_gets : ByteArray := prog_14_method_30_code
def dl_M_gets : List (Nat × Instr × Nat) := [(0, .aload_n 0, 1), (1, .iconst 0, 1), (2, .putfield 97, 3), (5, .aload_n 0, 1), (6, .iload_n 1, 1), (7, .invokevirtual 222, 3), (10, .ifCond .eq 29, 3), (13, .aload_n 0, 1), (14, .iload_n 2, 1), (15, .invokevirtual 142, 3), (18, .ifCond .eq 21, 3), (21, .aload_n 0, 1), (22, .iload_n 3, 1), (23, .invokevirtual 146, 3), (26, .ifCond .eq 13, 3), (29, .aload_n 0, 1), (30, .iload_n 1, 1), (31, .iload_n 2, 1), (32, .iload_n 3, 1), (33, .invokevirtual 225, 3), (36, .goto 7, 3), (39, .aload_n 0, 1), (40, .invokevirtual 149, 3), (43, .ireturn, 1)]
theorem dk_M_gets : zw_dk b_M_gets dl_M_gets = true := by decide +kernel
theorem ce_M_gets : zw_cev y_M_gets b_M_gets 4 (some .int) 3 := ⟨⟨kt_in 1687 (by decide +kernel) rfl, kt_in 98 (by decide +kernel) rfl, by decide +kernel⟩, kt_in 1685 (by decide +kernel) rfl, kt_in 1686 (by decide +kernel) rfl⟩
def fn_M_gets (c : zw_Ct) (p1 : Int32) (s2 : Int32) (e3 : Int32) : Option (Int32 × zw_Ct) :=
  (some (zw_wI c 71 9 0)).bind fun c4 =>
  (fn_M_isPay c4 p1).bind fun r5 =>
  (if (((¬ r5 = 0) ∧ (¬ (fn_M_isSaying c4 s2) = 0)) ∧ (¬ (fn_M_isEvent c4 e3) = 0)) then
  ((fn_M_payFor c4 p1 s2 e3).bind fun (r12, c13) =>
  some ((r12 : Int32), c13))
  else
  ((fn_M_lost c4).bind fun (r14, c15) =>
  some ((r14 : Int32), c15))).bind fun (v6, c7) =>
  some (v6, c7)
set_option maxRecDepth 100000 in
theorem km_M_gets {l : Launch} {g : zw_G} {rr : zw_RR} {sh : zw_Sh} {c : zw_Ct} {p1 : Int32} {s2 : Int32} {e3 : Int32} {r : Int32} {c2 : zw_Ct} (hS : zw_Ok 0 101 sh rr) (hsem : fn_M_gets c p1 s2 e3 = some (r, c2)) : zw_Met l g y_M_gets b_M_gets 4 (some .int) 106 rr sh [.ref 71, .int p1, .int s2, .int e3] c (some (.int r)) c2 := by
  unfold fn_M_gets at hsem
  refine zw_Met.of (by decide +kernel) (Nat.le_of_ble_eq_true rfl) (fun p e s m args below meth cd X => ?_)
  refine zw_eL (L2 := [some (.ref 71), some (.int p1), some (.int s2), some (.int e3)]) rfl ?_
  refine r_aload_n X (pc := 0) (i := 0) (zw_dg dk_M_gets 0 rfl) rfl rfl ?_
  refine r_iconst X (pc := 1) (v := 0) (zw_dg dk_M_gets 1 rfl) (by decide) ?_
  refine r_putI X (pc := 2) ci_M (zo hS 71 rfl rfl) rfl lk_M_97 rfl ⟨rfl, rfl⟩ (zw_dg dk_M_gets 2 rfl) ?_
  obtain ⟨c4, hc4, hsem⟩ := zw_bd hsem
  refine zw_topC hc4 ?_
  refine r_aload_n X (pc := 5) (i := 0) (zw_dg dk_M_gets 3 rfl) rfl rfl ?_
  refine r_iload_n X (pc := 6) (i := 1) (zw_dg dk_M_gets 4 rfl) rfl rfl ?_
  obtain ⟨r5, hr5, hsem⟩ := zw_bd hsem
  refine r_callVi X (pc := 7) (As := [_]) (st := []) (km_M_isPay hS hr5) ce_M_isPay kw_1688 (zo hS 71 rfl rfl) rfl rfl ⟨Nat.le_of_ble_eq_true rfl, Nat.le_of_ble_eq_true rfl⟩ (Nat.le_of_ble_eq_true rfl) (zw_dg dk_M_gets 5 rfl) ?_
  obtain ⟨⟨v6, c7⟩, hv6, hsv6⟩ := zw_bd hsem
  refine zw_terO (f := Value.int) (v := v6) (J := 43) (st2 := []) (c2 := c7) (fun jj => ?_) ?_
  · have hsem := hv6
    refine zw_cnd (P := (((¬ r5 = 0) ∧ (¬ (fn_M_isSaying c4 s2) = 0)) ∧ (¬ (fn_M_isEvent c4 e3) = 0))) (J1 := 29) (J2 := 39) (st2 := []) (fun jT jF => ?_) (fun p8 => ?_) (fun p8 => ?_)
    · --
      refine r_if_eq X (pc := 10) (tgt := 39) (zw_dg dk_M_gets 6 rfl) (by decide) (fun q9 => ?_) (fun q9 => ?_)
      · --
        exact jF (fun q => (fun q => (fun z => z q9) q.1) q.1)
      · --
        refine r_aload_n X (pc := 13) (i := 0) (zw_dg dk_M_gets 7 rfl) rfl rfl ?_
        refine r_iload_n X (pc := 14) (i := 2) (zw_dg dk_M_gets 8 rfl) rfl rfl ?_
        refine r_callVi X (pc := 15) (As := [_]) (st := []) (km_M_isSaying hS rfl) ce_M_isSaying kw_1609 (zo hS 71 rfl rfl) rfl rfl ⟨Nat.le_of_ble_eq_true rfl, Nat.le_of_ble_eq_true rfl⟩ (Nat.le_of_ble_eq_true rfl) (zw_dg dk_M_gets 9 rfl) ?_
        refine r_if_eq X (pc := 18) (tgt := 39) (zw_dg dk_M_gets 10 rfl) (by decide) (fun q10 => ?_) (fun q10 => ?_)
        · --
          exact jF (fun q => (fun q => (fun z => z q10) q.2) q.1)
        · --
          refine r_aload_n X (pc := 21) (i := 0) (zw_dg dk_M_gets 11 rfl) rfl rfl ?_
          refine r_iload_n X (pc := 22) (i := 3) (zw_dg dk_M_gets 12 rfl) rfl rfl ?_
          refine r_callVi X (pc := 23) (As := [_]) (st := []) (km_M_isEvent hS rfl) ce_M_isEvent kw_1613 (zo hS 71 rfl rfl) rfl rfl ⟨Nat.le_of_ble_eq_true rfl, Nat.le_of_ble_eq_true rfl⟩ (Nat.le_of_ble_eq_true rfl) (zw_dg dk_M_gets 13 rfl) ?_
          refine r_if_eq X (pc := 26) (tgt := 39) (zw_dg dk_M_gets 14 rfl) (by decide) (fun q11 => ?_) (fun q11 => ?_)
          · --
            exact jF (fun q => (fun z => z q11) q.2)
          · --
            exact jT ⟨⟨q9, q10⟩, q11⟩
    · --
      have hsem := zw_ifp p8 hsem
      refine r_aload_n X (pc := 29) (i := 0) (zw_dg dk_M_gets 15 rfl) rfl rfl ?_
      refine r_iload_n X (pc := 30) (i := 1) (zw_dg dk_M_gets 16 rfl) rfl rfl ?_
      refine r_iload_n X (pc := 31) (i := 2) (zw_dg dk_M_gets 17 rfl) rfl rfl ?_
      refine r_iload_n X (pc := 32) (i := 3) (zw_dg dk_M_gets 18 rfl) rfl rfl ?_
      obtain ⟨⟨r12, c13⟩, hr12_c13, hsem⟩ := zw_bd hsem
      refine r_callVi X (pc := 33) (As := [_, _, _]) (st := []) (km_M_payFor hS hr12_c13) ce_M_payFor kw_1692 (zo hS 71 rfl rfl) rfl rfl ⟨Nat.le_of_ble_eq_true rfl, Nat.le_of_ble_eq_true rfl⟩ (Nat.le_of_ble_eq_true rfl) (zw_dg dk_M_gets 19 rfl) ?_
      refine r_goto X (pc := 36) (tgt := 43) (zw_dg dk_M_gets 20 rfl) (by decide) ?_
      cases hsem; exact jj
    · --
      have hsem := zw_ifn p8 hsem
      refine r_aload_n X (pc := 39) (i := 0) (zw_dg dk_M_gets 21 rfl) rfl rfl ?_
      obtain ⟨⟨r14, c15⟩, hr14_c15, hsem⟩ := zw_bd hsem
      refine r_callVi X (pc := 40) (As := []) (st := []) (km_M_lost hS hr14_c15) ce_M_lost kw_1617 (zo hS 71 rfl rfl) rfl rfl ⟨Nat.le_of_ble_eq_true rfl, Nat.le_of_ble_eq_true rfl⟩ (Nat.le_of_ble_eq_true rfl) (zw_dg dk_M_gets 22 rfl) ?_
      cases hsem; exact jj
  have hsem := hsv6
  obtain ⟨rfl, rfl⟩ := zw_in2 hsem
  exact r_iret X (pc := 43) rfl (zw_dg dk_M_gets 23 rfl)
def y_M_layPay : MethodName := ⟨R_M, "layPay", "(I)V"⟩
abbrev b_M_layPay : ByteArray := prog_14_method_31_code
def dl_M_layPay : List (Nat × Instr × Nat) := [(0, .iconst 0, 1), (1, .istore_n 2, 1), (2, .iload_n 2, 1), (3, .aload_n 0, 1), (4, .getfield 113, 3), (7, .if_icmp .ge 42, 3), (10, .iconst 0, 1), (11, .istore_n 3, 1), (12, .iload_n 3, 1), (13, .aload_n 0, 1), (14, .getfield 9, 3), (17, .if_icmp .ge 26, 3), (20, .aload_n 0, 1), (21, .getfield 46, 3), (24, .iconst 4, 1), (25, .iload_n 2, 1), (26, .imul, 1), (27, .iload_n 3, 1), (28, .iadd, 1), (29, .aload_n 0, 1), (30, .iload_n 1, 1), (31, .iload_n 2, 1), (32, .iload_n 3, 1), (33, .invokevirtual 225, 3), (36, .iastore, 1), (37, .iinc 3 1, 3), (40, .goto (-28), 3), (43, .iinc 2 1, 3), (46, .goto (-44), 3), (49, .return_, 1)]
theorem dk_M_layPay : zw_dk b_M_layPay dl_M_layPay = true := by decide +kernel
theorem ce_M_layPay : zw_cev y_M_layPay b_M_layPay 4 (none) 1 := ⟨⟨kt_in 1703 (by decide +kernel) rfl, kt_in 98 (by decide +kernel) rfl, by decide +kernel⟩, kt_in 1702 (by decide +kernel) rfl, kt_in 55 (by decide +kernel) rfl⟩
def fn_M_layPay_l2 (p1 : Int32) (s2 : Int32) : Int32 × zw_Ct → Option ((zw_Ct) ⊕ (Int32 × zw_Ct)) := fun (e8, c9) =>
  if (e8 < (c9.1 71 0)) then
  ((fn_M_payFor c9 p1 s2 e8).bind fun (r14, c15) =>
  (zw_uI 1820 c15 84 ((4 * s2) + e8) r14).bind fun c16 =>
  some (.inr ((e8 + 1), c16)))
  else
  (some (.inl c9))
def fn_M_layPay_l1 (p1 : Int32) : Int32 × zw_Ct → Option ((zw_Ct) ⊕ (Int32 × zw_Ct)) := fun (s2, c3) =>
  if (s2 < (c3.1 71 2)) then
  ((zw_whl (fn_M_layPay_l2 p1 s2) zw_F (0, c3)).bind fun c10 =>
  some (.inr ((s2 + 1), c10)))
  else
  (some (.inl c3))
def fn_M_layPay (c : zw_Ct) (p1 : Int32) : Option zw_Ct :=
  (zw_whl (fn_M_layPay_l1 p1) zw_F (0, c)).bind fun c4 =>
  some c4
set_option maxRecDepth 100000 in
theorem km_M_layPay {l : Launch} {g : zw_G} {rr : zw_RR} {sh : zw_Sh} {c : zw_Ct} {p1 : Int32} {c2 : zw_Ct} (hS : zw_Ok 0 101 sh rr) (hsem : fn_M_layPay c p1 = some c2) : zw_Met l g y_M_layPay b_M_layPay 4 (none) 106 rr sh [.ref 71, .int p1] c none c2 := by
  unfold fn_M_layPay at hsem
  refine zw_Met.of (by decide +kernel) (Nat.le_of_ble_eq_true rfl) (fun p e s m args below meth cd X => ?_)
  refine zw_eL (L2 := [some (.ref 71), some (.int p1), none, none]) rfl ?_
  refine r_iconst X (pc := 0) (v := 0) (zw_dg dk_M_layPay 0 rfl) (by decide) ?_
  refine r_istore_n X (pc := 1) (i := 2) (zw_dg dk_M_layPay 1 rfl) rfl (by decide) rfl ?_
  obtain ⟨c4, hl5, hsl5⟩ := zw_bd hsem
  refine r_loop (pc := 2) (pce := 49) hl5 (fun (s2, c3) => [some (.ref 71), some (.int p1), some (.int s2), none] : Int32 × zw_Ct → zw_Lc) (fun (s2, c3) => c3 : Int32 × zw_Ct → zw_Ct) (fun c4 => [some (.ref 71), some (.int p1), none, none] : zw_Ct → zw_Lc) (fun c4 => c4 : zw_Ct → zw_Ct) ?_ rfl rfl ?_
  · rintro ⟨s2, c3⟩ rr hsem hK hP
    try unfold fn_M_layPay_l1 at hsem
    refine r_iload_n X (pc := 2) (i := 2) (zw_dg dk_M_layPay 2 rfl) rfl rfl ?_
    refine r_aload_n X (pc := 3) (i := 0) (zw_dg dk_M_layPay 3 rfl) rfl rfl ?_
    refine r_getI X (pc := 4) ci_M (zo hS 71 rfl rfl) rfl lk_M_113 (zw_dg dk_M_layPay 4 rfl) ?_
    refine r_icmp_ge X (pc := 7) (tgt := 49) (zw_dg dk_M_layPay 5 rfl) (by decide) (fun q7 => ?_) (fun q7 => ?_)
    · --
      have p6 : ¬ (s2 < (c3.1 71 2)) := (Int32.not_lt.mpr q7)
      have hsem := zw_ifn p6 hsem
      have jj := hK _ (Option.some.inj hsem).symm
      exact (r_fgt [2] rfl jj)
    · --
      have p6 : (s2 < (c3.1 71 2)) := (Int32.not_le.mp q7)
      have hsem := zw_ifp p6 hsem
      refine r_iconst X (pc := 10) (v := 0) (zw_dg dk_M_layPay 6 rfl) (by decide) ?_
      refine r_istore_n X (pc := 11) (i := 3) (zw_dg dk_M_layPay 7 rfl) rfl (by decide) rfl ?_
      obtain ⟨c10, hl11, hsl11⟩ := zw_bd hsem
      refine r_loop (pc := 12) (pce := 43) hl11 (fun (e8, c9) => [some (.ref 71), some (.int p1), some (.int s2), some (.int e8)] : Int32 × zw_Ct → zw_Lc) (fun (e8, c9) => c9 : Int32 × zw_Ct → zw_Ct) (fun c10 => [some (.ref 71), some (.int p1), some (.int s2), none] : zw_Ct → zw_Lc) (fun c10 => c10 : zw_Ct → zw_Ct) ?_ rfl rfl ?_
      · rintro ⟨e8, c9⟩ rr hsem hK hP
        try unfold fn_M_layPay_l2 at hsem
        refine r_iload_n X (pc := 12) (i := 3) (zw_dg dk_M_layPay 8 rfl) rfl rfl ?_
        refine r_aload_n X (pc := 13) (i := 0) (zw_dg dk_M_layPay 9 rfl) rfl rfl ?_
        refine r_getI X (pc := 14) ci_M (zo hS 71 rfl rfl) rfl lk_M_9 (zw_dg dk_M_layPay 10 rfl) ?_
        refine r_icmp_ge X (pc := 17) (tgt := 43) (zw_dg dk_M_layPay 11 rfl) (by decide) (fun q13 => ?_) (fun q13 => ?_)
        · --
          have p12 : ¬ (e8 < (c9.1 71 0)) := (Int32.not_lt.mpr q13)
          have hsem := zw_ifn p12 hsem
          have jj := hK _ (Option.some.inj hsem).symm
          exact (r_fgt [3] rfl jj)
        · --
          have p12 : (e8 < (c9.1 71 0)) := (Int32.not_le.mp q13)
          have hsem := zw_ifp p12 hsem
          refine r_aload_n X (pc := 20) (i := 0) (zw_dg dk_M_layPay 12 rfl) rfl rfl ?_
          refine r_getR X (pc := 21) (r := 84) ci_M (zo hS 71 rfl rfl) rfl (zr hS 71 21 rfl rfl) lk_M_46 (zw_dg dk_M_layPay 13 rfl) ?_
          refine r_iconst X (pc := 24) (v := 4) (zw_dg dk_M_layPay 14 rfl) (by decide) ?_
          refine r_iload_n X (pc := 25) (i := 2) (zw_dg dk_M_layPay 15 rfl) rfl rfl ?_
          refine r_imul X (pc := 26) (zw_dg dk_M_layPay 16 rfl)  ?_
          refine r_iload_n X (pc := 27) (i := 3) (zw_dg dk_M_layPay 17 rfl) rfl rfl ?_
          refine r_iadd X (pc := 28) (zw_dg dk_M_layPay 18 rfl)  ?_
          refine r_aload_n X (pc := 29) (i := 0) (zw_dg dk_M_layPay 19 rfl) rfl rfl ?_
          refine r_iload_n X (pc := 30) (i := 1) (zw_dg dk_M_layPay 20 rfl) rfl rfl ?_
          refine r_iload_n X (pc := 31) (i := 2) (zw_dg dk_M_layPay 21 rfl) rfl rfl ?_
          refine r_iload_n X (pc := 32) (i := 3) (zw_dg dk_M_layPay 22 rfl) rfl rfl ?_
          obtain ⟨⟨r14, c15⟩, hr14_c15, hsem⟩ := zw_bd hsem
          refine r_callVi X (pc := 33) (As := [_, _, _]) (st := [.int ((4 * s2) + e8), .ref 84]) (km_M_payFor hS hr14_c15) ce_M_payFor kw_1692 (zo hS 71 rfl rfl) rfl rfl ⟨Nat.le_of_ble_eq_true rfl, Nat.le_of_ble_eq_true rfl⟩ (Nat.le_of_ble_eq_true rfl) (zw_dg dk_M_layPay 23 rfl) ?_
          obtain ⟨c16, hc16, hsem⟩ := zw_bd hsem
          refine r_iast X (pc := 36) (zo hS 84 rfl rfl) hc16 (zw_dg dk_M_layPay 24 rfl) ?_
          refine r_iinc X (pc := 37) (i := 3) (k := 1) (zw_dg dk_M_layPay 25 rfl) rfl (by decide) (by decide) rfl ?_
          refine r_goto X (pc := 40) (tgt := 12) (zw_dg dk_M_layPay 26 rfl) (by decide) ?_
          have jj := hP _ (Option.some.inj hsem).symm
          exact (r_fgt [] rfl jj)
      have hsem := hsl11
      refine r_iinc X (pc := 43) (i := 2) (k := 1) (zw_dg dk_M_layPay 27 rfl) rfl (by decide) (by decide) rfl ?_
      refine r_goto X (pc := 46) (tgt := 2) (zw_dg dk_M_layPay 28 rfl) (by decide) ?_
      have jj := hP _ (Option.some.inj hsem).symm
      exact (r_fgt [] rfl jj)
  have hsem := hsl5
  cases hsem
  exact r_vret X (pc := 49) rfl (zw_dg dk_M_layPay 29 rfl)
def y_M_ends : MethodName := ⟨R_M, "ends", "(I)I"⟩
abbrev b_M_ends : ByteArray := prog_14_method_32_code
def dl_M_ends : List (Nat × Instr × Nat) := [(0, .aload_n 0, 1), (1, .iconst 0, 1), (2, .putfield 97, 3), (5, .aload_n 0, 1), (6, .iload_n 1, 1), (7, .invokevirtual 222, 3), (10, .ifCond .ne 5, 3), (13, .iconst (-1), 1), (14, .ireturn, 1), (15, .aload_n 0, 1), (16, .iload_n 1, 1), (17, .invokevirtual 229, 3), (20, .iconst 0, 1), (21, .istore_n 2, 1), (22, .iconst 0, 1), (23, .istore_n 3, 1), (24, .aload_n 0, 1), (25, .getfield 46, 3), (28, .iconst 0, 1), (29, .iaload, 1), (30, .istore 4, 2), (32, .iconst 0, 1), (33, .istore 5, 2), (35, .iload 5, 2), (37, .aload_n 0, 1), (38, .getfield 113, 3), (41, .if_icmp .ge 80, 3), (44, .iconst 0, 1), (45, .istore 6, 2), (47, .iload 6, 2), (49, .aload_n 0, 1), (50, .getfield 9, 3), (53, .if_icmp .ge 62, 3), (56, .iload 4, 2), (58, .aload_n 0, 1), (59, .getfield 46, 3), (62, .iconst 4, 1), (63, .iload 5, 2), (65, .imul, 1), (66, .iload 6, 2), (68, .iadd, 1), (69, .iaload, 1), (70, .invokestatic 163, 3), (73, .istore 4, 2), (75, .aload_n 0, 1), (76, .getfield 46, 3), (79, .iconst 4, 1), (80, .iload 5, 2), (82, .imul, 1), (83, .iload 6, 2), (85, .iadd, 1), (86, .iaload, 1), (87, .aload_n 0, 1), (88, .getfield 46, 3), (91, .iconst 4, 1), (92, .iload_n 2, 1), (93, .imul, 1), (94, .iload_n 3, 1), (95, .iadd, 1), (96, .iaload, 1), (97, .if_icmp .lt 6, 3), (100, .goto 9, 3), (103, .iload 5, 2), (105, .istore_n 2, 1), (106, .iload 6, 2), (108, .istore_n 3, 1), (109, .iinc 6 1, 3), (112, .goto (-65), 3), (115, .iinc 5 1, 3), (118, .goto (-83), 3), (121, .aload_n 0, 1), (122, .iconst 0, 1), (123, .putfield 100, 3), (126, .aload_n 0, 1), (127, .aload_n 0, 1), (128, .getfield 46, 3), (131, .iconst 4, 1), (132, .iload_n 2, 1), (133, .imul, 1), (134, .iload_n 3, 1), (135, .iadd, 1), (136, .iaload, 1), (137, .i2l, 1), (138, .invokevirtual 109, 3), (141, .aload_n 0, 1), (142, .iload 4, 2), (144, .i2l, 1), (145, .invokevirtual 109, 3), (148, .aload_n 0, 1), (149, .iload_n 2, 1), (150, .i2l, 1), (151, .invokevirtual 109, 3), (154, .aload_n 0, 1), (155, .iload_n 3, 1), (156, .i2l, 1), (157, .invokevirtual 109, 3), (160, .iconst 0, 1), (161, .ireturn, 1)]
theorem dk_M_ends : zw_dk b_M_ends dl_M_ends = true := by decide +kernel
theorem ce_M_ends : zw_cev y_M_ends b_M_ends 7 (some .int) 1 := ⟨⟨kt_in 1699 (by decide +kernel) rfl, kt_in 98 (by decide +kernel) rfl, by decide +kernel⟩, kt_in 1697 (by decide +kernel) rfl, kt_in 1698 (by decide +kernel) rfl⟩
def fn_M_ends_l2 (c7 : zw_Ct) (s12 : Int32) : Int32 × Int32 × Int32 × Int32 → Option ((Int32 × Int32 × Int32) ⊕ (Int32 × Int32 × Int32 × Int32)) := fun (most19, first20, firstEvent21, e22) =>
  if (e22 < (c7.1 71 0)) then
  ((zw_aI 1820 c7 84 ((4 * s12) + e22)).bind fun x29 =>
  (some ((if most19 < x29 then x29 else most19) : Int32)).bind fun most30 =>
  (zw_aI 1820 c7 84 ((4 * s12) + e22)).bind fun x31 =>
  (zw_aI 1820 c7 84 ((4 * first20) + firstEvent21)).bind fun x32 =>
  if (x32 ≤ x31) then
  (some (.inr (most30, first20, firstEvent21, (e22 + 1))))
  else
  (some (.inr (most30, s12, e22, (e22 + 1)))))
  else
  (some (.inl (most19, first20, firstEvent21)))
def fn_M_ends_l1 (c7 : zw_Ct) : Int32 × Int32 × Int32 × Int32 → Option ((Int32 × Int32 × Int32) ⊕ (Int32 × Int32 × Int32 × Int32)) := fun (most9, first10, firstEvent11, s12) =>
  if (s12 < (c7.1 71 2)) then
  ((zw_whl (fn_M_ends_l2 c7 s12) zw_F (most9, first10, firstEvent11, 0)).bind fun (most23, first24, firstEvent25) =>
  some (.inr (most23, first24, firstEvent25, (s12 + 1))))
  else
  (some (.inl (most9, first10, firstEvent11)))
def fn_M_ends (c : zw_Ct) (p1 : Int32) : Option (Int32 × zw_Ct) :=
  (some (zw_wI c 71 9 0)).bind fun c3 =>
  (fn_M_isPay c3 p1).bind fun r4 =>
  if (¬ (¬ r4 = 0)) then
  (some ((-1), c3))
  else
  ((fn_M_layPay c3 p1).bind fun c7 =>
  (zw_aI 1820 c7 84 0).bind fun x8 =>
  (zw_whl (fn_M_ends_l1 c7) zw_F (x8, 0, 0, 0)).bind fun (most13, first14, firstEvent15) =>
  (some (zw_wI c7 71 8 0)).bind fun c35 =>
  (zw_aI 1820 c35 84 ((4 * first14) + firstEvent15)).bind fun x36 =>
  (fn_M_tell c35 x36.toInt64).bind fun c37 =>
  (fn_M_tell c37 most13.toInt64).bind fun c38 =>
  (fn_M_tell c38 first14.toInt64).bind fun c39 =>
  (fn_M_tell c39 firstEvent15.toInt64).bind fun c40 =>
  some (0, c40))
set_option maxRecDepth 100000 in
theorem km_M_ends {l : Launch} {g : zw_G} {rr : zw_RR} {sh : zw_Sh} {c : zw_Ct} {p1 : Int32} {r : Int32} {c2 : zw_Ct} (hS : zw_Ok 0 101 sh rr) (hsem : fn_M_ends c p1 = some (r, c2)) : zw_Met l g y_M_ends b_M_ends 7 (some .int) 107 rr sh [.ref 71, .int p1] c (some (.int r)) c2 := by
  unfold fn_M_ends at hsem
  refine zw_Met.of (by decide +kernel) (Nat.le_of_ble_eq_true rfl) (fun p e s m args below meth cd X => ?_)
  refine zw_eL (L2 := [some (.ref 71), some (.int p1), none, none, none, none, none]) rfl ?_
  refine r_aload_n X (pc := 0) (i := 0) (zw_dg dk_M_ends 0 rfl) rfl rfl ?_
  refine r_iconst X (pc := 1) (v := 0) (zw_dg dk_M_ends 1 rfl) (by decide) ?_
  refine r_putI X (pc := 2) ci_M (zo hS 71 rfl rfl) rfl lk_M_97 rfl ⟨rfl, rfl⟩ (zw_dg dk_M_ends 2 rfl) ?_
  obtain ⟨c3, hc3, hsem⟩ := zw_bd hsem
  refine zw_topC hc3 ?_
  refine r_aload_n X (pc := 5) (i := 0) (zw_dg dk_M_ends 3 rfl) rfl rfl ?_
  refine r_iload_n X (pc := 6) (i := 1) (zw_dg dk_M_ends 4 rfl) rfl rfl ?_
  obtain ⟨r4, hr4, hsem⟩ := zw_bd hsem
  refine r_callVi X (pc := 7) (As := [_]) (st := []) (km_M_isPay hS hr4) ce_M_isPay kw_1688 (zo hS 71 rfl rfl) rfl rfl ⟨Nat.le_of_ble_eq_true rfl, Nat.le_of_ble_eq_true rfl⟩ (Nat.le_of_ble_eq_true rfl) (zw_dg dk_M_ends 5 rfl) ?_
  refine r_if_ne X (pc := 10) (tgt := 15) (zw_dg dk_M_ends 6 rfl) (by decide) (fun q6 => ?_) (fun q6 => ?_)
  · --
    have p5 : ¬ (¬ (¬ r4 = 0)) := (fun q => q q6)
    have hsem := zw_ifn p5 hsem
    refine r_aload_n X (pc := 15) (i := 0) (zw_dg dk_M_ends 9 rfl) rfl rfl ?_
    refine r_iload_n X (pc := 16) (i := 1) (zw_dg dk_M_ends 10 rfl) rfl rfl ?_
    obtain ⟨c7, hc7, hsem⟩ := zw_bd hsem
    refine r_callVv X (pc := 17) (As := [_]) (st := []) (km_M_layPay hS hc7) ce_M_layPay kw_1700 (zo hS 71 rfl rfl) rfl rfl ⟨Nat.le_of_ble_eq_true rfl, Nat.le_of_ble_eq_true rfl⟩ (Nat.le_of_ble_eq_true rfl) (zw_dg dk_M_ends 11 rfl) ?_
    refine r_iconst X (pc := 20) (v := 0) (zw_dg dk_M_ends 12 rfl) (by decide) ?_
    refine r_istore_n X (pc := 21) (i := 2) (zw_dg dk_M_ends 13 rfl) rfl (by decide) rfl ?_
    refine r_iconst X (pc := 22) (v := 0) (zw_dg dk_M_ends 14 rfl) (by decide) ?_
    refine r_istore_n X (pc := 23) (i := 3) (zw_dg dk_M_ends 15 rfl) rfl (by decide) rfl ?_
    refine r_aload_n X (pc := 24) (i := 0) (zw_dg dk_M_ends 16 rfl) rfl rfl ?_
    refine r_getR X (pc := 25) (r := 84) ci_M (zo hS 71 rfl rfl) rfl (zr hS 71 21 rfl rfl) lk_M_46 (zw_dg dk_M_ends 17 rfl) ?_
    refine r_iconst X (pc := 28) (v := 0) (zw_dg dk_M_ends 18 rfl) (by decide) ?_
    obtain ⟨x8, hx8, hsem⟩ := zw_bd hsem
    refine r_iald X (pc := 29) (zo hS 84 rfl rfl) hx8 (zw_dg dk_M_ends 19 rfl) ?_
    refine r_istore X (pc := 30) (i := 4) (zw_dg dk_M_ends 20 rfl) (by decide) rfl ?_
    refine r_iconst X (pc := 32) (v := 0) (zw_dg dk_M_ends 21 rfl) (by decide) ?_
    refine r_istore X (pc := 33) (i := 5) (zw_dg dk_M_ends 22 rfl) (by decide) rfl ?_
    obtain ⟨l16, hl16, hsl16⟩ := zw_bd hsem
    refine r_loop (pc := 35) (pce := 121) hl16 (fun (most9, first10, firstEvent11, s12) => [some (.ref 71), some (.int p1), some (.int first10), some (.int firstEvent11), some (.int most9), some (.int s12), none] : Int32 × Int32 × Int32 × Int32 → zw_Lc) (fun (most9, first10, firstEvent11, s12) => c7 : Int32 × Int32 × Int32 × Int32 → zw_Ct) (fun (most13, first14, firstEvent15) => [some (.ref 71), some (.int p1), some (.int first14), some (.int firstEvent15), some (.int most13), none, none] : Int32 × Int32 × Int32 → zw_Lc) (fun (most13, first14, firstEvent15) => c7 : Int32 × Int32 × Int32 → zw_Ct) ?_ rfl rfl ?_
    · rintro ⟨most9, first10, firstEvent11, s12⟩ rr hsem hK hP
      try unfold fn_M_ends_l1 at hsem
      refine r_iload X (pc := 35) (i := 5) (zw_dg dk_M_ends 23 rfl) rfl ?_
      refine r_aload_n X (pc := 37) (i := 0) (zw_dg dk_M_ends 24 rfl) rfl rfl ?_
      refine r_getI X (pc := 38) ci_M (zo hS 71 rfl rfl) rfl lk_M_113 (zw_dg dk_M_ends 25 rfl) ?_
      refine r_icmp_ge X (pc := 41) (tgt := 121) (zw_dg dk_M_ends 26 rfl) (by decide) (fun q18 => ?_) (fun q18 => ?_)
      · --
        have p17 : ¬ (s12 < (c7.1 71 2)) := (Int32.not_lt.mpr q18)
        have hsem := zw_ifn p17 hsem
        have jj := hK _ (Option.some.inj hsem).symm
        exact (r_fgt [5] rfl jj)
      · --
        have p17 : (s12 < (c7.1 71 2)) := (Int32.not_le.mp q18)
        have hsem := zw_ifp p17 hsem
        refine r_iconst X (pc := 44) (v := 0) (zw_dg dk_M_ends 27 rfl) (by decide) ?_
        refine r_istore X (pc := 45) (i := 6) (zw_dg dk_M_ends 28 rfl) (by decide) rfl ?_
        obtain ⟨l26, hl26, hsl26⟩ := zw_bd hsem
        refine r_loop (pc := 47) (pce := 115) hl26 (fun (most19, first20, firstEvent21, e22) => [some (.ref 71), some (.int p1), some (.int first20), some (.int firstEvent21), some (.int most19), some (.int s12), some (.int e22)] : Int32 × Int32 × Int32 × Int32 → zw_Lc) (fun (most19, first20, firstEvent21, e22) => c7 : Int32 × Int32 × Int32 × Int32 → zw_Ct) (fun (most23, first24, firstEvent25) => [some (.ref 71), some (.int p1), some (.int first24), some (.int firstEvent25), some (.int most23), some (.int s12), none] : Int32 × Int32 × Int32 → zw_Lc) (fun (most23, first24, firstEvent25) => c7 : Int32 × Int32 × Int32 → zw_Ct) ?_ rfl rfl ?_
        · rintro ⟨most19, first20, firstEvent21, e22⟩ rr hsem hK hP
          try unfold fn_M_ends_l2 at hsem
          refine r_iload X (pc := 47) (i := 6) (zw_dg dk_M_ends 29 rfl) rfl ?_
          refine r_aload_n X (pc := 49) (i := 0) (zw_dg dk_M_ends 30 rfl) rfl rfl ?_
          refine r_getI X (pc := 50) ci_M (zo hS 71 rfl rfl) rfl lk_M_9 (zw_dg dk_M_ends 31 rfl) ?_
          refine r_icmp_ge X (pc := 53) (tgt := 115) (zw_dg dk_M_ends 32 rfl) (by decide) (fun q28 => ?_) (fun q28 => ?_)
          · --
            have p27 : ¬ (e22 < (c7.1 71 0)) := (Int32.not_lt.mpr q28)
            have hsem := zw_ifn p27 hsem
            have jj := hK _ (Option.some.inj hsem).symm
            exact (r_fgt [6] rfl jj)
          · --
            have p27 : (e22 < (c7.1 71 0)) := (Int32.not_le.mp q28)
            have hsem := zw_ifp p27 hsem
            refine r_iload X (pc := 56) (i := 4) (zw_dg dk_M_ends 33 rfl) rfl ?_
            refine r_aload_n X (pc := 58) (i := 0) (zw_dg dk_M_ends 34 rfl) rfl rfl ?_
            refine r_getR X (pc := 59) (r := 84) ci_M (zo hS 71 rfl rfl) rfl (zr hS 71 21 rfl rfl) lk_M_46 (zw_dg dk_M_ends 35 rfl) ?_
            refine r_iconst X (pc := 62) (v := 4) (zw_dg dk_M_ends 36 rfl) (by decide) ?_
            refine r_iload X (pc := 63) (i := 5) (zw_dg dk_M_ends 37 rfl) rfl ?_
            refine r_imul X (pc := 65) (zw_dg dk_M_ends 38 rfl)  ?_
            refine r_iload X (pc := 66) (i := 6) (zw_dg dk_M_ends 39 rfl) rfl ?_
            refine r_iadd X (pc := 68) (zw_dg dk_M_ends 40 rfl)  ?_
            obtain ⟨x29, hx29, hsem⟩ := zw_bd hsem
            refine r_iald X (pc := 69) (zo hS 84 rfl rfl) hx29 (zw_dg dk_M_ends 41 rfl) ?_
            refine r_mmax X (pc := 70) kw_1633 mws_max kw_88 mwc_max ⟨Nat.le_of_ble_eq_true rfl, Nat.le_of_ble_eq_true rfl⟩ (st := []) (Nat.le_of_ble_eq_true rfl) (zw_dg dk_M_ends 42 rfl) ?_
            obtain ⟨most30, hmost30, hsem⟩ := zw_bd hsem
            refine zw_topI hmost30 ?_
            refine r_istore X (pc := 73) (i := 4) (zw_dg dk_M_ends 43 rfl) (by decide) rfl ?_
            refine r_aload_n X (pc := 75) (i := 0) (zw_dg dk_M_ends 44 rfl) rfl rfl ?_
            refine r_getR X (pc := 76) (r := 84) ci_M (zo hS 71 rfl rfl) rfl (zr hS 71 21 rfl rfl) lk_M_46 (zw_dg dk_M_ends 45 rfl) ?_
            refine r_iconst X (pc := 79) (v := 4) (zw_dg dk_M_ends 46 rfl) (by decide) ?_
            refine r_iload X (pc := 80) (i := 5) (zw_dg dk_M_ends 47 rfl) rfl ?_
            refine r_imul X (pc := 82) (zw_dg dk_M_ends 48 rfl)  ?_
            refine r_iload X (pc := 83) (i := 6) (zw_dg dk_M_ends 49 rfl) rfl ?_
            refine r_iadd X (pc := 85) (zw_dg dk_M_ends 50 rfl)  ?_
            obtain ⟨x31, hx31, hsem⟩ := zw_bd hsem
            refine r_iald X (pc := 86) (zo hS 84 rfl rfl) hx31 (zw_dg dk_M_ends 51 rfl) ?_
            refine r_aload_n X (pc := 87) (i := 0) (zw_dg dk_M_ends 52 rfl) rfl rfl ?_
            refine r_getR X (pc := 88) (r := 84) ci_M (zo hS 71 rfl rfl) rfl (zr hS 71 21 rfl rfl) lk_M_46 (zw_dg dk_M_ends 53 rfl) ?_
            refine r_iconst X (pc := 91) (v := 4) (zw_dg dk_M_ends 54 rfl) (by decide) ?_
            refine r_iload_n X (pc := 92) (i := 2) (zw_dg dk_M_ends 55 rfl) rfl rfl ?_
            refine r_imul X (pc := 93) (zw_dg dk_M_ends 56 rfl)  ?_
            refine r_iload_n X (pc := 94) (i := 3) (zw_dg dk_M_ends 57 rfl) rfl rfl ?_
            refine r_iadd X (pc := 95) (zw_dg dk_M_ends 58 rfl)  ?_
            obtain ⟨x32, hx32, hsem⟩ := zw_bd hsem
            refine r_iald X (pc := 96) (zo hS 84 rfl rfl) hx32 (zw_dg dk_M_ends 59 rfl) ?_
            refine r_icmp_lt X (pc := 97) (tgt := 103) (zw_dg dk_M_ends 60 rfl) (by decide) (fun q34 => ?_) (fun q34 => ?_)
            · --
              have p33 : ¬ (x32 ≤ x31) := (Int32.not_le.mpr q34)
              have hsem := zw_ifn p33 hsem
              refine r_iload X (pc := 103) (i := 5) (zw_dg dk_M_ends 62 rfl) rfl ?_
              refine r_istore_n X (pc := 105) (i := 2) (zw_dg dk_M_ends 63 rfl) rfl (by decide) rfl ?_
              refine r_iload X (pc := 106) (i := 6) (zw_dg dk_M_ends 64 rfl) rfl ?_
              refine r_istore_n X (pc := 108) (i := 3) (zw_dg dk_M_ends 65 rfl) rfl (by decide) rfl ?_
              refine r_iinc X (pc := 109) (i := 6) (k := 1) (zw_dg dk_M_ends 66 rfl) rfl (by decide) (by decide) rfl ?_
              refine r_goto X (pc := 112) (tgt := 47) (zw_dg dk_M_ends 67 rfl) (by decide) ?_
              have jj := hP _ (Option.some.inj hsem).symm
              exact (r_fgt [] rfl jj)
            · --
              have p33 : (x32 ≤ x31) := (Int32.not_lt.mp q34)
              have hsem := zw_ifp p33 hsem
              refine r_goto X (pc := 100) (tgt := 109) (zw_dg dk_M_ends 61 rfl) (by decide) ?_
              refine r_iinc X (pc := 109) (i := 6) (k := 1) (zw_dg dk_M_ends 66 rfl) rfl (by decide) (by decide) rfl ?_
              refine r_goto X (pc := 112) (tgt := 47) (zw_dg dk_M_ends 67 rfl) (by decide) ?_
              have jj := hP _ (Option.some.inj hsem).symm
              exact (r_fgt [] rfl jj)
        obtain ⟨most23, first24, firstEvent25⟩ := l26
        have hsem := hsl26
        refine r_iinc X (pc := 115) (i := 5) (k := 1) (zw_dg dk_M_ends 68 rfl) rfl (by decide) (by decide) rfl ?_
        refine r_goto X (pc := 118) (tgt := 35) (zw_dg dk_M_ends 69 rfl) (by decide) ?_
        have jj := hP _ (Option.some.inj hsem).symm
        exact (r_fgt [] rfl jj)
    obtain ⟨most13, first14, firstEvent15⟩ := l16
    have hsem := hsl16
    refine r_aload_n X (pc := 121) (i := 0) (zw_dg dk_M_ends 70 rfl) rfl rfl ?_
    refine r_iconst X (pc := 122) (v := 0) (zw_dg dk_M_ends 71 rfl) (by decide) ?_
    refine r_putI X (pc := 123) ci_M (zo hS 71 rfl rfl) rfl lk_M_100 rfl ⟨rfl, rfl⟩ (zw_dg dk_M_ends 72 rfl) ?_
    obtain ⟨c35, hc35, hsem⟩ := zw_bd hsem
    refine zw_topC hc35 ?_
    refine r_aload_n X (pc := 126) (i := 0) (zw_dg dk_M_ends 73 rfl) rfl rfl ?_
    refine r_aload_n X (pc := 127) (i := 0) (zw_dg dk_M_ends 74 rfl) rfl rfl ?_
    refine r_getR X (pc := 128) (r := 84) ci_M (zo hS 71 rfl rfl) rfl (zr hS 71 21 rfl rfl) lk_M_46 (zw_dg dk_M_ends 75 rfl) ?_
    refine r_iconst X (pc := 131) (v := 4) (zw_dg dk_M_ends 76 rfl) (by decide) ?_
    refine r_iload_n X (pc := 132) (i := 2) (zw_dg dk_M_ends 77 rfl) rfl rfl ?_
    refine r_imul X (pc := 133) (zw_dg dk_M_ends 78 rfl)  ?_
    refine r_iload_n X (pc := 134) (i := 3) (zw_dg dk_M_ends 79 rfl) rfl rfl ?_
    refine r_iadd X (pc := 135) (zw_dg dk_M_ends 80 rfl)  ?_
    obtain ⟨x36, hx36, hsem⟩ := zw_bd hsem
    refine r_iald X (pc := 136) (zo hS 84 rfl rfl) hx36 (zw_dg dk_M_ends 81 rfl) ?_
    refine r_i2l X (pc := 137) (zw_dg dk_M_ends 82 rfl)  ?_
    obtain ⟨c37, hc37, hsem⟩ := zw_bd hsem
    refine r_callVv X (pc := 138) (As := [_]) (st := []) (km_M_tell hS hc37) ce_M_tell kw_1704 (zo hS 71 rfl rfl) rfl rfl ⟨Nat.le_of_ble_eq_true rfl, Nat.le_of_ble_eq_true rfl⟩ (Nat.le_of_ble_eq_true rfl) (zw_dg dk_M_ends 83 rfl) ?_
    refine r_aload_n X (pc := 141) (i := 0) (zw_dg dk_M_ends 84 rfl) rfl rfl ?_
    refine r_iload X (pc := 142) (i := 4) (zw_dg dk_M_ends 85 rfl) rfl ?_
    refine r_i2l X (pc := 144) (zw_dg dk_M_ends 86 rfl)  ?_
    obtain ⟨c38, hc38, hsem⟩ := zw_bd hsem
    refine r_callVv X (pc := 145) (As := [_]) (st := []) (km_M_tell hS hc38) ce_M_tell kw_1704 (zo hS 71 rfl rfl) rfl rfl ⟨Nat.le_of_ble_eq_true rfl, Nat.le_of_ble_eq_true rfl⟩ (Nat.le_of_ble_eq_true rfl) (zw_dg dk_M_ends 87 rfl) ?_
    refine r_aload_n X (pc := 148) (i := 0) (zw_dg dk_M_ends 88 rfl) rfl rfl ?_
    refine r_iload_n X (pc := 149) (i := 2) (zw_dg dk_M_ends 89 rfl) rfl rfl ?_
    refine r_i2l X (pc := 150) (zw_dg dk_M_ends 90 rfl)  ?_
    obtain ⟨c39, hc39, hsem⟩ := zw_bd hsem
    refine r_callVv X (pc := 151) (As := [_]) (st := []) (km_M_tell hS hc39) ce_M_tell kw_1704 (zo hS 71 rfl rfl) rfl rfl ⟨Nat.le_of_ble_eq_true rfl, Nat.le_of_ble_eq_true rfl⟩ (Nat.le_of_ble_eq_true rfl) (zw_dg dk_M_ends 91 rfl) ?_
    refine r_aload_n X (pc := 154) (i := 0) (zw_dg dk_M_ends 92 rfl) rfl rfl ?_
    refine r_iload_n X (pc := 155) (i := 3) (zw_dg dk_M_ends 93 rfl) rfl rfl ?_
    refine r_i2l X (pc := 156) (zw_dg dk_M_ends 94 rfl)  ?_
    obtain ⟨c40, hc40, hsem⟩ := zw_bd hsem
    refine r_callVv X (pc := 157) (As := [_]) (st := []) (km_M_tell hS hc40) ce_M_tell kw_1704 (zo hS 71 rfl rfl) rfl rfl ⟨Nat.le_of_ble_eq_true rfl, Nat.le_of_ble_eq_true rfl⟩ (Nat.le_of_ble_eq_true rfl) (zw_dg dk_M_ends 95 rfl) ?_
    refine r_iconst X (pc := 160) (v := 0) (zw_dg dk_M_ends 96 rfl) (by decide) ?_
    obtain ⟨rfl, rfl⟩ := zw_in2 hsem
    exact r_iret X (pc := 161) rfl (zw_dg dk_M_ends 97 rfl)
  · --
    have p5 : (¬ (¬ r4 = 0)) := (fun z => z q6)
    have hsem := zw_ifp p5 hsem
    refine r_iconst X (pc := 13) (v := (-1)) (zw_dg dk_M_ends 7 rfl) (by decide) ?_
    obtain ⟨rfl, rfl⟩ := zw_in2 hsem
    exact r_iret X (pc := 14) rfl (zw_dg dk_M_ends 8 rfl)
def y_M_worth : MethodName := ⟨R_M, "worth", "(II)J"⟩
abbrev b_M_worth : ByteArray := prog_14_method_33_code
def dl_M_worth : List (Nat × Instr × Nat) := [(0, .lconst 0, 1), (1, .lstore_n 3, 1), (2, .iconst 0, 1), (3, .istore 5, 2), (5, .iload 5, 2), (7, .aload_n 0, 1), (8, .getfield 9, 3), (11, .if_icmp .ge 37, 3), (14, .lload_n 3, 1), (15, .aload_n 0, 1), (16, .getfield 16, 3), (19, .iconst 4, 1), (20, .iload_n 2, 1), (21, .imul, 1), (22, .iload 5, 2), (24, .iadd, 1), (25, .iaload, 1), (26, .i2l, 1), (27, .aload_n 0, 1), (28, .getfield 46, 3), (31, .iconst 4, 1), (32, .iload_n 1, 1), (33, .imul, 1), (34, .iload 5, 2), (36, .iadd, 1), (37, .iaload, 1), (38, .i2l, 1), (39, .lmul, 1), (40, .ladd, 1), (41, .lstore_n 3, 1), (42, .iinc 5 1, 3), (45, .goto (-40), 3), (48, .lload_n 3, 1), (49, .lreturn, 1)]
theorem dk_M_worth : zw_dk b_M_worth dl_M_worth = true := by decide +kernel
theorem ce_M_worth : zw_cev y_M_worth b_M_worth 6 (some .long) 2 := ⟨⟨kt_in 1715 (by decide +kernel) rfl, kt_in 98 (by decide +kernel) rfl, by decide +kernel⟩, kt_in 1714 (by decide +kernel) rfl, kt_in 57 (by decide +kernel) rfl⟩
def fn_M_worth_l1 (c : zw_Ct) (thought2 : Int32) (s1 : Int32) : Int64 × Int32 → Option ((Int64) ⊕ (Int64 × Int32)) := fun (sum3, e4) =>
  if (e4 < (c.1 71 0)) then
  ((zw_aI 1820 c 72 ((4 * thought2) + e4)).bind fun x9 =>
  (zw_aI 1820 c 84 ((4 * s1) + e4)).bind fun x10 =>
  (some ((sum3 + (x9.toInt64 * x10.toInt64)) : Int64)).bind fun sum11 =>
  some (.inr (sum11, (e4 + 1))))
  else
  (some (.inl sum3))
def fn_M_worth (c : zw_Ct) (s1 : Int32) (thought2 : Int32) : Option Int64 :=
  (zw_whl (fn_M_worth_l1 c thought2 s1) zw_F (0, 0)).bind fun sum5 =>
  some sum5
set_option maxRecDepth 100000 in
theorem km_M_worth {l : Launch} {g : zw_G} {rr : zw_RR} {sh : zw_Sh} {c : zw_Ct} {s1 : Int32} {thought2 : Int32} {r : Int64} (hS : zw_Ok 0 101 sh rr) (hsem : fn_M_worth c s1 thought2 = some r) : zw_Met l g y_M_worth b_M_worth 6 (some .long) 1 rr sh [.ref 71, .int s1, .int thought2] c (some (.long r)) c := by
  unfold fn_M_worth at hsem
  refine zw_Met.of (by decide +kernel) (Nat.le_of_ble_eq_true rfl) (fun p e s m args below meth cd X => ?_)
  refine zw_eL (L2 := [some (.ref 71), some (.int s1), some (.int thought2), none, none, none]) rfl ?_
  refine r_lconst X (pc := 0) (v := 0) (zw_dg dk_M_worth 0 rfl) (by decide) ?_
  refine r_lstore_n X (pc := 1) (i := 3) (L2 := [some (.ref 71), some (.int s1), some (.int thought2), some (.long 0), none, none]) (zw_dg dk_M_worth 1 rfl) rfl (by decide) rfl ?_
  refine r_iconst X (pc := 2) (v := 0) (zw_dg dk_M_worth 2 rfl) (by decide) ?_
  refine r_istore X (pc := 3) (i := 5) (zw_dg dk_M_worth 3 rfl) (by decide) rfl ?_
  obtain ⟨sum5, hl6, hsl6⟩ := zw_bd hsem
  refine r_loop (pc := 5) (pce := 48) hl6 (fun (sum3, e4) => [some (.ref 71), some (.int s1), some (.int thought2), some (.long sum3), none, some (.int e4)] : Int64 × Int32 → zw_Lc) (fun (sum3, e4) => c : Int64 × Int32 → zw_Ct) (fun sum5 => [some (.ref 71), some (.int s1), some (.int thought2), some (.long sum5), none, none] : Int64 → zw_Lc) (fun sum5 => c : Int64 → zw_Ct) ?_ rfl rfl ?_
  · rintro ⟨sum3, e4⟩ rr hsem hK hP
    try unfold fn_M_worth_l1 at hsem
    refine r_iload X (pc := 5) (i := 5) (zw_dg dk_M_worth 4 rfl) rfl ?_
    refine r_aload_n X (pc := 7) (i := 0) (zw_dg dk_M_worth 5 rfl) rfl rfl ?_
    refine r_getI X (pc := 8) ci_M (zo hS 71 rfl rfl) rfl lk_M_9 (zw_dg dk_M_worth 6 rfl) ?_
    refine r_icmp_ge X (pc := 11) (tgt := 48) (zw_dg dk_M_worth 7 rfl) (by decide) (fun q8 => ?_) (fun q8 => ?_)
    · --
      have p7 : ¬ (e4 < (c.1 71 0)) := (Int32.not_lt.mpr q8)
      have hsem := zw_ifn p7 hsem
      have jj := hK _ (Option.some.inj hsem).symm
      exact (r_fgt [5] rfl jj)
    · --
      have p7 : (e4 < (c.1 71 0)) := (Int32.not_le.mp q8)
      have hsem := zw_ifp p7 hsem
      refine r_lload_n X (pc := 14) (i := 3) (zw_dg dk_M_worth 8 rfl) rfl rfl ?_
      refine r_aload_n X (pc := 15) (i := 0) (zw_dg dk_M_worth 9 rfl) rfl rfl ?_
      refine r_getR X (pc := 16) (r := 72) ci_M (zo hS 71 rfl rfl) rfl (zr hS 71 3 rfl rfl) lk_M_16 (zw_dg dk_M_worth 10 rfl) ?_
      refine r_iconst X (pc := 19) (v := 4) (zw_dg dk_M_worth 11 rfl) (by decide) ?_
      refine r_iload_n X (pc := 20) (i := 2) (zw_dg dk_M_worth 12 rfl) rfl rfl ?_
      refine r_imul X (pc := 21) (zw_dg dk_M_worth 13 rfl)  ?_
      refine r_iload X (pc := 22) (i := 5) (zw_dg dk_M_worth 14 rfl) rfl ?_
      refine r_iadd X (pc := 24) (zw_dg dk_M_worth 15 rfl)  ?_
      obtain ⟨x9, hx9, hsem⟩ := zw_bd hsem
      refine r_iald X (pc := 25) (zo hS 72 rfl rfl) hx9 (zw_dg dk_M_worth 16 rfl) ?_
      refine r_i2l X (pc := 26) (zw_dg dk_M_worth 17 rfl)  ?_
      refine r_aload_n X (pc := 27) (i := 0) (zw_dg dk_M_worth 18 rfl) rfl rfl ?_
      refine r_getR X (pc := 28) (r := 84) ci_M (zo hS 71 rfl rfl) rfl (zr hS 71 21 rfl rfl) lk_M_46 (zw_dg dk_M_worth 19 rfl) ?_
      refine r_iconst X (pc := 31) (v := 4) (zw_dg dk_M_worth 20 rfl) (by decide) ?_
      refine r_iload_n X (pc := 32) (i := 1) (zw_dg dk_M_worth 21 rfl) rfl rfl ?_
      refine r_imul X (pc := 33) (zw_dg dk_M_worth 22 rfl)  ?_
      refine r_iload X (pc := 34) (i := 5) (zw_dg dk_M_worth 23 rfl) rfl ?_
      refine r_iadd X (pc := 36) (zw_dg dk_M_worth 24 rfl)  ?_
      obtain ⟨x10, hx10, hsem⟩ := zw_bd hsem
      refine r_iald X (pc := 37) (zo hS 84 rfl rfl) hx10 (zw_dg dk_M_worth 25 rfl) ?_
      refine r_i2l X (pc := 38) (zw_dg dk_M_worth 26 rfl)  ?_
      refine r_lmul X (pc := 39) (zw_dg dk_M_worth 27 rfl)  ?_
      refine r_ladd X (pc := 40) (zw_dg dk_M_worth 28 rfl)  ?_
      obtain ⟨sum11, hsum11, hsem⟩ := zw_bd hsem
      refine zw_topJ hsum11 ?_
      refine r_lstore_n X (pc := 41) (i := 3) (L2 := [some (.ref 71), some (.int s1), some (.int thought2), some (.long sum11), none, some (.int e4)]) (zw_dg dk_M_worth 29 rfl) rfl (by decide) rfl ?_
      refine r_iinc X (pc := 42) (i := 5) (k := 1) (zw_dg dk_M_worth 30 rfl) rfl (by decide) (by decide) rfl ?_
      refine r_goto X (pc := 45) (tgt := 5) (zw_dg dk_M_worth 31 rfl) (by decide) ?_
      have jj := hP _ (Option.some.inj hsem).symm
      exact (r_fgt [] rfl jj)
  have hsem := hsl6
  refine r_lload_n X (pc := 48) (i := 3) (zw_dg dk_M_worth 32 rfl) rfl rfl ?_
  cases hsem
  exact r_lret X (pc := 49) rfl (zw_dg dk_M_worth 33 rfl)
def y_M_bestWorth : MethodName := ⟨R_M, "bestWorth", "(I)J"⟩
abbrev b_M_bestWorth : ByteArray := prog_14_method_34_code
def dl_M_bestWorth : List (Nat × Instr × Nat) := [(0, .aload_n 0, 1), (1, .iconst 0, 1), (2, .iload_n 1, 1), (3, .invokevirtual 233, 3), (6, .lstore_n 2, 1), (7, .iconst 1, 1), (8, .istore 4, 2), (10, .iload 4, 2), (12, .aload_n 0, 1), (13, .getfield 113, 3), (16, .if_icmp .ge 21, 3), (19, .lload_n 2, 1), (20, .aload_n 0, 1), (21, .iload 4, 2), (23, .iload_n 1, 1), (24, .invokevirtual 233, 3), (27, .invokestatic 237, 3), (30, .lstore_n 2, 1), (31, .iinc 4 1, 3), (34, .goto (-24), 3), (37, .lload_n 2, 1), (38, .lreturn, 1)]
theorem dk_M_bestWorth : zw_dk b_M_bestWorth dl_M_bestWorth = true := by decide +kernel
theorem ce_M_bestWorth : zw_cev y_M_bestWorth b_M_bestWorth 5 (some .long) 1 := ⟨⟨kt_in 1730 (by decide +kernel) rfl, kt_in 98 (by decide +kernel) rfl, by decide +kernel⟩, kt_in 1729 (by decide +kernel) rfl, kt_in 59 (by decide +kernel) rfl⟩
def fn_M_bestWorth_l1 (c : zw_Ct) (thought1 : Int32) : Int64 × Int32 → Option ((Int64) ⊕ (Int64 × Int32)) := fun (most3, s4) =>
  if (s4 < (c.1 71 2)) then
  ((fn_M_worth c s4 thought1).bind fun r9 =>
  (some ((if r9 < most3 then most3 else r9) : Int64)).bind fun most10 =>
  some (.inr (most10, (s4 + 1))))
  else
  (some (.inl most3))
def fn_M_bestWorth (c : zw_Ct) (thought1 : Int32) : Option Int64 :=
  (fn_M_worth c 0 thought1).bind fun r2 =>
  (zw_whl (fn_M_bestWorth_l1 c thought1) zw_F (r2, 1)).bind fun most5 =>
  some most5
set_option maxRecDepth 100000 in
theorem km_M_bestWorth {l : Launch} {g : zw_G} {rr : zw_RR} {sh : zw_Sh} {c : zw_Ct} {thought1 : Int32} {r : Int64} (hS : zw_Ok 0 101 sh rr) (hsem : fn_M_bestWorth c thought1 = some r) : zw_Met l g y_M_bestWorth b_M_bestWorth 5 (some .long) 2 rr sh [.ref 71, .int thought1] c (some (.long r)) c := by
  unfold fn_M_bestWorth at hsem
  refine zw_Met.of (by decide +kernel) (Nat.le_of_ble_eq_true rfl) (fun p e s m args below meth cd X => ?_)
  refine zw_eL (L2 := [some (.ref 71), some (.int thought1), none, none, none]) rfl ?_
  refine r_aload_n X (pc := 0) (i := 0) (zw_dg dk_M_bestWorth 0 rfl) rfl rfl ?_
  refine r_iconst X (pc := 1) (v := 0) (zw_dg dk_M_bestWorth 1 rfl) (by decide) ?_
  refine r_iload_n X (pc := 2) (i := 1) (zw_dg dk_M_bestWorth 2 rfl) rfl rfl ?_
  obtain ⟨r2, hr2, hsem⟩ := zw_bd hsem
  refine r_callVl X (pc := 3) (As := [_, _]) (st := []) (km_M_worth hS hr2) ce_M_worth kw_1712 (zo hS 71 rfl rfl) rfl rfl ⟨Nat.le_of_ble_eq_true rfl, Nat.le_of_ble_eq_true rfl⟩ (Nat.le_of_ble_eq_true rfl) (zw_dg dk_M_bestWorth 3 rfl) ?_
  refine r_lstore_n X (pc := 6) (i := 2) (L2 := [some (.ref 71), some (.int thought1), some (.long r2), none, none]) (zw_dg dk_M_bestWorth 4 rfl) rfl (by decide) rfl ?_
  refine r_iconst X (pc := 7) (v := 1) (zw_dg dk_M_bestWorth 5 rfl) (by decide) ?_
  refine r_istore X (pc := 8) (i := 4) (zw_dg dk_M_bestWorth 6 rfl) (by decide) rfl ?_
  obtain ⟨most5, hl6, hsl6⟩ := zw_bd hsem
  refine r_loop (pc := 10) (pce := 37) hl6 (fun (most3, s4) => [some (.ref 71), some (.int thought1), some (.long most3), none, some (.int s4)] : Int64 × Int32 → zw_Lc) (fun (most3, s4) => c : Int64 × Int32 → zw_Ct) (fun most5 => [some (.ref 71), some (.int thought1), some (.long most5), none, none] : Int64 → zw_Lc) (fun most5 => c : Int64 → zw_Ct) ?_ rfl rfl ?_
  · rintro ⟨most3, s4⟩ rr hsem hK hP
    try unfold fn_M_bestWorth_l1 at hsem
    refine r_iload X (pc := 10) (i := 4) (zw_dg dk_M_bestWorth 7 rfl) rfl ?_
    refine r_aload_n X (pc := 12) (i := 0) (zw_dg dk_M_bestWorth 8 rfl) rfl rfl ?_
    refine r_getI X (pc := 13) ci_M (zo hS 71 rfl rfl) rfl lk_M_113 (zw_dg dk_M_bestWorth 9 rfl) ?_
    refine r_icmp_ge X (pc := 16) (tgt := 37) (zw_dg dk_M_bestWorth 10 rfl) (by decide) (fun q8 => ?_) (fun q8 => ?_)
    · --
      have p7 : ¬ (s4 < (c.1 71 2)) := (Int32.not_lt.mpr q8)
      have hsem := zw_ifn p7 hsem
      have jj := hK _ (Option.some.inj hsem).symm
      exact (r_fgt [4] rfl jj)
    · --
      have p7 : (s4 < (c.1 71 2)) := (Int32.not_le.mp q8)
      have hsem := zw_ifp p7 hsem
      refine r_lload_n X (pc := 19) (i := 2) (zw_dg dk_M_bestWorth 11 rfl) rfl rfl ?_
      refine r_aload_n X (pc := 20) (i := 0) (zw_dg dk_M_bestWorth 12 rfl) rfl rfl ?_
      refine r_iload X (pc := 21) (i := 4) (zw_dg dk_M_bestWorth 13 rfl) rfl ?_
      refine r_iload_n X (pc := 23) (i := 1) (zw_dg dk_M_bestWorth 14 rfl) rfl rfl ?_
      obtain ⟨r9, hr9, hsem⟩ := zw_bd hsem
      refine r_callVl X (pc := 24) (As := [_, _]) (st := [.long most3]) (km_M_worth hS hr9) ce_M_worth kw_1712 (zo hS 71 rfl rfl) rfl rfl ⟨Nat.le_of_ble_eq_true rfl, Nat.le_of_ble_eq_true rfl⟩ (Nat.le_of_ble_eq_true rfl) (zw_dg dk_M_bestWorth 15 rfl) ?_
      refine r_mmaxl X (pc := 27) kw_1731 mws_maxl kw_88 mwc_maxl ⟨Nat.le_of_ble_eq_true rfl, Nat.le_of_ble_eq_true rfl⟩ (st := []) (Nat.le_of_ble_eq_true rfl) (zw_dg dk_M_bestWorth 16 rfl) ?_
      obtain ⟨most10, hmost10, hsem⟩ := zw_bd hsem
      refine zw_topJ hmost10 ?_
      refine r_lstore_n X (pc := 30) (i := 2) (L2 := [some (.ref 71), some (.int thought1), some (.long most10), none, some (.int s4)]) (zw_dg dk_M_bestWorth 17 rfl) rfl (by decide) rfl ?_
      refine r_iinc X (pc := 31) (i := 4) (k := 1) (zw_dg dk_M_bestWorth 18 rfl) rfl (by decide) (by decide) rfl ?_
      refine r_goto X (pc := 34) (tgt := 10) (zw_dg dk_M_bestWorth 19 rfl) (by decide) ?_
      have jj := hP _ (Option.some.inj hsem).symm
      exact (r_fgt [] rfl jj)
  have hsem := hsl6
  refine r_lload_n X (pc := 37) (i := 2) (zw_dg dk_M_bestWorth 20 rfl) rfl rfl ?_
  cases hsem
  exact r_lret X (pc := 38) rfl (zw_dg dk_M_bestWorth 21 rfl)
def y_M_mean : MethodName := ⟨R_M, "mean", "(III)I"⟩
abbrev b_M_mean : ByteArray := prog_14_method_35_code
def dl_M_mean : List (Nat × Instr × Nat) := [(0, .aload_n 0, 1), (1, .iconst 0, 1), (2, .putfield 97, 3), (5, .aload_n 0, 1), (6, .iload_n 1, 1), (7, .invokevirtual 222, 3), (10, .ifCond .eq 19, 3), (13, .aload_n 0, 1), (14, .iload_n 2, 1), (15, .invokevirtual 142, 3), (18, .ifCond .eq 11, 3), (21, .aload_n 0, 1), (22, .iload_n 3, 1), (23, .invokevirtual 142, 3), (26, .ifCond .ne 5, 3), (29, .iconst (-1), 1), (30, .ireturn, 1), (31, .aload_n 0, 1), (32, .iload_n 1, 1), (33, .invokevirtual 229, 3), (36, .aload_n 0, 1), (37, .iconst 0, 1), (38, .putfield 100, 3), (41, .aload_n 0, 1), (42, .aload_n 0, 1), (43, .iload_n 2, 1), (44, .iload_n 3, 1), (45, .invokevirtual 233, 3), (48, .aload_n 0, 1), (49, .getfield 13, 3), (52, .i2l, 1), (53, .invokevirtual 240, 3), (56, .iconst 0, 1), (57, .ireturn, 1)]
theorem dk_M_mean : zw_dk b_M_mean dl_M_mean = true := by decide +kernel
theorem ce_M_mean : zw_cev y_M_mean b_M_mean 4 (some .int) 3 := ⟨⟨kt_in 1711 (by decide +kernel) rfl, kt_in 98 (by decide +kernel) rfl, by decide +kernel⟩, kt_in 1709 (by decide +kernel) rfl, kt_in 1710 (by decide +kernel) rfl⟩
def fn_M_mean (c : zw_Ct) (p1 : Int32) (s2 : Int32) (t3 : Int32) : Option (Int32 × zw_Ct) :=
  (some (zw_wI c 71 9 0)).bind fun c4 =>
  (fn_M_isPay c4 p1).bind fun r5 =>
  if (((¬ (¬ r5 = 0)) ∨ (¬ (¬ (fn_M_isSaying c4 s2) = 0))) ∨ (¬ (¬ (fn_M_isSaying c4 t3) = 0))) then
  (some ((-1), c4))
  else
  ((fn_M_layPay c4 p1).bind fun c10 =>
  (some (zw_wI c10 71 8 0)).bind fun c11 =>
  (fn_M_worth c11 s2 t3).bind fun r12 =>
  (fn_M_tellPart c11 r12 ((c11.1 71 1)).toInt64).bind fun c13 =>
  some (0, c13))
set_option maxRecDepth 100000 in
theorem km_M_mean {l : Launch} {g : zw_G} {rr : zw_RR} {sh : zw_Sh} {c : zw_Ct} {p1 : Int32} {s2 : Int32} {t3 : Int32} {r : Int32} {c2 : zw_Ct} (hS : zw_Ok 0 101 sh rr) (hsem : fn_M_mean c p1 s2 t3 = some (r, c2)) : zw_Met l g y_M_mean b_M_mean 4 (some .int) 107 rr sh [.ref 71, .int p1, .int s2, .int t3] c (some (.int r)) c2 := by
  unfold fn_M_mean at hsem
  refine zw_Met.of (by decide +kernel) (Nat.le_of_ble_eq_true rfl) (fun p e s m args below meth cd X => ?_)
  refine zw_eL (L2 := [some (.ref 71), some (.int p1), some (.int s2), some (.int t3)]) rfl ?_
  refine r_aload_n X (pc := 0) (i := 0) (zw_dg dk_M_mean 0 rfl) rfl rfl ?_
  refine r_iconst X (pc := 1) (v := 0) (zw_dg dk_M_mean 1 rfl) (by decide) ?_
  refine r_putI X (pc := 2) ci_M (zo hS 71 rfl rfl) rfl lk_M_97 rfl ⟨rfl, rfl⟩ (zw_dg dk_M_mean 2 rfl) ?_
  obtain ⟨c4, hc4, hsem⟩ := zw_bd hsem
  refine zw_topC hc4 ?_
  refine r_aload_n X (pc := 5) (i := 0) (zw_dg dk_M_mean 3 rfl) rfl rfl ?_
  refine r_iload_n X (pc := 6) (i := 1) (zw_dg dk_M_mean 4 rfl) rfl rfl ?_
  obtain ⟨r5, hr5, hsem⟩ := zw_bd hsem
  refine r_callVi X (pc := 7) (As := [_]) (st := []) (km_M_isPay hS hr5) ce_M_isPay kw_1688 (zo hS 71 rfl rfl) rfl rfl ⟨Nat.le_of_ble_eq_true rfl, Nat.le_of_ble_eq_true rfl⟩ (Nat.le_of_ble_eq_true rfl) (zw_dg dk_M_mean 5 rfl) ?_
  refine zw_cnd (P := (((¬ (¬ r5 = 0)) ∨ (¬ (¬ (fn_M_isSaying c4 s2) = 0))) ∨ (¬ (¬ (fn_M_isSaying c4 t3) = 0)))) (J1 := 29) (J2 := 31) (st2 := []) (fun jT jF => ?_) (fun p6 => ?_) (fun p6 => ?_)
  · --
    refine r_if_eq X (pc := 10) (tgt := 29) (zw_dg dk_M_mean 6 rfl) (by decide) (fun q7 => ?_) (fun q7 => ?_)
    · --
      exact jT (Or.inl (Or.inl (fun z => z q7)))
    · --
      refine r_aload_n X (pc := 13) (i := 0) (zw_dg dk_M_mean 7 rfl) rfl rfl ?_
      refine r_iload_n X (pc := 14) (i := 2) (zw_dg dk_M_mean 8 rfl) rfl rfl ?_
      refine r_callVi X (pc := 15) (As := [_]) (st := []) (km_M_isSaying hS rfl) ce_M_isSaying kw_1609 (zo hS 71 rfl rfl) rfl rfl ⟨Nat.le_of_ble_eq_true rfl, Nat.le_of_ble_eq_true rfl⟩ (Nat.le_of_ble_eq_true rfl) (zw_dg dk_M_mean 9 rfl) ?_
      refine r_if_eq X (pc := 18) (tgt := 29) (zw_dg dk_M_mean 10 rfl) (by decide) (fun q8 => ?_) (fun q8 => ?_)
      · --
        exact jT (Or.inl (Or.inr (fun z => z q8)))
      · --
        refine r_aload_n X (pc := 21) (i := 0) (zw_dg dk_M_mean 11 rfl) rfl rfl ?_
        refine r_iload_n X (pc := 22) (i := 3) (zw_dg dk_M_mean 12 rfl) rfl rfl ?_
        refine r_callVi X (pc := 23) (As := [_]) (st := []) (km_M_isSaying hS rfl) ce_M_isSaying kw_1609 (zo hS 71 rfl rfl) rfl rfl ⟨Nat.le_of_ble_eq_true rfl, Nat.le_of_ble_eq_true rfl⟩ (Nat.le_of_ble_eq_true rfl) (zw_dg dk_M_mean 13 rfl) ?_
        refine r_if_ne X (pc := 26) (tgt := 31) (zw_dg dk_M_mean 14 rfl) (by decide) (fun q9 => ?_) (fun q9 => ?_)
        · --
          exact jF (fun q => q.elim (fun q => q.elim (fun q => q q7) (fun q => q q8)) (fun q => q q9))
        · --
          exact jT (Or.inr (fun z => z q9))
  · --
    have hsem := zw_ifp p6 hsem
    refine r_iconst X (pc := 29) (v := (-1)) (zw_dg dk_M_mean 15 rfl) (by decide) ?_
    obtain ⟨rfl, rfl⟩ := zw_in2 hsem
    exact r_iret X (pc := 30) rfl (zw_dg dk_M_mean 16 rfl)
  · --
    have hsem := zw_ifn p6 hsem
    refine r_aload_n X (pc := 31) (i := 0) (zw_dg dk_M_mean 17 rfl) rfl rfl ?_
    refine r_iload_n X (pc := 32) (i := 1) (zw_dg dk_M_mean 18 rfl) rfl rfl ?_
    obtain ⟨c10, hc10, hsem⟩ := zw_bd hsem
    refine r_callVv X (pc := 33) (As := [_]) (st := []) (km_M_layPay hS hc10) ce_M_layPay kw_1700 (zo hS 71 rfl rfl) rfl rfl ⟨Nat.le_of_ble_eq_true rfl, Nat.le_of_ble_eq_true rfl⟩ (Nat.le_of_ble_eq_true rfl) (zw_dg dk_M_mean 19 rfl) ?_
    refine r_aload_n X (pc := 36) (i := 0) (zw_dg dk_M_mean 20 rfl) rfl rfl ?_
    refine r_iconst X (pc := 37) (v := 0) (zw_dg dk_M_mean 21 rfl) (by decide) ?_
    refine r_putI X (pc := 38) ci_M (zo hS 71 rfl rfl) rfl lk_M_100 rfl ⟨rfl, rfl⟩ (zw_dg dk_M_mean 22 rfl) ?_
    obtain ⟨c11, hc11, hsem⟩ := zw_bd hsem
    refine zw_topC hc11 ?_
    refine r_aload_n X (pc := 41) (i := 0) (zw_dg dk_M_mean 23 rfl) rfl rfl ?_
    refine r_aload_n X (pc := 42) (i := 0) (zw_dg dk_M_mean 24 rfl) rfl rfl ?_
    refine r_iload_n X (pc := 43) (i := 2) (zw_dg dk_M_mean 25 rfl) rfl rfl ?_
    refine r_iload_n X (pc := 44) (i := 3) (zw_dg dk_M_mean 26 rfl) rfl rfl ?_
    obtain ⟨r12, hr12, hsem⟩ := zw_bd hsem
    refine r_callVl X (pc := 45) (As := [_, _]) (st := [.ref 71]) (km_M_worth hS hr12) ce_M_worth kw_1712 (zo hS 71 rfl rfl) rfl rfl ⟨Nat.le_of_ble_eq_true rfl, Nat.le_of_ble_eq_true rfl⟩ (Nat.le_of_ble_eq_true rfl) (zw_dg dk_M_mean 27 rfl) ?_
    refine r_aload_n X (pc := 48) (i := 0) (zw_dg dk_M_mean 28 rfl) rfl rfl ?_
    refine r_getI X (pc := 49) ci_M (zo hS 71 rfl rfl) rfl lk_M_13 (zw_dg dk_M_mean 29 rfl) ?_
    refine r_i2l X (pc := 52) (zw_dg dk_M_mean 30 rfl)  ?_
    obtain ⟨c13, hc13, hsem⟩ := zw_bd hsem
    refine r_callVv X (pc := 53) (As := [_, _]) (st := []) (km_M_tellPart hS hc13) ce_M_tellPart kw_1716 (zo hS 71 rfl rfl) rfl rfl ⟨Nat.le_of_ble_eq_true rfl, Nat.le_of_ble_eq_true rfl⟩ (Nat.le_of_ble_eq_true rfl) (zw_dg dk_M_mean 31 rfl) ?_
    refine r_iconst X (pc := 56) (v := 0) (zw_dg dk_M_mean 32 rfl) (by decide) ?_
    obtain ⟨rfl, rfl⟩ := zw_in2 hsem
    exact r_iret X (pc := 57) rfl (zw_dg dk_M_mean 33 rfl)
def y_M_best : MethodName := ⟨R_M, "best", "(II)I"⟩
abbrev b_M_best : ByteArray := prog_14_method_36_code
def dl_M_best : List (Nat × Instr × Nat) := [(0, .aload_n 0, 1), (1, .iconst 0, 1), (2, .putfield 97, 3), (5, .aload_n 0, 1), (6, .iload_n 1, 1), (7, .invokevirtual 222, 3), (10, .ifCond .eq 11, 3), (13, .aload_n 0, 1), (14, .iload_n 2, 1), (15, .invokevirtual 142, 3), (18, .ifCond .ne 5, 3), (21, .iconst (-1), 1), (22, .ireturn, 1), (23, .aload_n 0, 1), (24, .iload_n 1, 1), (25, .invokevirtual 229, 3), (28, .aload_n 0, 1), (29, .iload_n 2, 1), (30, .invokevirtual 244, 3), (33, .lstore_n 3, 1), (34, .iconst 0, 1), (35, .istore 5, 2), (37, .aload_n 0, 1), (38, .iconst 0, 1), (39, .putfield 100, 3), (42, .iconst 0, 1), (43, .istore 6, 2), (45, .iload 6, 2), (47, .aload_n 0, 1), (48, .getfield 113, 3), (51, .if_icmp .ge 41, 3), (54, .aload_n 0, 1), (55, .iload 6, 2), (57, .iload_n 2, 1), (58, .invokevirtual 233, 3), (61, .lload_n 3, 1), (62, .lcmp, 1), (63, .ifCond .ge 6, 3), (66, .goto 20, 3), (69, .iload 5, 2), (71, .bipush 10, 2), (73, .if_icmp .ge 10, 3), (76, .aload_n 0, 1), (77, .iload 6, 2), (79, .i2l, 1), (80, .invokevirtual 109, 3), (83, .iinc 5 1, 3), (86, .iinc 6 1, 3), (89, .goto (-44), 3), (92, .iload 5, 2), (94, .ireturn, 1)]
theorem dk_M_best : zw_dk b_M_best dl_M_best = true := by decide +kernel
theorem ce_M_best : zw_cev y_M_best b_M_best 7 (some .int) 2 := ⟨⟨kt_in 1726 (by decide +kernel) rfl, kt_in 98 (by decide +kernel) rfl, by decide +kernel⟩, kt_in 1724 (by decide +kernel) rfl, kt_in 1725 (by decide +kernel) rfl⟩
def fn_M_best_l1 (t2 : Int32) (r9 : Int64) : Int32 × Int32 × zw_Ct → Option ((Int32 × zw_Ct) ⊕ (Int32 × Int32 × zw_Ct)) := fun (n11, s12, c13) =>
  if (s12 < (c13.1 71 2)) then
  ((fn_M_worth c13 s12 t2).bind fun r19 =>
  if (r19 < r9) then
  (some (.inr (n11, (s12 + 1), c13)))
  else
  ((if (n11 < 10) then
  ((fn_M_tell c13 s12.toInt64).bind fun c25 =>
  some c25)
  else
  (some c13)).bind fun c22 =>
  some (.inr ((n11 + 1), (s12 + 1), c22))))
  else
  (some (.inl (n11, c13)))
def fn_M_best (c : zw_Ct) (p1 : Int32) (t2 : Int32) : Option (Int32 × zw_Ct) :=
  (some (zw_wI c 71 9 0)).bind fun c3 =>
  (fn_M_isPay c3 p1).bind fun r4 =>
  if ((¬ (¬ r4 = 0)) ∨ (¬ (¬ (fn_M_isSaying c3 t2) = 0))) then
  (some ((-1), c3))
  else
  ((fn_M_layPay c3 p1).bind fun c8 =>
  (fn_M_bestWorth c8 t2).bind fun r9 =>
  (some (zw_wI c8 71 8 0)).bind fun c10 =>
  (zw_whl (fn_M_best_l1 t2 r9) zw_F (0, 0, c10)).bind fun (n14, c15) =>
  some (n14, c15))
set_option maxRecDepth 100000 in
theorem km_M_best {l : Launch} {g : zw_G} {rr : zw_RR} {sh : zw_Sh} {c : zw_Ct} {p1 : Int32} {t2 : Int32} {r : Int32} {c2 : zw_Ct} (hS : zw_Ok 0 101 sh rr) (hsem : fn_M_best c p1 t2 = some (r, c2)) : zw_Met l g y_M_best b_M_best 7 (some .int) 107 rr sh [.ref 71, .int p1, .int t2] c (some (.int r)) c2 := by
  unfold fn_M_best at hsem
  refine zw_Met.of (by decide +kernel) (Nat.le_of_ble_eq_true rfl) (fun p e s m args below meth cd X => ?_)
  refine zw_eL (L2 := [some (.ref 71), some (.int p1), some (.int t2), none, none, none, none]) rfl ?_
  refine r_aload_n X (pc := 0) (i := 0) (zw_dg dk_M_best 0 rfl) rfl rfl ?_
  refine r_iconst X (pc := 1) (v := 0) (zw_dg dk_M_best 1 rfl) (by decide) ?_
  refine r_putI X (pc := 2) ci_M (zo hS 71 rfl rfl) rfl lk_M_97 rfl ⟨rfl, rfl⟩ (zw_dg dk_M_best 2 rfl) ?_
  obtain ⟨c3, hc3, hsem⟩ := zw_bd hsem
  refine zw_topC hc3 ?_
  refine r_aload_n X (pc := 5) (i := 0) (zw_dg dk_M_best 3 rfl) rfl rfl ?_
  refine r_iload_n X (pc := 6) (i := 1) (zw_dg dk_M_best 4 rfl) rfl rfl ?_
  obtain ⟨r4, hr4, hsem⟩ := zw_bd hsem
  refine r_callVi X (pc := 7) (As := [_]) (st := []) (km_M_isPay hS hr4) ce_M_isPay kw_1688 (zo hS 71 rfl rfl) rfl rfl ⟨Nat.le_of_ble_eq_true rfl, Nat.le_of_ble_eq_true rfl⟩ (Nat.le_of_ble_eq_true rfl) (zw_dg dk_M_best 5 rfl) ?_
  refine zw_cnd (P := ((¬ (¬ r4 = 0)) ∨ (¬ (¬ (fn_M_isSaying c3 t2) = 0)))) (J1 := 21) (J2 := 23) (st2 := []) (fun jT jF => ?_) (fun p5 => ?_) (fun p5 => ?_)
  · --
    refine r_if_eq X (pc := 10) (tgt := 21) (zw_dg dk_M_best 6 rfl) (by decide) (fun q6 => ?_) (fun q6 => ?_)
    · --
      exact jT (Or.inl (fun z => z q6))
    · --
      refine r_aload_n X (pc := 13) (i := 0) (zw_dg dk_M_best 7 rfl) rfl rfl ?_
      refine r_iload_n X (pc := 14) (i := 2) (zw_dg dk_M_best 8 rfl) rfl rfl ?_
      refine r_callVi X (pc := 15) (As := [_]) (st := []) (km_M_isSaying hS rfl) ce_M_isSaying kw_1609 (zo hS 71 rfl rfl) rfl rfl ⟨Nat.le_of_ble_eq_true rfl, Nat.le_of_ble_eq_true rfl⟩ (Nat.le_of_ble_eq_true rfl) (zw_dg dk_M_best 9 rfl) ?_
      refine r_if_ne X (pc := 18) (tgt := 23) (zw_dg dk_M_best 10 rfl) (by decide) (fun q7 => ?_) (fun q7 => ?_)
      · --
        exact jF (fun q => q.elim (fun q => q q6) (fun q => q q7))
      · --
        exact jT (Or.inr (fun z => z q7))
  · --
    have hsem := zw_ifp p5 hsem
    refine r_iconst X (pc := 21) (v := (-1)) (zw_dg dk_M_best 11 rfl) (by decide) ?_
    obtain ⟨rfl, rfl⟩ := zw_in2 hsem
    exact r_iret X (pc := 22) rfl (zw_dg dk_M_best 12 rfl)
  · --
    have hsem := zw_ifn p5 hsem
    refine r_aload_n X (pc := 23) (i := 0) (zw_dg dk_M_best 13 rfl) rfl rfl ?_
    refine r_iload_n X (pc := 24) (i := 1) (zw_dg dk_M_best 14 rfl) rfl rfl ?_
    obtain ⟨c8, hc8, hsem⟩ := zw_bd hsem
    refine r_callVv X (pc := 25) (As := [_]) (st := []) (km_M_layPay hS hc8) ce_M_layPay kw_1700 (zo hS 71 rfl rfl) rfl rfl ⟨Nat.le_of_ble_eq_true rfl, Nat.le_of_ble_eq_true rfl⟩ (Nat.le_of_ble_eq_true rfl) (zw_dg dk_M_best 15 rfl) ?_
    refine r_aload_n X (pc := 28) (i := 0) (zw_dg dk_M_best 16 rfl) rfl rfl ?_
    refine r_iload_n X (pc := 29) (i := 2) (zw_dg dk_M_best 17 rfl) rfl rfl ?_
    obtain ⟨r9, hr9, hsem⟩ := zw_bd hsem
    refine r_callVl X (pc := 30) (As := [_]) (st := []) (km_M_bestWorth hS hr9) ce_M_bestWorth kw_1727 (zo hS 71 rfl rfl) rfl rfl ⟨Nat.le_of_ble_eq_true rfl, Nat.le_of_ble_eq_true rfl⟩ (Nat.le_of_ble_eq_true rfl) (zw_dg dk_M_best 18 rfl) ?_
    refine r_lstore_n X (pc := 33) (i := 3) (L2 := [some (.ref 71), some (.int p1), some (.int t2), some (.long r9), none, none, none]) (zw_dg dk_M_best 19 rfl) rfl (by decide) rfl ?_
    refine r_iconst X (pc := 34) (v := 0) (zw_dg dk_M_best 20 rfl) (by decide) ?_
    refine r_istore X (pc := 35) (i := 5) (zw_dg dk_M_best 21 rfl) (by decide) rfl ?_
    refine r_aload_n X (pc := 37) (i := 0) (zw_dg dk_M_best 22 rfl) rfl rfl ?_
    refine r_iconst X (pc := 38) (v := 0) (zw_dg dk_M_best 23 rfl) (by decide) ?_
    refine r_putI X (pc := 39) ci_M (zo hS 71 rfl rfl) rfl lk_M_100 rfl ⟨rfl, rfl⟩ (zw_dg dk_M_best 24 rfl) ?_
    obtain ⟨c10, hc10, hsem⟩ := zw_bd hsem
    refine zw_topC hc10 ?_
    refine r_iconst X (pc := 42) (v := 0) (zw_dg dk_M_best 25 rfl) (by decide) ?_
    refine r_istore X (pc := 43) (i := 6) (zw_dg dk_M_best 26 rfl) (by decide) rfl ?_
    obtain ⟨l16, hl16, hsl16⟩ := zw_bd hsem
    refine r_loop (pc := 45) (pce := 92) hl16 (fun (n11, s12, c13) => [some (.ref 71), some (.int p1), some (.int t2), some (.long r9), none, some (.int n11), some (.int s12)] : Int32 × Int32 × zw_Ct → zw_Lc) (fun (n11, s12, c13) => c13 : Int32 × Int32 × zw_Ct → zw_Ct) (fun (n14, c15) => [some (.ref 71), some (.int p1), some (.int t2), some (.long r9), none, some (.int n14), none] : Int32 × zw_Ct → zw_Lc) (fun (n14, c15) => c15 : Int32 × zw_Ct → zw_Ct) ?_ rfl rfl ?_
    · rintro ⟨n11, s12, c13⟩ rr hsem hK hP
      try unfold fn_M_best_l1 at hsem
      refine r_iload X (pc := 45) (i := 6) (zw_dg dk_M_best 27 rfl) rfl ?_
      refine r_aload_n X (pc := 47) (i := 0) (zw_dg dk_M_best 28 rfl) rfl rfl ?_
      refine r_getI X (pc := 48) ci_M (zo hS 71 rfl rfl) rfl lk_M_113 (zw_dg dk_M_best 29 rfl) ?_
      refine r_icmp_ge X (pc := 51) (tgt := 92) (zw_dg dk_M_best 30 rfl) (by decide) (fun q18 => ?_) (fun q18 => ?_)
      · --
        have p17 : ¬ (s12 < (c13.1 71 2)) := (Int32.not_lt.mpr q18)
        have hsem := zw_ifn p17 hsem
        have jj := hK _ (Option.some.inj hsem).symm
        exact (r_fgt [6] rfl jj)
      · --
        have p17 : (s12 < (c13.1 71 2)) := (Int32.not_le.mp q18)
        have hsem := zw_ifp p17 hsem
        refine r_aload_n X (pc := 54) (i := 0) (zw_dg dk_M_best 31 rfl) rfl rfl ?_
        refine r_iload X (pc := 55) (i := 6) (zw_dg dk_M_best 32 rfl) rfl ?_
        refine r_iload_n X (pc := 57) (i := 2) (zw_dg dk_M_best 33 rfl) rfl rfl ?_
        obtain ⟨r19, hr19, hsem⟩ := zw_bd hsem
        refine r_callVl X (pc := 58) (As := [_, _]) (st := []) (km_M_worth hS hr19) ce_M_worth kw_1712 (zo hS 71 rfl rfl) rfl rfl ⟨Nat.le_of_ble_eq_true rfl, Nat.le_of_ble_eq_true rfl⟩ (Nat.le_of_ble_eq_true rfl) (zw_dg dk_M_best 34 rfl) ?_
        refine r_lload_n X (pc := 61) (i := 3) (zw_dg dk_M_best 35 rfl) rfl rfl ?_
        refine r_lcmp_ge X (pc := 62) (tgt := 69) (zw_dg dk_M_best 36 rfl) (zw_dg dk_M_best 37 rfl) (by decide) (fun q21 => ?_) (fun q21 => ?_)
        · --
          have p20 : ¬ (r19 < r9) := (Int64.not_lt.mpr q21)
          have hsem := zw_ifn p20 hsem
          obtain ⟨c22, ht83, hs83⟩ := zw_bd hsem
          refine zw_jn (J := 83) (L2 := [some (.ref 71), some (.int p1), some (.int t2), some (.long r9), none, some (.int n11), some (.int s12)]) (c2 := c22) (fun jj => ?_) ?_
          · have hsem := ht83
            refine r_iload X (pc := 69) (i := 5) (zw_dg dk_M_best 39 rfl) rfl ?_
            refine r_bipush X (pc := 71) (v := 10) (zw_dg dk_M_best 40 rfl) (by decide) ?_
            refine r_icmp_ge X (pc := 73) (tgt := 83) (zw_dg dk_M_best 41 rfl) (by decide) (fun q24 => ?_) (fun q24 => ?_)
            · --
              have p23 : ¬ (n11 < 10) := (Int32.not_lt.mpr q24)
              have hsem := zw_ifn p23 hsem
              cases hsem
              exact (r_fgt [] rfl jj)
            · --
              have p23 : (n11 < 10) := (Int32.not_le.mp q24)
              have hsem := zw_ifp p23 hsem
              refine r_aload_n X (pc := 76) (i := 0) (zw_dg dk_M_best 42 rfl) rfl rfl ?_
              refine r_iload X (pc := 77) (i := 6) (zw_dg dk_M_best 43 rfl) rfl ?_
              refine r_i2l X (pc := 79) (zw_dg dk_M_best 44 rfl)  ?_
              obtain ⟨c25, hc25, hsem⟩ := zw_bd hsem
              refine r_callVv X (pc := 80) (As := [_]) (st := []) (km_M_tell hS hc25) ce_M_tell kw_1704 (zo hS 71 rfl rfl) rfl rfl ⟨Nat.le_of_ble_eq_true rfl, Nat.le_of_ble_eq_true rfl⟩ (Nat.le_of_ble_eq_true rfl) (zw_dg dk_M_best 45 rfl) ?_
              cases hsem
              exact (r_fgt [] rfl jj)
          have hsem := hs83
          refine r_iinc X (pc := 83) (i := 5) (k := 1) (zw_dg dk_M_best 46 rfl) rfl (by decide) (by decide) rfl ?_
          refine r_iinc X (pc := 86) (i := 6) (k := 1) (zw_dg dk_M_best 47 rfl) rfl (by decide) (by decide) rfl ?_
          refine r_goto X (pc := 89) (tgt := 45) (zw_dg dk_M_best 48 rfl) (by decide) ?_
          have jj := hP _ (Option.some.inj hsem).symm
          exact (r_fgt [] rfl jj)
        · --
          have p20 : (r19 < r9) := (Int64.not_le.mp q21)
          have hsem := zw_ifp p20 hsem
          refine r_goto X (pc := 66) (tgt := 86) (zw_dg dk_M_best 38 rfl) (by decide) ?_
          refine r_iinc X (pc := 86) (i := 6) (k := 1) (zw_dg dk_M_best 47 rfl) rfl (by decide) (by decide) rfl ?_
          refine r_goto X (pc := 89) (tgt := 45) (zw_dg dk_M_best 48 rfl) (by decide) ?_
          have jj := hP _ (Option.some.inj hsem).symm
          exact (r_fgt [] rfl jj)
    obtain ⟨n14, c15⟩ := l16
    have hsem := hsl16
    refine r_iload X (pc := 92) (i := 5) (zw_dg dk_M_best 49 rfl) rfl ?_
    obtain ⟨rfl, rfl⟩ := zw_in2 hsem
    exact r_iret X (pc := 94) rfl (zw_dg dk_M_best 50 rfl)
def y_M_loses : MethodName := ⟨R_M, "loses", "(III)I"⟩
abbrev b_M_loses : ByteArray := prog_14_method_37_code
def dl_M_loses : List (Nat × Instr × Nat) := [(0, .aload_n 0, 1), (1, .iconst 0, 1), (2, .putfield 97, 3), (5, .aload_n 0, 1), (6, .iload_n 1, 1), (7, .invokevirtual 222, 3), (10, .ifCond .eq 19, 3), (13, .aload_n 0, 1), (14, .iload_n 2, 1), (15, .invokevirtual 142, 3), (18, .ifCond .eq 11, 3), (21, .aload_n 0, 1), (22, .iload_n 3, 1), (23, .invokevirtual 142, 3), (26, .ifCond .ne 5, 3), (29, .iconst (-1), 1), (30, .ireturn, 1), (31, .aload_n 0, 1), (32, .iload_n 1, 1), (33, .invokevirtual 229, 3), (36, .aload_n 0, 1), (37, .iconst 0, 1), (38, .putfield 100, 3), (41, .aload_n 0, 1), (42, .aload_n 0, 1), (43, .iload_n 3, 1), (44, .invokevirtual 244, 3), (47, .aload_n 0, 1), (48, .iload_n 2, 1), (49, .iload_n 3, 1), (50, .invokevirtual 233, 3), (53, .lsub, 1), (54, .aload_n 0, 1), (55, .getfield 13, 3), (58, .i2l, 1), (59, .invokevirtual 240, 3), (62, .iconst 0, 1), (63, .ireturn, 1)]
theorem dk_M_loses : zw_dk b_M_loses dl_M_loses = true := by decide +kernel
theorem ce_M_loses : zw_cev y_M_loses b_M_loses 4 (some .int) 3 := ⟨⟨kt_in 1735 (by decide +kernel) rfl, kt_in 98 (by decide +kernel) rfl, by decide +kernel⟩, kt_in 1733 (by decide +kernel) rfl, kt_in 1734 (by decide +kernel) rfl⟩
def fn_M_loses (c : zw_Ct) (p1 : Int32) (s2 : Int32) (t3 : Int32) : Option (Int32 × zw_Ct) :=
  (some (zw_wI c 71 9 0)).bind fun c4 =>
  (fn_M_isPay c4 p1).bind fun r5 =>
  if (((¬ (¬ r5 = 0)) ∨ (¬ (¬ (fn_M_isSaying c4 s2) = 0))) ∨ (¬ (¬ (fn_M_isSaying c4 t3) = 0))) then
  (some ((-1), c4))
  else
  ((fn_M_layPay c4 p1).bind fun c10 =>
  (some (zw_wI c10 71 8 0)).bind fun c11 =>
  (fn_M_bestWorth c11 t3).bind fun r12 =>
  (fn_M_worth c11 s2 t3).bind fun r13 =>
  (fn_M_tellPart c11 (r12 - r13) ((c11.1 71 1)).toInt64).bind fun c14 =>
  some (0, c14))
set_option maxRecDepth 100000 in
theorem km_M_loses {l : Launch} {g : zw_G} {rr : zw_RR} {sh : zw_Sh} {c : zw_Ct} {p1 : Int32} {s2 : Int32} {t3 : Int32} {r : Int32} {c2 : zw_Ct} (hS : zw_Ok 0 101 sh rr) (hsem : fn_M_loses c p1 s2 t3 = some (r, c2)) : zw_Met l g y_M_loses b_M_loses 4 (some .int) 107 rr sh [.ref 71, .int p1, .int s2, .int t3] c (some (.int r)) c2 := by
  unfold fn_M_loses at hsem
  refine zw_Met.of (by decide +kernel) (Nat.le_of_ble_eq_true rfl) (fun p e s m args below meth cd X => ?_)
  refine zw_eL (L2 := [some (.ref 71), some (.int p1), some (.int s2), some (.int t3)]) rfl ?_
  refine r_aload_n X (pc := 0) (i := 0) (zw_dg dk_M_loses 0 rfl) rfl rfl ?_
  refine r_iconst X (pc := 1) (v := 0) (zw_dg dk_M_loses 1 rfl) (by decide) ?_
  refine r_putI X (pc := 2) ci_M (zo hS 71 rfl rfl) rfl lk_M_97 rfl ⟨rfl, rfl⟩ (zw_dg dk_M_loses 2 rfl) ?_
  obtain ⟨c4, hc4, hsem⟩ := zw_bd hsem
  refine zw_topC hc4 ?_
  refine r_aload_n X (pc := 5) (i := 0) (zw_dg dk_M_loses 3 rfl) rfl rfl ?_
  refine r_iload_n X (pc := 6) (i := 1) (zw_dg dk_M_loses 4 rfl) rfl rfl ?_
  obtain ⟨r5, hr5, hsem⟩ := zw_bd hsem
  refine r_callVi X (pc := 7) (As := [_]) (st := []) (km_M_isPay hS hr5) ce_M_isPay kw_1688 (zo hS 71 rfl rfl) rfl rfl ⟨Nat.le_of_ble_eq_true rfl, Nat.le_of_ble_eq_true rfl⟩ (Nat.le_of_ble_eq_true rfl) (zw_dg dk_M_loses 5 rfl) ?_
  refine zw_cnd (P := (((¬ (¬ r5 = 0)) ∨ (¬ (¬ (fn_M_isSaying c4 s2) = 0))) ∨ (¬ (¬ (fn_M_isSaying c4 t3) = 0)))) (J1 := 29) (J2 := 31) (st2 := []) (fun jT jF => ?_) (fun p6 => ?_) (fun p6 => ?_)
  · --
    refine r_if_eq X (pc := 10) (tgt := 29) (zw_dg dk_M_loses 6 rfl) (by decide) (fun q7 => ?_) (fun q7 => ?_)
    · --
      exact jT (Or.inl (Or.inl (fun z => z q7)))
    · --
      refine r_aload_n X (pc := 13) (i := 0) (zw_dg dk_M_loses 7 rfl) rfl rfl ?_
      refine r_iload_n X (pc := 14) (i := 2) (zw_dg dk_M_loses 8 rfl) rfl rfl ?_
      refine r_callVi X (pc := 15) (As := [_]) (st := []) (km_M_isSaying hS rfl) ce_M_isSaying kw_1609 (zo hS 71 rfl rfl) rfl rfl ⟨Nat.le_of_ble_eq_true rfl, Nat.le_of_ble_eq_true rfl⟩ (Nat.le_of_ble_eq_true rfl) (zw_dg dk_M_loses 9 rfl) ?_
      refine r_if_eq X (pc := 18) (tgt := 29) (zw_dg dk_M_loses 10 rfl) (by decide) (fun q8 => ?_) (fun q8 => ?_)
      · --
        exact jT (Or.inl (Or.inr (fun z => z q8)))
      · --
        refine r_aload_n X (pc := 21) (i := 0) (zw_dg dk_M_loses 11 rfl) rfl rfl ?_
        refine r_iload_n X (pc := 22) (i := 3) (zw_dg dk_M_loses 12 rfl) rfl rfl ?_
        refine r_callVi X (pc := 23) (As := [_]) (st := []) (km_M_isSaying hS rfl) ce_M_isSaying kw_1609 (zo hS 71 rfl rfl) rfl rfl ⟨Nat.le_of_ble_eq_true rfl, Nat.le_of_ble_eq_true rfl⟩ (Nat.le_of_ble_eq_true rfl) (zw_dg dk_M_loses 13 rfl) ?_
        refine r_if_ne X (pc := 26) (tgt := 31) (zw_dg dk_M_loses 14 rfl) (by decide) (fun q9 => ?_) (fun q9 => ?_)
        · --
          exact jF (fun q => q.elim (fun q => q.elim (fun q => q q7) (fun q => q q8)) (fun q => q q9))
        · --
          exact jT (Or.inr (fun z => z q9))
  · --
    have hsem := zw_ifp p6 hsem
    refine r_iconst X (pc := 29) (v := (-1)) (zw_dg dk_M_loses 15 rfl) (by decide) ?_
    obtain ⟨rfl, rfl⟩ := zw_in2 hsem
    exact r_iret X (pc := 30) rfl (zw_dg dk_M_loses 16 rfl)
  · --
    have hsem := zw_ifn p6 hsem
    refine r_aload_n X (pc := 31) (i := 0) (zw_dg dk_M_loses 17 rfl) rfl rfl ?_
    refine r_iload_n X (pc := 32) (i := 1) (zw_dg dk_M_loses 18 rfl) rfl rfl ?_
    obtain ⟨c10, hc10, hsem⟩ := zw_bd hsem
    refine r_callVv X (pc := 33) (As := [_]) (st := []) (km_M_layPay hS hc10) ce_M_layPay kw_1700 (zo hS 71 rfl rfl) rfl rfl ⟨Nat.le_of_ble_eq_true rfl, Nat.le_of_ble_eq_true rfl⟩ (Nat.le_of_ble_eq_true rfl) (zw_dg dk_M_loses 19 rfl) ?_
    refine r_aload_n X (pc := 36) (i := 0) (zw_dg dk_M_loses 20 rfl) rfl rfl ?_
    refine r_iconst X (pc := 37) (v := 0) (zw_dg dk_M_loses 21 rfl) (by decide) ?_
    refine r_putI X (pc := 38) ci_M (zo hS 71 rfl rfl) rfl lk_M_100 rfl ⟨rfl, rfl⟩ (zw_dg dk_M_loses 22 rfl) ?_
    obtain ⟨c11, hc11, hsem⟩ := zw_bd hsem
    refine zw_topC hc11 ?_
    refine r_aload_n X (pc := 41) (i := 0) (zw_dg dk_M_loses 23 rfl) rfl rfl ?_
    refine r_aload_n X (pc := 42) (i := 0) (zw_dg dk_M_loses 24 rfl) rfl rfl ?_
    refine r_iload_n X (pc := 43) (i := 3) (zw_dg dk_M_loses 25 rfl) rfl rfl ?_
    obtain ⟨r12, hr12, hsem⟩ := zw_bd hsem
    refine r_callVl X (pc := 44) (As := [_]) (st := [.ref 71]) (km_M_bestWorth hS hr12) ce_M_bestWorth kw_1727 (zo hS 71 rfl rfl) rfl rfl ⟨Nat.le_of_ble_eq_true rfl, Nat.le_of_ble_eq_true rfl⟩ (Nat.le_of_ble_eq_true rfl) (zw_dg dk_M_loses 26 rfl) ?_
    refine r_aload_n X (pc := 47) (i := 0) (zw_dg dk_M_loses 27 rfl) rfl rfl ?_
    refine r_iload_n X (pc := 48) (i := 2) (zw_dg dk_M_loses 28 rfl) rfl rfl ?_
    refine r_iload_n X (pc := 49) (i := 3) (zw_dg dk_M_loses 29 rfl) rfl rfl ?_
    obtain ⟨r13, hr13, hsem⟩ := zw_bd hsem
    refine r_callVl X (pc := 50) (As := [_, _]) (st := [.long r12, .ref 71]) (km_M_worth hS hr13) ce_M_worth kw_1712 (zo hS 71 rfl rfl) rfl rfl ⟨Nat.le_of_ble_eq_true rfl, Nat.le_of_ble_eq_true rfl⟩ (Nat.le_of_ble_eq_true rfl) (zw_dg dk_M_loses 30 rfl) ?_
    refine r_lsub X (pc := 53) (zw_dg dk_M_loses 31 rfl)  ?_
    refine r_aload_n X (pc := 54) (i := 0) (zw_dg dk_M_loses 32 rfl) rfl rfl ?_
    refine r_getI X (pc := 55) ci_M (zo hS 71 rfl rfl) rfl lk_M_13 (zw_dg dk_M_loses 33 rfl) ?_
    refine r_i2l X (pc := 58) (zw_dg dk_M_loses 34 rfl)  ?_
    obtain ⟨c14, hc14, hsem⟩ := zw_bd hsem
    refine r_callVv X (pc := 59) (As := [_, _]) (st := []) (km_M_tellPart hS hc14) ce_M_tellPart kw_1716 (zo hS 71 rfl rfl) rfl rfl ⟨Nat.le_of_ble_eq_true rfl, Nat.le_of_ble_eq_true rfl⟩ (Nat.le_of_ble_eq_true rfl) (zw_dg dk_M_loses 35 rfl) ?_
    refine r_iconst X (pc := 62) (v := 0) (zw_dg dk_M_loses 36 rfl) (by decide) ?_
    obtain ⟨rfl, rfl⟩ := zw_in2 hsem
    exact r_iret X (pc := 63) rfl (zw_dg dk_M_loses 37 rfl)
def y_M_otherBest : MethodName := ⟨R_M, "otherBest", "(IJ)I"⟩
abbrev b_M_otherBest : ByteArray := prog_14_method_39_code
def dl_M_otherBest : List (Nat × Instr × Nat) := [(0, .iconst 0, 1), (1, .istore 4, 2), (3, .iload 4, 2), (5, .aload_n 0, 1), (6, .getfield 113, 3), (9, .if_icmp .ge 30, 3), (12, .iload 4, 2), (14, .iload_n 1, 1), (15, .if_icmp .eq 18, 3), (18, .aload_n 0, 1), (19, .iload 4, 2), (21, .iload_n 1, 1), (22, .invokevirtual 233, 3), (25, .lload_n 2, 1), (26, .lcmp, 1), (27, .ifCond .ne 6, 3), (30, .iload 4, 2), (32, .ireturn, 1), (33, .iinc 4 1, 3), (36, .goto (-33), 3), (39, .iconst (-1), 1), (40, .ireturn, 1)]
theorem dk_M_otherBest : zw_dk b_M_otherBest dl_M_otherBest = true := by decide +kernel
theorem ce_M_otherBest : zw_cev y_M_otherBest b_M_otherBest 5 (some .int) 2 := ⟨⟨kt_in 1743 (by decide +kernel) rfl, kt_in 98 (by decide +kernel) rfl, by decide +kernel⟩, kt_in 1742 (by decide +kernel) rfl, kt_in 60 (by decide +kernel) rfl⟩
def fn_M_otherBest_l1 (c : zw_Ct) (t1 : Int32) (most2 : Int64) : Int32 → Option (((Int32) ⊕ (Unit)) ⊕ (Int32)) := fun s3 =>
  if (s3 < (c.1 71 2)) then
  ((if (¬ s3 = t1) then
  ((fn_M_worth c s3 t1).bind fun r9 =>
  some (decide (r9 = most2)))
  else some false).bind fun b7 =>
  if b7 = true then
  (some (.inl (.inl s3)))
  else
  (some (.inr (s3 + 1))))
  else
  (some (.inl (.inr ())))
def fn_M_otherBest (c : zw_Ct) (t1 : Int32) (most2 : Int64) : Option Int32 :=
  (zw_whl (fn_M_otherBest_l1 c t1 most2) zw_F 0).bind fun q => match q with
    | .inl w => some w
    | .inr _ =>
    some (-1)
set_option maxRecDepth 100000 in
theorem km_M_otherBest {l : Launch} {g : zw_G} {rr : zw_RR} {sh : zw_Sh} {c : zw_Ct} {t1 : Int32} {most2 : Int64} {r : Int32} (hS : zw_Ok 0 101 sh rr) (hsem : fn_M_otherBest c t1 most2 = some r) : zw_Met l g y_M_otherBest b_M_otherBest 5 (some .int) 2 rr sh [.ref 71, .int t1, .long most2] c (some (.int r)) c := by
  unfold fn_M_otherBest at hsem
  refine zw_Met.of (by decide +kernel) (Nat.le_of_ble_eq_true rfl) (fun p e s m args below meth cd X => ?_)
  refine zw_eL (L2 := [some (.ref 71), some (.int t1), some (.long most2), none, none]) rfl ?_
  refine r_iconst X (pc := 0) (v := 0) (zw_dg dk_M_otherBest 0 rfl) (by decide) ?_
  refine r_istore X (pc := 1) (i := 4) (zw_dg dk_M_otherBest 1 rfl) (by decide) rfl ?_
  obtain ⟨l4, hl4, hsl4⟩ := zw_bd hsem
  refine r_loopR (pc := 3) (pce := 39) hl4 (fun s3 => [some (.ref 71), some (.int t1), some (.long most2), none, some (.int s3)] : Int32 → zw_Lc) (fun s3 => c : Int32 → zw_Ct) (fun (_ : Unit) => [some (.ref 71), some (.int t1), some (.long most2), none, none] : Unit → zw_Lc) (fun (_ : Unit) => c : Unit → zw_Ct) (fun w => w = r) ?_ rfl rfl ?_ ?_
  · rintro s3 rr hsem hR hK hP
    try unfold fn_M_otherBest_l1 at hsem
    refine r_iload X (pc := 3) (i := 4) (zw_dg dk_M_otherBest 2 rfl) rfl ?_
    refine r_aload_n X (pc := 5) (i := 0) (zw_dg dk_M_otherBest 3 rfl) rfl rfl ?_
    refine r_getI X (pc := 6) ci_M (zo hS 71 rfl rfl) rfl lk_M_113 (zw_dg dk_M_otherBest 4 rfl) ?_
    refine r_icmp_ge X (pc := 9) (tgt := 39) (zw_dg dk_M_otherBest 5 rfl) (by decide) (fun q6 => ?_) (fun q6 => ?_)
    · --
      have p5 : ¬ (s3 < (c.1 71 2)) := (Int32.not_lt.mpr q6)
      have hsem := zw_ifn p5 hsem
      have jj := hK _ (Option.some.inj hsem).symm
      exact (r_fgt [4] rfl jj)
    · --
      have p5 : (s3 < (c.1 71 2)) := (Int32.not_le.mp q6)
      have hsem := zw_ifp p5 hsem
      obtain ⟨b7, hb7, hsb7⟩ := zw_bd hsem
      refine zw_cndB (b := b7) (J1 := 30) (J2 := 33) (st2 := []) (fun jT jF => ?_) (fun hbb7 => ?_) (fun hbb7 => ?_)
      · have hsem := hb7
        refine r_iload X (pc := 12) (i := 4) (zw_dg dk_M_otherBest 6 rfl) rfl ?_
        refine r_iload_n X (pc := 14) (i := 1) (zw_dg dk_M_otherBest 7 rfl) rfl rfl ?_
        refine r_icmp_eq X (pc := 15) (tgt := 33) (zw_dg dk_M_otherBest 8 rfl) (by decide) (fun q8 => ?_) (fun q8 => ?_)
        · --
          have hsem := zw_ifn (fun z => z q8) hsem
          exact jF (Option.some.inj hsem).symm
        · --
          have hsem := zw_ifp q8 hsem
          refine r_aload_n X (pc := 18) (i := 0) (zw_dg dk_M_otherBest 9 rfl) rfl rfl ?_
          refine r_iload X (pc := 19) (i := 4) (zw_dg dk_M_otherBest 10 rfl) rfl ?_
          refine r_iload_n X (pc := 21) (i := 1) (zw_dg dk_M_otherBest 11 rfl) rfl rfl ?_
          obtain ⟨r9, hr9, hsem⟩ := zw_bd hsem
          refine r_callVl X (pc := 22) (As := [_, _]) (st := []) (km_M_worth hS hr9) ce_M_worth kw_1712 (zo hS 71 rfl rfl) rfl rfl ⟨Nat.le_of_ble_eq_true rfl, Nat.le_of_ble_eq_true rfl⟩ (Nat.le_of_ble_eq_true rfl) (zw_dg dk_M_otherBest 12 rfl) ?_
          refine r_lload_n X (pc := 25) (i := 2) (zw_dg dk_M_otherBest 13 rfl) rfl rfl ?_
          refine r_lcmp_ne X (pc := 26) (tgt := 33) (zw_dg dk_M_otherBest 14 rfl) (zw_dg dk_M_otherBest 15 rfl) (by decide) (fun q10 => ?_) (fun q10 => ?_)
          · --
            exact jF (zw_dF hsem q10)
          · --
            exact jT (zw_dT hsem q10)
      · have hsem := zw_ifp hbb7 hsb7
        refine r_iload X (pc := 30) (i := 4) (zw_dg dk_M_otherBest 16 rfl) rfl ?_
        have hret := hR _ (Option.some.inj hsem).symm
        cases hret
        exact r_iret X (pc := 32) rfl (zw_dg dk_M_otherBest 17 rfl)
      · have hsem := zw_ifn (by rw [hbb7]; exact Bool.false_ne_true) hsb7
        refine r_iinc X (pc := 33) (i := 4) (k := 1) (zw_dg dk_M_otherBest 18 rfl) rfl (by decide) (by decide) rfl ?_
        refine r_goto X (pc := 36) (tgt := 3) (zw_dg dk_M_otherBest 19 rfl) (by decide) ?_
        have jj := hP _ (Option.some.inj hsem).symm
        exact (r_fgt [] rfl jj)
  · intro w hw
    subst hw
    exact Option.some.inj hsl4
  rintro _u hw
  subst hw
  have hsem := hsl4
  refine r_iconst X (pc := 39) (v := (-1)) (zw_dg dk_M_otherBest 20 rfl) (by decide) ?_
  cases hsem
  exact r_iret X (pc := 40) rfl (zw_dg dk_M_otherBest 21 rfl)
def y_M_truly : MethodName := ⟨R_M, "truly", "(I)I"⟩
abbrev b_M_truly : ByteArray := prog_14_method_38_code
def dl_M_truly : List (Nat × Instr × Nat) := [(0, .aload_n 0, 1), (1, .iconst 0, 1), (2, .putfield 97, 3), (5, .aload_n 0, 1), (6, .iload_n 1, 1), (7, .invokevirtual 222, 3), (10, .ifCond .ne 5, 3), (13, .iconst (-1), 1), (14, .ireturn, 1), (15, .aload_n 0, 1), (16, .iload_n 1, 1), (17, .invokevirtual 229, 3), (20, .iconst (-1), 1), (21, .istore_n 2, 1), (22, .iconst (-1), 1), (23, .istore_n 3, 1), (24, .aload_n 0, 1), (25, .getfield 113, 3), (28, .iconst 1, 1), (29, .isub, 1), (30, .istore 4, 2), (32, .iload 4, 2), (34, .ifCond .lt 49, 3), (37, .aload_n 0, 1), (38, .iload 4, 2), (40, .invokevirtual 244, 3), (43, .lstore 5, 2), (45, .aload_n 0, 1), (46, .iload 4, 2), (48, .iload 4, 2), (50, .invokevirtual 233, 3), (53, .lload 5, 2), (55, .lcmp, 1), (56, .ifCond .ge 6, 3), (59, .iload 4, 2), (61, .istore_n 2, 1), (62, .aload_n 0, 1), (63, .iload 4, 2), (65, .lload 5, 2), (67, .invokevirtual 248, 3), (70, .iconst (-1), 1), (71, .if_icmp .eq 6, 3), (74, .iload 4, 2), (76, .istore_n 3, 1), (77, .iinc 4 (-1), 3), (80, .goto (-48), 3), (83, .aload_n 0, 1), (84, .iconst 0, 1), (85, .putfield 100, 3), (88, .iload_n 3, 1), (89, .iconst (-1), 1), (90, .if_icmp .ne 5, 3), (93, .iconst 2, 1), (94, .ireturn, 1), (95, .iload_n 2, 1), (96, .iconst (-1), 1), (97, .if_icmp .ne 7, 3), (100, .iload_n 3, 1), (101, .goto 4, 3), (104, .iload_n 2, 1), (105, .istore 4, 2), (107, .aload_n 0, 1), (108, .iload 4, 2), (110, .i2l, 1), (111, .invokevirtual 109, 3), (114, .aload_n 0, 1), (115, .aload_n 0, 1), (116, .iload 4, 2), (118, .aload_n 0, 1), (119, .iload 4, 2), (121, .invokevirtual 244, 3), (124, .invokevirtual 248, 3), (127, .i2l, 1), (128, .invokevirtual 109, 3), (131, .iload_n 2, 1), (132, .iconst (-1), 1), (133, .if_icmp .ne 7, 3), (136, .iconst 1, 1), (137, .goto 4, 3), (140, .iconst 0, 1), (141, .ireturn, 1)]
theorem dk_M_truly : zw_dk b_M_truly dl_M_truly = true := by decide +kernel
theorem ce_M_truly : zw_cev y_M_truly b_M_truly 7 (some .int) 1 := ⟨⟨kt_in 1739 (by decide +kernel) rfl, kt_in 98 (by decide +kernel) rfl, by decide +kernel⟩, kt_in 1737 (by decide +kernel) rfl, kt_in 1738 (by decide +kernel) rfl⟩
def fn_M_truly_l1 (c7 : zw_Ct) : Int32 × Int32 × Int32 → Option ((Int32 × Int32) ⊕ (Int32 × Int32 × Int32)) := fun (firstBad9, firstLike10, t11) =>
  if (0 ≤ t11) then
  ((fn_M_bestWorth c7 t11).bind fun r17 =>
  (fn_M_worth c7 t11 t11).bind fun r18 =>
  (if (r18 < r17) then
  (some (t11 : Int32))
  else
  (some (firstBad9 : Int32))).bind fun firstBad19 =>
  (fn_M_otherBest c7 t11 r17).bind fun r22 =>
  (if (¬ r22 = (-1)) then
  (some (t11 : Int32))
  else
  (some (firstLike10 : Int32))).bind fun firstLike23 =>
  some (.inr (firstBad19, firstLike23, (t11 + (-1)))))
  else
  (some (.inl (firstBad9, firstLike10)))
def fn_M_truly (c : zw_Ct) (p1 : Int32) : Option (Int32 × zw_Ct) :=
  (some (zw_wI c 71 9 0)).bind fun c3 =>
  (fn_M_isPay c3 p1).bind fun r4 =>
  if (¬ (¬ r4 = 0)) then
  (some ((-1), c3))
  else
  ((fn_M_layPay c3 p1).bind fun c7 =>
  (some (((c7.1 71 2) - 1) : Int32)).bind fun t8 =>
  (zw_whl (fn_M_truly_l1 c7) zw_F ((-1), (-1), t8)).bind fun (firstBad12, firstLike13) =>
  (some (zw_wI c7 71 8 0)).bind fun c26 =>
  if (firstLike13 = (-1)) then
  (some (2, c26))
  else
  ((some ((if (firstBad12 = (-1)) then (firstLike13 : Int32) else firstBad12) : Int32)).bind fun which30 =>
  (fn_M_tell c26 which30.toInt64).bind fun c31 =>
  (fn_M_bestWorth c31 which30).bind fun r32 =>
  (fn_M_otherBest c31 which30 r32).bind fun r33 =>
  (fn_M_tell c31 r33.toInt64).bind fun c34 =>
  some ((if (firstBad12 = (-1)) then (1 : Int32) else 0), c34)))
set_option maxRecDepth 100000 in
theorem km_M_truly {l : Launch} {g : zw_G} {rr : zw_RR} {sh : zw_Sh} {c : zw_Ct} {p1 : Int32} {r : Int32} {c2 : zw_Ct} (hS : zw_Ok 0 101 sh rr) (hsem : fn_M_truly c p1 = some (r, c2)) : zw_Met l g y_M_truly b_M_truly 7 (some .int) 107 rr sh [.ref 71, .int p1] c (some (.int r)) c2 := by
  unfold fn_M_truly at hsem
  refine zw_Met.of (by decide +kernel) (Nat.le_of_ble_eq_true rfl) (fun p e s m args below meth cd X => ?_)
  refine zw_eL (L2 := [some (.ref 71), some (.int p1), none, none, none, none, none]) rfl ?_
  refine r_aload_n X (pc := 0) (i := 0) (zw_dg dk_M_truly 0 rfl) rfl rfl ?_
  refine r_iconst X (pc := 1) (v := 0) (zw_dg dk_M_truly 1 rfl) (by decide) ?_
  refine r_putI X (pc := 2) ci_M (zo hS 71 rfl rfl) rfl lk_M_97 rfl ⟨rfl, rfl⟩ (zw_dg dk_M_truly 2 rfl) ?_
  obtain ⟨c3, hc3, hsem⟩ := zw_bd hsem
  refine zw_topC hc3 ?_
  refine r_aload_n X (pc := 5) (i := 0) (zw_dg dk_M_truly 3 rfl) rfl rfl ?_
  refine r_iload_n X (pc := 6) (i := 1) (zw_dg dk_M_truly 4 rfl) rfl rfl ?_
  obtain ⟨r4, hr4, hsem⟩ := zw_bd hsem
  refine r_callVi X (pc := 7) (As := [_]) (st := []) (km_M_isPay hS hr4) ce_M_isPay kw_1688 (zo hS 71 rfl rfl) rfl rfl ⟨Nat.le_of_ble_eq_true rfl, Nat.le_of_ble_eq_true rfl⟩ (Nat.le_of_ble_eq_true rfl) (zw_dg dk_M_truly 5 rfl) ?_
  refine r_if_ne X (pc := 10) (tgt := 15) (zw_dg dk_M_truly 6 rfl) (by decide) (fun q6 => ?_) (fun q6 => ?_)
  · --
    have p5 : ¬ (¬ (¬ r4 = 0)) := (fun q => q q6)
    have hsem := zw_ifn p5 hsem
    refine r_aload_n X (pc := 15) (i := 0) (zw_dg dk_M_truly 9 rfl) rfl rfl ?_
    refine r_iload_n X (pc := 16) (i := 1) (zw_dg dk_M_truly 10 rfl) rfl rfl ?_
    obtain ⟨c7, hc7, hsem⟩ := zw_bd hsem
    refine r_callVv X (pc := 17) (As := [_]) (st := []) (km_M_layPay hS hc7) ce_M_layPay kw_1700 (zo hS 71 rfl rfl) rfl rfl ⟨Nat.le_of_ble_eq_true rfl, Nat.le_of_ble_eq_true rfl⟩ (Nat.le_of_ble_eq_true rfl) (zw_dg dk_M_truly 11 rfl) ?_
    refine r_iconst X (pc := 20) (v := (-1)) (zw_dg dk_M_truly 12 rfl) (by decide) ?_
    refine r_istore_n X (pc := 21) (i := 2) (zw_dg dk_M_truly 13 rfl) rfl (by decide) rfl ?_
    refine r_iconst X (pc := 22) (v := (-1)) (zw_dg dk_M_truly 14 rfl) (by decide) ?_
    refine r_istore_n X (pc := 23) (i := 3) (zw_dg dk_M_truly 15 rfl) rfl (by decide) rfl ?_
    refine r_aload_n X (pc := 24) (i := 0) (zw_dg dk_M_truly 16 rfl) rfl rfl ?_
    refine r_getI X (pc := 25) ci_M (zo hS 71 rfl rfl) rfl lk_M_113 (zw_dg dk_M_truly 17 rfl) ?_
    refine r_iconst X (pc := 28) (v := 1) (zw_dg dk_M_truly 18 rfl) (by decide) ?_
    refine r_isub X (pc := 29) (zw_dg dk_M_truly 19 rfl)  ?_
    obtain ⟨t8, ht8, hsem⟩ := zw_bd hsem
    refine zw_topI ht8 ?_
    refine r_istore X (pc := 30) (i := 4) (zw_dg dk_M_truly 20 rfl) (by decide) rfl ?_
    obtain ⟨l14, hl14, hsl14⟩ := zw_bd hsem
    refine r_loop (pc := 32) (pce := 83) hl14 (fun (firstBad9, firstLike10, t11) => [some (.ref 71), some (.int p1), some (.int firstBad9), some (.int firstLike10), some (.int t11), none, none] : Int32 × Int32 × Int32 → zw_Lc) (fun (firstBad9, firstLike10, t11) => c7 : Int32 × Int32 × Int32 → zw_Ct) (fun (firstBad12, firstLike13) => [some (.ref 71), some (.int p1), some (.int firstBad12), some (.int firstLike13), none, none, none] : Int32 × Int32 → zw_Lc) (fun (firstBad12, firstLike13) => c7 : Int32 × Int32 → zw_Ct) ?_ rfl rfl ?_
    · rintro ⟨firstBad9, firstLike10, t11⟩ rr hsem hK hP
      try unfold fn_M_truly_l1 at hsem
      refine r_iload X (pc := 32) (i := 4) (zw_dg dk_M_truly 21 rfl) rfl ?_
      refine r_if_lt X (pc := 34) (tgt := 83) (zw_dg dk_M_truly 22 rfl) (by decide) (fun q16 => ?_) (fun q16 => ?_)
      · --
        have p15 : ¬ (0 ≤ t11) := (Int32.not_le.mpr q16)
        have hsem := zw_ifn p15 hsem
        have jj := hK _ (Option.some.inj hsem).symm
        exact (r_fgt [4] rfl jj)
      · --
        have p15 : (0 ≤ t11) := (Int32.not_lt.mp q16)
        have hsem := zw_ifp p15 hsem
        refine r_aload_n X (pc := 37) (i := 0) (zw_dg dk_M_truly 23 rfl) rfl rfl ?_
        refine r_iload X (pc := 38) (i := 4) (zw_dg dk_M_truly 24 rfl) rfl ?_
        obtain ⟨r17, hr17, hsem⟩ := zw_bd hsem
        refine r_callVl X (pc := 40) (As := [_]) (st := []) (km_M_bestWorth hS hr17) ce_M_bestWorth kw_1727 (zo hS 71 rfl rfl) rfl rfl ⟨Nat.le_of_ble_eq_true rfl, Nat.le_of_ble_eq_true rfl⟩ (Nat.le_of_ble_eq_true rfl) (zw_dg dk_M_truly 25 rfl) ?_
        refine r_lstore X (pc := 43) (i := 5) (L2 := [some (.ref 71), some (.int p1), some (.int firstBad9), some (.int firstLike10), some (.int t11), some (.long r17), none]) (zw_dg dk_M_truly 26 rfl) (by decide) rfl ?_
        refine r_aload_n X (pc := 45) (i := 0) (zw_dg dk_M_truly 27 rfl) rfl rfl ?_
        refine r_iload X (pc := 46) (i := 4) (zw_dg dk_M_truly 28 rfl) rfl ?_
        refine r_iload X (pc := 48) (i := 4) (zw_dg dk_M_truly 29 rfl) rfl ?_
        obtain ⟨r18, hr18, hsem⟩ := zw_bd hsem
        refine r_callVl X (pc := 50) (As := [_, _]) (st := []) (km_M_worth hS hr18) ce_M_worth kw_1712 (zo hS 71 rfl rfl) rfl rfl ⟨Nat.le_of_ble_eq_true rfl, Nat.le_of_ble_eq_true rfl⟩ (Nat.le_of_ble_eq_true rfl) (zw_dg dk_M_truly 30 rfl) ?_
        refine r_lload X (pc := 53) (i := 5) (zw_dg dk_M_truly 31 rfl) rfl ?_
        obtain ⟨firstBad19, ht62, hs62⟩ := zw_bd hsem
        refine zw_jn (J := 62) (L2 := [some (.ref 71), some (.int p1), some (.int firstBad19), some (.int firstLike10), some (.int t11), some (.long r17), none]) (c2 := c7) (fun jj => ?_) ?_
        · have hsem := ht62
          refine r_lcmp_ge X (pc := 55) (tgt := 62) (zw_dg dk_M_truly 32 rfl) (zw_dg dk_M_truly 33 rfl) (by decide) (fun q21 => ?_) (fun q21 => ?_)
          · --
            have p20 : ¬ (r18 < r17) := (Int64.not_lt.mpr q21)
            have hsem := zw_ifn p20 hsem
            cases hsem
            exact (r_fgt [] rfl jj)
          · --
            have p20 : (r18 < r17) := (Int64.not_le.mp q21)
            have hsem := zw_ifp p20 hsem
            refine r_iload X (pc := 59) (i := 4) (zw_dg dk_M_truly 34 rfl) rfl ?_
            refine r_istore_n X (pc := 61) (i := 2) (zw_dg dk_M_truly 35 rfl) rfl (by decide) rfl ?_
            cases hsem
            exact (r_fgt [] rfl jj)
        have hsem := hs62
        refine r_aload_n X (pc := 62) (i := 0) (zw_dg dk_M_truly 36 rfl) rfl rfl ?_
        refine r_iload X (pc := 63) (i := 4) (zw_dg dk_M_truly 37 rfl) rfl ?_
        refine r_lload X (pc := 65) (i := 5) (zw_dg dk_M_truly 38 rfl) rfl ?_
        obtain ⟨r22, hr22, hsem⟩ := zw_bd hsem
        refine r_callVi X (pc := 67) (As := [_, _]) (st := []) (km_M_otherBest hS hr22) ce_M_otherBest kw_1740 (zo hS 71 rfl rfl) rfl rfl ⟨Nat.le_of_ble_eq_true rfl, Nat.le_of_ble_eq_true rfl⟩ (Nat.le_of_ble_eq_true rfl) (zw_dg dk_M_truly 39 rfl) ?_
        refine r_iconst X (pc := 70) (v := (-1)) (zw_dg dk_M_truly 40 rfl) (by decide) ?_
        obtain ⟨firstLike23, ht77, hs77⟩ := zw_bd hsem
        refine zw_jn (J := 77) (L2 := [some (.ref 71), some (.int p1), some (.int firstBad19), some (.int firstLike23), some (.int t11), some (.long r17), none]) (c2 := c7) (fun jj => ?_) ?_
        · have hsem := ht77
          refine r_icmp_eq X (pc := 71) (tgt := 77) (zw_dg dk_M_truly 41 rfl) (by decide) (fun q25 => ?_) (fun q25 => ?_)
          · --
            have p24 : ¬ (¬ r22 = (-1)) := (fun z => z q25)
            have hsem := zw_ifn p24 hsem
            cases hsem
            exact (r_fgt [] rfl jj)
          · --
            have p24 : (¬ r22 = (-1)) := q25
            have hsem := zw_ifp p24 hsem
            refine r_iload X (pc := 74) (i := 4) (zw_dg dk_M_truly 42 rfl) rfl ?_
            refine r_istore_n X (pc := 76) (i := 3) (zw_dg dk_M_truly 43 rfl) rfl (by decide) rfl ?_
            cases hsem
            exact (r_fgt [] rfl jj)
        have hsem := hs77
        refine r_iinc X (pc := 77) (i := 4) (k := (-1)) (zw_dg dk_M_truly 44 rfl) rfl (by decide) (by decide) rfl ?_
        refine r_goto X (pc := 80) (tgt := 32) (zw_dg dk_M_truly 45 rfl) (by decide) ?_
        have jj := hP _ (Option.some.inj hsem).symm
        exact (r_fgt [5] rfl jj)
    obtain ⟨firstBad12, firstLike13⟩ := l14
    have hsem := hsl14
    refine r_aload_n X (pc := 83) (i := 0) (zw_dg dk_M_truly 46 rfl) rfl rfl ?_
    refine r_iconst X (pc := 84) (v := 0) (zw_dg dk_M_truly 47 rfl) (by decide) ?_
    refine r_putI X (pc := 85) ci_M (zo hS 71 rfl rfl) rfl lk_M_100 rfl ⟨rfl, rfl⟩ (zw_dg dk_M_truly 48 rfl) ?_
    obtain ⟨c26, hc26, hsem⟩ := zw_bd hsem
    refine zw_topC hc26 ?_
    refine r_iload_n X (pc := 88) (i := 3) (zw_dg dk_M_truly 49 rfl) rfl rfl ?_
    refine r_iconst X (pc := 89) (v := (-1)) (zw_dg dk_M_truly 50 rfl) (by decide) ?_
    refine r_icmp_ne X (pc := 90) (tgt := 95) (zw_dg dk_M_truly 51 rfl) (by decide) (fun q28 => ?_) (fun q28 => ?_)
    · --
      have p27 : ¬ (firstLike13 = (-1)) := q28
      have hsem := zw_ifn p27 hsem
      refine zw_ter (P := (firstBad12 = (-1))) (f := Value.int) (x := firstLike13) (y := firstBad12) (J := 105) (st2 := []) (fun jT jF => ?_) ?_
      · --
        refine r_iload_n X (pc := 95) (i := 2) (zw_dg dk_M_truly 54 rfl) rfl rfl ?_
        refine r_iconst X (pc := 96) (v := (-1)) (zw_dg dk_M_truly 55 rfl) (by decide) ?_
        refine r_icmp_ne X (pc := 97) (tgt := 104) (zw_dg dk_M_truly 56 rfl) (by decide) (fun q29 => ?_) (fun q29 => ?_)
        · --
          refine r_iload_n X (pc := 104) (i := 2) (zw_dg dk_M_truly 59 rfl) rfl rfl ?_
          exact jF q29
        · --
          refine r_iload_n X (pc := 100) (i := 3) (zw_dg dk_M_truly 57 rfl) rfl rfl ?_
          refine r_goto X (pc := 101) (tgt := 105) (zw_dg dk_M_truly 58 rfl) (by decide) ?_
          exact jT q29
      obtain ⟨which30, hwhich30, hsem⟩ := zw_bd hsem
      refine zw_topI hwhich30 ?_
      refine r_istore X (pc := 105) (i := 4) (zw_dg dk_M_truly 60 rfl) (by decide) rfl ?_
      refine r_aload_n X (pc := 107) (i := 0) (zw_dg dk_M_truly 61 rfl) rfl rfl ?_
      refine r_iload X (pc := 108) (i := 4) (zw_dg dk_M_truly 62 rfl) rfl ?_
      refine r_i2l X (pc := 110) (zw_dg dk_M_truly 63 rfl)  ?_
      obtain ⟨c31, hc31, hsem⟩ := zw_bd hsem
      refine r_callVv X (pc := 111) (As := [_]) (st := []) (km_M_tell hS hc31) ce_M_tell kw_1704 (zo hS 71 rfl rfl) rfl rfl ⟨Nat.le_of_ble_eq_true rfl, Nat.le_of_ble_eq_true rfl⟩ (Nat.le_of_ble_eq_true rfl) (zw_dg dk_M_truly 64 rfl) ?_
      refine r_aload_n X (pc := 114) (i := 0) (zw_dg dk_M_truly 65 rfl) rfl rfl ?_
      refine r_aload_n X (pc := 115) (i := 0) (zw_dg dk_M_truly 66 rfl) rfl rfl ?_
      refine r_iload X (pc := 116) (i := 4) (zw_dg dk_M_truly 67 rfl) rfl ?_
      refine r_aload_n X (pc := 118) (i := 0) (zw_dg dk_M_truly 68 rfl) rfl rfl ?_
      refine r_iload X (pc := 119) (i := 4) (zw_dg dk_M_truly 69 rfl) rfl ?_
      obtain ⟨r32, hr32, hsem⟩ := zw_bd hsem
      refine r_callVl X (pc := 121) (As := [_]) (st := [.int which30, .ref 71, .ref 71]) (km_M_bestWorth hS hr32) ce_M_bestWorth kw_1727 (zo hS 71 rfl rfl) rfl rfl ⟨Nat.le_of_ble_eq_true rfl, Nat.le_of_ble_eq_true rfl⟩ (Nat.le_of_ble_eq_true rfl) (zw_dg dk_M_truly 70 rfl) ?_
      obtain ⟨r33, hr33, hsem⟩ := zw_bd hsem
      refine r_callVi X (pc := 124) (As := [_, _]) (st := [.ref 71]) (km_M_otherBest hS hr33) ce_M_otherBest kw_1740 (zo hS 71 rfl rfl) rfl rfl ⟨Nat.le_of_ble_eq_true rfl, Nat.le_of_ble_eq_true rfl⟩ (Nat.le_of_ble_eq_true rfl) (zw_dg dk_M_truly 71 rfl) ?_
      refine r_i2l X (pc := 127) (zw_dg dk_M_truly 72 rfl)  ?_
      obtain ⟨c34, hc34, hsem⟩ := zw_bd hsem
      refine r_callVv X (pc := 128) (As := [_]) (st := []) (km_M_tell hS hc34) ce_M_tell kw_1704 (zo hS 71 rfl rfl) rfl rfl ⟨Nat.le_of_ble_eq_true rfl, Nat.le_of_ble_eq_true rfl⟩ (Nat.le_of_ble_eq_true rfl) (zw_dg dk_M_truly 73 rfl) ?_
      refine zw_ter (P := (firstBad12 = (-1))) (f := Value.int) (x := 1) (y := 0) (J := 141) (st2 := []) (fun jT jF => ?_) ?_
      · --
        refine r_iload_n X (pc := 131) (i := 2) (zw_dg dk_M_truly 74 rfl) rfl rfl ?_
        refine r_iconst X (pc := 132) (v := (-1)) (zw_dg dk_M_truly 75 rfl) (by decide) ?_
        refine r_icmp_ne X (pc := 133) (tgt := 140) (zw_dg dk_M_truly 76 rfl) (by decide) (fun q35 => ?_) (fun q35 => ?_)
        · --
          refine r_iconst X (pc := 140) (v := 0) (zw_dg dk_M_truly 79 rfl) (by decide) ?_
          exact jF q35
        · --
          refine r_iconst X (pc := 136) (v := 1) (zw_dg dk_M_truly 77 rfl) (by decide) ?_
          refine r_goto X (pc := 137) (tgt := 141) (zw_dg dk_M_truly 78 rfl) (by decide) ?_
          exact jT q35
      obtain ⟨rfl, rfl⟩ := zw_in2 hsem
      exact r_iret X (pc := 141) rfl (zw_dg dk_M_truly 80 rfl)
    · --
      have p27 : (firstLike13 = (-1)) := q28
      have hsem := zw_ifp p27 hsem
      refine r_iconst X (pc := 93) (v := 2) (zw_dg dk_M_truly 52 rfl) (by decide) ?_
      obtain ⟨rfl, rfl⟩ := zw_in2 hsem
      exact r_iret X (pc := 94) rfl (zw_dg dk_M_truly 53 rfl)
  · --
    have p5 : (¬ (¬ r4 = 0)) := (fun z => z q6)
    have hsem := zw_ifp p5 hsem
    refine r_iconst X (pc := 13) (v := (-1)) (zw_dg dk_M_truly 7 rfl) (by decide) ?_
    obtain ⟨rfl, rfl⟩ := zw_in2 hsem
    exact r_iret X (pc := 14) rfl (zw_dg dk_M_truly 8 rfl)
def y_M_bends : MethodName := ⟨R_M, "bends", "(I)I"⟩
abbrev b_M_bends : ByteArray := prog_14_method_40_code
def dl_M_bends : List (Nat × Instr × Nat) := [(0, .aload_n 0, 1), (1, .iconst 0, 1), (2, .putfield 97, 3), (5, .aload_n 0, 1), (6, .iload_n 1, 1), (7, .invokevirtual 222, 3), (10, .ifCond .ne 5, 3), (13, .iconst (-1), 1), (14, .ireturn, 1), (15, .aload_n 0, 1), (16, .iload_n 1, 1), (17, .invokevirtual 229, 3), (20, .iconst 0, 1), (21, .istore_n 2, 1), (22, .iconst (-1), 1), (23, .istore_n 3, 1), (24, .lconst 0, 1), (25, .lstore 4, 2), (27, .iconst 0, 1), (28, .istore 6, 2), (30, .iload 6, 2), (32, .aload_n 0, 1), (33, .getfield 113, 3), (36, .if_icmp .ge 57, 3), (39, .aload_n 0, 1), (40, .iload 6, 2), (42, .invokevirtual 244, 3), (45, .aload_n 0, 1), (46, .iload 6, 2), (48, .iload 6, 2), (50, .invokevirtual 233, 3), (53, .lsub, 1), (54, .lstore 7, 2), (56, .lload 7, 2), (58, .lconst 0, 1), (59, .lcmp, 1), (60, .ifCond .ne 6, 3), (63, .goto 24, 3), (66, .iinc 2 1, 3), (69, .lload 7, 2), (71, .lload 4, 2), (73, .lcmp, 1), (74, .ifCond .gt 6, 3), (77, .goto 10, 3), (80, .iload 6, 2), (82, .istore_n 3, 1), (83, .lload 7, 2), (85, .lstore 4, 2), (87, .iinc 6 1, 3), (90, .goto (-60), 3), (93, .aload_n 0, 1), (94, .iconst 0, 1), (95, .putfield 100, 3), (98, .aload_n 0, 1), (99, .iload_n 3, 1), (100, .i2l, 1), (101, .invokevirtual 109, 3), (104, .aload_n 0, 1), (105, .lload 4, 2), (107, .invokevirtual 109, 3), (110, .iload_n 2, 1), (111, .ireturn, 1)]
theorem dk_M_bends : zw_dk b_M_bends dl_M_bends = true := by decide +kernel
theorem ce_M_bends : zw_cev y_M_bends b_M_bends 9 (some .int) 1 := ⟨⟨kt_in 1747 (by decide +kernel) rfl, kt_in 98 (by decide +kernel) rfl, by decide +kernel⟩, kt_in 1745 (by decide +kernel) rfl, kt_in 1746 (by decide +kernel) rfl⟩
def fn_M_bends_l1 (c7 : zw_Ct) : Int32 × Int32 × Int64 × Int32 → Option ((Int32 × Int32 × Int64) ⊕ (Int32 × Int32 × Int64 × Int32)) := fun (n8, worst9, most10, t11) =>
  if (t11 < (c7.1 71 2)) then
  ((fn_M_bestWorth c7 t11).bind fun r18 =>
  (fn_M_worth c7 t11 t11).bind fun r19 =>
  (some ((r18 - r19) : Int64)).bind fun off20 =>
  if (off20 = 0) then
  (some (.inr (n8, worst9, most10, (t11 + 1))))
  else
  (if (off20 ≤ most10) then
  (some (.inr ((n8 + 1), worst9, most10, (t11 + 1))))
  else
  (some (.inr ((n8 + 1), t11, off20, (t11 + 1))))))
  else
  (some (.inl (n8, worst9, most10)))
def fn_M_bends (c : zw_Ct) (p1 : Int32) : Option (Int32 × zw_Ct) :=
  (some (zw_wI c 71 9 0)).bind fun c3 =>
  (fn_M_isPay c3 p1).bind fun r4 =>
  if (¬ (¬ r4 = 0)) then
  (some ((-1), c3))
  else
  ((fn_M_layPay c3 p1).bind fun c7 =>
  (zw_whl (fn_M_bends_l1 c7) zw_F (0, (-1), 0, 0)).bind fun (n12, worst13, most14) =>
  (some (zw_wI c7 71 8 0)).bind fun c25 =>
  (fn_M_tell c25 worst13.toInt64).bind fun c26 =>
  (fn_M_tell c26 most14).bind fun c27 =>
  some (n12, c27))
set_option maxRecDepth 100000 in
theorem km_M_bends {l : Launch} {g : zw_G} {rr : zw_RR} {sh : zw_Sh} {c : zw_Ct} {p1 : Int32} {r : Int32} {c2 : zw_Ct} (hS : zw_Ok 0 101 sh rr) (hsem : fn_M_bends c p1 = some (r, c2)) : zw_Met l g y_M_bends b_M_bends 9 (some .int) 107 rr sh [.ref 71, .int p1] c (some (.int r)) c2 := by
  unfold fn_M_bends at hsem
  refine zw_Met.of (by decide +kernel) (Nat.le_of_ble_eq_true rfl) (fun p e s m args below meth cd X => ?_)
  refine zw_eL (L2 := [some (.ref 71), some (.int p1), none, none, none, none, none, none, none]) rfl ?_
  refine r_aload_n X (pc := 0) (i := 0) (zw_dg dk_M_bends 0 rfl) rfl rfl ?_
  refine r_iconst X (pc := 1) (v := 0) (zw_dg dk_M_bends 1 rfl) (by decide) ?_
  refine r_putI X (pc := 2) ci_M (zo hS 71 rfl rfl) rfl lk_M_97 rfl ⟨rfl, rfl⟩ (zw_dg dk_M_bends 2 rfl) ?_
  obtain ⟨c3, hc3, hsem⟩ := zw_bd hsem
  refine zw_topC hc3 ?_
  refine r_aload_n X (pc := 5) (i := 0) (zw_dg dk_M_bends 3 rfl) rfl rfl ?_
  refine r_iload_n X (pc := 6) (i := 1) (zw_dg dk_M_bends 4 rfl) rfl rfl ?_
  obtain ⟨r4, hr4, hsem⟩ := zw_bd hsem
  refine r_callVi X (pc := 7) (As := [_]) (st := []) (km_M_isPay hS hr4) ce_M_isPay kw_1688 (zo hS 71 rfl rfl) rfl rfl ⟨Nat.le_of_ble_eq_true rfl, Nat.le_of_ble_eq_true rfl⟩ (Nat.le_of_ble_eq_true rfl) (zw_dg dk_M_bends 5 rfl) ?_
  refine r_if_ne X (pc := 10) (tgt := 15) (zw_dg dk_M_bends 6 rfl) (by decide) (fun q6 => ?_) (fun q6 => ?_)
  · --
    have p5 : ¬ (¬ (¬ r4 = 0)) := (fun q => q q6)
    have hsem := zw_ifn p5 hsem
    refine r_aload_n X (pc := 15) (i := 0) (zw_dg dk_M_bends 9 rfl) rfl rfl ?_
    refine r_iload_n X (pc := 16) (i := 1) (zw_dg dk_M_bends 10 rfl) rfl rfl ?_
    obtain ⟨c7, hc7, hsem⟩ := zw_bd hsem
    refine r_callVv X (pc := 17) (As := [_]) (st := []) (km_M_layPay hS hc7) ce_M_layPay kw_1700 (zo hS 71 rfl rfl) rfl rfl ⟨Nat.le_of_ble_eq_true rfl, Nat.le_of_ble_eq_true rfl⟩ (Nat.le_of_ble_eq_true rfl) (zw_dg dk_M_bends 11 rfl) ?_
    refine r_iconst X (pc := 20) (v := 0) (zw_dg dk_M_bends 12 rfl) (by decide) ?_
    refine r_istore_n X (pc := 21) (i := 2) (zw_dg dk_M_bends 13 rfl) rfl (by decide) rfl ?_
    refine r_iconst X (pc := 22) (v := (-1)) (zw_dg dk_M_bends 14 rfl) (by decide) ?_
    refine r_istore_n X (pc := 23) (i := 3) (zw_dg dk_M_bends 15 rfl) rfl (by decide) rfl ?_
    refine r_lconst X (pc := 24) (v := 0) (zw_dg dk_M_bends 16 rfl) (by decide) ?_
    refine r_lstore X (pc := 25) (i := 4) (L2 := [some (.ref 71), some (.int p1), some (.int 0), some (.int (-1)), some (.long 0), none, none, none, none]) (zw_dg dk_M_bends 17 rfl) (by decide) rfl ?_
    refine r_iconst X (pc := 27) (v := 0) (zw_dg dk_M_bends 18 rfl) (by decide) ?_
    refine r_istore X (pc := 28) (i := 6) (zw_dg dk_M_bends 19 rfl) (by decide) rfl ?_
    obtain ⟨l15, hl15, hsl15⟩ := zw_bd hsem
    refine r_loop (pc := 30) (pce := 93) hl15 (fun (n8, worst9, most10, t11) => [some (.ref 71), some (.int p1), some (.int n8), some (.int worst9), some (.long most10), none, some (.int t11), none, none] : Int32 × Int32 × Int64 × Int32 → zw_Lc) (fun (n8, worst9, most10, t11) => c7 : Int32 × Int32 × Int64 × Int32 → zw_Ct) (fun (n12, worst13, most14) => [some (.ref 71), some (.int p1), some (.int n12), some (.int worst13), some (.long most14), none, none, none, none] : Int32 × Int32 × Int64 → zw_Lc) (fun (n12, worst13, most14) => c7 : Int32 × Int32 × Int64 → zw_Ct) ?_ rfl rfl ?_
    · rintro ⟨n8, worst9, most10, t11⟩ rr hsem hK hP
      try unfold fn_M_bends_l1 at hsem
      refine r_iload X (pc := 30) (i := 6) (zw_dg dk_M_bends 20 rfl) rfl ?_
      refine r_aload_n X (pc := 32) (i := 0) (zw_dg dk_M_bends 21 rfl) rfl rfl ?_
      refine r_getI X (pc := 33) ci_M (zo hS 71 rfl rfl) rfl lk_M_113 (zw_dg dk_M_bends 22 rfl) ?_
      refine r_icmp_ge X (pc := 36) (tgt := 93) (zw_dg dk_M_bends 23 rfl) (by decide) (fun q17 => ?_) (fun q17 => ?_)
      · --
        have p16 : ¬ (t11 < (c7.1 71 2)) := (Int32.not_lt.mpr q17)
        have hsem := zw_ifn p16 hsem
        have jj := hK _ (Option.some.inj hsem).symm
        exact (r_fgt [6] rfl jj)
      · --
        have p16 : (t11 < (c7.1 71 2)) := (Int32.not_le.mp q17)
        have hsem := zw_ifp p16 hsem
        refine r_aload_n X (pc := 39) (i := 0) (zw_dg dk_M_bends 24 rfl) rfl rfl ?_
        refine r_iload X (pc := 40) (i := 6) (zw_dg dk_M_bends 25 rfl) rfl ?_
        obtain ⟨r18, hr18, hsem⟩ := zw_bd hsem
        refine r_callVl X (pc := 42) (As := [_]) (st := []) (km_M_bestWorth hS hr18) ce_M_bestWorth kw_1727 (zo hS 71 rfl rfl) rfl rfl ⟨Nat.le_of_ble_eq_true rfl, Nat.le_of_ble_eq_true rfl⟩ (Nat.le_of_ble_eq_true rfl) (zw_dg dk_M_bends 26 rfl) ?_
        refine r_aload_n X (pc := 45) (i := 0) (zw_dg dk_M_bends 27 rfl) rfl rfl ?_
        refine r_iload X (pc := 46) (i := 6) (zw_dg dk_M_bends 28 rfl) rfl ?_
        refine r_iload X (pc := 48) (i := 6) (zw_dg dk_M_bends 29 rfl) rfl ?_
        obtain ⟨r19, hr19, hsem⟩ := zw_bd hsem
        refine r_callVl X (pc := 50) (As := [_, _]) (st := [.long r18]) (km_M_worth hS hr19) ce_M_worth kw_1712 (zo hS 71 rfl rfl) rfl rfl ⟨Nat.le_of_ble_eq_true rfl, Nat.le_of_ble_eq_true rfl⟩ (Nat.le_of_ble_eq_true rfl) (zw_dg dk_M_bends 30 rfl) ?_
        refine r_lsub X (pc := 53) (zw_dg dk_M_bends 31 rfl)  ?_
        obtain ⟨off20, hoff20, hsem⟩ := zw_bd hsem
        refine zw_topJ hoff20 ?_
        refine r_lstore X (pc := 54) (i := 7) (L2 := [some (.ref 71), some (.int p1), some (.int n8), some (.int worst9), some (.long most10), none, some (.int t11), some (.long off20), none]) (zw_dg dk_M_bends 32 rfl) (by decide) rfl ?_
        refine r_lload X (pc := 56) (i := 7) (zw_dg dk_M_bends 33 rfl) rfl ?_
        refine r_lconst X (pc := 58) (v := 0) (zw_dg dk_M_bends 34 rfl) (by decide) ?_
        refine r_lcmp_ne X (pc := 59) (tgt := 66) (zw_dg dk_M_bends 35 rfl) (zw_dg dk_M_bends 36 rfl) (by decide) (fun q22 => ?_) (fun q22 => ?_)
        · --
          have p21 : ¬ (off20 = 0) := q22
          have hsem := zw_ifn p21 hsem
          refine r_iinc X (pc := 66) (i := 2) (k := 1) (zw_dg dk_M_bends 38 rfl) rfl (by decide) (by decide) rfl ?_
          refine r_lload X (pc := 69) (i := 7) (zw_dg dk_M_bends 39 rfl) rfl ?_
          refine r_lload X (pc := 71) (i := 4) (zw_dg dk_M_bends 40 rfl) rfl ?_
          refine r_lcmp_gt X (pc := 73) (tgt := 80) (zw_dg dk_M_bends 41 rfl) (zw_dg dk_M_bends 42 rfl) (by decide) (fun q24 => ?_) (fun q24 => ?_)
          · --
            have p23 : ¬ (off20 ≤ most10) := (Int64.not_le.mpr q24)
            have hsem := zw_ifn p23 hsem
            refine r_iload X (pc := 80) (i := 6) (zw_dg dk_M_bends 44 rfl) rfl ?_
            refine r_istore_n X (pc := 82) (i := 3) (zw_dg dk_M_bends 45 rfl) rfl (by decide) rfl ?_
            refine r_lload X (pc := 83) (i := 7) (zw_dg dk_M_bends 46 rfl) rfl ?_
            refine r_lstore X (pc := 85) (i := 4) (L2 := [some (.ref 71), some (.int p1), some (.int (n8 + 1)), some (.int t11), some (.long off20), none, some (.int t11), some (.long off20), none]) (zw_dg dk_M_bends 47 rfl) (by decide) rfl ?_
            refine r_iinc X (pc := 87) (i := 6) (k := 1) (zw_dg dk_M_bends 48 rfl) rfl (by decide) (by decide) rfl ?_
            refine r_goto X (pc := 90) (tgt := 30) (zw_dg dk_M_bends 49 rfl) (by decide) ?_
            have jj := hP _ (Option.some.inj hsem).symm
            exact (r_fgt [7] rfl jj)
          · --
            have p23 : (off20 ≤ most10) := (Int64.not_lt.mp q24)
            have hsem := zw_ifp p23 hsem
            refine r_goto X (pc := 77) (tgt := 87) (zw_dg dk_M_bends 43 rfl) (by decide) ?_
            refine r_iinc X (pc := 87) (i := 6) (k := 1) (zw_dg dk_M_bends 48 rfl) rfl (by decide) (by decide) rfl ?_
            refine r_goto X (pc := 90) (tgt := 30) (zw_dg dk_M_bends 49 rfl) (by decide) ?_
            have jj := hP _ (Option.some.inj hsem).symm
            exact (r_fgt [7] rfl jj)
        · --
          have p21 : (off20 = 0) := q22
          have hsem := zw_ifp p21 hsem
          refine r_goto X (pc := 63) (tgt := 87) (zw_dg dk_M_bends 37 rfl) (by decide) ?_
          refine r_iinc X (pc := 87) (i := 6) (k := 1) (zw_dg dk_M_bends 48 rfl) rfl (by decide) (by decide) rfl ?_
          refine r_goto X (pc := 90) (tgt := 30) (zw_dg dk_M_bends 49 rfl) (by decide) ?_
          have jj := hP _ (Option.some.inj hsem).symm
          exact (r_fgt [7] rfl jj)
    obtain ⟨n12, worst13, most14⟩ := l15
    have hsem := hsl15
    refine r_aload_n X (pc := 93) (i := 0) (zw_dg dk_M_bends 50 rfl) rfl rfl ?_
    refine r_iconst X (pc := 94) (v := 0) (zw_dg dk_M_bends 51 rfl) (by decide) ?_
    refine r_putI X (pc := 95) ci_M (zo hS 71 rfl rfl) rfl lk_M_100 rfl ⟨rfl, rfl⟩ (zw_dg dk_M_bends 52 rfl) ?_
    obtain ⟨c25, hc25, hsem⟩ := zw_bd hsem
    refine zw_topC hc25 ?_
    refine r_aload_n X (pc := 98) (i := 0) (zw_dg dk_M_bends 53 rfl) rfl rfl ?_
    refine r_iload_n X (pc := 99) (i := 3) (zw_dg dk_M_bends 54 rfl) rfl rfl ?_
    refine r_i2l X (pc := 100) (zw_dg dk_M_bends 55 rfl)  ?_
    obtain ⟨c26, hc26, hsem⟩ := zw_bd hsem
    refine r_callVv X (pc := 101) (As := [_]) (st := []) (km_M_tell hS hc26) ce_M_tell kw_1704 (zo hS 71 rfl rfl) rfl rfl ⟨Nat.le_of_ble_eq_true rfl, Nat.le_of_ble_eq_true rfl⟩ (Nat.le_of_ble_eq_true rfl) (zw_dg dk_M_bends 56 rfl) ?_
    refine r_aload_n X (pc := 104) (i := 0) (zw_dg dk_M_bends 57 rfl) rfl rfl ?_
    refine r_lload X (pc := 105) (i := 4) (zw_dg dk_M_bends 58 rfl) rfl ?_
    obtain ⟨c27, hc27, hsem⟩ := zw_bd hsem
    refine r_callVv X (pc := 107) (As := [_]) (st := []) (km_M_tell hS hc27) ce_M_tell kw_1704 (zo hS 71 rfl rfl) rfl rfl ⟨Nat.le_of_ble_eq_true rfl, Nat.le_of_ble_eq_true rfl⟩ (Nat.le_of_ble_eq_true rfl) (zw_dg dk_M_bends 59 rfl) ?_
    refine r_iload_n X (pc := 110) (i := 2) (zw_dg dk_M_bends 60 rfl) rfl rfl ?_
    obtain ⟨rfl, rfl⟩ := zw_in2 hsem
    exact r_iret X (pc := 111) rfl (zw_dg dk_M_bends 61 rfl)
  · --
    have p5 : (¬ (¬ r4 = 0)) := (fun z => z q6)
    have hsem := zw_ifp p5 hsem
    refine r_iconst X (pc := 13) (v := (-1)) (zw_dg dk_M_bends 7 rfl) (by decide) ?_
    obtain ⟨rfl, rfl⟩ := zw_in2 hsem
    exact r_iret X (pc := 14) rfl (zw_dg dk_M_bends 8 rfl)
def y_M_could : MethodName := ⟨R_M, "could", "(II)I"⟩
abbrev b_M_could : ByteArray := prog_14_method_41_code
def dl_M_could : List (Nat × Instr × Nat) := [(0, .aload_n 0, 1), (1, .iconst 0, 1), (2, .putfield 97, 3), (5, .aload_n 0, 1), (6, .iload_n 1, 1), (7, .invokevirtual 222, 3), (10, .ifCond .eq 11, 3), (13, .aload_n 0, 1), (14, .iload_n 2, 1), (15, .invokevirtual 142, 3), (18, .ifCond .ne 5, 3), (21, .iconst (-1), 1), (22, .ireturn, 1), (23, .aload_n 0, 1), (24, .iload_n 1, 1), (25, .invokevirtual 229, 3), (28, .iconst 0, 1), (29, .istore_n 3, 1), (30, .iconst (-1), 1), (31, .istore 4, 2), (33, .iconst (-1), 1), (34, .istore 5, 2), (36, .iconst 0, 1), (37, .istore 6, 2), (39, .iload 6, 2), (41, .aload_n 0, 1), (42, .getfield 113, 3), (45, .if_icmp .ge 49, 3), (48, .aload_n 0, 1), (49, .iload_n 2, 1), (50, .iload 6, 2), (52, .invokevirtual 233, 3), (55, .aload_n 0, 1), (56, .iload 6, 2), (58, .invokevirtual 244, 3), (61, .lcmp, 1), (62, .ifCond .ge 6, 3), (65, .goto 23, 3), (68, .iload_n 3, 1), (69, .ifCond .ne 8, 3), (72, .iload 6, 2), (74, .goto 5, 3), (77, .iload 4, 2), (79, .istore 4, 2), (81, .iload 6, 2), (83, .istore 5, 2), (85, .iinc 3 1, 3), (88, .iinc 6 1, 3), (91, .goto (-52), 3), (94, .aload_n 0, 1), (95, .iconst 0, 1), (96, .putfield 100, 3), (99, .iload_n 3, 1), (100, .ifCond .le 17, 3), (103, .aload_n 0, 1), (104, .iload 4, 2), (106, .i2l, 1), (107, .invokevirtual 109, 3), (110, .aload_n 0, 1), (111, .iload 5, 2), (113, .i2l, 1), (114, .invokevirtual 109, 3), (117, .iload_n 3, 1), (118, .ireturn, 1)]
theorem dk_M_could : zw_dk b_M_could dl_M_could = true := by decide +kernel
theorem ce_M_could : zw_cev y_M_could b_M_could 7 (some .int) 2 := ⟨⟨kt_in 1751 (by decide +kernel) rfl, kt_in 98 (by decide +kernel) rfl, by decide +kernel⟩, kt_in 1749 (by decide +kernel) rfl, kt_in 1750 (by decide +kernel) rfl⟩
def fn_M_could_l1 (c8 : zw_Ct) (s2 : Int32) : Int32 × Int32 × Int32 × Int32 → Option ((Int32 × Int32 × Int32) ⊕ (Int32 × Int32 × Int32 × Int32)) := fun (first9, last10, n11, t12) =>
  if (t12 < (c8.1 71 2)) then
  ((fn_M_worth c8 s2 t12).bind fun r19 =>
  (fn_M_bestWorth c8 t12).bind fun r20 =>
  if (r19 < r20) then
  (some (.inr (first9, last10, n11, (t12 + 1))))
  else
  ((some ((if (n11 = 0) then (t12 : Int32) else first9) : Int32)).bind fun first24 =>
  some (.inr (first24, t12, (n11 + 1), (t12 + 1)))))
  else
  (some (.inl (first9, last10, n11)))
def fn_M_could (c : zw_Ct) (p1 : Int32) (s2 : Int32) : Option (Int32 × zw_Ct) :=
  (some (zw_wI c 71 9 0)).bind fun c3 =>
  (fn_M_isPay c3 p1).bind fun r4 =>
  if ((¬ (¬ r4 = 0)) ∨ (¬ (¬ (fn_M_isSaying c3 s2) = 0))) then
  (some ((-1), c3))
  else
  ((fn_M_layPay c3 p1).bind fun c8 =>
  (zw_whl (fn_M_could_l1 c8 s2) zw_F ((-1), (-1), 0, 0)).bind fun (first13, last14, n15) =>
  (some (zw_wI c8 71 8 0)).bind fun c25 =>
  (if (0 < n15) then
  ((fn_M_tell c25 first13.toInt64).bind fun c29 =>
  (fn_M_tell c29 last14.toInt64).bind fun c30 =>
  some c30)
  else
  (some c25)).bind fun c26 =>
  some (n15, c26))
set_option maxRecDepth 100000 in
theorem km_M_could {l : Launch} {g : zw_G} {rr : zw_RR} {sh : zw_Sh} {c : zw_Ct} {p1 : Int32} {s2 : Int32} {r : Int32} {c2 : zw_Ct} (hS : zw_Ok 0 101 sh rr) (hsem : fn_M_could c p1 s2 = some (r, c2)) : zw_Met l g y_M_could b_M_could 7 (some .int) 107 rr sh [.ref 71, .int p1, .int s2] c (some (.int r)) c2 := by
  unfold fn_M_could at hsem
  refine zw_Met.of (by decide +kernel) (Nat.le_of_ble_eq_true rfl) (fun p e s m args below meth cd X => ?_)
  refine zw_eL (L2 := [some (.ref 71), some (.int p1), some (.int s2), none, none, none, none]) rfl ?_
  refine r_aload_n X (pc := 0) (i := 0) (zw_dg dk_M_could 0 rfl) rfl rfl ?_
  refine r_iconst X (pc := 1) (v := 0) (zw_dg dk_M_could 1 rfl) (by decide) ?_
  refine r_putI X (pc := 2) ci_M (zo hS 71 rfl rfl) rfl lk_M_97 rfl ⟨rfl, rfl⟩ (zw_dg dk_M_could 2 rfl) ?_
  obtain ⟨c3, hc3, hsem⟩ := zw_bd hsem
  refine zw_topC hc3 ?_
  refine r_aload_n X (pc := 5) (i := 0) (zw_dg dk_M_could 3 rfl) rfl rfl ?_
  refine r_iload_n X (pc := 6) (i := 1) (zw_dg dk_M_could 4 rfl) rfl rfl ?_
  obtain ⟨r4, hr4, hsem⟩ := zw_bd hsem
  refine r_callVi X (pc := 7) (As := [_]) (st := []) (km_M_isPay hS hr4) ce_M_isPay kw_1688 (zo hS 71 rfl rfl) rfl rfl ⟨Nat.le_of_ble_eq_true rfl, Nat.le_of_ble_eq_true rfl⟩ (Nat.le_of_ble_eq_true rfl) (zw_dg dk_M_could 5 rfl) ?_
  refine zw_cnd (P := ((¬ (¬ r4 = 0)) ∨ (¬ (¬ (fn_M_isSaying c3 s2) = 0)))) (J1 := 21) (J2 := 23) (st2 := []) (fun jT jF => ?_) (fun p5 => ?_) (fun p5 => ?_)
  · --
    refine r_if_eq X (pc := 10) (tgt := 21) (zw_dg dk_M_could 6 rfl) (by decide) (fun q6 => ?_) (fun q6 => ?_)
    · --
      exact jT (Or.inl (fun z => z q6))
    · --
      refine r_aload_n X (pc := 13) (i := 0) (zw_dg dk_M_could 7 rfl) rfl rfl ?_
      refine r_iload_n X (pc := 14) (i := 2) (zw_dg dk_M_could 8 rfl) rfl rfl ?_
      refine r_callVi X (pc := 15) (As := [_]) (st := []) (km_M_isSaying hS rfl) ce_M_isSaying kw_1609 (zo hS 71 rfl rfl) rfl rfl ⟨Nat.le_of_ble_eq_true rfl, Nat.le_of_ble_eq_true rfl⟩ (Nat.le_of_ble_eq_true rfl) (zw_dg dk_M_could 9 rfl) ?_
      refine r_if_ne X (pc := 18) (tgt := 23) (zw_dg dk_M_could 10 rfl) (by decide) (fun q7 => ?_) (fun q7 => ?_)
      · --
        exact jF (fun q => q.elim (fun q => q q6) (fun q => q q7))
      · --
        exact jT (Or.inr (fun z => z q7))
  · --
    have hsem := zw_ifp p5 hsem
    refine r_iconst X (pc := 21) (v := (-1)) (zw_dg dk_M_could 11 rfl) (by decide) ?_
    obtain ⟨rfl, rfl⟩ := zw_in2 hsem
    exact r_iret X (pc := 22) rfl (zw_dg dk_M_could 12 rfl)
  · --
    have hsem := zw_ifn p5 hsem
    refine r_aload_n X (pc := 23) (i := 0) (zw_dg dk_M_could 13 rfl) rfl rfl ?_
    refine r_iload_n X (pc := 24) (i := 1) (zw_dg dk_M_could 14 rfl) rfl rfl ?_
    obtain ⟨c8, hc8, hsem⟩ := zw_bd hsem
    refine r_callVv X (pc := 25) (As := [_]) (st := []) (km_M_layPay hS hc8) ce_M_layPay kw_1700 (zo hS 71 rfl rfl) rfl rfl ⟨Nat.le_of_ble_eq_true rfl, Nat.le_of_ble_eq_true rfl⟩ (Nat.le_of_ble_eq_true rfl) (zw_dg dk_M_could 15 rfl) ?_
    refine r_iconst X (pc := 28) (v := 0) (zw_dg dk_M_could 16 rfl) (by decide) ?_
    refine r_istore_n X (pc := 29) (i := 3) (zw_dg dk_M_could 17 rfl) rfl (by decide) rfl ?_
    refine r_iconst X (pc := 30) (v := (-1)) (zw_dg dk_M_could 18 rfl) (by decide) ?_
    refine r_istore X (pc := 31) (i := 4) (zw_dg dk_M_could 19 rfl) (by decide) rfl ?_
    refine r_iconst X (pc := 33) (v := (-1)) (zw_dg dk_M_could 20 rfl) (by decide) ?_
    refine r_istore X (pc := 34) (i := 5) (zw_dg dk_M_could 21 rfl) (by decide) rfl ?_
    refine r_iconst X (pc := 36) (v := 0) (zw_dg dk_M_could 22 rfl) (by decide) ?_
    refine r_istore X (pc := 37) (i := 6) (zw_dg dk_M_could 23 rfl) (by decide) rfl ?_
    obtain ⟨l16, hl16, hsl16⟩ := zw_bd hsem
    refine r_loop (pc := 39) (pce := 94) hl16 (fun (first9, last10, n11, t12) => [some (.ref 71), some (.int p1), some (.int s2), some (.int n11), some (.int first9), some (.int last10), some (.int t12)] : Int32 × Int32 × Int32 × Int32 → zw_Lc) (fun (first9, last10, n11, t12) => c8 : Int32 × Int32 × Int32 × Int32 → zw_Ct) (fun (first13, last14, n15) => [some (.ref 71), some (.int p1), some (.int s2), some (.int n15), some (.int first13), some (.int last14), none] : Int32 × Int32 × Int32 → zw_Lc) (fun (first13, last14, n15) => c8 : Int32 × Int32 × Int32 → zw_Ct) ?_ rfl rfl ?_
    · rintro ⟨first9, last10, n11, t12⟩ rr hsem hK hP
      try unfold fn_M_could_l1 at hsem
      refine r_iload X (pc := 39) (i := 6) (zw_dg dk_M_could 24 rfl) rfl ?_
      refine r_aload_n X (pc := 41) (i := 0) (zw_dg dk_M_could 25 rfl) rfl rfl ?_
      refine r_getI X (pc := 42) ci_M (zo hS 71 rfl rfl) rfl lk_M_113 (zw_dg dk_M_could 26 rfl) ?_
      refine r_icmp_ge X (pc := 45) (tgt := 94) (zw_dg dk_M_could 27 rfl) (by decide) (fun q18 => ?_) (fun q18 => ?_)
      · --
        have p17 : ¬ (t12 < (c8.1 71 2)) := (Int32.not_lt.mpr q18)
        have hsem := zw_ifn p17 hsem
        have jj := hK _ (Option.some.inj hsem).symm
        exact (r_fgt [6] rfl jj)
      · --
        have p17 : (t12 < (c8.1 71 2)) := (Int32.not_le.mp q18)
        have hsem := zw_ifp p17 hsem
        refine r_aload_n X (pc := 48) (i := 0) (zw_dg dk_M_could 28 rfl) rfl rfl ?_
        refine r_iload_n X (pc := 49) (i := 2) (zw_dg dk_M_could 29 rfl) rfl rfl ?_
        refine r_iload X (pc := 50) (i := 6) (zw_dg dk_M_could 30 rfl) rfl ?_
        obtain ⟨r19, hr19, hsem⟩ := zw_bd hsem
        refine r_callVl X (pc := 52) (As := [_, _]) (st := []) (km_M_worth hS hr19) ce_M_worth kw_1712 (zo hS 71 rfl rfl) rfl rfl ⟨Nat.le_of_ble_eq_true rfl, Nat.le_of_ble_eq_true rfl⟩ (Nat.le_of_ble_eq_true rfl) (zw_dg dk_M_could 31 rfl) ?_
        refine r_aload_n X (pc := 55) (i := 0) (zw_dg dk_M_could 32 rfl) rfl rfl ?_
        refine r_iload X (pc := 56) (i := 6) (zw_dg dk_M_could 33 rfl) rfl ?_
        obtain ⟨r20, hr20, hsem⟩ := zw_bd hsem
        refine r_callVl X (pc := 58) (As := [_]) (st := [.long r19]) (km_M_bestWorth hS hr20) ce_M_bestWorth kw_1727 (zo hS 71 rfl rfl) rfl rfl ⟨Nat.le_of_ble_eq_true rfl, Nat.le_of_ble_eq_true rfl⟩ (Nat.le_of_ble_eq_true rfl) (zw_dg dk_M_could 34 rfl) ?_
        refine r_lcmp_ge X (pc := 61) (tgt := 68) (zw_dg dk_M_could 35 rfl) (zw_dg dk_M_could 36 rfl) (by decide) (fun q22 => ?_) (fun q22 => ?_)
        · --
          have p21 : ¬ (r19 < r20) := (Int64.not_lt.mpr q22)
          have hsem := zw_ifn p21 hsem
          refine zw_ter (P := (n11 = 0)) (f := Value.int) (x := t12) (y := first9) (J := 79) (st2 := []) (fun jT jF => ?_) ?_
          · --
            refine r_iload_n X (pc := 68) (i := 3) (zw_dg dk_M_could 38 rfl) rfl rfl ?_
            refine r_if_ne X (pc := 69) (tgt := 77) (zw_dg dk_M_could 39 rfl) (by decide) (fun q23 => ?_) (fun q23 => ?_)
            · --
              refine r_iload X (pc := 77) (i := 4) (zw_dg dk_M_could 42 rfl) rfl ?_
              exact jF q23
            · --
              refine r_iload X (pc := 72) (i := 6) (zw_dg dk_M_could 40 rfl) rfl ?_
              refine r_goto X (pc := 74) (tgt := 79) (zw_dg dk_M_could 41 rfl) (by decide) ?_
              exact jT q23
          obtain ⟨first24, hfirst24, hsem⟩ := zw_bd hsem
          refine zw_topI hfirst24 ?_
          refine r_istore X (pc := 79) (i := 4) (zw_dg dk_M_could 43 rfl) (by decide) rfl ?_
          refine r_iload X (pc := 81) (i := 6) (zw_dg dk_M_could 44 rfl) rfl ?_
          refine r_istore X (pc := 83) (i := 5) (zw_dg dk_M_could 45 rfl) (by decide) rfl ?_
          refine r_iinc X (pc := 85) (i := 3) (k := 1) (zw_dg dk_M_could 46 rfl) rfl (by decide) (by decide) rfl ?_
          refine r_iinc X (pc := 88) (i := 6) (k := 1) (zw_dg dk_M_could 47 rfl) rfl (by decide) (by decide) rfl ?_
          refine r_goto X (pc := 91) (tgt := 39) (zw_dg dk_M_could 48 rfl) (by decide) ?_
          have jj := hP _ (Option.some.inj hsem).symm
          exact (r_fgt [] rfl jj)
        · --
          have p21 : (r19 < r20) := (Int64.not_le.mp q22)
          have hsem := zw_ifp p21 hsem
          refine r_goto X (pc := 65) (tgt := 88) (zw_dg dk_M_could 37 rfl) (by decide) ?_
          refine r_iinc X (pc := 88) (i := 6) (k := 1) (zw_dg dk_M_could 47 rfl) rfl (by decide) (by decide) rfl ?_
          refine r_goto X (pc := 91) (tgt := 39) (zw_dg dk_M_could 48 rfl) (by decide) ?_
          have jj := hP _ (Option.some.inj hsem).symm
          exact (r_fgt [] rfl jj)
    obtain ⟨first13, last14, n15⟩ := l16
    have hsem := hsl16
    refine r_aload_n X (pc := 94) (i := 0) (zw_dg dk_M_could 49 rfl) rfl rfl ?_
    refine r_iconst X (pc := 95) (v := 0) (zw_dg dk_M_could 50 rfl) (by decide) ?_
    refine r_putI X (pc := 96) ci_M (zo hS 71 rfl rfl) rfl lk_M_100 rfl ⟨rfl, rfl⟩ (zw_dg dk_M_could 51 rfl) ?_
    obtain ⟨c25, hc25, hsem⟩ := zw_bd hsem
    refine zw_topC hc25 ?_
    obtain ⟨c26, ht117, hs117⟩ := zw_bd hsem
    refine zw_jn (J := 117) (L2 := [some (.ref 71), some (.int p1), some (.int s2), some (.int n15), some (.int first13), some (.int last14), none]) (c2 := c26) (fun jj => ?_) ?_
    · have hsem := ht117
      refine r_iload_n X (pc := 99) (i := 3) (zw_dg dk_M_could 52 rfl) rfl rfl ?_
      refine r_if_le X (pc := 100) (tgt := 117) (zw_dg dk_M_could 53 rfl) (by decide) (fun q28 => ?_) (fun q28 => ?_)
      · --
        have p27 : ¬ (0 < n15) := (Int32.not_lt.mpr q28)
        have hsem := zw_ifn p27 hsem
        cases hsem
        exact (r_fgt [] rfl jj)
      · --
        have p27 : (0 < n15) := (Int32.not_le.mp q28)
        have hsem := zw_ifp p27 hsem
        refine r_aload_n X (pc := 103) (i := 0) (zw_dg dk_M_could 54 rfl) rfl rfl ?_
        refine r_iload X (pc := 104) (i := 4) (zw_dg dk_M_could 55 rfl) rfl ?_
        refine r_i2l X (pc := 106) (zw_dg dk_M_could 56 rfl)  ?_
        obtain ⟨c29, hc29, hsem⟩ := zw_bd hsem
        refine r_callVv X (pc := 107) (As := [_]) (st := []) (km_M_tell hS hc29) ce_M_tell kw_1704 (zo hS 71 rfl rfl) rfl rfl ⟨Nat.le_of_ble_eq_true rfl, Nat.le_of_ble_eq_true rfl⟩ (Nat.le_of_ble_eq_true rfl) (zw_dg dk_M_could 57 rfl) ?_
        refine r_aload_n X (pc := 110) (i := 0) (zw_dg dk_M_could 58 rfl) rfl rfl ?_
        refine r_iload X (pc := 111) (i := 5) (zw_dg dk_M_could 59 rfl) rfl ?_
        refine r_i2l X (pc := 113) (zw_dg dk_M_could 60 rfl)  ?_
        obtain ⟨c30, hc30, hsem⟩ := zw_bd hsem
        refine r_callVv X (pc := 114) (As := [_]) (st := []) (km_M_tell hS hc30) ce_M_tell kw_1704 (zo hS 71 rfl rfl) rfl rfl ⟨Nat.le_of_ble_eq_true rfl, Nat.le_of_ble_eq_true rfl⟩ (Nat.le_of_ble_eq_true rfl) (zw_dg dk_M_could 61 rfl) ?_
        cases hsem
        exact (r_fgt [] rfl jj)
    have hsem := hs117
    refine r_iload_n X (pc := 117) (i := 3) (zw_dg dk_M_could 62 rfl) rfl rfl ?_
    obtain ⟨rfl, rfl⟩ := zw_in2 hsem
    exact r_iret X (pc := 118) rfl (zw_dg dk_M_could 63 rfl)
def y_M_layBoth : MethodName := ⟨R_M, "layBoth", "(II)V"⟩
abbrev b_M_layBoth : ByteArray := prog_14_method_42_code
def dl_M_layBoth : List (Nat × Instr × Nat) := [(0, .aload_n 0, 1), (1, .iload_n 2, 1), (2, .invokevirtual 229, 3), (5, .iconst 0, 1), (6, .istore_n 3, 1), (7, .iload_n 3, 1), (8, .aload_n 0, 1), (9, .getfield 46, 3), (12, .arraylength, 1), (13, .if_icmp .ge 21, 3), (16, .aload_n 0, 1), (17, .getfield 49, 3), (20, .iload_n 3, 1), (21, .aload_n 0, 1), (22, .getfield 46, 3), (25, .iload_n 3, 1), (26, .iaload, 1), (27, .iastore, 1), (28, .iinc 3 1, 3), (31, .goto (-24), 3), (34, .aload_n 0, 1), (35, .iload_n 1, 1), (36, .invokevirtual 229, 3), (39, .return_, 1)]
theorem dk_M_layBoth : zw_dk b_M_layBoth dl_M_layBoth = true := by decide +kernel
theorem ce_M_layBoth : zw_cev y_M_layBoth b_M_layBoth 4 (none) 2 := ⟨⟨kt_in 1759 (by decide +kernel) rfl, kt_in 98 (by decide +kernel) rfl, by decide +kernel⟩, kt_in 1758 (by decide +kernel) rfl, kt_in 61 (by decide +kernel) rfl⟩
def fn_M_layBoth_l1  : Int32 × zw_Ct → Option ((zw_Ct) ⊕ (Int32 × zw_Ct)) := fun (k4, c5) =>
  if (k4 < 1820) then
  ((zw_aI 1820 c5 84 k4).bind fun x10 =>
  (zw_uI 1820 c5 85 k4 x10).bind fun c11 =>
  some (.inr ((k4 + 1), c11)))
  else
  (some (.inl c5))
def fn_M_layBoth (c : zw_Ct) (one1 : Int32) (other2 : Int32) : Option zw_Ct :=
  (fn_M_layPay c other2).bind fun c3 =>
  (zw_whl (fn_M_layBoth_l1) zw_F (0, c3)).bind fun c6 =>
  (fn_M_layPay c6 one1).bind fun c12 =>
  some c12
set_option maxRecDepth 100000 in
theorem km_M_layBoth {l : Launch} {g : zw_G} {rr : zw_RR} {sh : zw_Sh} {c : zw_Ct} {one1 : Int32} {other2 : Int32} {c2 : zw_Ct} (hS : zw_Ok 0 101 sh rr) (hsem : fn_M_layBoth c one1 other2 = some c2) : zw_Met l g y_M_layBoth b_M_layBoth 4 (none) 107 rr sh [.ref 71, .int one1, .int other2] c none c2 := by
  unfold fn_M_layBoth at hsem
  refine zw_Met.of (by decide +kernel) (Nat.le_of_ble_eq_true rfl) (fun p e s m args below meth cd X => ?_)
  refine zw_eL (L2 := [some (.ref 71), some (.int one1), some (.int other2), none]) rfl ?_
  refine r_aload_n X (pc := 0) (i := 0) (zw_dg dk_M_layBoth 0 rfl) rfl rfl ?_
  refine r_iload_n X (pc := 1) (i := 2) (zw_dg dk_M_layBoth 1 rfl) rfl rfl ?_
  obtain ⟨c3, hc3, hsem⟩ := zw_bd hsem
  refine r_callVv X (pc := 2) (As := [_]) (st := []) (km_M_layPay hS hc3) ce_M_layPay kw_1700 (zo hS 71 rfl rfl) rfl rfl ⟨Nat.le_of_ble_eq_true rfl, Nat.le_of_ble_eq_true rfl⟩ (Nat.le_of_ble_eq_true rfl) (zw_dg dk_M_layBoth 2 rfl) ?_
  refine r_iconst X (pc := 5) (v := 0) (zw_dg dk_M_layBoth 3 rfl) (by decide) ?_
  refine r_istore_n X (pc := 6) (i := 3) (zw_dg dk_M_layBoth 4 rfl) rfl (by decide) rfl ?_
  obtain ⟨c6, hl7, hsl7⟩ := zw_bd hsem
  refine r_loop (pc := 7) (pce := 34) hl7 (fun (k4, c5) => [some (.ref 71), some (.int one1), some (.int other2), some (.int k4)] : Int32 × zw_Ct → zw_Lc) (fun (k4, c5) => c5 : Int32 × zw_Ct → zw_Ct) (fun c6 => [some (.ref 71), some (.int one1), some (.int other2), none] : zw_Ct → zw_Lc) (fun c6 => c6 : zw_Ct → zw_Ct) ?_ rfl rfl ?_
  · rintro ⟨k4, c5⟩ rr hsem hK hP
    try unfold fn_M_layBoth_l1 at hsem
    refine r_iload_n X (pc := 7) (i := 3) (zw_dg dk_M_layBoth 5 rfl) rfl rfl ?_
    refine r_aload_n X (pc := 8) (i := 0) (zw_dg dk_M_layBoth 6 rfl) rfl rfl ?_
    refine r_getR X (pc := 9) (r := 84) ci_M (zo hS 71 rfl rfl) rfl (zr hS 71 21 rfl rfl) lk_M_46 (zw_dg dk_M_layBoth 7 rfl) ?_
    refine r_alen X (pc := 12) (t := 0) (n := 1820) (v := 1820) (zo hS 84 rfl rfl) rfl (by decide) (zw_dg dk_M_layBoth 8 rfl) ?_
    refine r_icmp_ge X (pc := 13) (tgt := 34) (zw_dg dk_M_layBoth 9 rfl) (by decide) (fun q9 => ?_) (fun q9 => ?_)
    · --
      have p8 : ¬ (k4 < 1820) := (Int32.not_lt.mpr q9)
      have hsem := zw_ifn p8 hsem
      have jj := hK _ (Option.some.inj hsem).symm
      exact (r_fgt [3] rfl jj)
    · --
      have p8 : (k4 < 1820) := (Int32.not_le.mp q9)
      have hsem := zw_ifp p8 hsem
      refine r_aload_n X (pc := 16) (i := 0) (zw_dg dk_M_layBoth 10 rfl) rfl rfl ?_
      refine r_getR X (pc := 17) (r := 85) ci_M (zo hS 71 rfl rfl) rfl (zr hS 71 22 rfl rfl) lk_M_49 (zw_dg dk_M_layBoth 11 rfl) ?_
      refine r_iload_n X (pc := 20) (i := 3) (zw_dg dk_M_layBoth 12 rfl) rfl rfl ?_
      refine r_aload_n X (pc := 21) (i := 0) (zw_dg dk_M_layBoth 13 rfl) rfl rfl ?_
      refine r_getR X (pc := 22) (r := 84) ci_M (zo hS 71 rfl rfl) rfl (zr hS 71 21 rfl rfl) lk_M_46 (zw_dg dk_M_layBoth 14 rfl) ?_
      refine r_iload_n X (pc := 25) (i := 3) (zw_dg dk_M_layBoth 15 rfl) rfl rfl ?_
      obtain ⟨x10, hx10, hsem⟩ := zw_bd hsem
      refine r_iald X (pc := 26) (zo hS 84 rfl rfl) hx10 (zw_dg dk_M_layBoth 16 rfl) ?_
      obtain ⟨c11, hc11, hsem⟩ := zw_bd hsem
      refine r_iast X (pc := 27) (zo hS 85 rfl rfl) hc11 (zw_dg dk_M_layBoth 17 rfl) ?_
      refine r_iinc X (pc := 28) (i := 3) (k := 1) (zw_dg dk_M_layBoth 18 rfl) rfl (by decide) (by decide) rfl ?_
      refine r_goto X (pc := 31) (tgt := 7) (zw_dg dk_M_layBoth 19 rfl) (by decide) ?_
      have jj := hP _ (Option.some.inj hsem).symm
      exact (r_fgt [] rfl jj)
  have hsem := hsl7
  refine r_aload_n X (pc := 34) (i := 0) (zw_dg dk_M_layBoth 20 rfl) rfl rfl ?_
  refine r_iload_n X (pc := 35) (i := 1) (zw_dg dk_M_layBoth 21 rfl) rfl rfl ?_
  obtain ⟨c12, hc12, hsem⟩ := zw_bd hsem
  refine r_callVv X (pc := 36) (As := [_]) (st := []) (km_M_layPay hS hc12) ce_M_layPay kw_1700 (zo hS 71 rfl rfl) rfl rfl ⟨Nat.le_of_ble_eq_true rfl, Nat.le_of_ble_eq_true rfl⟩ (Nat.le_of_ble_eq_true rfl) (zw_dg dk_M_layBoth 22 rfl) ?_
  cases hsem
  exact r_vret X (pc := 39) rfl (zw_dg dk_M_layBoth 23 rfl)
def y_M_isTimes : MethodName := ⟨R_M, "isTimes", "(I)Z"⟩
abbrev b_M_isTimes : ByteArray := prog_14_method_43_code
def dl_M_isTimes : List (Nat × Instr × Nat) := [(0, .iconst 0, 1), (1, .istore_n 2, 1), (2, .iload_n 2, 1), (3, .aload_n 0, 1), (4, .getfield 9, 3), (7, .if_icmp .ge 81, 3), (10, .iload_n 1, 1), (11, .i2l, 1), (12, .aload_n 0, 1), (13, .getfield 46, 3), (16, .iload_n 2, 1), (17, .iaload, 1), (18, .i2l, 1), (19, .lmul, 1), (20, .aload_n 0, 1), (21, .getfield 49, 3), (24, .iload_n 2, 1), (25, .iaload, 1), (26, .i2l, 1), (27, .lsub, 1), (28, .lstore_n 3, 1), (29, .iconst 1, 1), (30, .istore 5, 2), (32, .iload 5, 2), (34, .aload_n 0, 1), (35, .getfield 113, 3), (38, .if_icmp .ge 44, 3), (41, .iload_n 1, 1), (42, .i2l, 1), (43, .aload_n 0, 1), (44, .getfield 46, 3), (47, .iconst 4, 1), (48, .iload 5, 2), (50, .imul, 1), (51, .iload_n 2, 1), (52, .iadd, 1), (53, .iaload, 1), (54, .i2l, 1), (55, .lmul, 1), (56, .aload_n 0, 1), (57, .getfield 49, 3), (60, .iconst 4, 1), (61, .iload 5, 2), (63, .imul, 1), (64, .iload_n 2, 1), (65, .iadd, 1), (66, .iaload, 1), (67, .i2l, 1), (68, .lsub, 1), (69, .lload_n 3, 1), (70, .lcmp, 1), (71, .ifCond .eq 5, 3), (74, .iconst 0, 1), (75, .ireturn, 1), (76, .iinc 5 1, 3), (79, .goto (-47), 3), (82, .iinc 2 1, 3), (85, .goto (-83), 3), (88, .iconst 1, 1), (89, .ireturn, 1)]
theorem dk_M_isTimes : zw_dk b_M_isTimes dl_M_isTimes = true := by decide +kernel
theorem ce_M_isTimes : zw_cev y_M_isTimes b_M_isTimes 6 (some .boolean) 1 := ⟨⟨kt_in 1763 (by decide +kernel) rfl, kt_in 98 (by decide +kernel) rfl, by decide +kernel⟩, kt_in 1762 (by decide +kernel) rfl, kt_in 62 (by decide +kernel) rfl⟩
def fn_M_isTimes_l2 (c : zw_Ct) (e2 : Int32) (a1 : Int32) (off8 : Int64) : Int32 → Option (((Int32) ⊕ (Unit)) ⊕ (Int32)) := fun s9 =>
  if (s9 < (c.1 71 2)) then
  ((zw_aI 1820 c 84 ((4 * s9) + e2)).bind fun x13 =>
  (zw_aI 1820 c 85 ((4 * s9) + e2)).bind fun x14 =>
  if (¬ ((a1.toInt64 * x13.toInt64) - x14.toInt64) = off8) then
  (some (.inl (.inl 0)))
  else
  (some (.inr (s9 + 1))))
  else
  (some (.inl (.inr ())))
def fn_M_isTimes_l1 (c : zw_Ct) (a1 : Int32) : Int32 → Option (((Int32) ⊕ (Unit)) ⊕ (Int32)) := fun e2 =>
  if (e2 < (c.1 71 0)) then
  ((zw_aI 1820 c 84 e2).bind fun x6 =>
  (zw_aI 1820 c 85 e2).bind fun x7 =>
  (some (((a1.toInt64 * x6.toInt64) - x7.toInt64) : Int64)).bind fun off8 =>
  (zw_whl (fn_M_isTimes_l2 c e2 a1 off8) zw_F 1).bind fun q => match q with
    | .inl w => some (.inl (.inl w))
    | .inr _ =>
    some (.inr (e2 + 1)))
  else
  (some (.inl (.inr ())))
def fn_M_isTimes (c : zw_Ct) (a1 : Int32) : Option Int32 :=
  (zw_whl (fn_M_isTimes_l1 c a1) zw_F 0).bind fun q => match q with
    | .inl w => some w
    | .inr _ =>
    some 1
set_option maxRecDepth 100000 in
theorem km_M_isTimes {l : Launch} {g : zw_G} {rr : zw_RR} {sh : zw_Sh} {c : zw_Ct} {a1 : Int32} {r : Int32} (hS : zw_Ok 0 101 sh rr) (hsem : fn_M_isTimes c a1 = some r) : zw_Met l g y_M_isTimes b_M_isTimes 6 (some .boolean) 1 rr sh [.ref 71, .int a1] c (some (.int r)) c := by
  unfold fn_M_isTimes at hsem
  refine zw_Met.of (by decide +kernel) (Nat.le_of_ble_eq_true rfl) (fun p e s m args below meth cd X => ?_)
  refine zw_eL (L2 := [some (.ref 71), some (.int a1), none, none, none, none]) rfl ?_
  refine r_iconst X (pc := 0) (v := 0) (zw_dg dk_M_isTimes 0 rfl) (by decide) ?_
  refine r_istore_n X (pc := 1) (i := 2) (zw_dg dk_M_isTimes 1 rfl) rfl (by decide) rfl ?_
  obtain ⟨l3, hl3, hsl3⟩ := zw_bd hsem
  refine r_loopR (pc := 2) (pce := 88) hl3 (fun e2 => [some (.ref 71), some (.int a1), some (.int e2), none, none, none] : Int32 → zw_Lc) (fun e2 => c : Int32 → zw_Ct) (fun (_ : Unit) => [some (.ref 71), some (.int a1), none, none, none, none] : Unit → zw_Lc) (fun (_ : Unit) => c : Unit → zw_Ct) (fun w => w = r) ?_ rfl rfl ?_ ?_
  · rintro e2 rr hsem hR hK hP
    try unfold fn_M_isTimes_l1 at hsem
    refine r_iload_n X (pc := 2) (i := 2) (zw_dg dk_M_isTimes 2 rfl) rfl rfl ?_
    refine r_aload_n X (pc := 3) (i := 0) (zw_dg dk_M_isTimes 3 rfl) rfl rfl ?_
    refine r_getI X (pc := 4) ci_M (zo hS 71 rfl rfl) rfl lk_M_9 (zw_dg dk_M_isTimes 4 rfl) ?_
    refine r_icmp_ge X (pc := 7) (tgt := 88) (zw_dg dk_M_isTimes 5 rfl) (by decide) (fun q5 => ?_) (fun q5 => ?_)
    · --
      have p4 : ¬ (e2 < (c.1 71 0)) := (Int32.not_lt.mpr q5)
      have hsem := zw_ifn p4 hsem
      have jj := hK _ (Option.some.inj hsem).symm
      exact (r_fgt [2] rfl jj)
    · --
      have p4 : (e2 < (c.1 71 0)) := (Int32.not_le.mp q5)
      have hsem := zw_ifp p4 hsem
      refine r_iload_n X (pc := 10) (i := 1) (zw_dg dk_M_isTimes 6 rfl) rfl rfl ?_
      refine r_i2l X (pc := 11) (zw_dg dk_M_isTimes 7 rfl)  ?_
      refine r_aload_n X (pc := 12) (i := 0) (zw_dg dk_M_isTimes 8 rfl) rfl rfl ?_
      refine r_getR X (pc := 13) (r := 84) ci_M (zo hS 71 rfl rfl) rfl (zr hS 71 21 rfl rfl) lk_M_46 (zw_dg dk_M_isTimes 9 rfl) ?_
      refine r_iload_n X (pc := 16) (i := 2) (zw_dg dk_M_isTimes 10 rfl) rfl rfl ?_
      obtain ⟨x6, hx6, hsem⟩ := zw_bd hsem
      refine r_iald X (pc := 17) (zo hS 84 rfl rfl) hx6 (zw_dg dk_M_isTimes 11 rfl) ?_
      refine r_i2l X (pc := 18) (zw_dg dk_M_isTimes 12 rfl)  ?_
      refine r_lmul X (pc := 19) (zw_dg dk_M_isTimes 13 rfl)  ?_
      refine r_aload_n X (pc := 20) (i := 0) (zw_dg dk_M_isTimes 14 rfl) rfl rfl ?_
      refine r_getR X (pc := 21) (r := 85) ci_M (zo hS 71 rfl rfl) rfl (zr hS 71 22 rfl rfl) lk_M_49 (zw_dg dk_M_isTimes 15 rfl) ?_
      refine r_iload_n X (pc := 24) (i := 2) (zw_dg dk_M_isTimes 16 rfl) rfl rfl ?_
      obtain ⟨x7, hx7, hsem⟩ := zw_bd hsem
      refine r_iald X (pc := 25) (zo hS 85 rfl rfl) hx7 (zw_dg dk_M_isTimes 17 rfl) ?_
      refine r_i2l X (pc := 26) (zw_dg dk_M_isTimes 18 rfl)  ?_
      refine r_lsub X (pc := 27) (zw_dg dk_M_isTimes 19 rfl)  ?_
      obtain ⟨off8, hoff8, hsem⟩ := zw_bd hsem
      refine zw_topJ hoff8 ?_
      refine r_lstore_n X (pc := 28) (i := 3) (L2 := [some (.ref 71), some (.int a1), some (.int e2), some (.long off8), none, none]) (zw_dg dk_M_isTimes 20 rfl) rfl (by decide) rfl ?_
      refine r_iconst X (pc := 29) (v := 1) (zw_dg dk_M_isTimes 21 rfl) (by decide) ?_
      refine r_istore X (pc := 30) (i := 5) (zw_dg dk_M_isTimes 22 rfl) (by decide) rfl ?_
      obtain ⟨l10, hl10, hsl10⟩ := zw_bd hsem
      refine r_loopR (pc := 32) (pce := 82) hl10 (fun s9 => [some (.ref 71), some (.int a1), some (.int e2), some (.long off8), none, some (.int s9)] : Int32 → zw_Lc) (fun s9 => c : Int32 → zw_Ct) (fun (_ : Unit) => [some (.ref 71), some (.int a1), some (.int e2), some (.long off8), none, none] : Unit → zw_Lc) (fun (_ : Unit) => c : Unit → zw_Ct) (fun w => w = r) ?_ rfl rfl ?_ ?_
      · rintro s9 rr hsem hR hK hP
        try unfold fn_M_isTimes_l2 at hsem
        refine r_iload X (pc := 32) (i := 5) (zw_dg dk_M_isTimes 23 rfl) rfl ?_
        refine r_aload_n X (pc := 34) (i := 0) (zw_dg dk_M_isTimes 24 rfl) rfl rfl ?_
        refine r_getI X (pc := 35) ci_M (zo hS 71 rfl rfl) rfl lk_M_113 (zw_dg dk_M_isTimes 25 rfl) ?_
        refine r_icmp_ge X (pc := 38) (tgt := 82) (zw_dg dk_M_isTimes 26 rfl) (by decide) (fun q12 => ?_) (fun q12 => ?_)
        · --
          have p11 : ¬ (s9 < (c.1 71 2)) := (Int32.not_lt.mpr q12)
          have hsem := zw_ifn p11 hsem
          have jj := hK _ (Option.some.inj hsem).symm
          exact (r_fgt [5] rfl jj)
        · --
          have p11 : (s9 < (c.1 71 2)) := (Int32.not_le.mp q12)
          have hsem := zw_ifp p11 hsem
          refine r_iload_n X (pc := 41) (i := 1) (zw_dg dk_M_isTimes 27 rfl) rfl rfl ?_
          refine r_i2l X (pc := 42) (zw_dg dk_M_isTimes 28 rfl)  ?_
          refine r_aload_n X (pc := 43) (i := 0) (zw_dg dk_M_isTimes 29 rfl) rfl rfl ?_
          refine r_getR X (pc := 44) (r := 84) ci_M (zo hS 71 rfl rfl) rfl (zr hS 71 21 rfl rfl) lk_M_46 (zw_dg dk_M_isTimes 30 rfl) ?_
          refine r_iconst X (pc := 47) (v := 4) (zw_dg dk_M_isTimes 31 rfl) (by decide) ?_
          refine r_iload X (pc := 48) (i := 5) (zw_dg dk_M_isTimes 32 rfl) rfl ?_
          refine r_imul X (pc := 50) (zw_dg dk_M_isTimes 33 rfl)  ?_
          refine r_iload_n X (pc := 51) (i := 2) (zw_dg dk_M_isTimes 34 rfl) rfl rfl ?_
          refine r_iadd X (pc := 52) (zw_dg dk_M_isTimes 35 rfl)  ?_
          obtain ⟨x13, hx13, hsem⟩ := zw_bd hsem
          refine r_iald X (pc := 53) (zo hS 84 rfl rfl) hx13 (zw_dg dk_M_isTimes 36 rfl) ?_
          refine r_i2l X (pc := 54) (zw_dg dk_M_isTimes 37 rfl)  ?_
          refine r_lmul X (pc := 55) (zw_dg dk_M_isTimes 38 rfl)  ?_
          refine r_aload_n X (pc := 56) (i := 0) (zw_dg dk_M_isTimes 39 rfl) rfl rfl ?_
          refine r_getR X (pc := 57) (r := 85) ci_M (zo hS 71 rfl rfl) rfl (zr hS 71 22 rfl rfl) lk_M_49 (zw_dg dk_M_isTimes 40 rfl) ?_
          refine r_iconst X (pc := 60) (v := 4) (zw_dg dk_M_isTimes 41 rfl) (by decide) ?_
          refine r_iload X (pc := 61) (i := 5) (zw_dg dk_M_isTimes 42 rfl) rfl ?_
          refine r_imul X (pc := 63) (zw_dg dk_M_isTimes 43 rfl)  ?_
          refine r_iload_n X (pc := 64) (i := 2) (zw_dg dk_M_isTimes 44 rfl) rfl rfl ?_
          refine r_iadd X (pc := 65) (zw_dg dk_M_isTimes 45 rfl)  ?_
          obtain ⟨x14, hx14, hsem⟩ := zw_bd hsem
          refine r_iald X (pc := 66) (zo hS 85 rfl rfl) hx14 (zw_dg dk_M_isTimes 46 rfl) ?_
          refine r_i2l X (pc := 67) (zw_dg dk_M_isTimes 47 rfl)  ?_
          refine r_lsub X (pc := 68) (zw_dg dk_M_isTimes 48 rfl)  ?_
          refine r_lload_n X (pc := 69) (i := 3) (zw_dg dk_M_isTimes 49 rfl) rfl rfl ?_
          refine r_lcmp_eq X (pc := 70) (tgt := 76) (zw_dg dk_M_isTimes 50 rfl) (zw_dg dk_M_isTimes 51 rfl) (by decide) (fun q16 => ?_) (fun q16 => ?_)
          · --
            have p15 : ¬ (¬ ((a1.toInt64 * x13.toInt64) - x14.toInt64) = off8) := (fun z => z q16)
            have hsem := zw_ifn p15 hsem
            refine r_iinc X (pc := 76) (i := 5) (k := 1) (zw_dg dk_M_isTimes 54 rfl) rfl (by decide) (by decide) rfl ?_
            refine r_goto X (pc := 79) (tgt := 32) (zw_dg dk_M_isTimes 55 rfl) (by decide) ?_
            have jj := hP _ (Option.some.inj hsem).symm
            exact (r_fgt [] rfl jj)
          · --
            have p15 : (¬ ((a1.toInt64 * x13.toInt64) - x14.toInt64) = off8) := q16
            have hsem := zw_ifp p15 hsem
            refine r_iconst X (pc := 74) (v := 0) (zw_dg dk_M_isTimes 52 rfl) (by decide) ?_
            have hbz : (0 : Int32) = 0 ∨ (0 : Int32) = 1 := (by decide)
            have hret := hR _ (Option.some.inj hsem).symm
            cases hret
            exact r_zret X (pc := 75) rfl (zw_bzn hbz).1 (zw_dg dk_M_isTimes 53 rfl)
      · intro w hw
        subst hw
        exact hR _ (Option.some.inj hsl10).symm
      rintro _u hw
      subst hw
      have hsem := hsl10
      refine r_iinc X (pc := 82) (i := 2) (k := 1) (zw_dg dk_M_isTimes 56 rfl) rfl (by decide) (by decide) rfl ?_
      refine r_goto X (pc := 85) (tgt := 2) (zw_dg dk_M_isTimes 57 rfl) (by decide) ?_
      have jj := hP _ (Option.some.inj hsem).symm
      exact (r_fgt [3] rfl jj)
  · intro w hw
    subst hw
    exact Option.some.inj hsl3
  rintro _u hw
  subst hw
  have hsem := hsl3
  refine r_iconst X (pc := 88) (v := 1) (zw_dg dk_M_isTimes 58 rfl) (by decide) ?_
  have hbz : (1 : Int32) = 0 ∨ (1 : Int32) = 1 := (by decide)
  cases hsem
  exact r_zret X (pc := 89) rfl (zw_bzn hbz).1 (zw_dg dk_M_isTimes 59 rfl)
def y_M_same : MethodName := ⟨R_M, "same", "(II)I"⟩
abbrev b_M_same : ByteArray := prog_14_method_44_code
def dl_M_same : List (Nat × Instr × Nat) := [(0, .aload_n 0, 1), (1, .iconst 0, 1), (2, .putfield 97, 3), (5, .aload_n 0, 1), (6, .iload_n 1, 1), (7, .invokevirtual 222, 3), (10, .ifCond .eq 11, 3), (13, .aload_n 0, 1), (14, .iload_n 2, 1), (15, .invokevirtual 222, 3), (18, .ifCond .ne 5, 3), (21, .iconst (-1), 1), (22, .ireturn, 1), (23, .aload_n 0, 1), (24, .iload_n 1, 1), (25, .iload_n 2, 1), (26, .invokevirtual 252, 3), (29, .aload_n 0, 1), (30, .iconst 1, 1), (31, .invokevirtual 256, 3), (34, .ifCond .eq 7, 3), (37, .iconst 1, 1), (38, .goto 4, 3), (41, .iconst 0, 1), (42, .ireturn, 1)]
theorem dk_M_same : zw_dk b_M_same dl_M_same = true := by decide +kernel
theorem ce_M_same : zw_cev y_M_same b_M_same 3 (some .int) 2 := ⟨⟨kt_in 1755 (by decide +kernel) rfl, kt_in 98 (by decide +kernel) rfl, by decide +kernel⟩, kt_in 1753 (by decide +kernel) rfl, kt_in 1754 (by decide +kernel) rfl⟩
def fn_M_same (c : zw_Ct) (one1 : Int32) (other2 : Int32) : Option (Int32 × zw_Ct) :=
  (some (zw_wI c 71 9 0)).bind fun c3 =>
  (fn_M_isPay c3 one1).bind fun r4 =>
  if (¬ (¬ r4 = 0)) then
  (some ((-1), c3))
  else
  ((fn_M_isPay c3 other2).bind fun r7 =>
  if (¬ (¬ r7 = 0)) then
  (some ((-1), c3))
  else
  ((fn_M_layBoth c3 one1 other2).bind fun c10 =>
  (fn_M_isTimes c10 1).bind fun r11 =>
  some ((if (¬ r11 = 0) then (1 : Int32) else 0), c10)))
set_option maxRecDepth 100000 in
theorem km_M_same {l : Launch} {g : zw_G} {rr : zw_RR} {sh : zw_Sh} {c : zw_Ct} {one1 : Int32} {other2 : Int32} {r : Int32} {c2 : zw_Ct} (hS : zw_Ok 0 101 sh rr) (hsem : fn_M_same c one1 other2 = some (r, c2)) : zw_Met l g y_M_same b_M_same 3 (some .int) 108 rr sh [.ref 71, .int one1, .int other2] c (some (.int r)) c2 := by
  unfold fn_M_same at hsem
  refine zw_Met.of (by decide +kernel) (Nat.le_of_ble_eq_true rfl) (fun p e s m args below meth cd X => ?_)
  refine zw_eL (L2 := [some (.ref 71), some (.int one1), some (.int other2)]) rfl ?_
  refine r_aload_n X (pc := 0) (i := 0) (zw_dg dk_M_same 0 rfl) rfl rfl ?_
  refine r_iconst X (pc := 1) (v := 0) (zw_dg dk_M_same 1 rfl) (by decide) ?_
  refine r_putI X (pc := 2) ci_M (zo hS 71 rfl rfl) rfl lk_M_97 rfl ⟨rfl, rfl⟩ (zw_dg dk_M_same 2 rfl) ?_
  obtain ⟨c3, hc3, hsem⟩ := zw_bd hsem
  refine zw_topC hc3 ?_
  refine r_aload_n X (pc := 5) (i := 0) (zw_dg dk_M_same 3 rfl) rfl rfl ?_
  refine r_iload_n X (pc := 6) (i := 1) (zw_dg dk_M_same 4 rfl) rfl rfl ?_
  obtain ⟨r4, hr4, hsem⟩ := zw_bd hsem
  refine r_callVi X (pc := 7) (As := [_]) (st := []) (km_M_isPay hS hr4) ce_M_isPay kw_1688 (zo hS 71 rfl rfl) rfl rfl ⟨Nat.le_of_ble_eq_true rfl, Nat.le_of_ble_eq_true rfl⟩ (Nat.le_of_ble_eq_true rfl) (zw_dg dk_M_same 5 rfl) ?_
  refine r_if_eq X (pc := 10) (tgt := 21) (zw_dg dk_M_same 6 rfl) (by decide) (fun q6 => ?_) (fun q6 => ?_)
  · --
    have p5 : (¬ (¬ r4 = 0)) := (fun z => z q6)
    have hsem := zw_ifp p5 hsem
    refine r_iconst X (pc := 21) (v := (-1)) (zw_dg dk_M_same 11 rfl) (by decide) ?_
    obtain ⟨rfl, rfl⟩ := zw_in2 hsem
    exact r_iret X (pc := 22) rfl (zw_dg dk_M_same 12 rfl)
  · --
    have p5 : ¬ (¬ (¬ r4 = 0)) := (fun q => q q6)
    have hsem := zw_ifn p5 hsem
    refine r_aload_n X (pc := 13) (i := 0) (zw_dg dk_M_same 7 rfl) rfl rfl ?_
    refine r_iload_n X (pc := 14) (i := 2) (zw_dg dk_M_same 8 rfl) rfl rfl ?_
    obtain ⟨r7, hr7, hsem⟩ := zw_bd hsem
    refine r_callVi X (pc := 15) (As := [_]) (st := []) (km_M_isPay hS hr7) ce_M_isPay kw_1688 (zo hS 71 rfl rfl) rfl rfl ⟨Nat.le_of_ble_eq_true rfl, Nat.le_of_ble_eq_true rfl⟩ (Nat.le_of_ble_eq_true rfl) (zw_dg dk_M_same 9 rfl) ?_
    refine r_if_ne X (pc := 18) (tgt := 23) (zw_dg dk_M_same 10 rfl) (by decide) (fun q9 => ?_) (fun q9 => ?_)
    · --
      have p8 : ¬ (¬ (¬ r7 = 0)) := (fun q => q q9)
      have hsem := zw_ifn p8 hsem
      refine r_aload_n X (pc := 23) (i := 0) (zw_dg dk_M_same 13 rfl) rfl rfl ?_
      refine r_iload_n X (pc := 24) (i := 1) (zw_dg dk_M_same 14 rfl) rfl rfl ?_
      refine r_iload_n X (pc := 25) (i := 2) (zw_dg dk_M_same 15 rfl) rfl rfl ?_
      obtain ⟨c10, hc10, hsem⟩ := zw_bd hsem
      refine r_callVv X (pc := 26) (As := [_, _]) (st := []) (km_M_layBoth hS hc10) ce_M_layBoth kw_1756 (zo hS 71 rfl rfl) rfl rfl ⟨Nat.le_of_ble_eq_true rfl, Nat.le_of_ble_eq_true rfl⟩ (Nat.le_of_ble_eq_true rfl) (zw_dg dk_M_same 16 rfl) ?_
      refine r_aload_n X (pc := 29) (i := 0) (zw_dg dk_M_same 17 rfl) rfl rfl ?_
      refine r_iconst X (pc := 30) (v := 1) (zw_dg dk_M_same 18 rfl) (by decide) ?_
      obtain ⟨r11, hr11, hsem⟩ := zw_bd hsem
      refine r_callVi X (pc := 31) (As := [_]) (st := []) (km_M_isTimes hS hr11) ce_M_isTimes kw_1760 (zo hS 71 rfl rfl) rfl rfl ⟨Nat.le_of_ble_eq_true rfl, Nat.le_of_ble_eq_true rfl⟩ (Nat.le_of_ble_eq_true rfl) (zw_dg dk_M_same 19 rfl) ?_
      refine zw_ter (P := (¬ r11 = 0)) (f := Value.int) (x := 1) (y := 0) (J := 42) (st2 := []) (fun jT jF => ?_) ?_
      · --
        refine r_if_eq X (pc := 34) (tgt := 41) (zw_dg dk_M_same 20 rfl) (by decide) (fun q12 => ?_) (fun q12 => ?_)
        · --
          refine r_iconst X (pc := 41) (v := 0) (zw_dg dk_M_same 23 rfl) (by decide) ?_
          exact jF (fun z => z q12)
        · --
          refine r_iconst X (pc := 37) (v := 1) (zw_dg dk_M_same 21 rfl) (by decide) ?_
          refine r_goto X (pc := 38) (tgt := 42) (zw_dg dk_M_same 22 rfl) (by decide) ?_
          exact jT q12
      obtain ⟨rfl, rfl⟩ := zw_in2 hsem
      exact r_iret X (pc := 42) rfl (zw_dg dk_M_same 24 rfl)
    · --
      have p8 : (¬ (¬ r7 = 0)) := (fun z => z q9)
      have hsem := zw_ifp p8 hsem
      refine r_iconst X (pc := 21) (v := (-1)) (zw_dg dk_M_same 11 rfl) (by decide) ?_
      obtain ⟨rfl, rfl⟩ := zw_in2 hsem
      exact r_iret X (pc := 22) rfl (zw_dg dk_M_same 12 rfl)
def y_M_alike : MethodName := ⟨R_M, "alike", "(II)I"⟩
abbrev b_M_alike : ByteArray := prog_14_method_45_code
def dl_M_alike : List (Nat × Instr × Nat) := [(0, .aload_n 0, 1), (1, .iconst 0, 1), (2, .putfield 97, 3), (5, .aload_n 0, 1), (6, .iload_n 1, 1), (7, .invokevirtual 222, 3), (10, .ifCond .eq 11, 3), (13, .aload_n 0, 1), (14, .iload_n 2, 1), (15, .invokevirtual 222, 3), (18, .ifCond .ne 5, 3), (21, .iconst (-1), 1), (22, .ireturn, 1), (23, .aload_n 0, 1), (24, .iload_n 1, 1), (25, .iload_n 2, 1), (26, .invokevirtual 252, 3), (29, .aload_n 0, 1), (30, .iconst 0, 1), (31, .putfield 100, 3), (34, .iconst 1, 1), (35, .istore_n 3, 1), (36, .iload_n 3, 1), (37, .bipush 20, 2), (39, .if_icmp .gt 28, 3), (42, .aload_n 0, 1), (43, .iload_n 3, 1), (44, .invokevirtual 256, 3), (47, .ifCond .ne 6, 3), (50, .goto 11, 3), (53, .aload_n 0, 1), (54, .iload_n 3, 1), (55, .i2l, 1), (56, .invokevirtual 109, 3), (59, .iconst 1, 1), (60, .ireturn, 1), (61, .iinc 3 1, 3), (64, .goto (-28), 3), (67, .iconst 0, 1), (68, .ireturn, 1)]
theorem dk_M_alike : zw_dk b_M_alike dl_M_alike = true := by decide +kernel
theorem ce_M_alike : zw_cev y_M_alike b_M_alike 4 (some .int) 2 := ⟨⟨kt_in 1767 (by decide +kernel) rfl, kt_in 98 (by decide +kernel) rfl, by decide +kernel⟩, kt_in 1765 (by decide +kernel) rfl, kt_in 1766 (by decide +kernel) rfl⟩
def fn_M_alike_l1  : Int32 × zw_Ct → Option (((Int32 × zw_Ct) ⊕ (zw_Ct)) ⊕ (Int32 × zw_Ct)) := fun (a12, c13) =>
  if (a12 ≤ 20) then
  ((fn_M_isTimes c13 a12).bind fun r18 =>
  if (¬ (¬ r18 = 0)) then
  (some (.inr ((a12 + 1), c13)))
  else
  ((fn_M_tell c13 a12.toInt64).bind fun c21 =>
  some (.inl (.inl (1, c21)))))
  else
  (some (.inl (.inr c13)))
def fn_M_alike (c : zw_Ct) (one1 : Int32) (other2 : Int32) : Option (Int32 × zw_Ct) :=
  (some (zw_wI c 71 9 0)).bind fun c3 =>
  (fn_M_isPay c3 one1).bind fun r4 =>
  if (¬ (¬ r4 = 0)) then
  (some ((-1), c3))
  else
  ((fn_M_isPay c3 other2).bind fun r7 =>
  if (¬ (¬ r7 = 0)) then
  (some ((-1), c3))
  else
  ((fn_M_layBoth c3 one1 other2).bind fun c10 =>
  (some (zw_wI c10 71 8 0)).bind fun c11 =>
  (zw_whl (fn_M_alike_l1) zw_F (1, c11)).bind fun q => match q with
    | .inl w => some w
    | .inr c14 =>
    some (0, c14)))
set_option maxRecDepth 100000 in
theorem km_M_alike {l : Launch} {g : zw_G} {rr : zw_RR} {sh : zw_Sh} {c : zw_Ct} {one1 : Int32} {other2 : Int32} {r : Int32} {c2 : zw_Ct} (hS : zw_Ok 0 101 sh rr) (hsem : fn_M_alike c one1 other2 = some (r, c2)) : zw_Met l g y_M_alike b_M_alike 4 (some .int) 108 rr sh [.ref 71, .int one1, .int other2] c (some (.int r)) c2 := by
  unfold fn_M_alike at hsem
  refine zw_Met.of (by decide +kernel) (Nat.le_of_ble_eq_true rfl) (fun p e s m args below meth cd X => ?_)
  refine zw_eL (L2 := [some (.ref 71), some (.int one1), some (.int other2), none]) rfl ?_
  refine r_aload_n X (pc := 0) (i := 0) (zw_dg dk_M_alike 0 rfl) rfl rfl ?_
  refine r_iconst X (pc := 1) (v := 0) (zw_dg dk_M_alike 1 rfl) (by decide) ?_
  refine r_putI X (pc := 2) ci_M (zo hS 71 rfl rfl) rfl lk_M_97 rfl ⟨rfl, rfl⟩ (zw_dg dk_M_alike 2 rfl) ?_
  obtain ⟨c3, hc3, hsem⟩ := zw_bd hsem
  refine zw_topC hc3 ?_
  refine r_aload_n X (pc := 5) (i := 0) (zw_dg dk_M_alike 3 rfl) rfl rfl ?_
  refine r_iload_n X (pc := 6) (i := 1) (zw_dg dk_M_alike 4 rfl) rfl rfl ?_
  obtain ⟨r4, hr4, hsem⟩ := zw_bd hsem
  refine r_callVi X (pc := 7) (As := [_]) (st := []) (km_M_isPay hS hr4) ce_M_isPay kw_1688 (zo hS 71 rfl rfl) rfl rfl ⟨Nat.le_of_ble_eq_true rfl, Nat.le_of_ble_eq_true rfl⟩ (Nat.le_of_ble_eq_true rfl) (zw_dg dk_M_alike 5 rfl) ?_
  refine r_if_eq X (pc := 10) (tgt := 21) (zw_dg dk_M_alike 6 rfl) (by decide) (fun q6 => ?_) (fun q6 => ?_)
  · --
    have p5 : (¬ (¬ r4 = 0)) := (fun z => z q6)
    have hsem := zw_ifp p5 hsem
    refine r_iconst X (pc := 21) (v := (-1)) (zw_dg dk_M_alike 11 rfl) (by decide) ?_
    obtain ⟨rfl, rfl⟩ := zw_in2 hsem
    exact r_iret X (pc := 22) rfl (zw_dg dk_M_alike 12 rfl)
  · --
    have p5 : ¬ (¬ (¬ r4 = 0)) := (fun q => q q6)
    have hsem := zw_ifn p5 hsem
    refine r_aload_n X (pc := 13) (i := 0) (zw_dg dk_M_alike 7 rfl) rfl rfl ?_
    refine r_iload_n X (pc := 14) (i := 2) (zw_dg dk_M_alike 8 rfl) rfl rfl ?_
    obtain ⟨r7, hr7, hsem⟩ := zw_bd hsem
    refine r_callVi X (pc := 15) (As := [_]) (st := []) (km_M_isPay hS hr7) ce_M_isPay kw_1688 (zo hS 71 rfl rfl) rfl rfl ⟨Nat.le_of_ble_eq_true rfl, Nat.le_of_ble_eq_true rfl⟩ (Nat.le_of_ble_eq_true rfl) (zw_dg dk_M_alike 9 rfl) ?_
    refine r_if_ne X (pc := 18) (tgt := 23) (zw_dg dk_M_alike 10 rfl) (by decide) (fun q9 => ?_) (fun q9 => ?_)
    · --
      have p8 : ¬ (¬ (¬ r7 = 0)) := (fun q => q q9)
      have hsem := zw_ifn p8 hsem
      refine r_aload_n X (pc := 23) (i := 0) (zw_dg dk_M_alike 13 rfl) rfl rfl ?_
      refine r_iload_n X (pc := 24) (i := 1) (zw_dg dk_M_alike 14 rfl) rfl rfl ?_
      refine r_iload_n X (pc := 25) (i := 2) (zw_dg dk_M_alike 15 rfl) rfl rfl ?_
      obtain ⟨c10, hc10, hsem⟩ := zw_bd hsem
      refine r_callVv X (pc := 26) (As := [_, _]) (st := []) (km_M_layBoth hS hc10) ce_M_layBoth kw_1756 (zo hS 71 rfl rfl) rfl rfl ⟨Nat.le_of_ble_eq_true rfl, Nat.le_of_ble_eq_true rfl⟩ (Nat.le_of_ble_eq_true rfl) (zw_dg dk_M_alike 16 rfl) ?_
      refine r_aload_n X (pc := 29) (i := 0) (zw_dg dk_M_alike 17 rfl) rfl rfl ?_
      refine r_iconst X (pc := 30) (v := 0) (zw_dg dk_M_alike 18 rfl) (by decide) ?_
      refine r_putI X (pc := 31) ci_M (zo hS 71 rfl rfl) rfl lk_M_100 rfl ⟨rfl, rfl⟩ (zw_dg dk_M_alike 19 rfl) ?_
      obtain ⟨c11, hc11, hsem⟩ := zw_bd hsem
      refine zw_topC hc11 ?_
      refine r_iconst X (pc := 34) (v := 1) (zw_dg dk_M_alike 20 rfl) (by decide) ?_
      refine r_istore_n X (pc := 35) (i := 3) (zw_dg dk_M_alike 21 rfl) rfl (by decide) rfl ?_
      obtain ⟨l15, hl15, hsl15⟩ := zw_bd hsem
      refine r_loopR (pc := 36) (pce := 67) hl15 (fun (a12, c13) => [some (.ref 71), some (.int one1), some (.int other2), some (.int a12)] : Int32 × zw_Ct → zw_Lc) (fun (a12, c13) => c13 : Int32 × zw_Ct → zw_Ct) (fun c14 => [some (.ref 71), some (.int one1), some (.int other2), none] : zw_Ct → zw_Lc) (fun c14 => c14 : zw_Ct → zw_Ct) (fun w => w = (r, c2)) ?_ rfl rfl ?_ ?_
      · rintro ⟨a12, c13⟩ rr hsem hR hK hP
        try unfold fn_M_alike_l1 at hsem
        refine r_iload_n X (pc := 36) (i := 3) (zw_dg dk_M_alike 22 rfl) rfl rfl ?_
        refine r_bipush X (pc := 37) (v := 20) (zw_dg dk_M_alike 23 rfl) (by decide) ?_
        refine r_icmp_gt X (pc := 39) (tgt := 67) (zw_dg dk_M_alike 24 rfl) (by decide) (fun q17 => ?_) (fun q17 => ?_)
        · --
          have p16 : ¬ (a12 ≤ 20) := (Int32.not_le.mpr q17)
          have hsem := zw_ifn p16 hsem
          have jj := hK _ (Option.some.inj hsem).symm
          exact (r_fgt [3] rfl jj)
        · --
          have p16 : (a12 ≤ 20) := (Int32.not_lt.mp q17)
          have hsem := zw_ifp p16 hsem
          refine r_aload_n X (pc := 42) (i := 0) (zw_dg dk_M_alike 25 rfl) rfl rfl ?_
          refine r_iload_n X (pc := 43) (i := 3) (zw_dg dk_M_alike 26 rfl) rfl rfl ?_
          obtain ⟨r18, hr18, hsem⟩ := zw_bd hsem
          refine r_callVi X (pc := 44) (As := [_]) (st := []) (km_M_isTimes hS hr18) ce_M_isTimes kw_1760 (zo hS 71 rfl rfl) rfl rfl ⟨Nat.le_of_ble_eq_true rfl, Nat.le_of_ble_eq_true rfl⟩ (Nat.le_of_ble_eq_true rfl) (zw_dg dk_M_alike 27 rfl) ?_
          refine r_if_ne X (pc := 47) (tgt := 53) (zw_dg dk_M_alike 28 rfl) (by decide) (fun q20 => ?_) (fun q20 => ?_)
          · --
            have p19 : ¬ (¬ (¬ r18 = 0)) := (fun q => q q20)
            have hsem := zw_ifn p19 hsem
            refine r_aload_n X (pc := 53) (i := 0) (zw_dg dk_M_alike 30 rfl) rfl rfl ?_
            refine r_iload_n X (pc := 54) (i := 3) (zw_dg dk_M_alike 31 rfl) rfl rfl ?_
            refine r_i2l X (pc := 55) (zw_dg dk_M_alike 32 rfl)  ?_
            obtain ⟨c21, hc21, hsem⟩ := zw_bd hsem
            refine r_callVv X (pc := 56) (As := [_]) (st := []) (km_M_tell hS hc21) ce_M_tell kw_1704 (zo hS 71 rfl rfl) rfl rfl ⟨Nat.le_of_ble_eq_true rfl, Nat.le_of_ble_eq_true rfl⟩ (Nat.le_of_ble_eq_true rfl) (zw_dg dk_M_alike 33 rfl) ?_
            refine r_iconst X (pc := 59) (v := 1) (zw_dg dk_M_alike 34 rfl) (by decide) ?_
            have hret := hR _ (Option.some.inj hsem).symm
            cases hret
            exact r_iret X (pc := 60) rfl (zw_dg dk_M_alike 35 rfl)
          · --
            have p19 : (¬ (¬ r18 = 0)) := (fun z => z q20)
            have hsem := zw_ifp p19 hsem
            refine r_goto X (pc := 50) (tgt := 61) (zw_dg dk_M_alike 29 rfl) (by decide) ?_
            refine r_iinc X (pc := 61) (i := 3) (k := 1) (zw_dg dk_M_alike 36 rfl) rfl (by decide) (by decide) rfl ?_
            refine r_goto X (pc := 64) (tgt := 36) (zw_dg dk_M_alike 37 rfl) (by decide) ?_
            have jj := hP _ (Option.some.inj hsem).symm
            exact (r_fgt [] rfl jj)
      · intro w hw
        subst hw
        exact Option.some.inj hsl15
      rintro c14 hw
      subst hw
      have hsem := hsl15
      refine r_iconst X (pc := 67) (v := 0) (zw_dg dk_M_alike 38 rfl) (by decide) ?_
      obtain ⟨rfl, rfl⟩ := zw_in2 hsem
      exact r_iret X (pc := 68) rfl (zw_dg dk_M_alike 39 rfl)
    · --
      have p8 : (¬ (¬ r7 = 0)) := (fun z => z q9)
      have hsem := zw_ifp p8 hsem
      refine r_iconst X (pc := 21) (v := (-1)) (zw_dg dk_M_alike 11 rfl) (by decide) ?_
      obtain ⟨rfl, rfl⟩ := zw_in2 hsem
      exact r_iret X (pc := 22) rfl (zw_dg dk_M_alike 12 rfl)
