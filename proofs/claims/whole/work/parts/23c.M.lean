/-! PaidForThinkingModel: names, functions, contracts (by program: wip/whole/gen) -/
def y_M_make : MethodName := ⟨R_M, "make", "(I)I"⟩
abbrev b_M_make : ByteArray := prog_14_method_46_code
def dl_M_make : List (Nat × Instr × Nat) := [(0, .aload_n 0, 1), (1, .iconst 0, 1), (2, .putfield 97, 3), (5, .aload_n 0, 1), (6, .getfield 9, 3), (9, .iconst 2, 1), (10, .if_icmp .ne 15, 3), (13, .iload_n 1, 1), (14, .i2l, 1), (15, .lconst 0, 1), (16, .ldc2_w 157, 3), (19, .invokestatic 120, 3), (22, .ifCond .ne 5, 3), (25, .iconst (-1), 1), (26, .ireturn, 1), (27, .iconst 1, 1), (28, .istore_n 2, 1), (29, .iconst 0, 1), (30, .istore_n 3, 1), (31, .iload_n 3, 1), (32, .aload_n 0, 1), (33, .getfield 13, 3), (36, .if_icmp .gt 158, 3), (39, .iload_n 3, 1), (40, .aload_n 0, 1), (41, .getfield 13, 3), (44, .if_icmp .ne 21, 3), (47, .aload_n 0, 1), (48, .getfield 20, 3), (51, .iload_n 3, 1), (52, .iaload, 1), (53, .aload_n 0, 1), (54, .getfield 20, 3), (57, .iload_n 3, 1), (58, .iconst 1, 1), (59, .isub, 1), (60, .iaload, 1), (61, .isub, 1), (62, .goto 18, 3), (65, .aload_n 0, 1), (66, .getfield 20, 3), (69, .iload_n 3, 1), (70, .iconst 1, 1), (71, .iadd, 1), (72, .iaload, 1), (73, .aload_n 0, 1), (74, .getfield 20, 3), (77, .iload_n 3, 1), (78, .iaload, 1), (79, .isub, 1), (80, .istore 4, 2), (82, .iconst 4, 1), (83, .sipush 455, 3), (86, .iload_n 1, 1), (87, .imul, 1), (88, .aload_n 0, 1), (89, .getfield 13, 3), (92, .iadd, 1), (93, .iload_n 3, 1), (94, .isub, 1), (95, .imul, 1), (96, .istore 5, 2), (98, .aload_n 0, 1), (99, .getfield 43, 3), (102, .iload 5, 2), (104, .aload_n 0, 1), (105, .getfield 20, 3), (108, .iload_n 3, 1), (109, .iaload, 1), (110, .iload_n 3, 1), (111, .iload 4, 2), (113, .imul, 1), (114, .isub, 1), (115, .iastore, 1), (116, .aload_n 0, 1), (117, .getfield 43, 3), (120, .iload 5, 2), (122, .iconst 1, 1), (123, .iadd, 1), (124, .aload_n 0, 1), (125, .getfield 20, 3), (128, .iload_n 3, 1), (129, .iaload, 1), (130, .aload_n 0, 1), (131, .getfield 13, 3), (134, .iload_n 3, 1), (135, .isub, 1), (136, .iload 4, 2), (138, .imul, 1), (139, .iadd, 1), (140, .iastore, 1), (141, .iload_n 3, 1), (142, .ifCond .le 46, 3), (145, .iload_n 3, 1), (146, .aload_n 0, 1), (147, .getfield 13, 3), (150, .if_icmp .ge 38, 3), (153, .aload_n 0, 1), (154, .getfield 20, 3), (157, .iload_n 3, 1), (158, .iconst 1, 1), (159, .iadd, 1), (160, .iaload, 1), (161, .aload_n 0, 1), (162, .getfield 20, 3), (165, .iload_n 3, 1), (166, .iaload, 1), (167, .isub, 1), (168, .aload_n 0, 1), (169, .getfield 20, 3), (172, .iload_n 3, 1), (173, .iaload, 1), (174, .aload_n 0, 1), (175, .getfield 20, 3), (178, .iload_n 3, 1), (179, .iconst 1, 1), (180, .isub, 1), (181, .iaload, 1), (182, .isub, 1), (183, .if_icmp .ge 5, 3), (186, .iconst 0, 1), (187, .istore_n 2, 1), (188, .iinc 3 1, 3), (191, .goto (-160), 3), (194, .aload_n 0, 1), (195, .getfield 39, 3), (198, .iload_n 1, 1), (199, .iconst 1, 1), (200, .bastore, 1), (201, .aload_n 0, 1), (202, .getfield 36, 3), (205, .iload_n 1, 1), (206, .iconst 0, 1), (207, .iastore, 1), (208, .iload_n 2, 1), (209, .ifCond .eq 7, 3), (212, .iconst 1, 1), (213, .goto 4, 3), (216, .iconst 0, 1), (217, .ireturn, 1)]
theorem dk_M_make : zw_dk b_M_make dl_M_make = true := by decide +kernel
theorem ce_M_make : zw_cev y_M_make b_M_make 6 (some .int) 1 := ⟨⟨kt_in 1771 (by decide +kernel) rfl, kt_in 98 (by decide +kernel) rfl, by decide +kernel⟩, kt_in 1769 (by decide +kernel) rfl, kt_in 1770 (by decide +kernel) rfl⟩
def fn_M_make_l1 (i1 : Int32) : Int32 × Int32 × zw_Ct → Option ((Int32 × zw_Ct) ⊕ (Int32 × Int32 × zw_Ct)) := fun (bent7, s8, c9) =>
  if (s8 ≤ (c9.1 71 1)) then
  ((if (s8 = (c9.1 71 1)) then
  ((zw_aI 13 c9 73 s8).bind fun x20 =>
  (zw_aI 13 c9 73 (s8 - 1)).bind fun x21 =>
  some ((x20 - x21) : Int32))
  else
  ((zw_aI 13 c9 73 (s8 + 1)).bind fun x18 =>
  (zw_aI 13 c9 73 s8).bind fun x19 =>
  some ((x18 - x19) : Int32))).bind fun v15 =>
  (some ((4 * (((455 * i1) + (c9.1 71 1)) - s8)) : Int32)).bind fun k22 =>
  (zw_aI 13 c9 73 s8).bind fun x23 =>
  (zw_uI 7280 c9 83 k22 (x23 - (s8 * v15))).bind fun c24 =>
  (zw_aI 13 c24 73 s8).bind fun x25 =>
  (zw_uI 7280 c24 83 (k22 + 1) (x25 + (((c24.1 71 1) - s8) * v15))).bind fun c26 =>
  ((if (0 < s8) then
  (if (s8 < (c26.1 71 1)) then
  ((zw_aI 13 c26 73 (s8 + 1)).bind fun x31 =>
  (zw_aI 13 c26 73 s8).bind fun x32 =>
  (zw_aI 13 c26 73 s8).bind fun x33 =>
  (zw_aI 13 c26 73 (s8 - 1)).bind fun x34 =>
  some (decide ((x31 - x32) < (x33 - x34))))
  else some false)
  else some false).bind fun b28 =>
  if b28 = true then
  (some (0 : Int32))
  else
  (some (bent7 : Int32))).bind fun bent27 =>
  some (.inr (bent27, (s8 + 1), c26)))
  else
  (some (.inl (bent7, c9)))
def fn_M_make (c : zw_Ct) (i1 : Int32) : Option (Int32 × zw_Ct) :=
  (some (zw_wI c 71 9 0)).bind fun c3 =>
  if ((¬ (c3.1 71 0) = 2) ∨ (¬ (¬ (fn_M_in i1.toInt64 0 3) = 0))) then
  (some ((-1), c3))
  else
  ((zw_whl (fn_M_make_l1 i1) zw_F (1, 0, c3)).bind fun (bent10, c11) =>
  (zw_uI 4 c11 82 i1 1).bind fun c36 =>
  (zw_uI 4 c36 81 i1 0).bind fun c37 =>
  some ((if (¬ bent10 = 0) then (1 : Int32) else 0), c37))
set_option maxRecDepth 100000 in
theorem km_M_make {l : Launch} {g : zw_G} {rr : zw_RR} {sh : zw_Sh} {c : zw_Ct} {i1 : Int32} {r : Int32} {c2 : zw_Ct} (hS : zw_Ok 0 101 sh rr) (hsem : fn_M_make c i1 = some (r, c2)) : zw_Met l g y_M_make b_M_make 6 (some .int) 2 rr sh [.ref 71, .int i1] c (some (.int r)) c2 := by
  unfold fn_M_make at hsem
  refine zw_Met.of (by decide +kernel) (Nat.le_of_ble_eq_true rfl) (fun p e s m args below meth cd X => ?_)
  refine zw_eL (L2 := [some (.ref 71), some (.int i1), none, none, none, none]) rfl ?_
  refine r_aload_n X (pc := 0) (i := 0) (zw_dg dk_M_make 0 rfl) rfl rfl ?_
  refine r_iconst X (pc := 1) (v := 0) (zw_dg dk_M_make 1 rfl) (by decide) ?_
  refine r_putI X (pc := 2) ci_M (zo hS 71 rfl rfl) rfl lk_M_97 rfl ⟨rfl, rfl⟩ (zw_dg dk_M_make 2 rfl) ?_
  obtain ⟨c3, hc3, hsem⟩ := zw_bd hsem
  refine zw_topC hc3 ?_
  refine zw_cnd (P := ((¬ (c3.1 71 0) = 2) ∨ (¬ (¬ (fn_M_in i1.toInt64 0 3) = 0)))) (J1 := 25) (J2 := 27) (st2 := []) (fun jT jF => ?_) (fun p4 => ?_) (fun p4 => ?_)
  · --
    refine r_aload_n X (pc := 5) (i := 0) (zw_dg dk_M_make 3 rfl) rfl rfl ?_
    refine r_getI X (pc := 6) ci_M (zo hS 71 rfl rfl) rfl lk_M_9 (zw_dg dk_M_make 4 rfl) ?_
    refine r_iconst X (pc := 9) (v := 2) (zw_dg dk_M_make 5 rfl) (by decide) ?_
    refine r_icmp_ne X (pc := 10) (tgt := 25) (zw_dg dk_M_make 6 rfl) (by decide) (fun q5 => ?_) (fun q5 => ?_)
    · --
      exact jT (Or.inl q5)
    · --
      refine r_iload_n X (pc := 13) (i := 1) (zw_dg dk_M_make 7 rfl) rfl rfl ?_
      refine r_i2l X (pc := 14) (zw_dg dk_M_make 8 rfl)  ?_
      refine r_lconst X (pc := 15) (v := 0) (zw_dg dk_M_make 9 rfl) (by decide) ?_
      refine r_ldc2 X (pc := 16) (v := 3) kw_1631 (zw_dg dk_M_make 10 rfl) ?_
      refine r_callSi X (pc := 19) (As := [_, _, _]) (st := []) (km_M_in hS rfl) ce_M_in kw_1597 rfl ⟨Nat.le_of_ble_eq_true rfl, Nat.le_of_ble_eq_true rfl⟩ (Nat.le_of_ble_eq_true rfl) (zw_dg dk_M_make 11 rfl) ?_
      refine r_if_ne X (pc := 22) (tgt := 27) (zw_dg dk_M_make 12 rfl) (by decide) (fun q6 => ?_) (fun q6 => ?_)
      · --
        exact jF (fun q => q.elim (fun z => z q5) (fun q => q q6))
      · --
        exact jT (Or.inr (fun z => z q6))
  · --
    have hsem := zw_ifp p4 hsem
    refine r_iconst X (pc := 25) (v := (-1)) (zw_dg dk_M_make 13 rfl) (by decide) ?_
    obtain ⟨rfl, rfl⟩ := zw_in2 hsem
    exact r_iret X (pc := 26) rfl (zw_dg dk_M_make 14 rfl)
  · --
    have hsem := zw_ifn p4 hsem
    refine r_iconst X (pc := 27) (v := 1) (zw_dg dk_M_make 15 rfl) (by decide) ?_
    refine r_istore_n X (pc := 28) (i := 2) (zw_dg dk_M_make 16 rfl) rfl (by decide) rfl ?_
    refine r_iconst X (pc := 29) (v := 0) (zw_dg dk_M_make 17 rfl) (by decide) ?_
    refine r_istore_n X (pc := 30) (i := 3) (zw_dg dk_M_make 18 rfl) rfl (by decide) rfl ?_
    obtain ⟨l12, hl12, hsl12⟩ := zw_bd hsem
    refine r_loop (pc := 31) (pce := 194) hl12 (fun (bent7, s8, c9) => [some (.ref 71), some (.int i1), some (.int bent7), some (.int s8), none, none] : Int32 × Int32 × zw_Ct → zw_Lc) (fun (bent7, s8, c9) => c9 : Int32 × Int32 × zw_Ct → zw_Ct) (fun (bent10, c11) => [some (.ref 71), some (.int i1), some (.int bent10), none, none, none] : Int32 × zw_Ct → zw_Lc) (fun (bent10, c11) => c11 : Int32 × zw_Ct → zw_Ct) ?_ rfl rfl ?_
    · rintro ⟨bent7, s8, c9⟩ rr hsem hK hP
      try unfold fn_M_make_l1 at hsem
      refine r_iload_n X (pc := 31) (i := 3) (zw_dg dk_M_make 19 rfl) rfl rfl ?_
      refine r_aload_n X (pc := 32) (i := 0) (zw_dg dk_M_make 20 rfl) rfl rfl ?_
      refine r_getI X (pc := 33) ci_M (zo hS 71 rfl rfl) rfl lk_M_13 (zw_dg dk_M_make 21 rfl) ?_
      refine r_icmp_gt X (pc := 36) (tgt := 194) (zw_dg dk_M_make 22 rfl) (by decide) (fun q14 => ?_) (fun q14 => ?_)
      · --
        have p13 : ¬ (s8 ≤ (c9.1 71 1)) := (Int32.not_le.mpr q14)
        have hsem := zw_ifn p13 hsem
        have jj := hK _ (Option.some.inj hsem).symm
        exact (r_fgt [3] rfl jj)
      · --
        have p13 : (s8 ≤ (c9.1 71 1)) := (Int32.not_lt.mp q14)
        have hsem := zw_ifp p13 hsem
        obtain ⟨v15, hv15, hsv15⟩ := zw_bd hsem
        refine zw_terO (f := Value.int) (v := v15) (J := 80) (st2 := []) (c2 := c9) (fun jj => ?_) ?_
        · have hsem := hv15
          refine r_iload_n X (pc := 39) (i := 3) (zw_dg dk_M_make 23 rfl) rfl rfl ?_
          refine r_aload_n X (pc := 40) (i := 0) (zw_dg dk_M_make 24 rfl) rfl rfl ?_
          refine r_getI X (pc := 41) ci_M (zo hS 71 rfl rfl) rfl lk_M_13 (zw_dg dk_M_make 25 rfl) ?_
          refine r_icmp_ne X (pc := 44) (tgt := 65) (zw_dg dk_M_make 26 rfl) (by decide) (fun q17 => ?_) (fun q17 => ?_)
          · --
            have p16 : ¬ (s8 = (c9.1 71 1)) := q17
            have hsem := zw_ifn p16 hsem
            refine r_aload_n X (pc := 65) (i := 0) (zw_dg dk_M_make 39 rfl) rfl rfl ?_
            refine r_getR X (pc := 66) (r := 73) ci_M (zo hS 71 rfl rfl) rfl (zr hS 71 4 rfl rfl) lk_M_20 (zw_dg dk_M_make 40 rfl) ?_
            refine r_iload_n X (pc := 69) (i := 3) (zw_dg dk_M_make 41 rfl) rfl rfl ?_
            refine r_iconst X (pc := 70) (v := 1) (zw_dg dk_M_make 42 rfl) (by decide) ?_
            refine r_iadd X (pc := 71) (zw_dg dk_M_make 43 rfl)  ?_
            obtain ⟨x18, hx18, hsem⟩ := zw_bd hsem
            refine r_iald X (pc := 72) (zo hS 73 rfl rfl) hx18 (zw_dg dk_M_make 44 rfl) ?_
            refine r_aload_n X (pc := 73) (i := 0) (zw_dg dk_M_make 45 rfl) rfl rfl ?_
            refine r_getR X (pc := 74) (r := 73) ci_M (zo hS 71 rfl rfl) rfl (zr hS 71 4 rfl rfl) lk_M_20 (zw_dg dk_M_make 46 rfl) ?_
            refine r_iload_n X (pc := 77) (i := 3) (zw_dg dk_M_make 47 rfl) rfl rfl ?_
            obtain ⟨x19, hx19, hsem⟩ := zw_bd hsem
            refine r_iald X (pc := 78) (zo hS 73 rfl rfl) hx19 (zw_dg dk_M_make 48 rfl) ?_
            refine r_isub X (pc := 79) (zw_dg dk_M_make 49 rfl)  ?_
            cases hsem; exact jj
          · --
            have p16 : (s8 = (c9.1 71 1)) := q17
            have hsem := zw_ifp p16 hsem
            refine r_aload_n X (pc := 47) (i := 0) (zw_dg dk_M_make 27 rfl) rfl rfl ?_
            refine r_getR X (pc := 48) (r := 73) ci_M (zo hS 71 rfl rfl) rfl (zr hS 71 4 rfl rfl) lk_M_20 (zw_dg dk_M_make 28 rfl) ?_
            refine r_iload_n X (pc := 51) (i := 3) (zw_dg dk_M_make 29 rfl) rfl rfl ?_
            obtain ⟨x20, hx20, hsem⟩ := zw_bd hsem
            refine r_iald X (pc := 52) (zo hS 73 rfl rfl) hx20 (zw_dg dk_M_make 30 rfl) ?_
            refine r_aload_n X (pc := 53) (i := 0) (zw_dg dk_M_make 31 rfl) rfl rfl ?_
            refine r_getR X (pc := 54) (r := 73) ci_M (zo hS 71 rfl rfl) rfl (zr hS 71 4 rfl rfl) lk_M_20 (zw_dg dk_M_make 32 rfl) ?_
            refine r_iload_n X (pc := 57) (i := 3) (zw_dg dk_M_make 33 rfl) rfl rfl ?_
            refine r_iconst X (pc := 58) (v := 1) (zw_dg dk_M_make 34 rfl) (by decide) ?_
            refine r_isub X (pc := 59) (zw_dg dk_M_make 35 rfl)  ?_
            obtain ⟨x21, hx21, hsem⟩ := zw_bd hsem
            refine r_iald X (pc := 60) (zo hS 73 rfl rfl) hx21 (zw_dg dk_M_make 36 rfl) ?_
            refine r_isub X (pc := 61) (zw_dg dk_M_make 37 rfl)  ?_
            refine r_goto X (pc := 62) (tgt := 80) (zw_dg dk_M_make 38 rfl) (by decide) ?_
            cases hsem; exact jj
        have hsem := hsv15
        refine r_istore X (pc := 80) (i := 4) (zw_dg dk_M_make 50 rfl) (by decide) rfl ?_
        refine r_iconst X (pc := 82) (v := 4) (zw_dg dk_M_make 51 rfl) (by decide) ?_
        refine r_sipush X (pc := 83) (v := 455) (zw_dg dk_M_make 52 rfl) (by decide) ?_
        refine r_iload_n X (pc := 86) (i := 1) (zw_dg dk_M_make 53 rfl) rfl rfl ?_
        refine r_imul X (pc := 87) (zw_dg dk_M_make 54 rfl)  ?_
        refine r_aload_n X (pc := 88) (i := 0) (zw_dg dk_M_make 55 rfl) rfl rfl ?_
        refine r_getI X (pc := 89) ci_M (zo hS 71 rfl rfl) rfl lk_M_13 (zw_dg dk_M_make 56 rfl) ?_
        refine r_iadd X (pc := 92) (zw_dg dk_M_make 57 rfl)  ?_
        refine r_iload_n X (pc := 93) (i := 3) (zw_dg dk_M_make 58 rfl) rfl rfl ?_
        refine r_isub X (pc := 94) (zw_dg dk_M_make 59 rfl)  ?_
        refine r_imul X (pc := 95) (zw_dg dk_M_make 60 rfl)  ?_
        obtain ⟨k22, hk22, hsem⟩ := zw_bd hsem
        refine zw_topI hk22 ?_
        refine r_istore X (pc := 96) (i := 5) (zw_dg dk_M_make 61 rfl) (by decide) rfl ?_
        refine r_aload_n X (pc := 98) (i := 0) (zw_dg dk_M_make 62 rfl) rfl rfl ?_
        refine r_getR X (pc := 99) (r := 83) ci_M (zo hS 71 rfl rfl) rfl (zr hS 71 14 rfl rfl) lk_M_43 (zw_dg dk_M_make 63 rfl) ?_
        refine r_iload X (pc := 102) (i := 5) (zw_dg dk_M_make 64 rfl) rfl ?_
        refine r_aload_n X (pc := 104) (i := 0) (zw_dg dk_M_make 65 rfl) rfl rfl ?_
        refine r_getR X (pc := 105) (r := 73) ci_M (zo hS 71 rfl rfl) rfl (zr hS 71 4 rfl rfl) lk_M_20 (zw_dg dk_M_make 66 rfl) ?_
        refine r_iload_n X (pc := 108) (i := 3) (zw_dg dk_M_make 67 rfl) rfl rfl ?_
        obtain ⟨x23, hx23, hsem⟩ := zw_bd hsem
        refine r_iald X (pc := 109) (zo hS 73 rfl rfl) hx23 (zw_dg dk_M_make 68 rfl) ?_
        refine r_iload_n X (pc := 110) (i := 3) (zw_dg dk_M_make 69 rfl) rfl rfl ?_
        refine r_iload X (pc := 111) (i := 4) (zw_dg dk_M_make 70 rfl) rfl ?_
        refine r_imul X (pc := 113) (zw_dg dk_M_make 71 rfl)  ?_
        refine r_isub X (pc := 114) (zw_dg dk_M_make 72 rfl)  ?_
        obtain ⟨c24, hc24, hsem⟩ := zw_bd hsem
        refine r_iast X (pc := 115) (zo hS 83 rfl rfl) hc24 (zw_dg dk_M_make 73 rfl) ?_
        refine r_aload_n X (pc := 116) (i := 0) (zw_dg dk_M_make 74 rfl) rfl rfl ?_
        refine r_getR X (pc := 117) (r := 83) ci_M (zo hS 71 rfl rfl) rfl (zr hS 71 14 rfl rfl) lk_M_43 (zw_dg dk_M_make 75 rfl) ?_
        refine r_iload X (pc := 120) (i := 5) (zw_dg dk_M_make 76 rfl) rfl ?_
        refine r_iconst X (pc := 122) (v := 1) (zw_dg dk_M_make 77 rfl) (by decide) ?_
        refine r_iadd X (pc := 123) (zw_dg dk_M_make 78 rfl)  ?_
        refine r_aload_n X (pc := 124) (i := 0) (zw_dg dk_M_make 79 rfl) rfl rfl ?_
        refine r_getR X (pc := 125) (r := 73) ci_M (zo hS 71 rfl rfl) rfl (zr hS 71 4 rfl rfl) lk_M_20 (zw_dg dk_M_make 80 rfl) ?_
        refine r_iload_n X (pc := 128) (i := 3) (zw_dg dk_M_make 81 rfl) rfl rfl ?_
        obtain ⟨x25, hx25, hsem⟩ := zw_bd hsem
        refine r_iald X (pc := 129) (zo hS 73 rfl rfl) hx25 (zw_dg dk_M_make 82 rfl) ?_
        refine r_aload_n X (pc := 130) (i := 0) (zw_dg dk_M_make 83 rfl) rfl rfl ?_
        refine r_getI X (pc := 131) ci_M (zo hS 71 rfl rfl) rfl lk_M_13 (zw_dg dk_M_make 84 rfl) ?_
        refine r_iload_n X (pc := 134) (i := 3) (zw_dg dk_M_make 85 rfl) rfl rfl ?_
        refine r_isub X (pc := 135) (zw_dg dk_M_make 86 rfl)  ?_
        refine r_iload X (pc := 136) (i := 4) (zw_dg dk_M_make 87 rfl) rfl ?_
        refine r_imul X (pc := 138) (zw_dg dk_M_make 88 rfl)  ?_
        refine r_iadd X (pc := 139) (zw_dg dk_M_make 89 rfl)  ?_
        obtain ⟨c26, hc26, hsem⟩ := zw_bd hsem
        refine r_iast X (pc := 140) (zo hS 83 rfl rfl) hc26 (zw_dg dk_M_make 90 rfl) ?_
        obtain ⟨bent27, ht188, hs188⟩ := zw_bd hsem
        refine zw_jn (J := 188) (L2 := [some (.ref 71), some (.int i1), some (.int bent27), some (.int s8), some (.int v15), some (.int k22)]) (c2 := c26) (fun jj => ?_) ?_
        · have hsem := ht188
          obtain ⟨b28, hb28, hsb28⟩ := zw_bd hsem
          refine zw_cndB (b := b28) (J1 := 186) (J2 := 188) (st2 := []) (fun jT jF => ?_) (fun hbb28 => ?_) (fun hbb28 => ?_)
          · have hsem := hb28
            refine r_iload_n X (pc := 141) (i := 3) (zw_dg dk_M_make 91 rfl) rfl rfl ?_
            refine r_if_le X (pc := 142) (tgt := 188) (zw_dg dk_M_make 92 rfl) (by decide) (fun q29 => ?_) (fun q29 => ?_)
            · --
              have hsem := zw_ifn (Int32.not_lt.mpr q29) hsem
              exact jF (Option.some.inj hsem).symm
            · --
              have hsem := zw_ifp (Int32.not_le.mp q29) hsem
              refine r_iload_n X (pc := 145) (i := 3) (zw_dg dk_M_make 93 rfl) rfl rfl ?_
              refine r_aload_n X (pc := 146) (i := 0) (zw_dg dk_M_make 94 rfl) rfl rfl ?_
              refine r_getI X (pc := 147) ci_M (zo hS 71 rfl rfl) rfl lk_M_13 (zw_dg dk_M_make 95 rfl) ?_
              refine r_icmp_ge X (pc := 150) (tgt := 188) (zw_dg dk_M_make 96 rfl) (by decide) (fun q30 => ?_) (fun q30 => ?_)
              · --
                have hsem := zw_ifn (Int32.not_lt.mpr q30) hsem
                exact jF (Option.some.inj hsem).symm
              · --
                have hsem := zw_ifp (Int32.not_le.mp q30) hsem
                refine r_aload_n X (pc := 153) (i := 0) (zw_dg dk_M_make 97 rfl) rfl rfl ?_
                refine r_getR X (pc := 154) (r := 73) ci_M (zo hS 71 rfl rfl) rfl (zr hS 71 4 rfl rfl) lk_M_20 (zw_dg dk_M_make 98 rfl) ?_
                refine r_iload_n X (pc := 157) (i := 3) (zw_dg dk_M_make 99 rfl) rfl rfl ?_
                refine r_iconst X (pc := 158) (v := 1) (zw_dg dk_M_make 100 rfl) (by decide) ?_
                refine r_iadd X (pc := 159) (zw_dg dk_M_make 101 rfl)  ?_
                obtain ⟨x31, hx31, hsem⟩ := zw_bd hsem
                refine r_iald X (pc := 160) (zo hS 73 rfl rfl) hx31 (zw_dg dk_M_make 102 rfl) ?_
                refine r_aload_n X (pc := 161) (i := 0) (zw_dg dk_M_make 103 rfl) rfl rfl ?_
                refine r_getR X (pc := 162) (r := 73) ci_M (zo hS 71 rfl rfl) rfl (zr hS 71 4 rfl rfl) lk_M_20 (zw_dg dk_M_make 104 rfl) ?_
                refine r_iload_n X (pc := 165) (i := 3) (zw_dg dk_M_make 105 rfl) rfl rfl ?_
                obtain ⟨x32, hx32, hsem⟩ := zw_bd hsem
                refine r_iald X (pc := 166) (zo hS 73 rfl rfl) hx32 (zw_dg dk_M_make 106 rfl) ?_
                refine r_isub X (pc := 167) (zw_dg dk_M_make 107 rfl)  ?_
                refine r_aload_n X (pc := 168) (i := 0) (zw_dg dk_M_make 108 rfl) rfl rfl ?_
                refine r_getR X (pc := 169) (r := 73) ci_M (zo hS 71 rfl rfl) rfl (zr hS 71 4 rfl rfl) lk_M_20 (zw_dg dk_M_make 109 rfl) ?_
                refine r_iload_n X (pc := 172) (i := 3) (zw_dg dk_M_make 110 rfl) rfl rfl ?_
                obtain ⟨x33, hx33, hsem⟩ := zw_bd hsem
                refine r_iald X (pc := 173) (zo hS 73 rfl rfl) hx33 (zw_dg dk_M_make 111 rfl) ?_
                refine r_aload_n X (pc := 174) (i := 0) (zw_dg dk_M_make 112 rfl) rfl rfl ?_
                refine r_getR X (pc := 175) (r := 73) ci_M (zo hS 71 rfl rfl) rfl (zr hS 71 4 rfl rfl) lk_M_20 (zw_dg dk_M_make 113 rfl) ?_
                refine r_iload_n X (pc := 178) (i := 3) (zw_dg dk_M_make 114 rfl) rfl rfl ?_
                refine r_iconst X (pc := 179) (v := 1) (zw_dg dk_M_make 115 rfl) (by decide) ?_
                refine r_isub X (pc := 180) (zw_dg dk_M_make 116 rfl)  ?_
                obtain ⟨x34, hx34, hsem⟩ := zw_bd hsem
                refine r_iald X (pc := 181) (zo hS 73 rfl rfl) hx34 (zw_dg dk_M_make 117 rfl) ?_
                refine r_isub X (pc := 182) (zw_dg dk_M_make 118 rfl)  ?_
                refine r_icmp_ge X (pc := 183) (tgt := 188) (zw_dg dk_M_make 119 rfl) (by decide) (fun q35 => ?_) (fun q35 => ?_)
                · --
                  exact jF (zw_dF hsem (Int32.not_lt.mpr q35))
                · --
                  exact jT (zw_dT hsem (Int32.not_le.mp q35))
          · have hsem := zw_ifp hbb28 hsb28
            refine r_iconst X (pc := 186) (v := 0) (zw_dg dk_M_make 120 rfl) (by decide) ?_
            refine r_istore_n X (pc := 187) (i := 2) (zw_dg dk_M_make 121 rfl) rfl (by decide) rfl ?_
            cases hsem
            exact (r_fgt [] rfl jj)
          · have hsem := zw_ifn (by rw [hbb28]; exact Bool.false_ne_true) hsb28
            cases hsem
            exact (r_fgt [] rfl jj)
        have hsem := hs188
        refine r_iinc X (pc := 188) (i := 3) (k := 1) (zw_dg dk_M_make 122 rfl) rfl (by decide) (by decide) rfl ?_
        refine r_goto X (pc := 191) (tgt := 31) (zw_dg dk_M_make 123 rfl) (by decide) ?_
        have jj := hP _ (Option.some.inj hsem).symm
        exact (r_fgt [4, 5] rfl jj)
    obtain ⟨bent10, c11⟩ := l12
    have hsem := hsl12
    refine r_aload_n X (pc := 194) (i := 0) (zw_dg dk_M_make 124 rfl) rfl rfl ?_
    refine r_getR X (pc := 195) (r := 82) ci_M (zo hS 71 rfl rfl) rfl (zr hS 71 13 rfl rfl) lk_M_39 (zw_dg dk_M_make 125 rfl) ?_
    refine r_iload_n X (pc := 198) (i := 1) (zw_dg dk_M_make 126 rfl) rfl rfl ?_
    refine r_iconst X (pc := 199) (v := 1) (zw_dg dk_M_make 127 rfl) (by decide) ?_
    obtain ⟨c36, hc36, hsem⟩ := zw_bd hsem
    refine r_zast X (pc := 200) (zo hS 82 rfl rfl) (by rw [(zw_bzn (by decide)).2.2]; exact hc36) (zw_dg dk_M_make 128 rfl) ?_
    refine r_aload_n X (pc := 201) (i := 0) (zw_dg dk_M_make 129 rfl) rfl rfl ?_
    refine r_getR X (pc := 202) (r := 81) ci_M (zo hS 71 rfl rfl) rfl (zr hS 71 12 rfl rfl) lk_M_36 (zw_dg dk_M_make 130 rfl) ?_
    refine r_iload_n X (pc := 205) (i := 1) (zw_dg dk_M_make 131 rfl) rfl rfl ?_
    refine r_iconst X (pc := 206) (v := 0) (zw_dg dk_M_make 132 rfl) (by decide) ?_
    obtain ⟨c37, hc37, hsem⟩ := zw_bd hsem
    refine r_iast X (pc := 207) (zo hS 81 rfl rfl) hc37 (zw_dg dk_M_make 133 rfl) ?_
    refine zw_ter (P := (¬ bent10 = 0)) (f := Value.int) (x := 1) (y := 0) (J := 217) (st2 := []) (fun jT jF => ?_) ?_
    · --
      refine r_iload_n X (pc := 208) (i := 2) (zw_dg dk_M_make 134 rfl) rfl rfl ?_
      refine r_if_eq X (pc := 209) (tgt := 216) (zw_dg dk_M_make 135 rfl) (by decide) (fun q38 => ?_) (fun q38 => ?_)
      · --
        refine r_iconst X (pc := 216) (v := 0) (zw_dg dk_M_make 138 rfl) (by decide) ?_
        exact jF (fun z => z q38)
      · --
        refine r_iconst X (pc := 212) (v := 1) (zw_dg dk_M_make 136 rfl) (by decide) ?_
        refine r_goto X (pc := 213) (tgt := 217) (zw_dg dk_M_make 137 rfl) (by decide) ?_
        exact jT q38
    obtain ⟨rfl, rfl⟩ := zw_in2 hsem
    exact r_iret X (pc := 217) rfl (zw_dg dk_M_make 139 rfl)
def y_M_findTable : MethodName := ⟨R_M, "findTable", "(I)V"⟩
abbrev b_M_findTable : ByteArray := prog_14_method_47_code
def dl_M_findTable : List (Nat × Instr × Nat) := [(0, .aload_n 0, 1), (1, .iload_n 1, 1), (2, .invokevirtual 229, 3), (5, .iconst 0, 1), (6, .istore_n 2, 1), (7, .iload_n 2, 1), (8, .aload_n 0, 1), (9, .getfield 113, 3), (12, .if_icmp .ge 29, 3), (15, .aload_n 0, 1), (16, .getfield 52, 3), (19, .aload_n 0, 1), (20, .getfield 16, 3), (23, .iconst 4, 1), (24, .iload_n 2, 1), (25, .imul, 1), (26, .iconst 1, 1), (27, .iadd, 1), (28, .iaload, 1), (29, .aload_n 0, 1), (30, .iload_n 2, 1), (31, .invokevirtual 244, 3), (34, .lastore, 1), (35, .iinc 2 1, 3), (38, .goto (-31), 3), (41, .return_, 1)]
theorem dk_M_findTable : zw_dk b_M_findTable dl_M_findTable = true := by decide +kernel
theorem ce_M_findTable : zw_cev y_M_findTable b_M_findTable 3 (none) 1 := ⟨⟨kt_in 1779 (by decide +kernel) rfl, kt_in 98 (by decide +kernel) rfl, by decide +kernel⟩, kt_in 1778 (by decide +kernel) rfl, kt_in 63 (by decide +kernel) rfl⟩
def fn_M_findTable_l1  : Int32 × zw_Ct → Option ((zw_Ct) ⊕ (Int32 × zw_Ct)) := fun (t4, c5) =>
  if (t4 < (c5.1 71 2)) then
  ((zw_aI 1820 c5 72 ((4 * t4) + 1)).bind fun x10 =>
  (fn_M_bestWorth c5 t4).bind fun r11 =>
  (zw_uL 13 c5 86 x10 r11).bind fun c12 =>
  some (.inr ((t4 + 1), c12)))
  else
  (some (.inl c5))
def fn_M_findTable (c : zw_Ct) (p1 : Int32) : Option zw_Ct :=
  (fn_M_layPay c p1).bind fun c3 =>
  (zw_whl (fn_M_findTable_l1) zw_F (0, c3)).bind fun c6 =>
  some c6
set_option maxRecDepth 100000 in
theorem km_M_findTable {l : Launch} {g : zw_G} {rr : zw_RR} {sh : zw_Sh} {c : zw_Ct} {p1 : Int32} {c2 : zw_Ct} (hS : zw_Ok 0 101 sh rr) (hsem : fn_M_findTable c p1 = some c2) : zw_Met l g y_M_findTable b_M_findTable 3 (none) 107 rr sh [.ref 71, .int p1] c none c2 := by
  unfold fn_M_findTable at hsem
  refine zw_Met.of (by decide +kernel) (Nat.le_of_ble_eq_true rfl) (fun p e s m args below meth cd X => ?_)
  refine zw_eL (L2 := [some (.ref 71), some (.int p1), none]) rfl ?_
  refine r_aload_n X (pc := 0) (i := 0) (zw_dg dk_M_findTable 0 rfl) rfl rfl ?_
  refine r_iload_n X (pc := 1) (i := 1) (zw_dg dk_M_findTable 1 rfl) rfl rfl ?_
  obtain ⟨c3, hc3, hsem⟩ := zw_bd hsem
  refine r_callVv X (pc := 2) (As := [_]) (st := []) (km_M_layPay hS hc3) ce_M_layPay kw_1700 (zo hS 71 rfl rfl) rfl rfl ⟨Nat.le_of_ble_eq_true rfl, Nat.le_of_ble_eq_true rfl⟩ (Nat.le_of_ble_eq_true rfl) (zw_dg dk_M_findTable 2 rfl) ?_
  refine r_iconst X (pc := 5) (v := 0) (zw_dg dk_M_findTable 3 rfl) (by decide) ?_
  refine r_istore_n X (pc := 6) (i := 2) (zw_dg dk_M_findTable 4 rfl) rfl (by decide) rfl ?_
  obtain ⟨c6, hl7, hsl7⟩ := zw_bd hsem
  refine r_loop (pc := 7) (pce := 41) hl7 (fun (t4, c5) => [some (.ref 71), some (.int p1), some (.int t4)] : Int32 × zw_Ct → zw_Lc) (fun (t4, c5) => c5 : Int32 × zw_Ct → zw_Ct) (fun c6 => [some (.ref 71), some (.int p1), none] : zw_Ct → zw_Lc) (fun c6 => c6 : zw_Ct → zw_Ct) ?_ rfl rfl ?_
  · rintro ⟨t4, c5⟩ rr hsem hK hP
    try unfold fn_M_findTable_l1 at hsem
    refine r_iload_n X (pc := 7) (i := 2) (zw_dg dk_M_findTable 5 rfl) rfl rfl ?_
    refine r_aload_n X (pc := 8) (i := 0) (zw_dg dk_M_findTable 6 rfl) rfl rfl ?_
    refine r_getI X (pc := 9) ci_M (zo hS 71 rfl rfl) rfl lk_M_113 (zw_dg dk_M_findTable 7 rfl) ?_
    refine r_icmp_ge X (pc := 12) (tgt := 41) (zw_dg dk_M_findTable 8 rfl) (by decide) (fun q9 => ?_) (fun q9 => ?_)
    · --
      have p8 : ¬ (t4 < (c5.1 71 2)) := (Int32.not_lt.mpr q9)
      have hsem := zw_ifn p8 hsem
      have jj := hK _ (Option.some.inj hsem).symm
      exact (r_fgt [2] rfl jj)
    · --
      have p8 : (t4 < (c5.1 71 2)) := (Int32.not_le.mp q9)
      have hsem := zw_ifp p8 hsem
      refine r_aload_n X (pc := 15) (i := 0) (zw_dg dk_M_findTable 9 rfl) rfl rfl ?_
      refine r_getR X (pc := 16) (r := 86) ci_M (zo hS 71 rfl rfl) rfl (zr hS 71 23 rfl rfl) lk_M_52 (zw_dg dk_M_findTable 10 rfl) ?_
      refine r_aload_n X (pc := 19) (i := 0) (zw_dg dk_M_findTable 11 rfl) rfl rfl ?_
      refine r_getR X (pc := 20) (r := 72) ci_M (zo hS 71 rfl rfl) rfl (zr hS 71 3 rfl rfl) lk_M_16 (zw_dg dk_M_findTable 12 rfl) ?_
      refine r_iconst X (pc := 23) (v := 4) (zw_dg dk_M_findTable 13 rfl) (by decide) ?_
      refine r_iload_n X (pc := 24) (i := 2) (zw_dg dk_M_findTable 14 rfl) rfl rfl ?_
      refine r_imul X (pc := 25) (zw_dg dk_M_findTable 15 rfl)  ?_
      refine r_iconst X (pc := 26) (v := 1) (zw_dg dk_M_findTable 16 rfl) (by decide) ?_
      refine r_iadd X (pc := 27) (zw_dg dk_M_findTable 17 rfl)  ?_
      obtain ⟨x10, hx10, hsem⟩ := zw_bd hsem
      refine r_iald X (pc := 28) (zo hS 72 rfl rfl) hx10 (zw_dg dk_M_findTable 18 rfl) ?_
      refine r_aload_n X (pc := 29) (i := 0) (zw_dg dk_M_findTable 19 rfl) rfl rfl ?_
      refine r_iload_n X (pc := 30) (i := 2) (zw_dg dk_M_findTable 20 rfl) rfl rfl ?_
      obtain ⟨r11, hr11, hsem⟩ := zw_bd hsem
      refine r_callVl X (pc := 31) (As := [_]) (st := [.int x10, .ref 86]) (km_M_bestWorth hS hr11) ce_M_bestWorth kw_1727 (zo hS 71 rfl rfl) rfl rfl ⟨Nat.le_of_ble_eq_true rfl, Nat.le_of_ble_eq_true rfl⟩ (Nat.le_of_ble_eq_true rfl) (zw_dg dk_M_findTable 21 rfl) ?_
      obtain ⟨c12, hc12, hsem⟩ := zw_bd hsem
      refine r_last X (pc := 34) (zo hS 86 rfl rfl) hc12 (zw_dg dk_M_findTable 22 rfl) ?_
      refine r_iinc X (pc := 35) (i := 2) (k := 1) (zw_dg dk_M_findTable 23 rfl) rfl (by decide) (by decide) rfl ?_
      refine r_goto X (pc := 38) (tgt := 7) (zw_dg dk_M_findTable 24 rfl) (by decide) ?_
      have jj := hP _ (Option.some.inj hsem).symm
      exact (r_fgt [] rfl jj)
  have hsem := hsl7
  cases hsem
  exact r_vret X (pc := 41) rfl (zw_dg dk_M_findTable 25 rfl)
def y_M_back : MethodName := ⟨R_M, "back", "(I)I"⟩
abbrev b_M_back : ByteArray := prog_14_method_48_code
def dl_M_back : List (Nat × Instr × Nat) := [(0, .aload_n 0, 1), (1, .iconst 0, 1), (2, .putfield 97, 3), (5, .aload_n 0, 1), (6, .getfield 9, 3), (9, .iconst 2, 1), (10, .if_icmp .ne 11, 3), (13, .aload_n 0, 1), (14, .iload_n 1, 1), (15, .invokevirtual 222, 3), (18, .ifCond .ne 5, 3), (21, .iconst (-1), 1), (22, .ireturn, 1), (23, .aload_n 0, 1), (24, .iload_n 1, 1), (25, .invokevirtual 259, 3), (28, .iconst 1, 1), (29, .istore_n 2, 1), (30, .aload_n 0, 1), (31, .iconst 0, 1), (32, .putfield 100, 3), (35, .iconst 0, 1), (36, .istore_n 3, 1), (37, .iload_n 3, 1), (38, .aload_n 0, 1), (39, .getfield 13, 3), (42, .if_icmp .gt 67, 3), (45, .aload_n 0, 1), (46, .aload_n 0, 1), (47, .getfield 52, 3), (50, .iload_n 3, 1), (51, .laload, 1), (52, .invokevirtual 109, 3), (55, .iload_n 3, 1), (56, .ifCond .le 47, 3), (59, .iload_n 3, 1), (60, .aload_n 0, 1), (61, .getfield 13, 3), (64, .if_icmp .ge 39, 3), (67, .aload_n 0, 1), (68, .getfield 52, 3), (71, .iload_n 3, 1), (72, .iconst 1, 1), (73, .iadd, 1), (74, .laload, 1), (75, .aload_n 0, 1), (76, .getfield 52, 3), (79, .iload_n 3, 1), (80, .laload, 1), (81, .lsub, 1), (82, .aload_n 0, 1), (83, .getfield 52, 3), (86, .iload_n 3, 1), (87, .laload, 1), (88, .aload_n 0, 1), (89, .getfield 52, 3), (92, .iload_n 3, 1), (93, .iconst 1, 1), (94, .isub, 1), (95, .laload, 1), (96, .lsub, 1), (97, .lcmp, 1), (98, .ifCond .ge 5, 3), (101, .iconst 0, 1), (102, .istore_n 2, 1), (103, .iinc 3 1, 3), (106, .goto (-69), 3), (109, .iload_n 2, 1), (110, .ifCond .eq 7, 3), (113, .iconst 1, 1), (114, .goto 4, 3), (117, .iconst 0, 1), (118, .ireturn, 1)]
theorem dk_M_back : zw_dk b_M_back dl_M_back = true := by decide +kernel
theorem ce_M_back : zw_cev y_M_back b_M_back 4 (some .int) 1 := ⟨⟨kt_in 1775 (by decide +kernel) rfl, kt_in 98 (by decide +kernel) rfl, by decide +kernel⟩, kt_in 1773 (by decide +kernel) rfl, kt_in 1774 (by decide +kernel) rfl⟩
def fn_M_back_l1  : Int32 × Int32 × zw_Ct → Option ((Int32 × zw_Ct) ⊕ (Int32 × Int32 × zw_Ct)) := fun (bent11, k12, c13) =>
  if (k12 ≤ (c13.1 71 1)) then
  ((zw_aL 13 c13 86 k12).bind fun x19 =>
  (fn_M_tell c13 x19).bind fun c20 =>
  ((if (0 < k12) then
  (if (k12 < (c20.1 71 1)) then
  ((zw_aL 13 c20 86 (k12 + 1)).bind fun x25 =>
  (zw_aL 13 c20 86 k12).bind fun x26 =>
  (zw_aL 13 c20 86 k12).bind fun x27 =>
  (zw_aL 13 c20 86 (k12 - 1)).bind fun x28 =>
  some (decide ((x25 - x26) < (x27 - x28))))
  else some false)
  else some false).bind fun b22 =>
  if b22 = true then
  (some (0 : Int32))
  else
  (some (bent11 : Int32))).bind fun bent21 =>
  some (.inr (bent21, (k12 + 1), c20)))
  else
  (some (.inl (bent11, c13)))
def fn_M_back (c : zw_Ct) (p1 : Int32) : Option (Int32 × zw_Ct) :=
  (some (zw_wI c 71 9 0)).bind fun c3 =>
  if (¬ (c3.1 71 0) = 2) then
  (some ((-1), c3))
  else
  ((fn_M_isPay c3 p1).bind fun r6 =>
  if (¬ (¬ r6 = 0)) then
  (some ((-1), c3))
  else
  ((fn_M_findTable c3 p1).bind fun c9 =>
  (some (zw_wI c9 71 8 0)).bind fun c10 =>
  (zw_whl (fn_M_back_l1) zw_F (1, 0, c10)).bind fun (bent14, c15) =>
  some ((if (¬ bent14 = 0) then (1 : Int32) else 0), c15)))
set_option maxRecDepth 100000 in
theorem km_M_back {l : Launch} {g : zw_G} {rr : zw_RR} {sh : zw_Sh} {c : zw_Ct} {p1 : Int32} {r : Int32} {c2 : zw_Ct} (hS : zw_Ok 0 101 sh rr) (hsem : fn_M_back c p1 = some (r, c2)) : zw_Met l g y_M_back b_M_back 4 (some .int) 108 rr sh [.ref 71, .int p1] c (some (.int r)) c2 := by
  unfold fn_M_back at hsem
  refine zw_Met.of (by decide +kernel) (Nat.le_of_ble_eq_true rfl) (fun p e s m args below meth cd X => ?_)
  refine zw_eL (L2 := [some (.ref 71), some (.int p1), none, none]) rfl ?_
  refine r_aload_n X (pc := 0) (i := 0) (zw_dg dk_M_back 0 rfl) rfl rfl ?_
  refine r_iconst X (pc := 1) (v := 0) (zw_dg dk_M_back 1 rfl) (by decide) ?_
  refine r_putI X (pc := 2) ci_M (zo hS 71 rfl rfl) rfl lk_M_97 rfl ⟨rfl, rfl⟩ (zw_dg dk_M_back 2 rfl) ?_
  obtain ⟨c3, hc3, hsem⟩ := zw_bd hsem
  refine zw_topC hc3 ?_
  refine r_aload_n X (pc := 5) (i := 0) (zw_dg dk_M_back 3 rfl) rfl rfl ?_
  refine r_getI X (pc := 6) ci_M (zo hS 71 rfl rfl) rfl lk_M_9 (zw_dg dk_M_back 4 rfl) ?_
  refine r_iconst X (pc := 9) (v := 2) (zw_dg dk_M_back 5 rfl) (by decide) ?_
  refine r_icmp_ne X (pc := 10) (tgt := 21) (zw_dg dk_M_back 6 rfl) (by decide) (fun q5 => ?_) (fun q5 => ?_)
  · --
    have p4 : (¬ (c3.1 71 0) = 2) := q5
    have hsem := zw_ifp p4 hsem
    refine r_iconst X (pc := 21) (v := (-1)) (zw_dg dk_M_back 11 rfl) (by decide) ?_
    obtain ⟨rfl, rfl⟩ := zw_in2 hsem
    exact r_iret X (pc := 22) rfl (zw_dg dk_M_back 12 rfl)
  · --
    have p4 : ¬ (¬ (c3.1 71 0) = 2) := (fun z => z q5)
    have hsem := zw_ifn p4 hsem
    refine r_aload_n X (pc := 13) (i := 0) (zw_dg dk_M_back 7 rfl) rfl rfl ?_
    refine r_iload_n X (pc := 14) (i := 1) (zw_dg dk_M_back 8 rfl) rfl rfl ?_
    obtain ⟨r6, hr6, hsem⟩ := zw_bd hsem
    refine r_callVi X (pc := 15) (As := [_]) (st := []) (km_M_isPay hS hr6) ce_M_isPay kw_1688 (zo hS 71 rfl rfl) rfl rfl ⟨Nat.le_of_ble_eq_true rfl, Nat.le_of_ble_eq_true rfl⟩ (Nat.le_of_ble_eq_true rfl) (zw_dg dk_M_back 9 rfl) ?_
    refine r_if_ne X (pc := 18) (tgt := 23) (zw_dg dk_M_back 10 rfl) (by decide) (fun q8 => ?_) (fun q8 => ?_)
    · --
      have p7 : ¬ (¬ (¬ r6 = 0)) := (fun q => q q8)
      have hsem := zw_ifn p7 hsem
      refine r_aload_n X (pc := 23) (i := 0) (zw_dg dk_M_back 13 rfl) rfl rfl ?_
      refine r_iload_n X (pc := 24) (i := 1) (zw_dg dk_M_back 14 rfl) rfl rfl ?_
      obtain ⟨c9, hc9, hsem⟩ := zw_bd hsem
      refine r_callVv X (pc := 25) (As := [_]) (st := []) (km_M_findTable hS hc9) ce_M_findTable kw_1776 (zo hS 71 rfl rfl) rfl rfl ⟨Nat.le_of_ble_eq_true rfl, Nat.le_of_ble_eq_true rfl⟩ (Nat.le_of_ble_eq_true rfl) (zw_dg dk_M_back 15 rfl) ?_
      refine r_iconst X (pc := 28) (v := 1) (zw_dg dk_M_back 16 rfl) (by decide) ?_
      refine r_istore_n X (pc := 29) (i := 2) (zw_dg dk_M_back 17 rfl) rfl (by decide) rfl ?_
      refine r_aload_n X (pc := 30) (i := 0) (zw_dg dk_M_back 18 rfl) rfl rfl ?_
      refine r_iconst X (pc := 31) (v := 0) (zw_dg dk_M_back 19 rfl) (by decide) ?_
      refine r_putI X (pc := 32) ci_M (zo hS 71 rfl rfl) rfl lk_M_100 rfl ⟨rfl, rfl⟩ (zw_dg dk_M_back 20 rfl) ?_
      obtain ⟨c10, hc10, hsem⟩ := zw_bd hsem
      refine zw_topC hc10 ?_
      refine r_iconst X (pc := 35) (v := 0) (zw_dg dk_M_back 21 rfl) (by decide) ?_
      refine r_istore_n X (pc := 36) (i := 3) (zw_dg dk_M_back 22 rfl) rfl (by decide) rfl ?_
      obtain ⟨l16, hl16, hsl16⟩ := zw_bd hsem
      refine r_loop (pc := 37) (pce := 109) hl16 (fun (bent11, k12, c13) => [some (.ref 71), some (.int p1), some (.int bent11), some (.int k12)] : Int32 × Int32 × zw_Ct → zw_Lc) (fun (bent11, k12, c13) => c13 : Int32 × Int32 × zw_Ct → zw_Ct) (fun (bent14, c15) => [some (.ref 71), some (.int p1), some (.int bent14), none] : Int32 × zw_Ct → zw_Lc) (fun (bent14, c15) => c15 : Int32 × zw_Ct → zw_Ct) ?_ rfl rfl ?_
      · rintro ⟨bent11, k12, c13⟩ rr hsem hK hP
        try unfold fn_M_back_l1 at hsem
        refine r_iload_n X (pc := 37) (i := 3) (zw_dg dk_M_back 23 rfl) rfl rfl ?_
        refine r_aload_n X (pc := 38) (i := 0) (zw_dg dk_M_back 24 rfl) rfl rfl ?_
        refine r_getI X (pc := 39) ci_M (zo hS 71 rfl rfl) rfl lk_M_13 (zw_dg dk_M_back 25 rfl) ?_
        refine r_icmp_gt X (pc := 42) (tgt := 109) (zw_dg dk_M_back 26 rfl) (by decide) (fun q18 => ?_) (fun q18 => ?_)
        · --
          have p17 : ¬ (k12 ≤ (c13.1 71 1)) := (Int32.not_le.mpr q18)
          have hsem := zw_ifn p17 hsem
          have jj := hK _ (Option.some.inj hsem).symm
          exact (r_fgt [3] rfl jj)
        · --
          have p17 : (k12 ≤ (c13.1 71 1)) := (Int32.not_lt.mp q18)
          have hsem := zw_ifp p17 hsem
          refine r_aload_n X (pc := 45) (i := 0) (zw_dg dk_M_back 27 rfl) rfl rfl ?_
          refine r_aload_n X (pc := 46) (i := 0) (zw_dg dk_M_back 28 rfl) rfl rfl ?_
          refine r_getR X (pc := 47) (r := 86) ci_M (zo hS 71 rfl rfl) rfl (zr hS 71 23 rfl rfl) lk_M_52 (zw_dg dk_M_back 29 rfl) ?_
          refine r_iload_n X (pc := 50) (i := 3) (zw_dg dk_M_back 30 rfl) rfl rfl ?_
          obtain ⟨x19, hx19, hsem⟩ := zw_bd hsem
          refine r_lald X (pc := 51) (zo hS 86 rfl rfl) hx19 (zw_dg dk_M_back 31 rfl) ?_
          obtain ⟨c20, hc20, hsem⟩ := zw_bd hsem
          refine r_callVv X (pc := 52) (As := [_]) (st := []) (km_M_tell hS hc20) ce_M_tell kw_1704 (zo hS 71 rfl rfl) rfl rfl ⟨Nat.le_of_ble_eq_true rfl, Nat.le_of_ble_eq_true rfl⟩ (Nat.le_of_ble_eq_true rfl) (zw_dg dk_M_back 32 rfl) ?_
          obtain ⟨bent21, ht103, hs103⟩ := zw_bd hsem
          refine zw_jn (J := 103) (L2 := [some (.ref 71), some (.int p1), some (.int bent21), some (.int k12)]) (c2 := c20) (fun jj => ?_) ?_
          · have hsem := ht103
            obtain ⟨b22, hb22, hsb22⟩ := zw_bd hsem
            refine zw_cndB (b := b22) (J1 := 101) (J2 := 103) (st2 := []) (fun jT jF => ?_) (fun hbb22 => ?_) (fun hbb22 => ?_)
            · have hsem := hb22
              refine r_iload_n X (pc := 55) (i := 3) (zw_dg dk_M_back 33 rfl) rfl rfl ?_
              refine r_if_le X (pc := 56) (tgt := 103) (zw_dg dk_M_back 34 rfl) (by decide) (fun q23 => ?_) (fun q23 => ?_)
              · --
                have hsem := zw_ifn (Int32.not_lt.mpr q23) hsem
                exact jF (Option.some.inj hsem).symm
              · --
                have hsem := zw_ifp (Int32.not_le.mp q23) hsem
                refine r_iload_n X (pc := 59) (i := 3) (zw_dg dk_M_back 35 rfl) rfl rfl ?_
                refine r_aload_n X (pc := 60) (i := 0) (zw_dg dk_M_back 36 rfl) rfl rfl ?_
                refine r_getI X (pc := 61) ci_M (zo hS 71 rfl rfl) rfl lk_M_13 (zw_dg dk_M_back 37 rfl) ?_
                refine r_icmp_ge X (pc := 64) (tgt := 103) (zw_dg dk_M_back 38 rfl) (by decide) (fun q24 => ?_) (fun q24 => ?_)
                · --
                  have hsem := zw_ifn (Int32.not_lt.mpr q24) hsem
                  exact jF (Option.some.inj hsem).symm
                · --
                  have hsem := zw_ifp (Int32.not_le.mp q24) hsem
                  refine r_aload_n X (pc := 67) (i := 0) (zw_dg dk_M_back 39 rfl) rfl rfl ?_
                  refine r_getR X (pc := 68) (r := 86) ci_M (zo hS 71 rfl rfl) rfl (zr hS 71 23 rfl rfl) lk_M_52 (zw_dg dk_M_back 40 rfl) ?_
                  refine r_iload_n X (pc := 71) (i := 3) (zw_dg dk_M_back 41 rfl) rfl rfl ?_
                  refine r_iconst X (pc := 72) (v := 1) (zw_dg dk_M_back 42 rfl) (by decide) ?_
                  refine r_iadd X (pc := 73) (zw_dg dk_M_back 43 rfl)  ?_
                  obtain ⟨x25, hx25, hsem⟩ := zw_bd hsem
                  refine r_lald X (pc := 74) (zo hS 86 rfl rfl) hx25 (zw_dg dk_M_back 44 rfl) ?_
                  refine r_aload_n X (pc := 75) (i := 0) (zw_dg dk_M_back 45 rfl) rfl rfl ?_
                  refine r_getR X (pc := 76) (r := 86) ci_M (zo hS 71 rfl rfl) rfl (zr hS 71 23 rfl rfl) lk_M_52 (zw_dg dk_M_back 46 rfl) ?_
                  refine r_iload_n X (pc := 79) (i := 3) (zw_dg dk_M_back 47 rfl) rfl rfl ?_
                  obtain ⟨x26, hx26, hsem⟩ := zw_bd hsem
                  refine r_lald X (pc := 80) (zo hS 86 rfl rfl) hx26 (zw_dg dk_M_back 48 rfl) ?_
                  refine r_lsub X (pc := 81) (zw_dg dk_M_back 49 rfl)  ?_
                  refine r_aload_n X (pc := 82) (i := 0) (zw_dg dk_M_back 50 rfl) rfl rfl ?_
                  refine r_getR X (pc := 83) (r := 86) ci_M (zo hS 71 rfl rfl) rfl (zr hS 71 23 rfl rfl) lk_M_52 (zw_dg dk_M_back 51 rfl) ?_
                  refine r_iload_n X (pc := 86) (i := 3) (zw_dg dk_M_back 52 rfl) rfl rfl ?_
                  obtain ⟨x27, hx27, hsem⟩ := zw_bd hsem
                  refine r_lald X (pc := 87) (zo hS 86 rfl rfl) hx27 (zw_dg dk_M_back 53 rfl) ?_
                  refine r_aload_n X (pc := 88) (i := 0) (zw_dg dk_M_back 54 rfl) rfl rfl ?_
                  refine r_getR X (pc := 89) (r := 86) ci_M (zo hS 71 rfl rfl) rfl (zr hS 71 23 rfl rfl) lk_M_52 (zw_dg dk_M_back 55 rfl) ?_
                  refine r_iload_n X (pc := 92) (i := 3) (zw_dg dk_M_back 56 rfl) rfl rfl ?_
                  refine r_iconst X (pc := 93) (v := 1) (zw_dg dk_M_back 57 rfl) (by decide) ?_
                  refine r_isub X (pc := 94) (zw_dg dk_M_back 58 rfl)  ?_
                  obtain ⟨x28, hx28, hsem⟩ := zw_bd hsem
                  refine r_lald X (pc := 95) (zo hS 86 rfl rfl) hx28 (zw_dg dk_M_back 59 rfl) ?_
                  refine r_lsub X (pc := 96) (zw_dg dk_M_back 60 rfl)  ?_
                  refine r_lcmp_ge X (pc := 97) (tgt := 103) (zw_dg dk_M_back 61 rfl) (zw_dg dk_M_back 62 rfl) (by decide) (fun q29 => ?_) (fun q29 => ?_)
                  · --
                    exact jF (zw_dF hsem (Int64.not_lt.mpr q29))
                  · --
                    exact jT (zw_dT hsem (Int64.not_le.mp q29))
            · have hsem := zw_ifp hbb22 hsb22
              refine r_iconst X (pc := 101) (v := 0) (zw_dg dk_M_back 63 rfl) (by decide) ?_
              refine r_istore_n X (pc := 102) (i := 2) (zw_dg dk_M_back 64 rfl) rfl (by decide) rfl ?_
              cases hsem
              exact (r_fgt [] rfl jj)
            · have hsem := zw_ifn (by rw [hbb22]; exact Bool.false_ne_true) hsb22
              cases hsem
              exact (r_fgt [] rfl jj)
          have hsem := hs103
          refine r_iinc X (pc := 103) (i := 3) (k := 1) (zw_dg dk_M_back 65 rfl) rfl (by decide) (by decide) rfl ?_
          refine r_goto X (pc := 106) (tgt := 37) (zw_dg dk_M_back 66 rfl) (by decide) ?_
          have jj := hP _ (Option.some.inj hsem).symm
          exact (r_fgt [] rfl jj)
      obtain ⟨bent14, c15⟩ := l16
      have hsem := hsl16
      refine zw_ter (P := (¬ bent14 = 0)) (f := Value.int) (x := 1) (y := 0) (J := 118) (st2 := []) (fun jT jF => ?_) ?_
      · --
        refine r_iload_n X (pc := 109) (i := 2) (zw_dg dk_M_back 67 rfl) rfl rfl ?_
        refine r_if_eq X (pc := 110) (tgt := 117) (zw_dg dk_M_back 68 rfl) (by decide) (fun q30 => ?_) (fun q30 => ?_)
        · --
          refine r_iconst X (pc := 117) (v := 0) (zw_dg dk_M_back 71 rfl) (by decide) ?_
          exact jF (fun z => z q30)
        · --
          refine r_iconst X (pc := 113) (v := 1) (zw_dg dk_M_back 69 rfl) (by decide) ?_
          refine r_goto X (pc := 114) (tgt := 118) (zw_dg dk_M_back 70 rfl) (by decide) ?_
          exact jT q30
      obtain ⟨rfl, rfl⟩ := zw_in2 hsem
      exact r_iret X (pc := 118) rfl (zw_dg dk_M_back 72 rfl)
    · --
      have p7 : (¬ (¬ r6 = 0)) := (fun z => z q8)
      have hsem := zw_ifp p7 hsem
      refine r_iconst X (pc := 21) (v := (-1)) (zw_dg dk_M_back 11 rfl) (by decide) ?_
      obtain ⟨rfl, rfl⟩ := zw_in2 hsem
      exact r_iret X (pc := 22) rfl (zw_dg dk_M_back 12 rfl)
def y_M_take : MethodName := ⟨R_M, "take", "(I)Z"⟩
abbrev b_M_take : ByteArray := prog_14_method_49_code
def dl_M_take : List (Nat × Instr × Nat) := [(0, .aload_n 0, 1), (1, .iconst 0, 1), (2, .putfield 97, 3), (5, .aload_n 0, 1), (6, .getfield 9, 3), (9, .iconst 2, 1), (10, .if_icmp .ne 11, 3), (13, .aload_n 0, 1), (14, .iload_n 1, 1), (15, .invokevirtual 222, 3), (18, .ifCond .ne 5, 3), (21, .iconst 0, 1), (22, .ireturn, 1), (23, .aload_n 0, 1), (24, .iload_n 1, 1), (25, .invokevirtual 259, 3), (28, .iconst 0, 1), (29, .istore_n 2, 1), (30, .iload_n 2, 1), (31, .aload_n 0, 1), (32, .getfield 13, 3), (35, .if_icmp .gt 35, 3), (38, .aload_n 0, 1), (39, .getfield 52, 3), (42, .iload_n 2, 1), (43, .laload, 1), (44, .aload_n 0, 1), (45, .getfield 13, 3), (48, .i2l, 1), (49, .ldiv, 1), (50, .ldc2_w 153, 3), (53, .ldc2_w 155, 3), (56, .invokestatic 120, 3), (59, .ifCond .ne 5, 3), (62, .iconst 0, 1), (63, .ireturn, 1), (64, .iinc 2 1, 3), (67, .goto (-37), 3), (70, .iconst 0, 1), (71, .istore_n 2, 1), (72, .iload_n 2, 1), (73, .aload_n 0, 1), (74, .getfield 13, 3), (77, .if_icmp .gt 28, 3), (80, .aload_n 0, 1), (81, .getfield 20, 3), (84, .iload_n 2, 1), (85, .aload_n 0, 1), (86, .getfield 52, 3), (89, .iload_n 2, 1), (90, .laload, 1), (91, .aload_n 0, 1), (92, .getfield 13, 3), (95, .i2l, 1), (96, .ldiv, 1), (97, .l2i, 1), (98, .iastore, 1), (99, .iinc 2 1, 3), (102, .goto (-30), 3), (105, .iconst 1, 1), (106, .ireturn, 1)]
theorem dk_M_take : zw_dk b_M_take dl_M_take = true := by decide +kernel
theorem ce_M_take : zw_cev y_M_take b_M_take 3 (some .boolean) 1 := ⟨⟨kt_in 1783 (by decide +kernel) rfl, kt_in 98 (by decide +kernel) rfl, by decide +kernel⟩, kt_in 1781 (by decide +kernel) rfl, kt_in 1782 (by decide +kernel) rfl⟩
def fn_M_take_l1 (c9 : zw_Ct) : Int32 → Option (((Int32 × zw_Ct) ⊕ (Unit)) ⊕ (Int32)) := fun k10 =>
  if (k10 ≤ (c9.1 71 1)) then
  ((zw_aL 13 c9 86 k10).bind fun x14 =>
  (zw_dvL x14 ((c9.1 71 1)).toInt64).bind fun d15 =>
  if (¬ (¬ (fn_M_in d15 (-9999) 9999) = 0)) then
  (some (.inl (.inl (0, c9))))
  else
  (some (.inr (k10 + 1))))
  else
  (some (.inl (.inr ())))
def fn_M_take_l2  : Int32 × zw_Ct → Option ((zw_Ct) ⊕ (Int32 × zw_Ct)) := fun (k18, c19) =>
  if (k18 ≤ (c19.1 71 1)) then
  ((zw_aL 13 c19 86 k18).bind fun x24 =>
  (zw_dvL x24 ((c19.1 71 1)).toInt64).bind fun d25 =>
  (zw_uI 13 c19 73 k18 d25.toInt32).bind fun c26 =>
  some (.inr ((k18 + 1), c26)))
  else
  (some (.inl c19))
def fn_M_take (c : zw_Ct) (p1 : Int32) : Option (Int32 × zw_Ct) :=
  (some (zw_wI c 71 9 0)).bind fun c3 =>
  if (¬ (c3.1 71 0) = 2) then
  (some (0, c3))
  else
  ((fn_M_isPay c3 p1).bind fun r6 =>
  if (¬ (¬ r6 = 0)) then
  (some (0, c3))
  else
  ((fn_M_findTable c3 p1).bind fun c9 =>
  (zw_whl (fn_M_take_l1 c9) zw_F 0).bind fun q => match q with
    | .inl w => some w
    | .inr _ =>
    (zw_whl (fn_M_take_l2) zw_F (0, c9)).bind fun c20 =>
    some (1, c20)))
set_option maxRecDepth 100000 in
theorem km_M_take {l : Launch} {g : zw_G} {rr : zw_RR} {sh : zw_Sh} {c : zw_Ct} {p1 : Int32} {r : Int32} {c2 : zw_Ct} (hS : zw_Ok 0 101 sh rr) (hsem : fn_M_take c p1 = some (r, c2)) : zw_Met l g y_M_take b_M_take 3 (some .boolean) 108 rr sh [.ref 71, .int p1] c (some (.int r)) c2 := by
  unfold fn_M_take at hsem
  refine zw_Met.of (by decide +kernel) (Nat.le_of_ble_eq_true rfl) (fun p e s m args below meth cd X => ?_)
  refine zw_eL (L2 := [some (.ref 71), some (.int p1), none]) rfl ?_
  refine r_aload_n X (pc := 0) (i := 0) (zw_dg dk_M_take 0 rfl) rfl rfl ?_
  refine r_iconst X (pc := 1) (v := 0) (zw_dg dk_M_take 1 rfl) (by decide) ?_
  refine r_putI X (pc := 2) ci_M (zo hS 71 rfl rfl) rfl lk_M_97 rfl ⟨rfl, rfl⟩ (zw_dg dk_M_take 2 rfl) ?_
  obtain ⟨c3, hc3, hsem⟩ := zw_bd hsem
  refine zw_topC hc3 ?_
  refine r_aload_n X (pc := 5) (i := 0) (zw_dg dk_M_take 3 rfl) rfl rfl ?_
  refine r_getI X (pc := 6) ci_M (zo hS 71 rfl rfl) rfl lk_M_9 (zw_dg dk_M_take 4 rfl) ?_
  refine r_iconst X (pc := 9) (v := 2) (zw_dg dk_M_take 5 rfl) (by decide) ?_
  refine r_icmp_ne X (pc := 10) (tgt := 21) (zw_dg dk_M_take 6 rfl) (by decide) (fun q5 => ?_) (fun q5 => ?_)
  · --
    have p4 : (¬ (c3.1 71 0) = 2) := q5
    have hsem := zw_ifp p4 hsem
    refine r_iconst X (pc := 21) (v := 0) (zw_dg dk_M_take 11 rfl) (by decide) ?_
    have hbz : (0 : Int32) = 0 ∨ (0 : Int32) = 1 := (by decide)
    obtain ⟨rfl, rfl⟩ := zw_in2 hsem
    exact r_zret X (pc := 22) rfl (zw_bzn hbz).1 (zw_dg dk_M_take 12 rfl)
  · --
    have p4 : ¬ (¬ (c3.1 71 0) = 2) := (fun z => z q5)
    have hsem := zw_ifn p4 hsem
    refine r_aload_n X (pc := 13) (i := 0) (zw_dg dk_M_take 7 rfl) rfl rfl ?_
    refine r_iload_n X (pc := 14) (i := 1) (zw_dg dk_M_take 8 rfl) rfl rfl ?_
    obtain ⟨r6, hr6, hsem⟩ := zw_bd hsem
    refine r_callVi X (pc := 15) (As := [_]) (st := []) (km_M_isPay hS hr6) ce_M_isPay kw_1688 (zo hS 71 rfl rfl) rfl rfl ⟨Nat.le_of_ble_eq_true rfl, Nat.le_of_ble_eq_true rfl⟩ (Nat.le_of_ble_eq_true rfl) (zw_dg dk_M_take 9 rfl) ?_
    refine r_if_ne X (pc := 18) (tgt := 23) (zw_dg dk_M_take 10 rfl) (by decide) (fun q8 => ?_) (fun q8 => ?_)
    · --
      have p7 : ¬ (¬ (¬ r6 = 0)) := (fun q => q q8)
      have hsem := zw_ifn p7 hsem
      refine r_aload_n X (pc := 23) (i := 0) (zw_dg dk_M_take 13 rfl) rfl rfl ?_
      refine r_iload_n X (pc := 24) (i := 1) (zw_dg dk_M_take 14 rfl) rfl rfl ?_
      obtain ⟨c9, hc9, hsem⟩ := zw_bd hsem
      refine r_callVv X (pc := 25) (As := [_]) (st := []) (km_M_findTable hS hc9) ce_M_findTable kw_1776 (zo hS 71 rfl rfl) rfl rfl ⟨Nat.le_of_ble_eq_true rfl, Nat.le_of_ble_eq_true rfl⟩ (Nat.le_of_ble_eq_true rfl) (zw_dg dk_M_take 15 rfl) ?_
      refine r_iconst X (pc := 28) (v := 0) (zw_dg dk_M_take 16 rfl) (by decide) ?_
      refine r_istore_n X (pc := 29) (i := 2) (zw_dg dk_M_take 17 rfl) rfl (by decide) rfl ?_
      obtain ⟨l11, hl11, hsl11⟩ := zw_bd hsem
      refine r_loopR (pc := 30) (pce := 70) hl11 (fun k10 => [some (.ref 71), some (.int p1), some (.int k10)] : Int32 → zw_Lc) (fun k10 => c9 : Int32 → zw_Ct) (fun (_ : Unit) => [some (.ref 71), some (.int p1), none] : Unit → zw_Lc) (fun (_ : Unit) => c9 : Unit → zw_Ct) (fun w => w = (r, c2)) ?_ rfl rfl ?_ ?_
      · rintro k10 rr hsem hR hK hP
        try unfold fn_M_take_l1 at hsem
        refine r_iload_n X (pc := 30) (i := 2) (zw_dg dk_M_take 18 rfl) rfl rfl ?_
        refine r_aload_n X (pc := 31) (i := 0) (zw_dg dk_M_take 19 rfl) rfl rfl ?_
        refine r_getI X (pc := 32) ci_M (zo hS 71 rfl rfl) rfl lk_M_13 (zw_dg dk_M_take 20 rfl) ?_
        refine r_icmp_gt X (pc := 35) (tgt := 70) (zw_dg dk_M_take 21 rfl) (by decide) (fun q13 => ?_) (fun q13 => ?_)
        · --
          have p12 : ¬ (k10 ≤ (c9.1 71 1)) := (Int32.not_le.mpr q13)
          have hsem := zw_ifn p12 hsem
          have jj := hK _ (Option.some.inj hsem).symm
          exact (r_fgt [2] rfl jj)
        · --
          have p12 : (k10 ≤ (c9.1 71 1)) := (Int32.not_lt.mp q13)
          have hsem := zw_ifp p12 hsem
          refine r_aload_n X (pc := 38) (i := 0) (zw_dg dk_M_take 22 rfl) rfl rfl ?_
          refine r_getR X (pc := 39) (r := 86) ci_M (zo hS 71 rfl rfl) rfl (zr hS 71 23 rfl rfl) lk_M_52 (zw_dg dk_M_take 23 rfl) ?_
          refine r_iload_n X (pc := 42) (i := 2) (zw_dg dk_M_take 24 rfl) rfl rfl ?_
          obtain ⟨x14, hx14, hsem⟩ := zw_bd hsem
          refine r_lald X (pc := 43) (zo hS 86 rfl rfl) hx14 (zw_dg dk_M_take 25 rfl) ?_
          refine r_aload_n X (pc := 44) (i := 0) (zw_dg dk_M_take 26 rfl) rfl rfl ?_
          refine r_getI X (pc := 45) ci_M (zo hS 71 rfl rfl) rfl lk_M_13 (zw_dg dk_M_take 27 rfl) ?_
          refine r_i2l X (pc := 48) (zw_dg dk_M_take 28 rfl)  ?_
          obtain ⟨d15, hd15, hsem⟩ := zw_bd hsem
          obtain ⟨hyd15, hd15⟩ := zw_dvL_of hd15
          refine r_ldiv X (pc := 49) (zw_dg dk_M_take 29 rfl) hyd15 ?_
          refine zw_eqtJ hd15 ?_
          refine r_ldc2 X (pc := 50) (v := (-9999)) kw_1625 (zw_dg dk_M_take 30 rfl) ?_
          refine r_ldc2 X (pc := 53) (v := 9999) kw_1626 (zw_dg dk_M_take 31 rfl) ?_
          refine r_callSi X (pc := 56) (As := [_, _, _]) (st := []) (km_M_in hS rfl) ce_M_in kw_1597 rfl ⟨Nat.le_of_ble_eq_true rfl, Nat.le_of_ble_eq_true rfl⟩ (Nat.le_of_ble_eq_true rfl) (zw_dg dk_M_take 32 rfl) ?_
          refine r_if_ne X (pc := 59) (tgt := 64) (zw_dg dk_M_take 33 rfl) (by decide) (fun q17 => ?_) (fun q17 => ?_)
          · --
            have p16 : ¬ (¬ (¬ (fn_M_in d15 (-9999) 9999) = 0)) := (fun q => q q17)
            have hsem := zw_ifn p16 hsem
            refine r_iinc X (pc := 64) (i := 2) (k := 1) (zw_dg dk_M_take 36 rfl) rfl (by decide) (by decide) rfl ?_
            refine r_goto X (pc := 67) (tgt := 30) (zw_dg dk_M_take 37 rfl) (by decide) ?_
            have jj := hP _ (Option.some.inj hsem).symm
            exact (r_fgt [] rfl jj)
          · --
            have p16 : (¬ (¬ (fn_M_in d15 (-9999) 9999) = 0)) := (fun z => z q17)
            have hsem := zw_ifp p16 hsem
            refine r_iconst X (pc := 62) (v := 0) (zw_dg dk_M_take 34 rfl) (by decide) ?_
            have hbz : (0 : Int32) = 0 ∨ (0 : Int32) = 1 := (by decide)
            have hret := hR _ (Option.some.inj hsem).symm
            cases hret
            exact r_zret X (pc := 63) rfl (zw_bzn hbz).1 (zw_dg dk_M_take 35 rfl)
      · intro w hw
        subst hw
        exact Option.some.inj hsl11
      rintro _u hw
      subst hw
      have hsem := hsl11
      refine r_iconst X (pc := 70) (v := 0) (zw_dg dk_M_take 38 rfl) (by decide) ?_
      refine r_istore_n X (pc := 71) (i := 2) (zw_dg dk_M_take 39 rfl) rfl (by decide) rfl ?_
      obtain ⟨c20, hl21, hsl21⟩ := zw_bd hsem
      refine r_loop (pc := 72) (pce := 105) hl21 (fun (k18, c19) => [some (.ref 71), some (.int p1), some (.int k18)] : Int32 × zw_Ct → zw_Lc) (fun (k18, c19) => c19 : Int32 × zw_Ct → zw_Ct) (fun c20 => [some (.ref 71), some (.int p1), none] : zw_Ct → zw_Lc) (fun c20 => c20 : zw_Ct → zw_Ct) ?_ rfl rfl ?_
      · rintro ⟨k18, c19⟩ rr hsem hK hP
        try unfold fn_M_take_l2 at hsem
        refine r_iload_n X (pc := 72) (i := 2) (zw_dg dk_M_take 40 rfl) rfl rfl ?_
        refine r_aload_n X (pc := 73) (i := 0) (zw_dg dk_M_take 41 rfl) rfl rfl ?_
        refine r_getI X (pc := 74) ci_M (zo hS 71 rfl rfl) rfl lk_M_13 (zw_dg dk_M_take 42 rfl) ?_
        refine r_icmp_gt X (pc := 77) (tgt := 105) (zw_dg dk_M_take 43 rfl) (by decide) (fun q23 => ?_) (fun q23 => ?_)
        · --
          have p22 : ¬ (k18 ≤ (c19.1 71 1)) := (Int32.not_le.mpr q23)
          have hsem := zw_ifn p22 hsem
          have jj := hK _ (Option.some.inj hsem).symm
          exact (r_fgt [2] rfl jj)
        · --
          have p22 : (k18 ≤ (c19.1 71 1)) := (Int32.not_lt.mp q23)
          have hsem := zw_ifp p22 hsem
          refine r_aload_n X (pc := 80) (i := 0) (zw_dg dk_M_take 44 rfl) rfl rfl ?_
          refine r_getR X (pc := 81) (r := 73) ci_M (zo hS 71 rfl rfl) rfl (zr hS 71 4 rfl rfl) lk_M_20 (zw_dg dk_M_take 45 rfl) ?_
          refine r_iload_n X (pc := 84) (i := 2) (zw_dg dk_M_take 46 rfl) rfl rfl ?_
          refine r_aload_n X (pc := 85) (i := 0) (zw_dg dk_M_take 47 rfl) rfl rfl ?_
          refine r_getR X (pc := 86) (r := 86) ci_M (zo hS 71 rfl rfl) rfl (zr hS 71 23 rfl rfl) lk_M_52 (zw_dg dk_M_take 48 rfl) ?_
          refine r_iload_n X (pc := 89) (i := 2) (zw_dg dk_M_take 49 rfl) rfl rfl ?_
          obtain ⟨x24, hx24, hsem⟩ := zw_bd hsem
          refine r_lald X (pc := 90) (zo hS 86 rfl rfl) hx24 (zw_dg dk_M_take 50 rfl) ?_
          refine r_aload_n X (pc := 91) (i := 0) (zw_dg dk_M_take 51 rfl) rfl rfl ?_
          refine r_getI X (pc := 92) ci_M (zo hS 71 rfl rfl) rfl lk_M_13 (zw_dg dk_M_take 52 rfl) ?_
          refine r_i2l X (pc := 95) (zw_dg dk_M_take 53 rfl)  ?_
          obtain ⟨d25, hd25, hsem⟩ := zw_bd hsem
          obtain ⟨hyd25, hd25⟩ := zw_dvL_of hd25
          refine r_ldiv X (pc := 96) (zw_dg dk_M_take 54 rfl) hyd25 ?_
          refine zw_eqtJ hd25 ?_
          refine r_l2i X (pc := 97) (zw_dg dk_M_take 55 rfl)  ?_
          obtain ⟨c26, hc26, hsem⟩ := zw_bd hsem
          refine r_iast X (pc := 98) (zo hS 73 rfl rfl) hc26 (zw_dg dk_M_take 56 rfl) ?_
          refine r_iinc X (pc := 99) (i := 2) (k := 1) (zw_dg dk_M_take 57 rfl) rfl (by decide) (by decide) rfl ?_
          refine r_goto X (pc := 102) (tgt := 72) (zw_dg dk_M_take 58 rfl) (by decide) ?_
          have jj := hP _ (Option.some.inj hsem).symm
          exact (r_fgt [] rfl jj)
      have hsem := hsl21
      refine r_iconst X (pc := 105) (v := 1) (zw_dg dk_M_take 59 rfl) (by decide) ?_
      have hbz : (1 : Int32) = 0 ∨ (1 : Int32) = 1 := (by decide)
      obtain ⟨rfl, rfl⟩ := zw_in2 hsem
      exact r_zret X (pc := 106) rfl (zw_bzn hbz).1 (zw_dg dk_M_take 60 rfl)
    · --
      have p7 : (¬ (¬ r6 = 0)) := (fun z => z q8)
      have hsem := zw_ifp p7 hsem
      refine r_iconst X (pc := 21) (v := 0) (zw_dg dk_M_take 11 rfl) (by decide) ?_
      have hbz : (0 : Int32) = 0 ∨ (0 : Int32) = 1 := (by decide)
      obtain ⟨rfl, rfl⟩ := zw_in2 hsem
      exact r_zret X (pc := 22) rfl (zw_bzn hbz).1 (zw_dg dk_M_take 12 rfl)
def y_M_become : MethodName := ⟨R_M, "become", "(II)V"⟩
abbrev b_M_become : ByteArray := prog_14_method_50_code
def dl_M_become : List (Nat × Instr × Nat) := [(0, .iconst 0, 1), (1, .istore_n 3, 1), (2, .iload_n 3, 1), (3, .iconst 4, 1), (4, .aload_n 0, 1), (5, .getfield 113, 3), (8, .imul, 1), (9, .if_icmp .ge 29, 3), (12, .aload_n 0, 1), (13, .getfield 43, 3), (16, .sipush 1820, 3), (19, .iload_n 1, 1), (20, .imul, 1), (21, .iload_n 3, 1), (22, .iadd, 1), (23, .aload_n 0, 1), (24, .getfield 46, 3), (27, .iload_n 3, 1), (28, .iaload, 1), (29, .iload_n 2, 1), (30, .isub, 1), (31, .iastore, 1), (32, .iinc 3 1, 3), (35, .goto (-33), 3), (38, .aload_n 0, 1), (39, .getfield 39, 3), (42, .iload_n 1, 1), (43, .iconst 1, 1), (44, .bastore, 1), (45, .aload_n 0, 1), (46, .getfield 36, 3), (49, .iload_n 1, 1), (50, .iconst 0, 1), (51, .iastore, 1), (52, .return_, 1)]
theorem dk_M_become : zw_dk b_M_become dl_M_become = true := by decide +kernel
theorem ce_M_become : zw_cev y_M_become b_M_become 4 (none) 2 := ⟨⟨kt_in 1793 (by decide +kernel) rfl, kt_in 98 (by decide +kernel) rfl, by decide +kernel⟩, kt_in 1792 (by decide +kernel) rfl, kt_in 64 (by decide +kernel) rfl⟩
def fn_M_become_l1 (i1 : Int32) (less2 : Int32) : Int32 × zw_Ct → Option ((zw_Ct) ⊕ (Int32 × zw_Ct)) := fun (k3, c4) =>
  if (k3 < (4 * (c4.1 71 2))) then
  ((zw_aI 1820 c4 84 k3).bind fun x9 =>
  (zw_uI 7280 c4 83 ((1820 * i1) + k3) (x9 - less2)).bind fun c10 =>
  some (.inr ((k3 + 1), c10)))
  else
  (some (.inl c4))
def fn_M_become (c : zw_Ct) (i1 : Int32) (less2 : Int32) : Option zw_Ct :=
  (zw_whl (fn_M_become_l1 i1 less2) zw_F (0, c)).bind fun c5 =>
  (zw_uI 4 c5 82 i1 1).bind fun c11 =>
  (zw_uI 4 c11 81 i1 0).bind fun c12 =>
  some c12
set_option maxRecDepth 100000 in
theorem km_M_become {l : Launch} {g : zw_G} {rr : zw_RR} {sh : zw_Sh} {c : zw_Ct} {i1 : Int32} {less2 : Int32} {c2 : zw_Ct} (hS : zw_Ok 0 101 sh rr) (hsem : fn_M_become c i1 less2 = some c2) : zw_Met l g y_M_become b_M_become 4 (none) 1 rr sh [.ref 71, .int i1, .int less2] c none c2 := by
  unfold fn_M_become at hsem
  refine zw_Met.of (by decide +kernel) (Nat.le_of_ble_eq_true rfl) (fun p e s m args below meth cd X => ?_)
  refine zw_eL (L2 := [some (.ref 71), some (.int i1), some (.int less2), none]) rfl ?_
  refine r_iconst X (pc := 0) (v := 0) (zw_dg dk_M_become 0 rfl) (by decide) ?_
  refine r_istore_n X (pc := 1) (i := 3) (zw_dg dk_M_become 1 rfl) rfl (by decide) rfl ?_
  obtain ⟨c5, hl6, hsl6⟩ := zw_bd hsem
  refine r_loop (pc := 2) (pce := 38) hl6 (fun (k3, c4) => [some (.ref 71), some (.int i1), some (.int less2), some (.int k3)] : Int32 × zw_Ct → zw_Lc) (fun (k3, c4) => c4 : Int32 × zw_Ct → zw_Ct) (fun c5 => [some (.ref 71), some (.int i1), some (.int less2), none] : zw_Ct → zw_Lc) (fun c5 => c5 : zw_Ct → zw_Ct) ?_ rfl rfl ?_
  · rintro ⟨k3, c4⟩ rr hsem hK hP
    try unfold fn_M_become_l1 at hsem
    refine r_iload_n X (pc := 2) (i := 3) (zw_dg dk_M_become 2 rfl) rfl rfl ?_
    refine r_iconst X (pc := 3) (v := 4) (zw_dg dk_M_become 3 rfl) (by decide) ?_
    refine r_aload_n X (pc := 4) (i := 0) (zw_dg dk_M_become 4 rfl) rfl rfl ?_
    refine r_getI X (pc := 5) ci_M (zo hS 71 rfl rfl) rfl lk_M_113 (zw_dg dk_M_become 5 rfl) ?_
    refine r_imul X (pc := 8) (zw_dg dk_M_become 6 rfl)  ?_
    refine r_icmp_ge X (pc := 9) (tgt := 38) (zw_dg dk_M_become 7 rfl) (by decide) (fun q8 => ?_) (fun q8 => ?_)
    · --
      have p7 : ¬ (k3 < (4 * (c4.1 71 2))) := (Int32.not_lt.mpr q8)
      have hsem := zw_ifn p7 hsem
      have jj := hK _ (Option.some.inj hsem).symm
      exact (r_fgt [3] rfl jj)
    · --
      have p7 : (k3 < (4 * (c4.1 71 2))) := (Int32.not_le.mp q8)
      have hsem := zw_ifp p7 hsem
      refine r_aload_n X (pc := 12) (i := 0) (zw_dg dk_M_become 8 rfl) rfl rfl ?_
      refine r_getR X (pc := 13) (r := 83) ci_M (zo hS 71 rfl rfl) rfl (zr hS 71 14 rfl rfl) lk_M_43 (zw_dg dk_M_become 9 rfl) ?_
      refine r_sipush X (pc := 16) (v := 1820) (zw_dg dk_M_become 10 rfl) (by decide) ?_
      refine r_iload_n X (pc := 19) (i := 1) (zw_dg dk_M_become 11 rfl) rfl rfl ?_
      refine r_imul X (pc := 20) (zw_dg dk_M_become 12 rfl)  ?_
      refine r_iload_n X (pc := 21) (i := 3) (zw_dg dk_M_become 13 rfl) rfl rfl ?_
      refine r_iadd X (pc := 22) (zw_dg dk_M_become 14 rfl)  ?_
      refine r_aload_n X (pc := 23) (i := 0) (zw_dg dk_M_become 15 rfl) rfl rfl ?_
      refine r_getR X (pc := 24) (r := 84) ci_M (zo hS 71 rfl rfl) rfl (zr hS 71 21 rfl rfl) lk_M_46 (zw_dg dk_M_become 16 rfl) ?_
      refine r_iload_n X (pc := 27) (i := 3) (zw_dg dk_M_become 17 rfl) rfl rfl ?_
      obtain ⟨x9, hx9, hsem⟩ := zw_bd hsem
      refine r_iald X (pc := 28) (zo hS 84 rfl rfl) hx9 (zw_dg dk_M_become 18 rfl) ?_
      refine r_iload_n X (pc := 29) (i := 2) (zw_dg dk_M_become 19 rfl) rfl rfl ?_
      refine r_isub X (pc := 30) (zw_dg dk_M_become 20 rfl)  ?_
      obtain ⟨c10, hc10, hsem⟩ := zw_bd hsem
      refine r_iast X (pc := 31) (zo hS 83 rfl rfl) hc10 (zw_dg dk_M_become 21 rfl) ?_
      refine r_iinc X (pc := 32) (i := 3) (k := 1) (zw_dg dk_M_become 22 rfl) rfl (by decide) (by decide) rfl ?_
      refine r_goto X (pc := 35) (tgt := 2) (zw_dg dk_M_become 23 rfl) (by decide) ?_
      have jj := hP _ (Option.some.inj hsem).symm
      exact (r_fgt [] rfl jj)
  have hsem := hsl6
  refine r_aload_n X (pc := 38) (i := 0) (zw_dg dk_M_become 24 rfl) rfl rfl ?_
  refine r_getR X (pc := 39) (r := 82) ci_M (zo hS 71 rfl rfl) rfl (zr hS 71 13 rfl rfl) lk_M_39 (zw_dg dk_M_become 25 rfl) ?_
  refine r_iload_n X (pc := 42) (i := 1) (zw_dg dk_M_become 26 rfl) rfl rfl ?_
  refine r_iconst X (pc := 43) (v := 1) (zw_dg dk_M_become 27 rfl) (by decide) ?_
  obtain ⟨c11, hc11, hsem⟩ := zw_bd hsem
  refine r_zast X (pc := 44) (zo hS 82 rfl rfl) (by rw [(zw_bzn (by decide)).2.2]; exact hc11) (zw_dg dk_M_become 28 rfl) ?_
  refine r_aload_n X (pc := 45) (i := 0) (zw_dg dk_M_become 29 rfl) rfl rfl ?_
  refine r_getR X (pc := 46) (r := 81) ci_M (zo hS 71 rfl rfl) rfl (zr hS 71 12 rfl rfl) lk_M_36 (zw_dg dk_M_become 30 rfl) ?_
  refine r_iload_n X (pc := 49) (i := 1) (zw_dg dk_M_become 31 rfl) rfl rfl ?_
  refine r_iconst X (pc := 50) (v := 0) (zw_dg dk_M_become 32 rfl) (by decide) ?_
  obtain ⟨c12, hc12, hsem⟩ := zw_bd hsem
  refine r_iast X (pc := 51) (zo hS 81 rfl rfl) hc12 (zw_dg dk_M_become 33 rfl) ?_
  cases hsem
  exact r_vret X (pc := 52) rfl (zw_dg dk_M_become 34 rfl)
def y_M_mix : MethodName := ⟨R_M, "mix", "(IIIII)Z"⟩
abbrev b_M_mix : ByteArray := prog_14_method_51_code
def dl_M_mix : List (Nat × Instr × Nat) := [(0, .aload_n 0, 1), (1, .iconst 0, 1), (2, .putfield 97, 3), (5, .iload_n 1, 1), (6, .i2l, 1), (7, .lconst 0, 1), (8, .ldc2_w 157, 3), (11, .invokestatic 120, 3), (14, .ifCond .eq 49, 3), (17, .aload_n 0, 1), (18, .iload_n 2, 1), (19, .invokevirtual 222, 3), (22, .ifCond .eq 41, 3), (25, .aload_n 0, 1), (26, .iload_n 3, 1), (27, .invokevirtual 222, 3), (30, .ifCond .eq 33, 3), (33, .iload 4, 2), (35, .i2l, 1), (36, .ldc2_w 262, 3), (39, .ldc2_w 264, 3), (42, .invokestatic 120, 3), (45, .ifCond .eq 18, 3), (48, .iload 5, 2), (50, .i2l, 1), (51, .ldc2_w 262, 3), (54, .ldc2_w 264, 3), (57, .invokestatic 120, 3), (60, .ifCond .ne 5, 3), (63, .iconst 0, 1), (64, .ireturn, 1), (65, .aload_n 0, 1), (66, .iload_n 2, 1), (67, .iload_n 3, 1), (68, .invokevirtual 252, 3), (71, .iconst 0, 1), (72, .istore 6, 2), (74, .iload 6, 2), (76, .aload_n 0, 1), (77, .getfield 46, 3), (80, .arraylength, 1), (81, .if_icmp .ge 37, 3), (84, .aload_n 0, 1), (85, .getfield 46, 3), (88, .iload 6, 2), (90, .iload 4, 2), (92, .aload_n 0, 1), (93, .getfield 46, 3), (96, .iload 6, 2), (98, .iaload, 1), (99, .imul, 1), (100, .iload 5, 2), (102, .aload_n 0, 1), (103, .getfield 49, 3), (106, .iload 6, 2), (108, .iaload, 1), (109, .imul, 1), (110, .iadd, 1), (111, .iastore, 1), (112, .iinc 6 1, 3), (115, .goto (-41), 3), (118, .aload_n 0, 1), (119, .iload_n 1, 1), (120, .iconst 0, 1), (121, .invokevirtual 266, 3), (124, .iconst 1, 1), (125, .ireturn, 1)]
theorem dk_M_mix : zw_dk b_M_mix dl_M_mix = true := by decide +kernel
theorem ce_M_mix : zw_cev y_M_mix b_M_mix 7 (some .boolean) 5 := ⟨⟨kt_in 1787 (by decide +kernel) rfl, kt_in 98 (by decide +kernel) rfl, by decide +kernel⟩, kt_in 1785 (by decide +kernel) rfl, kt_in 1786 (by decide +kernel) rfl⟩
def fn_M_mix_l1 (a4 : Int32) (b5 : Int32) : Int32 × zw_Ct → Option ((zw_Ct) ⊕ (Int32 × zw_Ct)) := fun (k20, c21) =>
  if (k20 < 1820) then
  ((zw_aI 1820 c21 84 k20).bind fun x26 =>
  (zw_aI 1820 c21 85 k20).bind fun x27 =>
  (zw_uI 1820 c21 84 k20 ((a4 * x26) + (b5 * x27))).bind fun c28 =>
  some (.inr ((k20 + 1), c28)))
  else
  (some (.inl c21))
def fn_M_mix (c : zw_Ct) (i1 : Int32) (one2 : Int32) (other3 : Int32) (a4 : Int32) (b5 : Int32) : Option (Int32 × zw_Ct) :=
  (some (zw_wI c 71 9 0)).bind fun c6 =>
  if (¬ (¬ (fn_M_in i1.toInt64 0 3) = 0)) then
  (some (0, c6))
  else
  ((fn_M_isPay c6 one2).bind fun r9 =>
  if (¬ (¬ r9 = 0)) then
  (some (0, c6))
  else
  ((fn_M_isPay c6 other3).bind fun r12 =>
  if (¬ (¬ r12 = 0)) then
  (some (0, c6))
  else
  (if (¬ (¬ (fn_M_in a4.toInt64 (-9) 9) = 0)) then
  (some (0, c6))
  else
  (if (¬ (¬ (fn_M_in b5.toInt64 (-9) 9) = 0)) then
  (some (0, c6))
  else
  ((fn_M_layBoth c6 one2 other3).bind fun c19 =>
  (zw_whl (fn_M_mix_l1 a4 b5) zw_F (0, c19)).bind fun c22 =>
  (fn_M_become c22 i1 0).bind fun c29 =>
  some (1, c29))))))
set_option maxRecDepth 100000 in
theorem km_M_mix {l : Launch} {g : zw_G} {rr : zw_RR} {sh : zw_Sh} {c : zw_Ct} {i1 : Int32} {one2 : Int32} {other3 : Int32} {a4 : Int32} {b5 : Int32} {r : Int32} {c2 : zw_Ct} (hS : zw_Ok 0 101 sh rr) (hsem : fn_M_mix c i1 one2 other3 a4 b5 = some (r, c2)) : zw_Met l g y_M_mix b_M_mix 7 (some .boolean) 108 rr sh [.ref 71, .int i1, .int one2, .int other3, .int a4, .int b5] c (some (.int r)) c2 := by
  unfold fn_M_mix at hsem
  refine zw_Met.of (by decide +kernel) (Nat.le_of_ble_eq_true rfl) (fun p e s m args below meth cd X => ?_)
  refine zw_eL (L2 := [some (.ref 71), some (.int i1), some (.int one2), some (.int other3), some (.int a4), some (.int b5), none]) rfl ?_
  refine r_aload_n X (pc := 0) (i := 0) (zw_dg dk_M_mix 0 rfl) rfl rfl ?_
  refine r_iconst X (pc := 1) (v := 0) (zw_dg dk_M_mix 1 rfl) (by decide) ?_
  refine r_putI X (pc := 2) ci_M (zo hS 71 rfl rfl) rfl lk_M_97 rfl ⟨rfl, rfl⟩ (zw_dg dk_M_mix 2 rfl) ?_
  obtain ⟨c6, hc6, hsem⟩ := zw_bd hsem
  refine zw_topC hc6 ?_
  refine r_iload_n X (pc := 5) (i := 1) (zw_dg dk_M_mix 3 rfl) rfl rfl ?_
  refine r_i2l X (pc := 6) (zw_dg dk_M_mix 4 rfl)  ?_
  refine r_lconst X (pc := 7) (v := 0) (zw_dg dk_M_mix 5 rfl) (by decide) ?_
  refine r_ldc2 X (pc := 8) (v := 3) kw_1631 (zw_dg dk_M_mix 6 rfl) ?_
  refine r_callSi X (pc := 11) (As := [_, _, _]) (st := []) (km_M_in hS rfl) ce_M_in kw_1597 rfl ⟨Nat.le_of_ble_eq_true rfl, Nat.le_of_ble_eq_true rfl⟩ (Nat.le_of_ble_eq_true rfl) (zw_dg dk_M_mix 7 rfl) ?_
  refine r_if_eq X (pc := 14) (tgt := 63) (zw_dg dk_M_mix 8 rfl) (by decide) (fun q8 => ?_) (fun q8 => ?_)
  · --
    have p7 : (¬ (¬ (fn_M_in i1.toInt64 0 3) = 0)) := (fun z => z q8)
    have hsem := zw_ifp p7 hsem
    refine r_iconst X (pc := 63) (v := 0) (zw_dg dk_M_mix 29 rfl) (by decide) ?_
    have hbz : (0 : Int32) = 0 ∨ (0 : Int32) = 1 := (by decide)
    obtain ⟨rfl, rfl⟩ := zw_in2 hsem
    exact r_zret X (pc := 64) rfl (zw_bzn hbz).1 (zw_dg dk_M_mix 30 rfl)
  · --
    have p7 : ¬ (¬ (¬ (fn_M_in i1.toInt64 0 3) = 0)) := (fun q => q q8)
    have hsem := zw_ifn p7 hsem
    refine r_aload_n X (pc := 17) (i := 0) (zw_dg dk_M_mix 9 rfl) rfl rfl ?_
    refine r_iload_n X (pc := 18) (i := 2) (zw_dg dk_M_mix 10 rfl) rfl rfl ?_
    obtain ⟨r9, hr9, hsem⟩ := zw_bd hsem
    refine r_callVi X (pc := 19) (As := [_]) (st := []) (km_M_isPay hS hr9) ce_M_isPay kw_1688 (zo hS 71 rfl rfl) rfl rfl ⟨Nat.le_of_ble_eq_true rfl, Nat.le_of_ble_eq_true rfl⟩ (Nat.le_of_ble_eq_true rfl) (zw_dg dk_M_mix 11 rfl) ?_
    refine r_if_eq X (pc := 22) (tgt := 63) (zw_dg dk_M_mix 12 rfl) (by decide) (fun q11 => ?_) (fun q11 => ?_)
    · --
      have p10 : (¬ (¬ r9 = 0)) := (fun z => z q11)
      have hsem := zw_ifp p10 hsem
      refine r_iconst X (pc := 63) (v := 0) (zw_dg dk_M_mix 29 rfl) (by decide) ?_
      have hbz : (0 : Int32) = 0 ∨ (0 : Int32) = 1 := (by decide)
      obtain ⟨rfl, rfl⟩ := zw_in2 hsem
      exact r_zret X (pc := 64) rfl (zw_bzn hbz).1 (zw_dg dk_M_mix 30 rfl)
    · --
      have p10 : ¬ (¬ (¬ r9 = 0)) := (fun q => q q11)
      have hsem := zw_ifn p10 hsem
      refine r_aload_n X (pc := 25) (i := 0) (zw_dg dk_M_mix 13 rfl) rfl rfl ?_
      refine r_iload_n X (pc := 26) (i := 3) (zw_dg dk_M_mix 14 rfl) rfl rfl ?_
      obtain ⟨r12, hr12, hsem⟩ := zw_bd hsem
      refine r_callVi X (pc := 27) (As := [_]) (st := []) (km_M_isPay hS hr12) ce_M_isPay kw_1688 (zo hS 71 rfl rfl) rfl rfl ⟨Nat.le_of_ble_eq_true rfl, Nat.le_of_ble_eq_true rfl⟩ (Nat.le_of_ble_eq_true rfl) (zw_dg dk_M_mix 15 rfl) ?_
      refine r_if_eq X (pc := 30) (tgt := 63) (zw_dg dk_M_mix 16 rfl) (by decide) (fun q14 => ?_) (fun q14 => ?_)
      · --
        have p13 : (¬ (¬ r12 = 0)) := (fun z => z q14)
        have hsem := zw_ifp p13 hsem
        refine r_iconst X (pc := 63) (v := 0) (zw_dg dk_M_mix 29 rfl) (by decide) ?_
        have hbz : (0 : Int32) = 0 ∨ (0 : Int32) = 1 := (by decide)
        obtain ⟨rfl, rfl⟩ := zw_in2 hsem
        exact r_zret X (pc := 64) rfl (zw_bzn hbz).1 (zw_dg dk_M_mix 30 rfl)
      · --
        have p13 : ¬ (¬ (¬ r12 = 0)) := (fun q => q q14)
        have hsem := zw_ifn p13 hsem
        refine r_iload X (pc := 33) (i := 4) (zw_dg dk_M_mix 17 rfl) rfl ?_
        refine r_i2l X (pc := 35) (zw_dg dk_M_mix 18 rfl)  ?_
        refine r_ldc2 X (pc := 36) (v := (-9)) kw_1788 (zw_dg dk_M_mix 19 rfl) ?_
        refine r_ldc2 X (pc := 39) (v := 9) kw_1789 (zw_dg dk_M_mix 20 rfl) ?_
        refine r_callSi X (pc := 42) (As := [_, _, _]) (st := []) (km_M_in hS rfl) ce_M_in kw_1597 rfl ⟨Nat.le_of_ble_eq_true rfl, Nat.le_of_ble_eq_true rfl⟩ (Nat.le_of_ble_eq_true rfl) (zw_dg dk_M_mix 21 rfl) ?_
        refine r_if_eq X (pc := 45) (tgt := 63) (zw_dg dk_M_mix 22 rfl) (by decide) (fun q16 => ?_) (fun q16 => ?_)
        · --
          have p15 : (¬ (¬ (fn_M_in a4.toInt64 (-9) 9) = 0)) := (fun z => z q16)
          have hsem := zw_ifp p15 hsem
          refine r_iconst X (pc := 63) (v := 0) (zw_dg dk_M_mix 29 rfl) (by decide) ?_
          have hbz : (0 : Int32) = 0 ∨ (0 : Int32) = 1 := (by decide)
          obtain ⟨rfl, rfl⟩ := zw_in2 hsem
          exact r_zret X (pc := 64) rfl (zw_bzn hbz).1 (zw_dg dk_M_mix 30 rfl)
        · --
          have p15 : ¬ (¬ (¬ (fn_M_in a4.toInt64 (-9) 9) = 0)) := (fun q => q q16)
          have hsem := zw_ifn p15 hsem
          refine r_iload X (pc := 48) (i := 5) (zw_dg dk_M_mix 23 rfl) rfl ?_
          refine r_i2l X (pc := 50) (zw_dg dk_M_mix 24 rfl)  ?_
          refine r_ldc2 X (pc := 51) (v := (-9)) kw_1788 (zw_dg dk_M_mix 25 rfl) ?_
          refine r_ldc2 X (pc := 54) (v := 9) kw_1789 (zw_dg dk_M_mix 26 rfl) ?_
          refine r_callSi X (pc := 57) (As := [_, _, _]) (st := []) (km_M_in hS rfl) ce_M_in kw_1597 rfl ⟨Nat.le_of_ble_eq_true rfl, Nat.le_of_ble_eq_true rfl⟩ (Nat.le_of_ble_eq_true rfl) (zw_dg dk_M_mix 27 rfl) ?_
          refine r_if_ne X (pc := 60) (tgt := 65) (zw_dg dk_M_mix 28 rfl) (by decide) (fun q18 => ?_) (fun q18 => ?_)
          · --
            have p17 : ¬ (¬ (¬ (fn_M_in b5.toInt64 (-9) 9) = 0)) := (fun q => q q18)
            have hsem := zw_ifn p17 hsem
            refine r_aload_n X (pc := 65) (i := 0) (zw_dg dk_M_mix 31 rfl) rfl rfl ?_
            refine r_iload_n X (pc := 66) (i := 2) (zw_dg dk_M_mix 32 rfl) rfl rfl ?_
            refine r_iload_n X (pc := 67) (i := 3) (zw_dg dk_M_mix 33 rfl) rfl rfl ?_
            obtain ⟨c19, hc19, hsem⟩ := zw_bd hsem
            refine r_callVv X (pc := 68) (As := [_, _]) (st := []) (km_M_layBoth hS hc19) ce_M_layBoth kw_1756 (zo hS 71 rfl rfl) rfl rfl ⟨Nat.le_of_ble_eq_true rfl, Nat.le_of_ble_eq_true rfl⟩ (Nat.le_of_ble_eq_true rfl) (zw_dg dk_M_mix 34 rfl) ?_
            refine r_iconst X (pc := 71) (v := 0) (zw_dg dk_M_mix 35 rfl) (by decide) ?_
            refine r_istore X (pc := 72) (i := 6) (zw_dg dk_M_mix 36 rfl) (by decide) rfl ?_
            obtain ⟨c22, hl23, hsl23⟩ := zw_bd hsem
            refine r_loop (pc := 74) (pce := 118) hl23 (fun (k20, c21) => [some (.ref 71), some (.int i1), some (.int one2), some (.int other3), some (.int a4), some (.int b5), some (.int k20)] : Int32 × zw_Ct → zw_Lc) (fun (k20, c21) => c21 : Int32 × zw_Ct → zw_Ct) (fun c22 => [some (.ref 71), some (.int i1), some (.int one2), some (.int other3), some (.int a4), some (.int b5), none] : zw_Ct → zw_Lc) (fun c22 => c22 : zw_Ct → zw_Ct) ?_ rfl rfl ?_
            · rintro ⟨k20, c21⟩ rr hsem hK hP
              try unfold fn_M_mix_l1 at hsem
              refine r_iload X (pc := 74) (i := 6) (zw_dg dk_M_mix 37 rfl) rfl ?_
              refine r_aload_n X (pc := 76) (i := 0) (zw_dg dk_M_mix 38 rfl) rfl rfl ?_
              refine r_getR X (pc := 77) (r := 84) ci_M (zo hS 71 rfl rfl) rfl (zr hS 71 21 rfl rfl) lk_M_46 (zw_dg dk_M_mix 39 rfl) ?_
              refine r_alen X (pc := 80) (t := 0) (n := 1820) (v := 1820) (zo hS 84 rfl rfl) rfl (by decide) (zw_dg dk_M_mix 40 rfl) ?_
              refine r_icmp_ge X (pc := 81) (tgt := 118) (zw_dg dk_M_mix 41 rfl) (by decide) (fun q25 => ?_) (fun q25 => ?_)
              · --
                have p24 : ¬ (k20 < 1820) := (Int32.not_lt.mpr q25)
                have hsem := zw_ifn p24 hsem
                have jj := hK _ (Option.some.inj hsem).symm
                exact (r_fgt [6] rfl jj)
              · --
                have p24 : (k20 < 1820) := (Int32.not_le.mp q25)
                have hsem := zw_ifp p24 hsem
                refine r_aload_n X (pc := 84) (i := 0) (zw_dg dk_M_mix 42 rfl) rfl rfl ?_
                refine r_getR X (pc := 85) (r := 84) ci_M (zo hS 71 rfl rfl) rfl (zr hS 71 21 rfl rfl) lk_M_46 (zw_dg dk_M_mix 43 rfl) ?_
                refine r_iload X (pc := 88) (i := 6) (zw_dg dk_M_mix 44 rfl) rfl ?_
                refine r_iload X (pc := 90) (i := 4) (zw_dg dk_M_mix 45 rfl) rfl ?_
                refine r_aload_n X (pc := 92) (i := 0) (zw_dg dk_M_mix 46 rfl) rfl rfl ?_
                refine r_getR X (pc := 93) (r := 84) ci_M (zo hS 71 rfl rfl) rfl (zr hS 71 21 rfl rfl) lk_M_46 (zw_dg dk_M_mix 47 rfl) ?_
                refine r_iload X (pc := 96) (i := 6) (zw_dg dk_M_mix 48 rfl) rfl ?_
                obtain ⟨x26, hx26, hsem⟩ := zw_bd hsem
                refine r_iald X (pc := 98) (zo hS 84 rfl rfl) hx26 (zw_dg dk_M_mix 49 rfl) ?_
                refine r_imul X (pc := 99) (zw_dg dk_M_mix 50 rfl)  ?_
                refine r_iload X (pc := 100) (i := 5) (zw_dg dk_M_mix 51 rfl) rfl ?_
                refine r_aload_n X (pc := 102) (i := 0) (zw_dg dk_M_mix 52 rfl) rfl rfl ?_
                refine r_getR X (pc := 103) (r := 85) ci_M (zo hS 71 rfl rfl) rfl (zr hS 71 22 rfl rfl) lk_M_49 (zw_dg dk_M_mix 53 rfl) ?_
                refine r_iload X (pc := 106) (i := 6) (zw_dg dk_M_mix 54 rfl) rfl ?_
                obtain ⟨x27, hx27, hsem⟩ := zw_bd hsem
                refine r_iald X (pc := 108) (zo hS 85 rfl rfl) hx27 (zw_dg dk_M_mix 55 rfl) ?_
                refine r_imul X (pc := 109) (zw_dg dk_M_mix 56 rfl)  ?_
                refine r_iadd X (pc := 110) (zw_dg dk_M_mix 57 rfl)  ?_
                obtain ⟨c28, hc28, hsem⟩ := zw_bd hsem
                refine r_iast X (pc := 111) (zo hS 84 rfl rfl) hc28 (zw_dg dk_M_mix 58 rfl) ?_
                refine r_iinc X (pc := 112) (i := 6) (k := 1) (zw_dg dk_M_mix 59 rfl) rfl (by decide) (by decide) rfl ?_
                refine r_goto X (pc := 115) (tgt := 74) (zw_dg dk_M_mix 60 rfl) (by decide) ?_
                have jj := hP _ (Option.some.inj hsem).symm
                exact (r_fgt [] rfl jj)
            have hsem := hsl23
            refine r_aload_n X (pc := 118) (i := 0) (zw_dg dk_M_mix 61 rfl) rfl rfl ?_
            refine r_iload_n X (pc := 119) (i := 1) (zw_dg dk_M_mix 62 rfl) rfl rfl ?_
            refine r_iconst X (pc := 120) (v := 0) (zw_dg dk_M_mix 63 rfl) (by decide) ?_
            obtain ⟨c29, hc29, hsem⟩ := zw_bd hsem
            refine r_callVv X (pc := 121) (As := [_, _]) (st := []) (km_M_become hS hc29) ce_M_become kw_1790 (zo hS 71 rfl rfl) rfl rfl ⟨Nat.le_of_ble_eq_true rfl, Nat.le_of_ble_eq_true rfl⟩ (Nat.le_of_ble_eq_true rfl) (zw_dg dk_M_mix 64 rfl) ?_
            refine r_iconst X (pc := 124) (v := 1) (zw_dg dk_M_mix 65 rfl) (by decide) ?_
            have hbz : (1 : Int32) = 0 ∨ (1 : Int32) = 1 := (by decide)
            obtain ⟨rfl, rfl⟩ := zw_in2 hsem
            exact r_zret X (pc := 125) rfl (zw_bzn hbz).1 (zw_dg dk_M_mix 66 rfl)
          · --
            have p17 : (¬ (¬ (fn_M_in b5.toInt64 (-9) 9) = 0)) := (fun z => z q18)
            have hsem := zw_ifp p17 hsem
            refine r_iconst X (pc := 63) (v := 0) (zw_dg dk_M_mix 29 rfl) (by decide) ?_
            have hbz : (0 : Int32) = 0 ∨ (0 : Int32) = 1 := (by decide)
            obtain ⟨rfl, rfl⟩ := zw_in2 hsem
            exact r_zret X (pc := 64) rfl (zw_bzn hbz).1 (zw_dg dk_M_mix 30 rfl)
def y_M_lift : MethodName := ⟨R_M, "lift", "(II)I"⟩
abbrev b_M_lift : ByteArray := prog_14_method_52_code
def dl_M_lift : List (Nat × Instr × Nat) := [(0, .aload_n 0, 1), (1, .iconst 0, 1), (2, .putfield 97, 3), (5, .iload_n 1, 1), (6, .i2l, 1), (7, .lconst 0, 1), (8, .ldc2_w 157, 3), (11, .invokestatic 120, 3), (14, .ifCond .eq 11, 3), (17, .aload_n 0, 1), (18, .iload_n 2, 1), (19, .invokevirtual 222, 3), (22, .ifCond .ne 5, 3), (25, .iconst (-1), 1), (26, .ireturn, 1), (27, .aload_n 0, 1), (28, .iload_n 2, 1), (29, .invokevirtual 229, 3), (32, .aload_n 0, 1), (33, .getfield 46, 3), (36, .iconst 0, 1), (37, .iaload, 1), (38, .istore_n 3, 1), (39, .iconst 0, 1), (40, .istore 4, 2), (42, .iload 4, 2), (44, .aload_n 0, 1), (45, .getfield 113, 3), (48, .if_icmp .ge 44, 3), (51, .iconst 0, 1), (52, .istore 5, 2), (54, .iload 5, 2), (56, .aload_n 0, 1), (57, .getfield 9, 3), (60, .if_icmp .ge 26, 3), (63, .iload_n 3, 1), (64, .aload_n 0, 1), (65, .getfield 46, 3), (68, .iconst 4, 1), (69, .iload 4, 2), (71, .imul, 1), (72, .iload 5, 2), (74, .iadd, 1), (75, .iaload, 1), (76, .invokestatic 159, 3), (79, .istore_n 3, 1), (80, .iinc 5 1, 3), (83, .goto (-29), 3), (86, .iinc 4 1, 3), (89, .goto (-47), 3), (92, .aload_n 0, 1), (93, .iload_n 1, 1), (94, .iload_n 3, 1), (95, .invokevirtual 266, 3), (98, .iload_n 3, 1), (99, .ineg, 1), (100, .ireturn, 1)]
theorem dk_M_lift : zw_dk b_M_lift dl_M_lift = true := by decide +kernel
theorem ce_M_lift : zw_cev y_M_lift b_M_lift 6 (some .int) 2 := ⟨⟨kt_in 1797 (by decide +kernel) rfl, kt_in 98 (by decide +kernel) rfl, by decide +kernel⟩, kt_in 1795 (by decide +kernel) rfl, kt_in 1796 (by decide +kernel) rfl⟩
def fn_M_lift_l2 (c9 : zw_Ct) (s12 : Int32) : Int32 × Int32 → Option ((Int32) ⊕ (Int32 × Int32)) := fun (least17, e18) =>
  if (e18 < (c9.1 71 0)) then
  ((zw_aI 1820 c9 84 ((4 * s12) + e18)).bind fun x23 =>
  (some ((if x23 < least17 then x23 else least17) : Int32)).bind fun least24 =>
  some (.inr (least24, (e18 + 1))))
  else
  (some (.inl least17))
def fn_M_lift_l1 (c9 : zw_Ct) : Int32 × Int32 → Option ((Int32) ⊕ (Int32 × Int32)) := fun (least11, s12) =>
  if (s12 < (c9.1 71 2)) then
  ((zw_whl (fn_M_lift_l2 c9 s12) zw_F (least11, 0)).bind fun least19 =>
  some (.inr (least19, (s12 + 1))))
  else
  (some (.inl least11))
def fn_M_lift (c : zw_Ct) (i1 : Int32) (p2 : Int32) : Option (Int32 × zw_Ct) :=
  (some (zw_wI c 71 9 0)).bind fun c3 =>
  if (¬ (¬ (fn_M_in i1.toInt64 0 3) = 0)) then
  (some ((-1), c3))
  else
  ((fn_M_isPay c3 p2).bind fun r6 =>
  if (¬ (¬ r6 = 0)) then
  (some ((-1), c3))
  else
  ((fn_M_layPay c3 p2).bind fun c9 =>
  (zw_aI 1820 c9 84 0).bind fun x10 =>
  (zw_whl (fn_M_lift_l1 c9) zw_F (x10, 0)).bind fun least13 =>
  (fn_M_become c9 i1 least13).bind fun c25 =>
  some ((-least13), c25)))
set_option maxRecDepth 100000 in
theorem km_M_lift {l : Launch} {g : zw_G} {rr : zw_RR} {sh : zw_Sh} {c : zw_Ct} {i1 : Int32} {p2 : Int32} {r : Int32} {c2 : zw_Ct} (hS : zw_Ok 0 101 sh rr) (hsem : fn_M_lift c i1 p2 = some (r, c2)) : zw_Met l g y_M_lift b_M_lift 6 (some .int) 107 rr sh [.ref 71, .int i1, .int p2] c (some (.int r)) c2 := by
  unfold fn_M_lift at hsem
  refine zw_Met.of (by decide +kernel) (Nat.le_of_ble_eq_true rfl) (fun p e s m args below meth cd X => ?_)
  refine zw_eL (L2 := [some (.ref 71), some (.int i1), some (.int p2), none, none, none]) rfl ?_
  refine r_aload_n X (pc := 0) (i := 0) (zw_dg dk_M_lift 0 rfl) rfl rfl ?_
  refine r_iconst X (pc := 1) (v := 0) (zw_dg dk_M_lift 1 rfl) (by decide) ?_
  refine r_putI X (pc := 2) ci_M (zo hS 71 rfl rfl) rfl lk_M_97 rfl ⟨rfl, rfl⟩ (zw_dg dk_M_lift 2 rfl) ?_
  obtain ⟨c3, hc3, hsem⟩ := zw_bd hsem
  refine zw_topC hc3 ?_
  refine r_iload_n X (pc := 5) (i := 1) (zw_dg dk_M_lift 3 rfl) rfl rfl ?_
  refine r_i2l X (pc := 6) (zw_dg dk_M_lift 4 rfl)  ?_
  refine r_lconst X (pc := 7) (v := 0) (zw_dg dk_M_lift 5 rfl) (by decide) ?_
  refine r_ldc2 X (pc := 8) (v := 3) kw_1631 (zw_dg dk_M_lift 6 rfl) ?_
  refine r_callSi X (pc := 11) (As := [_, _, _]) (st := []) (km_M_in hS rfl) ce_M_in kw_1597 rfl ⟨Nat.le_of_ble_eq_true rfl, Nat.le_of_ble_eq_true rfl⟩ (Nat.le_of_ble_eq_true rfl) (zw_dg dk_M_lift 7 rfl) ?_
  refine r_if_eq X (pc := 14) (tgt := 25) (zw_dg dk_M_lift 8 rfl) (by decide) (fun q5 => ?_) (fun q5 => ?_)
  · --
    have p4 : (¬ (¬ (fn_M_in i1.toInt64 0 3) = 0)) := (fun z => z q5)
    have hsem := zw_ifp p4 hsem
    refine r_iconst X (pc := 25) (v := (-1)) (zw_dg dk_M_lift 13 rfl) (by decide) ?_
    obtain ⟨rfl, rfl⟩ := zw_in2 hsem
    exact r_iret X (pc := 26) rfl (zw_dg dk_M_lift 14 rfl)
  · --
    have p4 : ¬ (¬ (¬ (fn_M_in i1.toInt64 0 3) = 0)) := (fun q => q q5)
    have hsem := zw_ifn p4 hsem
    refine r_aload_n X (pc := 17) (i := 0) (zw_dg dk_M_lift 9 rfl) rfl rfl ?_
    refine r_iload_n X (pc := 18) (i := 2) (zw_dg dk_M_lift 10 rfl) rfl rfl ?_
    obtain ⟨r6, hr6, hsem⟩ := zw_bd hsem
    refine r_callVi X (pc := 19) (As := [_]) (st := []) (km_M_isPay hS hr6) ce_M_isPay kw_1688 (zo hS 71 rfl rfl) rfl rfl ⟨Nat.le_of_ble_eq_true rfl, Nat.le_of_ble_eq_true rfl⟩ (Nat.le_of_ble_eq_true rfl) (zw_dg dk_M_lift 11 rfl) ?_
    refine r_if_ne X (pc := 22) (tgt := 27) (zw_dg dk_M_lift 12 rfl) (by decide) (fun q8 => ?_) (fun q8 => ?_)
    · --
      have p7 : ¬ (¬ (¬ r6 = 0)) := (fun q => q q8)
      have hsem := zw_ifn p7 hsem
      refine r_aload_n X (pc := 27) (i := 0) (zw_dg dk_M_lift 15 rfl) rfl rfl ?_
      refine r_iload_n X (pc := 28) (i := 2) (zw_dg dk_M_lift 16 rfl) rfl rfl ?_
      obtain ⟨c9, hc9, hsem⟩ := zw_bd hsem
      refine r_callVv X (pc := 29) (As := [_]) (st := []) (km_M_layPay hS hc9) ce_M_layPay kw_1700 (zo hS 71 rfl rfl) rfl rfl ⟨Nat.le_of_ble_eq_true rfl, Nat.le_of_ble_eq_true rfl⟩ (Nat.le_of_ble_eq_true rfl) (zw_dg dk_M_lift 17 rfl) ?_
      refine r_aload_n X (pc := 32) (i := 0) (zw_dg dk_M_lift 18 rfl) rfl rfl ?_
      refine r_getR X (pc := 33) (r := 84) ci_M (zo hS 71 rfl rfl) rfl (zr hS 71 21 rfl rfl) lk_M_46 (zw_dg dk_M_lift 19 rfl) ?_
      refine r_iconst X (pc := 36) (v := 0) (zw_dg dk_M_lift 20 rfl) (by decide) ?_
      obtain ⟨x10, hx10, hsem⟩ := zw_bd hsem
      refine r_iald X (pc := 37) (zo hS 84 rfl rfl) hx10 (zw_dg dk_M_lift 21 rfl) ?_
      refine r_istore_n X (pc := 38) (i := 3) (zw_dg dk_M_lift 22 rfl) rfl (by decide) rfl ?_
      refine r_iconst X (pc := 39) (v := 0) (zw_dg dk_M_lift 23 rfl) (by decide) ?_
      refine r_istore X (pc := 40) (i := 4) (zw_dg dk_M_lift 24 rfl) (by decide) rfl ?_
      obtain ⟨least13, hl14, hsl14⟩ := zw_bd hsem
      refine r_loop (pc := 42) (pce := 92) hl14 (fun (least11, s12) => [some (.ref 71), some (.int i1), some (.int p2), some (.int least11), some (.int s12), none] : Int32 × Int32 → zw_Lc) (fun (least11, s12) => c9 : Int32 × Int32 → zw_Ct) (fun least13 => [some (.ref 71), some (.int i1), some (.int p2), some (.int least13), none, none] : Int32 → zw_Lc) (fun least13 => c9 : Int32 → zw_Ct) ?_ rfl rfl ?_
      · rintro ⟨least11, s12⟩ rr hsem hK hP
        try unfold fn_M_lift_l1 at hsem
        refine r_iload X (pc := 42) (i := 4) (zw_dg dk_M_lift 25 rfl) rfl ?_
        refine r_aload_n X (pc := 44) (i := 0) (zw_dg dk_M_lift 26 rfl) rfl rfl ?_
        refine r_getI X (pc := 45) ci_M (zo hS 71 rfl rfl) rfl lk_M_113 (zw_dg dk_M_lift 27 rfl) ?_
        refine r_icmp_ge X (pc := 48) (tgt := 92) (zw_dg dk_M_lift 28 rfl) (by decide) (fun q16 => ?_) (fun q16 => ?_)
        · --
          have p15 : ¬ (s12 < (c9.1 71 2)) := (Int32.not_lt.mpr q16)
          have hsem := zw_ifn p15 hsem
          have jj := hK _ (Option.some.inj hsem).symm
          exact (r_fgt [4] rfl jj)
        · --
          have p15 : (s12 < (c9.1 71 2)) := (Int32.not_le.mp q16)
          have hsem := zw_ifp p15 hsem
          refine r_iconst X (pc := 51) (v := 0) (zw_dg dk_M_lift 29 rfl) (by decide) ?_
          refine r_istore X (pc := 52) (i := 5) (zw_dg dk_M_lift 30 rfl) (by decide) rfl ?_
          obtain ⟨least19, hl20, hsl20⟩ := zw_bd hsem
          refine r_loop (pc := 54) (pce := 86) hl20 (fun (least17, e18) => [some (.ref 71), some (.int i1), some (.int p2), some (.int least17), some (.int s12), some (.int e18)] : Int32 × Int32 → zw_Lc) (fun (least17, e18) => c9 : Int32 × Int32 → zw_Ct) (fun least19 => [some (.ref 71), some (.int i1), some (.int p2), some (.int least19), some (.int s12), none] : Int32 → zw_Lc) (fun least19 => c9 : Int32 → zw_Ct) ?_ rfl rfl ?_
          · rintro ⟨least17, e18⟩ rr hsem hK hP
            try unfold fn_M_lift_l2 at hsem
            refine r_iload X (pc := 54) (i := 5) (zw_dg dk_M_lift 31 rfl) rfl ?_
            refine r_aload_n X (pc := 56) (i := 0) (zw_dg dk_M_lift 32 rfl) rfl rfl ?_
            refine r_getI X (pc := 57) ci_M (zo hS 71 rfl rfl) rfl lk_M_9 (zw_dg dk_M_lift 33 rfl) ?_
            refine r_icmp_ge X (pc := 60) (tgt := 86) (zw_dg dk_M_lift 34 rfl) (by decide) (fun q22 => ?_) (fun q22 => ?_)
            · --
              have p21 : ¬ (e18 < (c9.1 71 0)) := (Int32.not_lt.mpr q22)
              have hsem := zw_ifn p21 hsem
              have jj := hK _ (Option.some.inj hsem).symm
              exact (r_fgt [5] rfl jj)
            · --
              have p21 : (e18 < (c9.1 71 0)) := (Int32.not_le.mp q22)
              have hsem := zw_ifp p21 hsem
              refine r_iload_n X (pc := 63) (i := 3) (zw_dg dk_M_lift 35 rfl) rfl rfl ?_
              refine r_aload_n X (pc := 64) (i := 0) (zw_dg dk_M_lift 36 rfl) rfl rfl ?_
              refine r_getR X (pc := 65) (r := 84) ci_M (zo hS 71 rfl rfl) rfl (zr hS 71 21 rfl rfl) lk_M_46 (zw_dg dk_M_lift 37 rfl) ?_
              refine r_iconst X (pc := 68) (v := 4) (zw_dg dk_M_lift 38 rfl) (by decide) ?_
              refine r_iload X (pc := 69) (i := 4) (zw_dg dk_M_lift 39 rfl) rfl ?_
              refine r_imul X (pc := 71) (zw_dg dk_M_lift 40 rfl)  ?_
              refine r_iload X (pc := 72) (i := 5) (zw_dg dk_M_lift 41 rfl) rfl ?_
              refine r_iadd X (pc := 74) (zw_dg dk_M_lift 42 rfl)  ?_
              obtain ⟨x23, hx23, hsem⟩ := zw_bd hsem
              refine r_iald X (pc := 75) (zo hS 84 rfl rfl) hx23 (zw_dg dk_M_lift 43 rfl) ?_
              refine r_mmin X (pc := 76) kw_1632 mws_min kw_88 mwc_min ⟨Nat.le_of_ble_eq_true rfl, Nat.le_of_ble_eq_true rfl⟩ (st := []) (Nat.le_of_ble_eq_true rfl) (zw_dg dk_M_lift 44 rfl) ?_
              obtain ⟨least24, hleast24, hsem⟩ := zw_bd hsem
              refine zw_topI hleast24 ?_
              refine r_istore_n X (pc := 79) (i := 3) (zw_dg dk_M_lift 45 rfl) rfl (by decide) rfl ?_
              refine r_iinc X (pc := 80) (i := 5) (k := 1) (zw_dg dk_M_lift 46 rfl) rfl (by decide) (by decide) rfl ?_
              refine r_goto X (pc := 83) (tgt := 54) (zw_dg dk_M_lift 47 rfl) (by decide) ?_
              have jj := hP _ (Option.some.inj hsem).symm
              exact (r_fgt [] rfl jj)
          have hsem := hsl20
          refine r_iinc X (pc := 86) (i := 4) (k := 1) (zw_dg dk_M_lift 48 rfl) rfl (by decide) (by decide) rfl ?_
          refine r_goto X (pc := 89) (tgt := 42) (zw_dg dk_M_lift 49 rfl) (by decide) ?_
          have jj := hP _ (Option.some.inj hsem).symm
          exact (r_fgt [] rfl jj)
      have hsem := hsl14
      refine r_aload_n X (pc := 92) (i := 0) (zw_dg dk_M_lift 50 rfl) rfl rfl ?_
      refine r_iload_n X (pc := 93) (i := 1) (zw_dg dk_M_lift 51 rfl) rfl rfl ?_
      refine r_iload_n X (pc := 94) (i := 3) (zw_dg dk_M_lift 52 rfl) rfl rfl ?_
      obtain ⟨c25, hc25, hsem⟩ := zw_bd hsem
      refine r_callVv X (pc := 95) (As := [_, _]) (st := []) (km_M_become hS hc25) ce_M_become kw_1790 (zo hS 71 rfl rfl) rfl rfl ⟨Nat.le_of_ble_eq_true rfl, Nat.le_of_ble_eq_true rfl⟩ (Nat.le_of_ble_eq_true rfl) (zw_dg dk_M_lift 53 rfl) ?_
      refine r_iload_n X (pc := 98) (i := 3) (zw_dg dk_M_lift 54 rfl) rfl rfl ?_
      refine r_ineg X (pc := 99) (zw_dg dk_M_lift 55 rfl)  ?_
      obtain ⟨rfl, rfl⟩ := zw_in2 hsem
      exact r_iret X (pc := 100) rfl (zw_dg dk_M_lift 56 rfl)
    · --
      have p7 : (¬ (¬ r6 = 0)) := (fun z => z q8)
      have hsem := zw_ifp p7 hsem
      refine r_iconst X (pc := 25) (v := (-1)) (zw_dg dk_M_lift 13 rfl) (by decide) ?_
      obtain ⟨rfl, rfl⟩ := zw_in2 hsem
      exact r_iret X (pc := 26) rfl (zw_dg dk_M_lift 14 rfl)
def y_M_rank : MethodName := ⟨R_M, "rank", "(III)I"⟩
abbrev b_M_rank : ByteArray := prog_14_method_53_code
def dl_M_rank : List (Nat × Instr × Nat) := [(0, .aload_n 0, 1), (1, .iconst 0, 1), (2, .putfield 97, 3), (5, .aload_n 0, 1), (6, .iload_n 1, 1), (7, .invokevirtual 222, 3), (10, .ifCond .eq 15, 3), (13, .aload_n 0, 1), (14, .iload_n 2, 1), (15, .invokevirtual 142, 3), (18, .ifCond .eq 7, 3), (21, .iload_n 3, 1), (22, .ifCond .ge 5, 3), (25, .iconst (-1), 1), (26, .ireturn, 1), (27, .aload_n 0, 1), (28, .iload_n 1, 1), (29, .invokevirtual 229, 3), (32, .iconst 0, 1), (33, .istore 4, 2), (35, .iload 4, 2), (37, .aload_n 0, 1), (38, .getfield 113, 3), (41, .if_icmp .ge 111, 3), (44, .iconst 0, 1), (45, .istore 5, 2), (47, .iconst 0, 1), (48, .istore 6, 2), (50, .iload 6, 2), (52, .aload_n 0, 1), (53, .getfield 113, 3), (56, .if_icmp .ge 62, 3), (59, .iload 5, 2), (61, .aload_n 0, 1), (62, .iload 6, 2), (64, .iload_n 2, 1), (65, .invokevirtual 233, 3), (68, .aload_n 0, 1), (69, .iload 4, 2), (71, .iload_n 2, 1), (72, .invokevirtual 233, 3), (75, .lcmp, 1), (76, .ifCond .gt 28, 3), (79, .iload 6, 2), (81, .iload 4, 2), (83, .if_icmp .ge 25, 3), (86, .aload_n 0, 1), (87, .iload 6, 2), (89, .iload_n 2, 1), (90, .invokevirtual 233, 3), (93, .aload_n 0, 1), (94, .iload 4, 2), (96, .iload_n 2, 1), (97, .invokevirtual 233, 3), (100, .lcmp, 1), (101, .ifCond .ne 7, 3), (104, .iconst 1, 1), (105, .goto 4, 3), (108, .iconst 0, 1), (109, .iadd, 1), (110, .istore 5, 2), (112, .iinc 6 1, 3), (115, .goto (-65), 3), (118, .iload 5, 2), (120, .iload_n 3, 1), (121, .if_icmp .eq 6, 3), (124, .goto 22, 3), (127, .aload_n 0, 1), (128, .iconst 0, 1), (129, .putfield 100, 3), (132, .aload_n 0, 1), (133, .aload_n 0, 1), (134, .iload 4, 2), (136, .iload_n 2, 1), (137, .invokevirtual 233, 3), (140, .invokevirtual 109, 3), (143, .iload 4, 2), (145, .ireturn, 1), (146, .iinc 4 1, 3), (149, .goto (-114), 3), (152, .bipush (-2), 2), (154, .ireturn, 1)]
theorem dk_M_rank : zw_dk b_M_rank dl_M_rank = true := by decide +kernel
theorem ce_M_rank : zw_cev y_M_rank b_M_rank 7 (some .int) 3 := ⟨⟨kt_in 1801 (by decide +kernel) rfl, kt_in 98 (by decide +kernel) rfl, by decide +kernel⟩, kt_in 1799 (by decide +kernel) rfl, kt_in 1800 (by decide +kernel) rfl⟩
def fn_M_rank_l2 (c12 : zw_Ct) (t2 : Int32) (s11 : Int32) : Int32 × Int32 → Option ((Int32) ⊕ (Int32 × Int32)) := fun (ahead17, o18) =>
  if (o18 < (c12.1 71 2)) then
  ((fn_M_worth c12 o18 t2).bind fun r23 =>
  (fn_M_worth c12 s11 t2).bind fun r24 =>
  ((if (r24 < r23) then some true else
  (if (o18 < s11) then
  ((fn_M_worth c12 o18 t2).bind fun r29 =>
  (fn_M_worth c12 s11 t2).bind fun r30 =>
  some (decide (r29 = r30)))
  else some false)).bind fun b26 =>
  if b26 = true then
  (some (1 : Int32))
  else
  (some (0 : Int32))).bind fun v25 =>
  (some ((ahead17 + v25) : Int32)).bind fun ahead32 =>
  some (.inr (ahead32, (o18 + 1))))
  else
  (some (.inl ahead17))
def fn_M_rank_l1 (t2 : Int32) (k3 : Int32) : Int32 × zw_Ct → Option (((Int32 × zw_Ct) ⊕ (zw_Ct)) ⊕ (Int32 × zw_Ct)) := fun (s11, c12) =>
  if (s11 < (c12.1 71 2)) then
  ((zw_whl (fn_M_rank_l2 c12 t2 s11) zw_F (0, 0)).bind fun ahead19 =>
  if (¬ ahead19 = k3) then
  (some (.inr ((s11 + 1), c12)))
  else
  ((some (zw_wI c12 71 8 0)).bind fun c35 =>
  (fn_M_worth c35 s11 t2).bind fun r36 =>
  (fn_M_tell c35 r36).bind fun c37 =>
  some (.inl (.inl (s11, c37)))))
  else
  (some (.inl (.inr c12)))
def fn_M_rank (c : zw_Ct) (p1 : Int32) (t2 : Int32) (k3 : Int32) : Option (Int32 × zw_Ct) :=
  (some (zw_wI c 71 9 0)).bind fun c4 =>
  (fn_M_isPay c4 p1).bind fun r5 =>
  if (((¬ (¬ r5 = 0)) ∨ (¬ (¬ (fn_M_isSaying c4 t2) = 0))) ∨ (k3 < 0)) then
  (some ((-1), c4))
  else
  ((fn_M_layPay c4 p1).bind fun c10 =>
  (zw_whl (fn_M_rank_l1 t2 k3) zw_F (0, c10)).bind fun q => match q with
    | .inl w => some w
    | .inr c13 =>
    some ((-2), c13))
set_option maxRecDepth 100000 in
theorem km_M_rank {l : Launch} {g : zw_G} {rr : zw_RR} {sh : zw_Sh} {c : zw_Ct} {p1 : Int32} {t2 : Int32} {k3 : Int32} {r : Int32} {c2 : zw_Ct} (hS : zw_Ok 0 101 sh rr) (hsem : fn_M_rank c p1 t2 k3 = some (r, c2)) : zw_Met l g y_M_rank b_M_rank 7 (some .int) 107 rr sh [.ref 71, .int p1, .int t2, .int k3] c (some (.int r)) c2 := by
  unfold fn_M_rank at hsem
  refine zw_Met.of (by decide +kernel) (Nat.le_of_ble_eq_true rfl) (fun p e s m args below meth cd X => ?_)
  refine zw_eL (L2 := [some (.ref 71), some (.int p1), some (.int t2), some (.int k3), none, none, none]) rfl ?_
  refine r_aload_n X (pc := 0) (i := 0) (zw_dg dk_M_rank 0 rfl) rfl rfl ?_
  refine r_iconst X (pc := 1) (v := 0) (zw_dg dk_M_rank 1 rfl) (by decide) ?_
  refine r_putI X (pc := 2) ci_M (zo hS 71 rfl rfl) rfl lk_M_97 rfl ⟨rfl, rfl⟩ (zw_dg dk_M_rank 2 rfl) ?_
  obtain ⟨c4, hc4, hsem⟩ := zw_bd hsem
  refine zw_topC hc4 ?_
  refine r_aload_n X (pc := 5) (i := 0) (zw_dg dk_M_rank 3 rfl) rfl rfl ?_
  refine r_iload_n X (pc := 6) (i := 1) (zw_dg dk_M_rank 4 rfl) rfl rfl ?_
  obtain ⟨r5, hr5, hsem⟩ := zw_bd hsem
  refine r_callVi X (pc := 7) (As := [_]) (st := []) (km_M_isPay hS hr5) ce_M_isPay kw_1688 (zo hS 71 rfl rfl) rfl rfl ⟨Nat.le_of_ble_eq_true rfl, Nat.le_of_ble_eq_true rfl⟩ (Nat.le_of_ble_eq_true rfl) (zw_dg dk_M_rank 5 rfl) ?_
  refine zw_cnd (P := (((¬ (¬ r5 = 0)) ∨ (¬ (¬ (fn_M_isSaying c4 t2) = 0))) ∨ (k3 < 0))) (J1 := 25) (J2 := 27) (st2 := []) (fun jT jF => ?_) (fun p6 => ?_) (fun p6 => ?_)
  · --
    refine r_if_eq X (pc := 10) (tgt := 25) (zw_dg dk_M_rank 6 rfl) (by decide) (fun q7 => ?_) (fun q7 => ?_)
    · --
      exact jT (Or.inl (Or.inl (fun z => z q7)))
    · --
      refine r_aload_n X (pc := 13) (i := 0) (zw_dg dk_M_rank 7 rfl) rfl rfl ?_
      refine r_iload_n X (pc := 14) (i := 2) (zw_dg dk_M_rank 8 rfl) rfl rfl ?_
      refine r_callVi X (pc := 15) (As := [_]) (st := []) (km_M_isSaying hS rfl) ce_M_isSaying kw_1609 (zo hS 71 rfl rfl) rfl rfl ⟨Nat.le_of_ble_eq_true rfl, Nat.le_of_ble_eq_true rfl⟩ (Nat.le_of_ble_eq_true rfl) (zw_dg dk_M_rank 9 rfl) ?_
      refine r_if_eq X (pc := 18) (tgt := 25) (zw_dg dk_M_rank 10 rfl) (by decide) (fun q8 => ?_) (fun q8 => ?_)
      · --
        exact jT (Or.inl (Or.inr (fun z => z q8)))
      · --
        refine r_iload_n X (pc := 21) (i := 3) (zw_dg dk_M_rank 11 rfl) rfl rfl ?_
        refine r_if_ge X (pc := 22) (tgt := 27) (zw_dg dk_M_rank 12 rfl) (by decide) (fun q9 => ?_) (fun q9 => ?_)
        · --
          exact jF (fun q => q.elim (fun q => q.elim (fun q => q q7) (fun q => q q8)) (Int32.not_lt.mpr q9))
        · --
          exact jT (Or.inr (Int32.not_le.mp q9))
  · --
    have hsem := zw_ifp p6 hsem
    refine r_iconst X (pc := 25) (v := (-1)) (zw_dg dk_M_rank 13 rfl) (by decide) ?_
    obtain ⟨rfl, rfl⟩ := zw_in2 hsem
    exact r_iret X (pc := 26) rfl (zw_dg dk_M_rank 14 rfl)
  · --
    have hsem := zw_ifn p6 hsem
    refine r_aload_n X (pc := 27) (i := 0) (zw_dg dk_M_rank 15 rfl) rfl rfl ?_
    refine r_iload_n X (pc := 28) (i := 1) (zw_dg dk_M_rank 16 rfl) rfl rfl ?_
    obtain ⟨c10, hc10, hsem⟩ := zw_bd hsem
    refine r_callVv X (pc := 29) (As := [_]) (st := []) (km_M_layPay hS hc10) ce_M_layPay kw_1700 (zo hS 71 rfl rfl) rfl rfl ⟨Nat.le_of_ble_eq_true rfl, Nat.le_of_ble_eq_true rfl⟩ (Nat.le_of_ble_eq_true rfl) (zw_dg dk_M_rank 17 rfl) ?_
    refine r_iconst X (pc := 32) (v := 0) (zw_dg dk_M_rank 18 rfl) (by decide) ?_
    refine r_istore X (pc := 33) (i := 4) (zw_dg dk_M_rank 19 rfl) (by decide) rfl ?_
    obtain ⟨l14, hl14, hsl14⟩ := zw_bd hsem
    refine r_loopR (pc := 35) (pce := 152) hl14 (fun (s11, c12) => [some (.ref 71), some (.int p1), some (.int t2), some (.int k3), some (.int s11), none, none] : Int32 × zw_Ct → zw_Lc) (fun (s11, c12) => c12 : Int32 × zw_Ct → zw_Ct) (fun c13 => [some (.ref 71), some (.int p1), some (.int t2), some (.int k3), none, none, none] : zw_Ct → zw_Lc) (fun c13 => c13 : zw_Ct → zw_Ct) (fun w => w = (r, c2)) ?_ rfl rfl ?_ ?_
    · rintro ⟨s11, c12⟩ rr hsem hR hK hP
      try unfold fn_M_rank_l1 at hsem
      refine r_iload X (pc := 35) (i := 4) (zw_dg dk_M_rank 20 rfl) rfl ?_
      refine r_aload_n X (pc := 37) (i := 0) (zw_dg dk_M_rank 21 rfl) rfl rfl ?_
      refine r_getI X (pc := 38) ci_M (zo hS 71 rfl rfl) rfl lk_M_113 (zw_dg dk_M_rank 22 rfl) ?_
      refine r_icmp_ge X (pc := 41) (tgt := 152) (zw_dg dk_M_rank 23 rfl) (by decide) (fun q16 => ?_) (fun q16 => ?_)
      · --
        have p15 : ¬ (s11 < (c12.1 71 2)) := (Int32.not_lt.mpr q16)
        have hsem := zw_ifn p15 hsem
        have jj := hK _ (Option.some.inj hsem).symm
        exact (r_fgt [4] rfl jj)
      · --
        have p15 : (s11 < (c12.1 71 2)) := (Int32.not_le.mp q16)
        have hsem := zw_ifp p15 hsem
        refine r_iconst X (pc := 44) (v := 0) (zw_dg dk_M_rank 24 rfl) (by decide) ?_
        refine r_istore X (pc := 45) (i := 5) (zw_dg dk_M_rank 25 rfl) (by decide) rfl ?_
        refine r_iconst X (pc := 47) (v := 0) (zw_dg dk_M_rank 26 rfl) (by decide) ?_
        refine r_istore X (pc := 48) (i := 6) (zw_dg dk_M_rank 27 rfl) (by decide) rfl ?_
        obtain ⟨ahead19, hl20, hsl20⟩ := zw_bd hsem
        refine r_loop (pc := 50) (pce := 118) hl20 (fun (ahead17, o18) => [some (.ref 71), some (.int p1), some (.int t2), some (.int k3), some (.int s11), some (.int ahead17), some (.int o18)] : Int32 × Int32 → zw_Lc) (fun (ahead17, o18) => c12 : Int32 × Int32 → zw_Ct) (fun ahead19 => [some (.ref 71), some (.int p1), some (.int t2), some (.int k3), some (.int s11), some (.int ahead19), none] : Int32 → zw_Lc) (fun ahead19 => c12 : Int32 → zw_Ct) ?_ rfl rfl ?_
        · rintro ⟨ahead17, o18⟩ rr hsem hK hP
          try unfold fn_M_rank_l2 at hsem
          refine r_iload X (pc := 50) (i := 6) (zw_dg dk_M_rank 28 rfl) rfl ?_
          refine r_aload_n X (pc := 52) (i := 0) (zw_dg dk_M_rank 29 rfl) rfl rfl ?_
          refine r_getI X (pc := 53) ci_M (zo hS 71 rfl rfl) rfl lk_M_113 (zw_dg dk_M_rank 30 rfl) ?_
          refine r_icmp_ge X (pc := 56) (tgt := 118) (zw_dg dk_M_rank 31 rfl) (by decide) (fun q22 => ?_) (fun q22 => ?_)
          · --
            have p21 : ¬ (o18 < (c12.1 71 2)) := (Int32.not_lt.mpr q22)
            have hsem := zw_ifn p21 hsem
            have jj := hK _ (Option.some.inj hsem).symm
            exact (r_fgt [6] rfl jj)
          · --
            have p21 : (o18 < (c12.1 71 2)) := (Int32.not_le.mp q22)
            have hsem := zw_ifp p21 hsem
            refine r_iload X (pc := 59) (i := 5) (zw_dg dk_M_rank 32 rfl) rfl ?_
            refine r_aload_n X (pc := 61) (i := 0) (zw_dg dk_M_rank 33 rfl) rfl rfl ?_
            refine r_iload X (pc := 62) (i := 6) (zw_dg dk_M_rank 34 rfl) rfl ?_
            refine r_iload_n X (pc := 64) (i := 2) (zw_dg dk_M_rank 35 rfl) rfl rfl ?_
            obtain ⟨r23, hr23, hsem⟩ := zw_bd hsem
            refine r_callVl X (pc := 65) (As := [_, _]) (st := [.int ahead17]) (km_M_worth hS hr23) ce_M_worth kw_1712 (zo hS 71 rfl rfl) rfl rfl ⟨Nat.le_of_ble_eq_true rfl, Nat.le_of_ble_eq_true rfl⟩ (Nat.le_of_ble_eq_true rfl) (zw_dg dk_M_rank 36 rfl) ?_
            refine r_aload_n X (pc := 68) (i := 0) (zw_dg dk_M_rank 37 rfl) rfl rfl ?_
            refine r_iload X (pc := 69) (i := 4) (zw_dg dk_M_rank 38 rfl) rfl ?_
            refine r_iload_n X (pc := 71) (i := 2) (zw_dg dk_M_rank 39 rfl) rfl rfl ?_
            obtain ⟨r24, hr24, hsem⟩ := zw_bd hsem
            refine r_callVl X (pc := 72) (As := [_, _]) (st := [.long r23, .int ahead17]) (km_M_worth hS hr24) ce_M_worth kw_1712 (zo hS 71 rfl rfl) rfl rfl ⟨Nat.le_of_ble_eq_true rfl, Nat.le_of_ble_eq_true rfl⟩ (Nat.le_of_ble_eq_true rfl) (zw_dg dk_M_rank 40 rfl) ?_
            obtain ⟨v25, hv25, hsv25⟩ := zw_bd hsem
            refine zw_terO (f := Value.int) (v := v25) (J := 109) (st2 := [.int ahead17]) (c2 := c12) (fun jj => ?_) ?_
            · have hsem := hv25
              obtain ⟨b26, hb26, hsb26⟩ := zw_bd hsem
              refine zw_cndB (b := b26) (J1 := 104) (J2 := 108) (st2 := [.int ahead17]) (fun jT jF => ?_) (fun hbb26 => ?_) (fun hbb26 => ?_)
              · have hsem := hb26
                refine r_lcmp_gt X (pc := 75) (tgt := 104) (zw_dg dk_M_rank 41 rfl) (zw_dg dk_M_rank 42 rfl) (by decide) (fun q27 => ?_) (fun q27 => ?_)
                · --
                  have hsem := zw_ifp q27 hsem
                  exact jT (Option.some.inj hsem).symm
                · --
                  have hsem := zw_ifn q27 hsem
                  refine r_iload X (pc := 79) (i := 6) (zw_dg dk_M_rank 43 rfl) rfl ?_
                  refine r_iload X (pc := 81) (i := 4) (zw_dg dk_M_rank 44 rfl) rfl ?_
                  refine r_icmp_ge X (pc := 83) (tgt := 108) (zw_dg dk_M_rank 45 rfl) (by decide) (fun q28 => ?_) (fun q28 => ?_)
                  · --
                    have hsem := zw_ifn (Int32.not_lt.mpr q28) hsem
                    exact jF (Option.some.inj hsem).symm
                  · --
                    have hsem := zw_ifp (Int32.not_le.mp q28) hsem
                    refine r_aload_n X (pc := 86) (i := 0) (zw_dg dk_M_rank 46 rfl) rfl rfl ?_
                    refine r_iload X (pc := 87) (i := 6) (zw_dg dk_M_rank 47 rfl) rfl ?_
                    refine r_iload_n X (pc := 89) (i := 2) (zw_dg dk_M_rank 48 rfl) rfl rfl ?_
                    obtain ⟨r29, hr29, hsem⟩ := zw_bd hsem
                    refine r_callVl X (pc := 90) (As := [_, _]) (st := [.int ahead17]) (km_M_worth hS hr29) ce_M_worth kw_1712 (zo hS 71 rfl rfl) rfl rfl ⟨Nat.le_of_ble_eq_true rfl, Nat.le_of_ble_eq_true rfl⟩ (Nat.le_of_ble_eq_true rfl) (zw_dg dk_M_rank 49 rfl) ?_
                    refine r_aload_n X (pc := 93) (i := 0) (zw_dg dk_M_rank 50 rfl) rfl rfl ?_
                    refine r_iload X (pc := 94) (i := 4) (zw_dg dk_M_rank 51 rfl) rfl ?_
                    refine r_iload_n X (pc := 96) (i := 2) (zw_dg dk_M_rank 52 rfl) rfl rfl ?_
                    obtain ⟨r30, hr30, hsem⟩ := zw_bd hsem
                    refine r_callVl X (pc := 97) (As := [_, _]) (st := [.long r29, .int ahead17]) (km_M_worth hS hr30) ce_M_worth kw_1712 (zo hS 71 rfl rfl) rfl rfl ⟨Nat.le_of_ble_eq_true rfl, Nat.le_of_ble_eq_true rfl⟩ (Nat.le_of_ble_eq_true rfl) (zw_dg dk_M_rank 53 rfl) ?_
                    refine r_lcmp_ne X (pc := 100) (tgt := 108) (zw_dg dk_M_rank 54 rfl) (zw_dg dk_M_rank 55 rfl) (by decide) (fun q31 => ?_) (fun q31 => ?_)
                    · --
                      exact jF (zw_dF hsem q31)
                    · --
                      exact jT (zw_dT hsem q31)
              · have hsem := zw_ifp hbb26 hsb26
                refine r_iconst X (pc := 104) (v := 1) (zw_dg dk_M_rank 56 rfl) (by decide) ?_
                refine r_goto X (pc := 105) (tgt := 109) (zw_dg dk_M_rank 57 rfl) (by decide) ?_
                cases hsem; exact jj
              · have hsem := zw_ifn (by rw [hbb26]; exact Bool.false_ne_true) hsb26
                refine r_iconst X (pc := 108) (v := 0) (zw_dg dk_M_rank 58 rfl) (by decide) ?_
                cases hsem; exact jj
            have hsem := hsv25
            refine r_iadd X (pc := 109) (zw_dg dk_M_rank 59 rfl)  ?_
            obtain ⟨ahead32, hahead32, hsem⟩ := zw_bd hsem
            refine zw_topI hahead32 ?_
            refine r_istore X (pc := 110) (i := 5) (zw_dg dk_M_rank 60 rfl) (by decide) rfl ?_
            refine r_iinc X (pc := 112) (i := 6) (k := 1) (zw_dg dk_M_rank 61 rfl) rfl (by decide) (by decide) rfl ?_
            refine r_goto X (pc := 115) (tgt := 50) (zw_dg dk_M_rank 62 rfl) (by decide) ?_
            have jj := hP _ (Option.some.inj hsem).symm
            exact (r_fgt [] rfl jj)
        have hsem := hsl20
        refine r_iload X (pc := 118) (i := 5) (zw_dg dk_M_rank 63 rfl) rfl ?_
        refine r_iload_n X (pc := 120) (i := 3) (zw_dg dk_M_rank 64 rfl) rfl rfl ?_
        refine r_icmp_eq X (pc := 121) (tgt := 127) (zw_dg dk_M_rank 65 rfl) (by decide) (fun q34 => ?_) (fun q34 => ?_)
        · --
          have p33 : ¬ (¬ ahead19 = k3) := (fun z => z q34)
          have hsem := zw_ifn p33 hsem
          refine r_aload_n X (pc := 127) (i := 0) (zw_dg dk_M_rank 67 rfl) rfl rfl ?_
          refine r_iconst X (pc := 128) (v := 0) (zw_dg dk_M_rank 68 rfl) (by decide) ?_
          refine r_putI X (pc := 129) ci_M (zo hS 71 rfl rfl) rfl lk_M_100 rfl ⟨rfl, rfl⟩ (zw_dg dk_M_rank 69 rfl) ?_
          obtain ⟨c35, hc35, hsem⟩ := zw_bd hsem
          refine zw_topC hc35 ?_
          refine r_aload_n X (pc := 132) (i := 0) (zw_dg dk_M_rank 70 rfl) rfl rfl ?_
          refine r_aload_n X (pc := 133) (i := 0) (zw_dg dk_M_rank 71 rfl) rfl rfl ?_
          refine r_iload X (pc := 134) (i := 4) (zw_dg dk_M_rank 72 rfl) rfl ?_
          refine r_iload_n X (pc := 136) (i := 2) (zw_dg dk_M_rank 73 rfl) rfl rfl ?_
          obtain ⟨r36, hr36, hsem⟩ := zw_bd hsem
          refine r_callVl X (pc := 137) (As := [_, _]) (st := [.ref 71]) (km_M_worth hS hr36) ce_M_worth kw_1712 (zo hS 71 rfl rfl) rfl rfl ⟨Nat.le_of_ble_eq_true rfl, Nat.le_of_ble_eq_true rfl⟩ (Nat.le_of_ble_eq_true rfl) (zw_dg dk_M_rank 74 rfl) ?_
          obtain ⟨c37, hc37, hsem⟩ := zw_bd hsem
          refine r_callVv X (pc := 140) (As := [_]) (st := []) (km_M_tell hS hc37) ce_M_tell kw_1704 (zo hS 71 rfl rfl) rfl rfl ⟨Nat.le_of_ble_eq_true rfl, Nat.le_of_ble_eq_true rfl⟩ (Nat.le_of_ble_eq_true rfl) (zw_dg dk_M_rank 75 rfl) ?_
          refine r_iload X (pc := 143) (i := 4) (zw_dg dk_M_rank 76 rfl) rfl ?_
          have hret := hR _ (Option.some.inj hsem).symm
          cases hret
          exact r_iret X (pc := 145) rfl (zw_dg dk_M_rank 77 rfl)
        · --
          have p33 : (¬ ahead19 = k3) := q34
          have hsem := zw_ifp p33 hsem
          refine r_goto X (pc := 124) (tgt := 146) (zw_dg dk_M_rank 66 rfl) (by decide) ?_
          refine r_iinc X (pc := 146) (i := 4) (k := 1) (zw_dg dk_M_rank 78 rfl) rfl (by decide) (by decide) rfl ?_
          refine r_goto X (pc := 149) (tgt := 35) (zw_dg dk_M_rank 79 rfl) (by decide) ?_
          have jj := hP _ (Option.some.inj hsem).symm
          exact (r_fgt [5] rfl jj)
    · intro w hw
      subst hw
      exact Option.some.inj hsl14
    rintro c13 hw
    subst hw
    have hsem := hsl14
    refine r_bipush X (pc := 152) (v := (-2)) (zw_dg dk_M_rank 80 rfl) (by decide) ?_
    obtain ⟨rfl, rfl⟩ := zw_in2 hsem
    exact r_iret X (pc := 154) rfl (zw_dg dk_M_rank 81 rfl)
def y_M_tens : MethodName := ⟨R_M, "tens", "(I)I"⟩
abbrev b_M_tens : ByteArray := prog_14_method_54_code
def dl_M_tens : List (Nat × Instr × Nat) := [(0, .iconst 1, 1), (1, .istore_n 1, 1), (2, .iconst 0, 1), (3, .istore_n 2, 1), (4, .iload_n 2, 1), (5, .iload_n 0, 1), (6, .if_icmp .ge 14, 3), (9, .iload_n 1, 1), (10, .bipush 10, 2), (12, .imul, 1), (13, .istore_n 1, 1), (14, .iinc 2 1, 3), (17, .goto (-13), 3), (20, .iload_n 1, 1), (21, .ireturn, 1)]
theorem dk_M_tens : zw_dk b_M_tens dl_M_tens = true := by decide +kernel
theorem ce_M_tens : zw_ces y_M_tens b_M_tens 3 (some .int) 1 := ⟨⟨kt_in 1812 (by decide +kernel) rfl, kt_in 98 (by decide +kernel) rfl, by decide +kernel⟩, kt_in 1811 (by decide +kernel) rfl⟩
def fn_M_tens_l1 (many1 : Int32) : Int32 × Int32 → Option ((Int32) ⊕ (Int32 × Int32)) := fun (v2, k3) =>
  if (k3 < many1) then
  ((some ((v2 * 10) : Int32)).bind fun v8 =>
  some (.inr (v8, (k3 + 1))))
  else
  (some (.inl v2))
def fn_M_tens (many1 : Int32) : Option Int32 :=
  (zw_whl (fn_M_tens_l1 many1) zw_F (1, 0)).bind fun v4 =>
  some v4
set_option maxRecDepth 100000 in
theorem km_M_tens {l : Launch} {g : zw_G} {rr : zw_RR} {sh : zw_Sh} {c : zw_Ct} {many1 : Int32} {r : Int32} (hS : zw_Ok 0 101 sh rr) (hsem : fn_M_tens many1 = some r) : zw_Met l g y_M_tens b_M_tens 3 (some .int) 1 rr sh [.int many1] c (some (.int r)) c := by
  unfold fn_M_tens at hsem
  refine zw_Met.of (by decide +kernel) (Nat.le_of_ble_eq_true rfl) (fun p e s m args below meth cd X => ?_)
  refine zw_eL (L2 := [some (.int many1), none, none]) rfl ?_
  refine r_iconst X (pc := 0) (v := 1) (zw_dg dk_M_tens 0 rfl) (by decide) ?_
  refine r_istore_n X (pc := 1) (i := 1) (zw_dg dk_M_tens 1 rfl) rfl (by decide) rfl ?_
  refine r_iconst X (pc := 2) (v := 0) (zw_dg dk_M_tens 2 rfl) (by decide) ?_
  refine r_istore_n X (pc := 3) (i := 2) (zw_dg dk_M_tens 3 rfl) rfl (by decide) rfl ?_
  obtain ⟨v4, hl5, hsl5⟩ := zw_bd hsem
  refine r_loop (pc := 4) (pce := 20) hl5 (fun (v2, k3) => [some (.int many1), some (.int v2), some (.int k3)] : Int32 × Int32 → zw_Lc) (fun (v2, k3) => c : Int32 × Int32 → zw_Ct) (fun v4 => [some (.int many1), some (.int v4), none] : Int32 → zw_Lc) (fun v4 => c : Int32 → zw_Ct) ?_ rfl rfl ?_
  · rintro ⟨v2, k3⟩ rr hsem hK hP
    try unfold fn_M_tens_l1 at hsem
    refine r_iload_n X (pc := 4) (i := 2) (zw_dg dk_M_tens 4 rfl) rfl rfl ?_
    refine r_iload_n X (pc := 5) (i := 0) (zw_dg dk_M_tens 5 rfl) rfl rfl ?_
    refine r_icmp_ge X (pc := 6) (tgt := 20) (zw_dg dk_M_tens 6 rfl) (by decide) (fun q7 => ?_) (fun q7 => ?_)
    · --
      have p6 : ¬ (k3 < many1) := (Int32.not_lt.mpr q7)
      have hsem := zw_ifn p6 hsem
      have jj := hK _ (Option.some.inj hsem).symm
      exact (r_fgt [2] rfl jj)
    · --
      have p6 : (k3 < many1) := (Int32.not_le.mp q7)
      have hsem := zw_ifp p6 hsem
      refine r_iload_n X (pc := 9) (i := 1) (zw_dg dk_M_tens 7 rfl) rfl rfl ?_
      refine r_bipush X (pc := 10) (v := 10) (zw_dg dk_M_tens 8 rfl) (by decide) ?_
      refine r_imul X (pc := 12) (zw_dg dk_M_tens 9 rfl)  ?_
      obtain ⟨v8, hv8, hsem⟩ := zw_bd hsem
      refine zw_topI hv8 ?_
      refine r_istore_n X (pc := 13) (i := 1) (zw_dg dk_M_tens 10 rfl) rfl (by decide) rfl ?_
      refine r_iinc X (pc := 14) (i := 2) (k := 1) (zw_dg dk_M_tens 11 rfl) rfl (by decide) (by decide) rfl ?_
      refine r_goto X (pc := 17) (tgt := 4) (zw_dg dk_M_tens 12 rfl) (by decide) ?_
      have jj := hP _ (Option.some.inj hsem).symm
      exact (r_fgt [] rfl jj)
  have hsem := hsl5
  refine r_iload_n X (pc := 20) (i := 1) (zw_dg dk_M_tens 13 rfl) rfl rfl ?_
  cases hsem
  exact r_iret X (pc := 21) rfl (zw_dg dk_M_tens 14 rfl)
def y_M_bestBy : MethodName := ⟨R_M, "bestBy", "([I)J"⟩
abbrev b_M_bestBy : ByteArray := prog_14_method_55_code
def dl_M_bestBy : List (Nat × Instr × Nat) := [(0, .lconst 0, 1), (1, .lstore_n 2, 1), (2, .iconst 0, 1), (3, .istore 4, 2), (5, .iload 4, 2), (7, .aload_n 0, 1), (8, .getfield 113, 3), (11, .if_icmp .ge 71, 3), (14, .lconst 0, 1), (15, .lstore 5, 2), (17, .iconst 0, 1), (18, .istore 7, 2), (20, .iload 7, 2), (22, .aload_n 0, 1), (23, .getfield 9, 3), (26, .if_icmp .ge 33, 3), (29, .lload 5, 2), (31, .aload_n 1, 1), (32, .iload 7, 2), (34, .iaload, 1), (35, .i2l, 1), (36, .aload_n 0, 1), (37, .getfield 46, 3), (40, .iconst 4, 1), (41, .iload 4, 2), (43, .imul, 1), (44, .iload 7, 2), (46, .iadd, 1), (47, .iaload, 1), (48, .i2l, 1), (49, .lmul, 1), (50, .ladd, 1), (51, .lstore 5, 2), (53, .iinc 7 1, 3), (56, .goto (-36), 3), (59, .iload 4, 2), (61, .ifCond .ne 8, 3), (64, .lload 5, 2), (66, .goto 9, 3), (69, .lload_n 2, 1), (70, .lload 5, 2), (72, .invokestatic 237, 3), (75, .lstore_n 2, 1), (76, .iinc 4 1, 3), (79, .goto (-74), 3), (82, .lload_n 2, 1), (83, .lreturn, 1)]
theorem dk_M_bestBy : zw_dk b_M_bestBy dl_M_bestBy = true := by decide +kernel
theorem ce_M_bestBy : zw_cev y_M_bestBy b_M_bestBy 8 (some .long) 1 := ⟨⟨kt_in 1820 (by decide +kernel) rfl, kt_in 98 (by decide +kernel) rfl, by decide +kernel⟩, kt_in 1819 (by decide +kernel) rfl, kt_in 67 (by decide +kernel) rfl⟩
def fn_M_bestBy_l2 (c : zw_Ct) (cases1 : Nat) (s3 : Int32) : Int64 × Int32 → Option ((Int64) ⊕ (Int64 × Int32)) := fun (v8, e9) =>
  if (e9 < (c.1 71 0)) then
  ((zw_dI SH 0 c cases1 e9).bind fun x14 =>
  (zw_aI 1820 c 84 ((4 * s3) + e9)).bind fun x15 =>
  (some ((v8 + (x14.toInt64 * x15.toInt64)) : Int64)).bind fun v16 =>
  some (.inr (v16, (e9 + 1))))
  else
  (some (.inl v8))
def fn_M_bestBy_l1 (c : zw_Ct) (cases1 : Nat) : Int64 × Int32 → Option ((Int64) ⊕ (Int64 × Int32)) := fun (most2, s3) =>
  if (s3 < (c.1 71 2)) then
  ((zw_whl (fn_M_bestBy_l2 c cases1 s3) zw_F (0, 0)).bind fun v10 =>
  (some ((if (s3 = 0) then (v10 : Int64) else (if v10 < most2 then most2 else v10)) : Int64)).bind fun most18 =>
  some (.inr (most18, (s3 + 1))))
  else
  (some (.inl most2))
def fn_M_bestBy (c : zw_Ct) (cases1 : Nat) : Option Int64 :=
  (zw_whl (fn_M_bestBy_l1 c cases1) zw_F (0, 0)).bind fun most4 =>
  some most4
set_option maxRecDepth 100000 in
theorem km_M_bestBy {l : Launch} {g : zw_G} {rr : zw_RR} {sh : zw_Sh} {c : zw_Ct} {cases1 : Nat} {r : Int64} (hS : zw_Ok 0 101 sh rr) (hsem : fn_M_bestBy c cases1 = some r) : zw_Met l g y_M_bestBy b_M_bestBy 8 (some .long) 1 rr sh [.ref 71, .ref cases1] c (some (.long r)) c := by
  unfold fn_M_bestBy at hsem
  refine zw_Met.of (by decide +kernel) (Nat.le_of_ble_eq_true rfl) (fun p e s m args below meth cd X => ?_)
  refine zw_eL (L2 := [some (.ref 71), some (.ref cases1), none, none, none, none, none, none]) rfl ?_
  refine r_lconst X (pc := 0) (v := 0) (zw_dg dk_M_bestBy 0 rfl) (by decide) ?_
  refine r_lstore_n X (pc := 1) (i := 2) (L2 := [some (.ref 71), some (.ref cases1), some (.long 0), none, none, none, none, none]) (zw_dg dk_M_bestBy 1 rfl) rfl (by decide) rfl ?_
  refine r_iconst X (pc := 2) (v := 0) (zw_dg dk_M_bestBy 2 rfl) (by decide) ?_
  refine r_istore X (pc := 3) (i := 4) (zw_dg dk_M_bestBy 3 rfl) (by decide) rfl ?_
  obtain ⟨most4, hl5, hsl5⟩ := zw_bd hsem
  refine r_loop (pc := 5) (pce := 82) hl5 (fun (most2, s3) => [some (.ref 71), some (.ref cases1), some (.long most2), none, some (.int s3), none, none, none] : Int64 × Int32 → zw_Lc) (fun (most2, s3) => c : Int64 × Int32 → zw_Ct) (fun most4 => [some (.ref 71), some (.ref cases1), some (.long most4), none, none, none, none, none] : Int64 → zw_Lc) (fun most4 => c : Int64 → zw_Ct) ?_ rfl rfl ?_
  · rintro ⟨most2, s3⟩ rr hsem hK hP
    try unfold fn_M_bestBy_l1 at hsem
    refine r_iload X (pc := 5) (i := 4) (zw_dg dk_M_bestBy 4 rfl) rfl ?_
    refine r_aload_n X (pc := 7) (i := 0) (zw_dg dk_M_bestBy 5 rfl) rfl rfl ?_
    refine r_getI X (pc := 8) ci_M (zo hS 71 rfl rfl) rfl lk_M_113 (zw_dg dk_M_bestBy 6 rfl) ?_
    refine r_icmp_ge X (pc := 11) (tgt := 82) (zw_dg dk_M_bestBy 7 rfl) (by decide) (fun q7 => ?_) (fun q7 => ?_)
    · --
      have p6 : ¬ (s3 < (c.1 71 2)) := (Int32.not_lt.mpr q7)
      have hsem := zw_ifn p6 hsem
      have jj := hK _ (Option.some.inj hsem).symm
      exact (r_fgt [4] rfl jj)
    · --
      have p6 : (s3 < (c.1 71 2)) := (Int32.not_le.mp q7)
      have hsem := zw_ifp p6 hsem
      refine r_lconst X (pc := 14) (v := 0) (zw_dg dk_M_bestBy 8 rfl) (by decide) ?_
      refine r_lstore X (pc := 15) (i := 5) (L2 := [some (.ref 71), some (.ref cases1), some (.long most2), none, some (.int s3), some (.long 0), none, none]) (zw_dg dk_M_bestBy 9 rfl) (by decide) rfl ?_
      refine r_iconst X (pc := 17) (v := 0) (zw_dg dk_M_bestBy 10 rfl) (by decide) ?_
      refine r_istore X (pc := 18) (i := 7) (zw_dg dk_M_bestBy 11 rfl) (by decide) rfl ?_
      obtain ⟨v10, hl11, hsl11⟩ := zw_bd hsem
      refine r_loop (pc := 20) (pce := 59) hl11 (fun (v8, e9) => [some (.ref 71), some (.ref cases1), some (.long most2), none, some (.int s3), some (.long v8), none, some (.int e9)] : Int64 × Int32 → zw_Lc) (fun (v8, e9) => c : Int64 × Int32 → zw_Ct) (fun v10 => [some (.ref 71), some (.ref cases1), some (.long most2), none, some (.int s3), some (.long v10), none, none] : Int64 → zw_Lc) (fun v10 => c : Int64 → zw_Ct) ?_ rfl rfl ?_
      · rintro ⟨v8, e9⟩ rr hsem hK hP
        try unfold fn_M_bestBy_l2 at hsem
        refine r_iload X (pc := 20) (i := 7) (zw_dg dk_M_bestBy 12 rfl) rfl ?_
        refine r_aload_n X (pc := 22) (i := 0) (zw_dg dk_M_bestBy 13 rfl) rfl rfl ?_
        refine r_getI X (pc := 23) ci_M (zo hS 71 rfl rfl) rfl lk_M_9 (zw_dg dk_M_bestBy 14 rfl) ?_
        refine r_icmp_ge X (pc := 26) (tgt := 59) (zw_dg dk_M_bestBy 15 rfl) (by decide) (fun q13 => ?_) (fun q13 => ?_)
        · --
          have p12 : ¬ (e9 < (c.1 71 0)) := (Int32.not_lt.mpr q13)
          have hsem := zw_ifn p12 hsem
          have jj := hK _ (Option.some.inj hsem).symm
          exact (r_fgt [7] rfl jj)
        · --
          have p12 : (e9 < (c.1 71 0)) := (Int32.not_le.mp q13)
          have hsem := zw_ifp p12 hsem
          refine r_lload X (pc := 29) (i := 5) (zw_dg dk_M_bestBy 16 rfl) rfl ?_
          refine r_aload_n X (pc := 31) (i := 1) (zw_dg dk_M_bestBy 17 rfl) rfl rfl ?_
          refine r_iload X (pc := 32) (i := 7) (zw_dg dk_M_bestBy 18 rfl) rfl ?_
          obtain ⟨x14, hx14, hsem⟩ := zw_bd hsem
          obtain ⟨_, hnx14, hx14⟩ := zw_bd hx14
          refine r_iald X (pc := 34) (zd hS (zw_len_of hnx14)) hx14 (zw_dg dk_M_bestBy 19 rfl) ?_
          refine r_i2l X (pc := 35) (zw_dg dk_M_bestBy 20 rfl)  ?_
          refine r_aload_n X (pc := 36) (i := 0) (zw_dg dk_M_bestBy 21 rfl) rfl rfl ?_
          refine r_getR X (pc := 37) (r := 84) ci_M (zo hS 71 rfl rfl) rfl (zr hS 71 21 rfl rfl) lk_M_46 (zw_dg dk_M_bestBy 22 rfl) ?_
          refine r_iconst X (pc := 40) (v := 4) (zw_dg dk_M_bestBy 23 rfl) (by decide) ?_
          refine r_iload X (pc := 41) (i := 4) (zw_dg dk_M_bestBy 24 rfl) rfl ?_
          refine r_imul X (pc := 43) (zw_dg dk_M_bestBy 25 rfl)  ?_
          refine r_iload X (pc := 44) (i := 7) (zw_dg dk_M_bestBy 26 rfl) rfl ?_
          refine r_iadd X (pc := 46) (zw_dg dk_M_bestBy 27 rfl)  ?_
          obtain ⟨x15, hx15, hsem⟩ := zw_bd hsem
          refine r_iald X (pc := 47) (zo hS 84 rfl rfl) hx15 (zw_dg dk_M_bestBy 28 rfl) ?_
          refine r_i2l X (pc := 48) (zw_dg dk_M_bestBy 29 rfl)  ?_
          refine r_lmul X (pc := 49) (zw_dg dk_M_bestBy 30 rfl)  ?_
          refine r_ladd X (pc := 50) (zw_dg dk_M_bestBy 31 rfl)  ?_
          obtain ⟨v16, hv16, hsem⟩ := zw_bd hsem
          refine zw_topJ hv16 ?_
          refine r_lstore X (pc := 51) (i := 5) (L2 := [some (.ref 71), some (.ref cases1), some (.long most2), none, some (.int s3), some (.long v16), none, some (.int e9)]) (zw_dg dk_M_bestBy 32 rfl) (by decide) rfl ?_
          refine r_iinc X (pc := 53) (i := 7) (k := 1) (zw_dg dk_M_bestBy 33 rfl) rfl (by decide) (by decide) rfl ?_
          refine r_goto X (pc := 56) (tgt := 20) (zw_dg dk_M_bestBy 34 rfl) (by decide) ?_
          have jj := hP _ (Option.some.inj hsem).symm
          exact (r_fgt [] rfl jj)
      have hsem := hsl11
      refine zw_ter (P := (s3 = 0)) (f := Value.long) (x := v10) (y := (if v10 < most2 then most2 else v10)) (J := 75) (st2 := []) (fun jT jF => ?_) ?_
      · --
        refine r_iload X (pc := 59) (i := 4) (zw_dg dk_M_bestBy 35 rfl) rfl ?_
        refine r_if_ne X (pc := 61) (tgt := 69) (zw_dg dk_M_bestBy 36 rfl) (by decide) (fun q17 => ?_) (fun q17 => ?_)
        · --
          refine r_lload_n X (pc := 69) (i := 2) (zw_dg dk_M_bestBy 39 rfl) rfl rfl ?_
          refine r_lload X (pc := 70) (i := 5) (zw_dg dk_M_bestBy 40 rfl) rfl ?_
          refine r_mmaxl X (pc := 72) kw_1731 mws_maxl kw_88 mwc_maxl ⟨Nat.le_of_ble_eq_true rfl, Nat.le_of_ble_eq_true rfl⟩ (st := []) (Nat.le_of_ble_eq_true rfl) (zw_dg dk_M_bestBy 41 rfl) ?_
          exact jF q17
        · --
          refine r_lload X (pc := 64) (i := 5) (zw_dg dk_M_bestBy 37 rfl) rfl ?_
          refine r_goto X (pc := 66) (tgt := 75) (zw_dg dk_M_bestBy 38 rfl) (by decide) ?_
          exact jT q17
      obtain ⟨most18, hmost18, hsem⟩ := zw_bd hsem
      refine zw_topJ hmost18 ?_
      refine r_lstore_n X (pc := 75) (i := 2) (L2 := [some (.ref 71), some (.ref cases1), some (.long most18), none, some (.int s3), some (.long v10), none, none]) (zw_dg dk_M_bestBy 42 rfl) rfl (by decide) rfl ?_
      refine r_iinc X (pc := 76) (i := 4) (k := 1) (zw_dg dk_M_bestBy 43 rfl) rfl (by decide) (by decide) rfl ?_
      refine r_goto X (pc := 79) (tgt := 5) (zw_dg dk_M_bestBy 44 rfl) (by decide) ?_
      have jj := hP _ (Option.some.inj hsem).symm
      exact (r_fgt [5] rfl jj)
  have hsem := hsl5
  refine r_lload_n X (pc := 82) (i := 2) (zw_dg dk_M_bestBy 45 rfl) rfl rfl ?_
  cases hsem
  exact r_lret X (pc := 83) rfl (zw_dg dk_M_bestBy 46 rfl)
def y_M_areLights : MethodName := ⟨R_M, "areLights", "(II)Z"⟩
abbrev b_M_areLights : ByteArray := prog_14_method_56_code
def dl_M_areLights : List (Nat × Instr × Nat) := [(0, .iload_n 1, 1), (1, .i2l, 1), (2, .lconst 0, 1), (3, .aload_n 0, 1), (4, .getfield 9, 3), (7, .invokestatic 269, 3), (10, .iconst 1, 1), (11, .isub, 1), (12, .i2l, 1), (13, .invokestatic 120, 3), (16, .ifCond .eq 19, 3), (19, .iload_n 2, 1), (20, .i2l, 1), (21, .lconst 0, 1), (22, .ldc2_w 155, 3), (25, .invokestatic 120, 3), (28, .ifCond .eq 7, 3), (31, .iconst 1, 1), (32, .goto 4, 3), (35, .iconst 0, 1), (36, .ireturn, 1)]
theorem dk_M_areLights : zw_dk b_M_areLights dl_M_areLights = true := by decide +kernel
theorem ce_M_areLights : zw_cev y_M_areLights b_M_areLights 3 (some .boolean) 2 := ⟨⟨kt_in 1809 (by decide +kernel) rfl, kt_in 98 (by decide +kernel) rfl, by decide +kernel⟩, kt_in 1808 (by decide +kernel) rfl, kt_in 65 (by decide +kernel) rfl⟩
def fn_M_areLights (c : zw_Ct) (lights1 : Int32) (cost2 : Int32) : Option Int32 :=
  (fn_M_tens (c.1 71 0)).bind fun r3 =>
  some (if ((¬ (fn_M_in lights1.toInt64 0 ((r3 - 1)).toInt64) = 0) ∧ (¬ (fn_M_in cost2.toInt64 0 9999) = 0)) then (1 : Int32) else 0)
set_option maxRecDepth 100000 in
theorem km_M_areLights {l : Launch} {g : zw_G} {rr : zw_RR} {sh : zw_Sh} {c : zw_Ct} {lights1 : Int32} {cost2 : Int32} {r : Int32} (hS : zw_Ok 0 101 sh rr) (hsem : fn_M_areLights c lights1 cost2 = some r) : zw_Met l g y_M_areLights b_M_areLights 3 (some .boolean) 2 rr sh [.ref 71, .int lights1, .int cost2] c (some (.int r)) c := by
  unfold fn_M_areLights at hsem
  refine zw_Met.of (by decide +kernel) (Nat.le_of_ble_eq_true rfl) (fun p e s m args below meth cd X => ?_)
  refine zw_eL (L2 := [some (.ref 71), some (.int lights1), some (.int cost2)]) rfl ?_
  refine r_iload_n X (pc := 0) (i := 1) (zw_dg dk_M_areLights 0 rfl) rfl rfl ?_
  refine r_i2l X (pc := 1) (zw_dg dk_M_areLights 1 rfl)  ?_
  refine r_lconst X (pc := 2) (v := 0) (zw_dg dk_M_areLights 2 rfl) (by decide) ?_
  refine r_aload_n X (pc := 3) (i := 0) (zw_dg dk_M_areLights 3 rfl) rfl rfl ?_
  refine r_getI X (pc := 4) ci_M (zo hS 71 rfl rfl) rfl lk_M_9 (zw_dg dk_M_areLights 4 rfl) ?_
  obtain ⟨r3, hr3, hsem⟩ := zw_bd hsem
  refine r_callSi X (pc := 7) (As := [_]) (st := [.long 0, .long lights1.toInt64]) (km_M_tens hS hr3) ce_M_tens kw_1810 rfl ⟨Nat.le_of_ble_eq_true rfl, Nat.le_of_ble_eq_true rfl⟩ (Nat.le_of_ble_eq_true rfl) (zw_dg dk_M_areLights 5 rfl) ?_
  refine r_iconst X (pc := 10) (v := 1) (zw_dg dk_M_areLights 6 rfl) (by decide) ?_
  refine r_isub X (pc := 11) (zw_dg dk_M_areLights 7 rfl)  ?_
  refine r_i2l X (pc := 12) (zw_dg dk_M_areLights 8 rfl)  ?_
  refine r_callSi X (pc := 13) (As := [_, _, _]) (st := []) (km_M_in hS rfl) ce_M_in kw_1597 rfl ⟨Nat.le_of_ble_eq_true rfl, Nat.le_of_ble_eq_true rfl⟩ (Nat.le_of_ble_eq_true rfl) (zw_dg dk_M_areLights 9 rfl) ?_
  refine zw_ter (P := ((¬ (fn_M_in lights1.toInt64 0 ((r3 - 1)).toInt64) = 0) ∧ (¬ (fn_M_in cost2.toInt64 0 9999) = 0))) (f := Value.int) (x := 1) (y := 0) (J := 36) (st2 := []) (fun jT jF => ?_) ?_
  · --
    refine r_if_eq X (pc := 16) (tgt := 35) (zw_dg dk_M_areLights 10 rfl) (by decide) (fun q4 => ?_) (fun q4 => ?_)
    · --
      refine r_iconst X (pc := 35) (v := 0) (zw_dg dk_M_areLights 19 rfl) (by decide) ?_
      exact jF (fun q => (fun z => z q4) q.1)
    · --
      refine r_iload_n X (pc := 19) (i := 2) (zw_dg dk_M_areLights 11 rfl) rfl rfl ?_
      refine r_i2l X (pc := 20) (zw_dg dk_M_areLights 12 rfl)  ?_
      refine r_lconst X (pc := 21) (v := 0) (zw_dg dk_M_areLights 13 rfl) (by decide) ?_
      refine r_ldc2 X (pc := 22) (v := 9999) kw_1626 (zw_dg dk_M_areLights 14 rfl) ?_
      refine r_callSi X (pc := 25) (As := [_, _, _]) (st := []) (km_M_in hS rfl) ce_M_in kw_1597 rfl ⟨Nat.le_of_ble_eq_true rfl, Nat.le_of_ble_eq_true rfl⟩ (Nat.le_of_ble_eq_true rfl) (zw_dg dk_M_areLights 15 rfl) ?_
      refine r_if_eq X (pc := 28) (tgt := 35) (zw_dg dk_M_areLights 16 rfl) (by decide) (fun q5 => ?_) (fun q5 => ?_)
      · --
        refine r_iconst X (pc := 35) (v := 0) (zw_dg dk_M_areLights 19 rfl) (by decide) ?_
        exact jF (fun q => (fun z => z q5) q.2)
      · --
        refine r_iconst X (pc := 31) (v := 1) (zw_dg dk_M_areLights 17 rfl) (by decide) ?_
        refine r_goto X (pc := 32) (tgt := 36) (zw_dg dk_M_areLights 18 rfl) (by decide) ?_
        exact jT ⟨q4, q5⟩
  have hbz : ((if ((¬ (fn_M_in lights1.toInt64 0 ((r3 - 1)).toInt64) = 0) ∧ (¬ (fn_M_in cost2.toInt64 0 9999) = 0)) then (1 : Int32) else 0) : Int32) = 0 ∨ ((if ((¬ (fn_M_in lights1.toInt64 0 ((r3 - 1)).toInt64) = 0) ∧ (¬ (fn_M_in cost2.toInt64 0 9999) = 0)) then (1 : Int32) else 0) : Int32) = 1 := zw_ite01
  cases hsem
  exact r_zret X (pc := 36) rfl (zw_bzn hbz).1 (zw_dg dk_M_areLights 20 rfl)
def y_M_moreByLooking : MethodName := ⟨R_M, "moreByLooking", "(III)J"⟩
abbrev b_M_moreByLooking : ByteArray := prog_14_method_57_code
def dl_M_moreByLooking : List (Nat × Instr × Nat) := [(0, .aload_n 0, 1), (1, .iload_n 1, 1), (2, .invokevirtual 229, 3), (5, .iload_n 3, 1), (6, .istore 4, 2), (8, .aload_n 0, 1), (9, .getfield 9, 3), (12, .iconst 1, 1), (13, .isub, 1), (14, .istore 5, 2), (16, .iload 5, 2), (18, .ifCond .lt 68, 3), (21, .iload 4, 2), (23, .bipush 10, 2), (25, .irem, 1), (26, .istore 6, 2), (28, .iload 4, 2), (30, .bipush 10, 2), (32, .idiv, 1), (33, .istore 4, 2), (35, .aload_n 0, 1), (36, .getfield 55, 3), (39, .iload 5, 2), (41, .aload_n 0, 1), (42, .getfield 16, 3), (45, .iconst 4, 1), (46, .iload_n 2, 1), (47, .imul, 1), (48, .iload 5, 2), (50, .iadd, 1), (51, .iaload, 1), (52, .iload 6, 2), (54, .imul, 1), (55, .iastore, 1), (56, .aload_n 0, 1), (57, .getfield 58, 3), (60, .iload 5, 2), (62, .aload_n 0, 1), (63, .getfield 16, 3), (66, .iconst 4, 1), (67, .iload_n 2, 1), (68, .imul, 1), (69, .iload 5, 2), (71, .iadd, 1), (72, .iaload, 1), (73, .bipush 10, 2), (75, .iload 6, 2), (77, .isub, 1), (78, .imul, 1), (79, .iastore, 1), (80, .iinc 5 (-1), 3), (83, .goto (-67), 3), (86, .aload_n 0, 1), (87, .aload_n 0, 1), (88, .getfield 55, 3), (91, .invokevirtual 272, 3), (94, .aload_n 0, 1), (95, .aload_n 0, 1), (96, .getfield 58, 3), (99, .invokevirtual 272, 3), (102, .ladd, 1), (103, .ldc2_w 276, 3), (106, .aload_n 0, 1), (107, .iload_n 2, 1), (108, .invokevirtual 244, 3), (111, .lmul, 1), (112, .lsub, 1), (113, .lreturn, 1)]
theorem dk_M_moreByLooking : zw_dk b_M_moreByLooking dl_M_moreByLooking = true := by decide +kernel
theorem ce_M_moreByLooking : zw_cev y_M_moreByLooking b_M_moreByLooking 7 (some .long) 3 := ⟨⟨kt_in 1816 (by decide +kernel) rfl, kt_in 98 (by decide +kernel) rfl, by decide +kernel⟩, kt_in 1815 (by decide +kernel) rfl, kt_in 66 (by decide +kernel) rfl⟩
def fn_M_moreByLooking_l1 (t2 : Int32) : Int32 × Int32 × zw_Ct → Option ((Int32 × zw_Ct) ⊕ (Int32 × Int32 × zw_Ct)) := fun (left6, e7, c8) =>
  if (0 ≤ e7) then
  ((some ((left6 - left6 / 10 * 10) : Int32)).bind fun digit14 =>
  (some ((left6 / 10) : Int32)).bind fun left15 =>
  (zw_aI 1820 c8 72 ((4 * t2) + e7)).bind fun x16 =>
  (zw_uI 4 c8 87 e7 (x16 * digit14)).bind fun c17 =>
  (zw_aI 1820 c17 72 ((4 * t2) + e7)).bind fun x18 =>
  (zw_uI 4 c17 88 e7 (x18 * (10 - digit14))).bind fun c19 =>
  some (.inr (left15, (e7 + (-1)), c19)))
  else
  (some (.inl (left6, c8)))
def fn_M_moreByLooking (c : zw_Ct) (p1 : Int32) (t2 : Int32) (lights3 : Int32) : Option (Int64 × zw_Ct) :=
  (fn_M_layPay c p1).bind fun c4 =>
  (some (((c4.1 71 0) - 1) : Int32)).bind fun e5 =>
  (zw_whl (fn_M_moreByLooking_l1 t2) zw_F (lights3, e5, c4)).bind fun (left9, c10) =>
  (fn_M_bestBy c10 87).bind fun r20 =>
  (fn_M_bestBy c10 88).bind fun r21 =>
  (fn_M_bestWorth c10 t2).bind fun r22 =>
  some (((r20 + r21) - (10 * r22)), c10)
set_option maxRecDepth 100000 in
theorem km_M_moreByLooking {l : Launch} {g : zw_G} {rr : zw_RR} {sh : zw_Sh} {c : zw_Ct} {p1 : Int32} {t2 : Int32} {lights3 : Int32} {r : Int64} {c2 : zw_Ct} (hS : zw_Ok 0 101 sh rr) (hsem : fn_M_moreByLooking c p1 t2 lights3 = some (r, c2)) : zw_Met l g y_M_moreByLooking b_M_moreByLooking 7 (some .long) 107 rr sh [.ref 71, .int p1, .int t2, .int lights3] c (some (.long r)) c2 := by
  unfold fn_M_moreByLooking at hsem
  refine zw_Met.of (by decide +kernel) (Nat.le_of_ble_eq_true rfl) (fun p e s m args below meth cd X => ?_)
  refine zw_eL (L2 := [some (.ref 71), some (.int p1), some (.int t2), some (.int lights3), none, none, none]) rfl ?_
  refine r_aload_n X (pc := 0) (i := 0) (zw_dg dk_M_moreByLooking 0 rfl) rfl rfl ?_
  refine r_iload_n X (pc := 1) (i := 1) (zw_dg dk_M_moreByLooking 1 rfl) rfl rfl ?_
  obtain ⟨c4, hc4, hsem⟩ := zw_bd hsem
  refine r_callVv X (pc := 2) (As := [_]) (st := []) (km_M_layPay hS hc4) ce_M_layPay kw_1700 (zo hS 71 rfl rfl) rfl rfl ⟨Nat.le_of_ble_eq_true rfl, Nat.le_of_ble_eq_true rfl⟩ (Nat.le_of_ble_eq_true rfl) (zw_dg dk_M_moreByLooking 2 rfl) ?_
  refine r_iload_n X (pc := 5) (i := 3) (zw_dg dk_M_moreByLooking 3 rfl) rfl rfl ?_
  refine r_istore X (pc := 6) (i := 4) (zw_dg dk_M_moreByLooking 4 rfl) (by decide) rfl ?_
  refine r_aload_n X (pc := 8) (i := 0) (zw_dg dk_M_moreByLooking 5 rfl) rfl rfl ?_
  refine r_getI X (pc := 9) ci_M (zo hS 71 rfl rfl) rfl lk_M_9 (zw_dg dk_M_moreByLooking 6 rfl) ?_
  refine r_iconst X (pc := 12) (v := 1) (zw_dg dk_M_moreByLooking 7 rfl) (by decide) ?_
  refine r_isub X (pc := 13) (zw_dg dk_M_moreByLooking 8 rfl)  ?_
  obtain ⟨e5, he5, hsem⟩ := zw_bd hsem
  refine zw_topI he5 ?_
  refine r_istore X (pc := 14) (i := 5) (zw_dg dk_M_moreByLooking 9 rfl) (by decide) rfl ?_
  obtain ⟨l11, hl11, hsl11⟩ := zw_bd hsem
  refine r_loop (pc := 16) (pce := 86) hl11 (fun (left6, e7, c8) => [some (.ref 71), some (.int p1), some (.int t2), some (.int lights3), some (.int left6), some (.int e7), none] : Int32 × Int32 × zw_Ct → zw_Lc) (fun (left6, e7, c8) => c8 : Int32 × Int32 × zw_Ct → zw_Ct) (fun (left9, c10) => [some (.ref 71), some (.int p1), some (.int t2), some (.int lights3), some (.int left9), none, none] : Int32 × zw_Ct → zw_Lc) (fun (left9, c10) => c10 : Int32 × zw_Ct → zw_Ct) ?_ rfl rfl ?_
  · rintro ⟨left6, e7, c8⟩ rr hsem hK hP
    try unfold fn_M_moreByLooking_l1 at hsem
    refine r_iload X (pc := 16) (i := 5) (zw_dg dk_M_moreByLooking 10 rfl) rfl ?_
    refine r_if_lt X (pc := 18) (tgt := 86) (zw_dg dk_M_moreByLooking 11 rfl) (by decide) (fun q13 => ?_) (fun q13 => ?_)
    · --
      have p12 : ¬ (0 ≤ e7) := (Int32.not_le.mpr q13)
      have hsem := zw_ifn p12 hsem
      have jj := hK _ (Option.some.inj hsem).symm
      exact (r_fgt [5] rfl jj)
    · --
      have p12 : (0 ≤ e7) := (Int32.not_lt.mp q13)
      have hsem := zw_ifp p12 hsem
      refine r_iload X (pc := 21) (i := 4) (zw_dg dk_M_moreByLooking 12 rfl) rfl ?_
      refine r_bipush X (pc := 23) (v := 10) (zw_dg dk_M_moreByLooking 13 rfl) (by decide) ?_
      refine r_irem X (pc := 25) (zw_dg dk_M_moreByLooking 14 rfl) (by decide) ?_
      obtain ⟨digit14, hdigit14, hsem⟩ := zw_bd hsem
      refine zw_topI hdigit14 ?_
      refine r_istore X (pc := 26) (i := 6) (zw_dg dk_M_moreByLooking 15 rfl) (by decide) rfl ?_
      refine r_iload X (pc := 28) (i := 4) (zw_dg dk_M_moreByLooking 16 rfl) rfl ?_
      refine r_bipush X (pc := 30) (v := 10) (zw_dg dk_M_moreByLooking 17 rfl) (by decide) ?_
      refine r_idiv X (pc := 32) (zw_dg dk_M_moreByLooking 18 rfl) (by decide) ?_
      obtain ⟨left15, hleft15, hsem⟩ := zw_bd hsem
      refine zw_topI hleft15 ?_
      refine r_istore X (pc := 33) (i := 4) (zw_dg dk_M_moreByLooking 19 rfl) (by decide) rfl ?_
      refine r_aload_n X (pc := 35) (i := 0) (zw_dg dk_M_moreByLooking 20 rfl) rfl rfl ?_
      refine r_getR X (pc := 36) (r := 87) ci_M (zo hS 71 rfl rfl) rfl (zr hS 71 24 rfl rfl) lk_M_55 (zw_dg dk_M_moreByLooking 21 rfl) ?_
      refine r_iload X (pc := 39) (i := 5) (zw_dg dk_M_moreByLooking 22 rfl) rfl ?_
      refine r_aload_n X (pc := 41) (i := 0) (zw_dg dk_M_moreByLooking 23 rfl) rfl rfl ?_
      refine r_getR X (pc := 42) (r := 72) ci_M (zo hS 71 rfl rfl) rfl (zr hS 71 3 rfl rfl) lk_M_16 (zw_dg dk_M_moreByLooking 24 rfl) ?_
      refine r_iconst X (pc := 45) (v := 4) (zw_dg dk_M_moreByLooking 25 rfl) (by decide) ?_
      refine r_iload_n X (pc := 46) (i := 2) (zw_dg dk_M_moreByLooking 26 rfl) rfl rfl ?_
      refine r_imul X (pc := 47) (zw_dg dk_M_moreByLooking 27 rfl)  ?_
      refine r_iload X (pc := 48) (i := 5) (zw_dg dk_M_moreByLooking 28 rfl) rfl ?_
      refine r_iadd X (pc := 50) (zw_dg dk_M_moreByLooking 29 rfl)  ?_
      obtain ⟨x16, hx16, hsem⟩ := zw_bd hsem
      refine r_iald X (pc := 51) (zo hS 72 rfl rfl) hx16 (zw_dg dk_M_moreByLooking 30 rfl) ?_
      refine r_iload X (pc := 52) (i := 6) (zw_dg dk_M_moreByLooking 31 rfl) rfl ?_
      refine r_imul X (pc := 54) (zw_dg dk_M_moreByLooking 32 rfl)  ?_
      obtain ⟨c17, hc17, hsem⟩ := zw_bd hsem
      refine r_iast X (pc := 55) (zo hS 87 rfl rfl) hc17 (zw_dg dk_M_moreByLooking 33 rfl) ?_
      refine r_aload_n X (pc := 56) (i := 0) (zw_dg dk_M_moreByLooking 34 rfl) rfl rfl ?_
      refine r_getR X (pc := 57) (r := 88) ci_M (zo hS 71 rfl rfl) rfl (zr hS 71 25 rfl rfl) lk_M_58 (zw_dg dk_M_moreByLooking 35 rfl) ?_
      refine r_iload X (pc := 60) (i := 5) (zw_dg dk_M_moreByLooking 36 rfl) rfl ?_
      refine r_aload_n X (pc := 62) (i := 0) (zw_dg dk_M_moreByLooking 37 rfl) rfl rfl ?_
      refine r_getR X (pc := 63) (r := 72) ci_M (zo hS 71 rfl rfl) rfl (zr hS 71 3 rfl rfl) lk_M_16 (zw_dg dk_M_moreByLooking 38 rfl) ?_
      refine r_iconst X (pc := 66) (v := 4) (zw_dg dk_M_moreByLooking 39 rfl) (by decide) ?_
      refine r_iload_n X (pc := 67) (i := 2) (zw_dg dk_M_moreByLooking 40 rfl) rfl rfl ?_
      refine r_imul X (pc := 68) (zw_dg dk_M_moreByLooking 41 rfl)  ?_
      refine r_iload X (pc := 69) (i := 5) (zw_dg dk_M_moreByLooking 42 rfl) rfl ?_
      refine r_iadd X (pc := 71) (zw_dg dk_M_moreByLooking 43 rfl)  ?_
      obtain ⟨x18, hx18, hsem⟩ := zw_bd hsem
      refine r_iald X (pc := 72) (zo hS 72 rfl rfl) hx18 (zw_dg dk_M_moreByLooking 44 rfl) ?_
      refine r_bipush X (pc := 73) (v := 10) (zw_dg dk_M_moreByLooking 45 rfl) (by decide) ?_
      refine r_iload X (pc := 75) (i := 6) (zw_dg dk_M_moreByLooking 46 rfl) rfl ?_
      refine r_isub X (pc := 77) (zw_dg dk_M_moreByLooking 47 rfl)  ?_
      refine r_imul X (pc := 78) (zw_dg dk_M_moreByLooking 48 rfl)  ?_
      obtain ⟨c19, hc19, hsem⟩ := zw_bd hsem
      refine r_iast X (pc := 79) (zo hS 88 rfl rfl) hc19 (zw_dg dk_M_moreByLooking 49 rfl) ?_
      refine r_iinc X (pc := 80) (i := 5) (k := (-1)) (zw_dg dk_M_moreByLooking 50 rfl) rfl (by decide) (by decide) rfl ?_
      refine r_goto X (pc := 83) (tgt := 16) (zw_dg dk_M_moreByLooking 51 rfl) (by decide) ?_
      have jj := hP _ (Option.some.inj hsem).symm
      exact (r_fgt [6] rfl jj)
  obtain ⟨left9, c10⟩ := l11
  have hsem := hsl11
  refine r_aload_n X (pc := 86) (i := 0) (zw_dg dk_M_moreByLooking 52 rfl) rfl rfl ?_
  refine r_aload_n X (pc := 87) (i := 0) (zw_dg dk_M_moreByLooking 53 rfl) rfl rfl ?_
  refine r_getR X (pc := 88) (r := 87) ci_M (zo hS 71 rfl rfl) rfl (zr hS 71 24 rfl rfl) lk_M_55 (zw_dg dk_M_moreByLooking 54 rfl) ?_
  obtain ⟨r20, hr20, hsem⟩ := zw_bd hsem
  refine r_callVl X (pc := 91) (As := [_]) (st := []) (km_M_bestBy hS hr20) ce_M_bestBy kw_1817 (zo hS 71 rfl rfl) rfl rfl ⟨Nat.le_of_ble_eq_true rfl, Nat.le_of_ble_eq_true rfl⟩ (Nat.le_of_ble_eq_true rfl) (zw_dg dk_M_moreByLooking 55 rfl) ?_
  refine r_aload_n X (pc := 94) (i := 0) (zw_dg dk_M_moreByLooking 56 rfl) rfl rfl ?_
  refine r_aload_n X (pc := 95) (i := 0) (zw_dg dk_M_moreByLooking 57 rfl) rfl rfl ?_
  refine r_getR X (pc := 96) (r := 88) ci_M (zo hS 71 rfl rfl) rfl (zr hS 71 25 rfl rfl) lk_M_58 (zw_dg dk_M_moreByLooking 58 rfl) ?_
  obtain ⟨r21, hr21, hsem⟩ := zw_bd hsem
  refine r_callVl X (pc := 99) (As := [_]) (st := [.long r20]) (km_M_bestBy hS hr21) ce_M_bestBy kw_1817 (zo hS 71 rfl rfl) rfl rfl ⟨Nat.le_of_ble_eq_true rfl, Nat.le_of_ble_eq_true rfl⟩ (Nat.le_of_ble_eq_true rfl) (zw_dg dk_M_moreByLooking 59 rfl) ?_
  refine r_ladd X (pc := 102) (zw_dg dk_M_moreByLooking 60 rfl)  ?_
  refine r_ldc2 X (pc := 103) (v := 10) kw_1821 (zw_dg dk_M_moreByLooking 61 rfl) ?_
  refine r_aload_n X (pc := 106) (i := 0) (zw_dg dk_M_moreByLooking 62 rfl) rfl rfl ?_
  refine r_iload_n X (pc := 107) (i := 2) (zw_dg dk_M_moreByLooking 63 rfl) rfl rfl ?_
  obtain ⟨r22, hr22, hsem⟩ := zw_bd hsem
  refine r_callVl X (pc := 108) (As := [_]) (st := [.long 10, .long (r20 + r21)]) (km_M_bestWorth hS hr22) ce_M_bestWorth kw_1727 (zo hS 71 rfl rfl) rfl rfl ⟨Nat.le_of_ble_eq_true rfl, Nat.le_of_ble_eq_true rfl⟩ (Nat.le_of_ble_eq_true rfl) (zw_dg dk_M_moreByLooking 64 rfl) ?_
  refine r_lmul X (pc := 111) (zw_dg dk_M_moreByLooking 65 rfl)  ?_
  refine r_lsub X (pc := 112) (zw_dg dk_M_moreByLooking 66 rfl)  ?_
  obtain ⟨rfl, rfl⟩ := zw_in2 hsem
  exact r_lret X (pc := 113) rfl (zw_dg dk_M_moreByLooking 67 rfl)
def y_M_times : MethodName := ⟨R_M, "times", "(JI)I"⟩
abbrev b_M_times : ByteArray := prog_14_method_58_code
def dl_M_times : List (Nat × Instr × Nat) := [(0, .iconst 1, 1), (1, .istore 4, 2), (3, .iload 4, 2), (5, .sipush 9999, 3), (8, .if_icmp .gt 33, 3), (11, .iload 4, 2), (13, .i2l, 1), (14, .lload_n 1, 1), (15, .lmul, 1), (16, .ldc2_w 276, 3), (19, .iload_n 3, 1), (20, .i2l, 1), (21, .lmul, 1), (22, .aload_n 0, 1), (23, .getfield 13, 3), (26, .i2l, 1), (27, .lmul, 1), (28, .lcmp, 1), (29, .ifCond .lt 6, 3), (32, .iload 4, 2), (34, .ireturn, 1), (35, .iinc 4 1, 3), (38, .goto (-35), 3), (41, .iconst (-1), 1), (42, .ireturn, 1)]
theorem dk_M_times : zw_dk b_M_times dl_M_times = true := by decide +kernel
theorem ce_M_times : zw_cev y_M_times b_M_times 5 (some .int) 2 := ⟨⟨kt_in 1825 (by decide +kernel) rfl, kt_in 98 (by decide +kernel) rfl, by decide +kernel⟩, kt_in 1824 (by decide +kernel) rfl, kt_in 68 (by decide +kernel) rfl⟩
def fn_M_times_l1 (cost2 : Int32) (c : zw_Ct) (more1 : Int64) : Int32 → Option (((Int32) ⊕ (Unit)) ⊕ (Int32)) := fun k3 =>
  if (k3 ≤ 9999) then
  (if (((10 * cost2.toInt64) * ((c.1 71 1)).toInt64) ≤ (k3.toInt64 * more1)) then
  (some (.inl (.inl k3)))
  else
  (some (.inr (k3 + 1))))
  else
  (some (.inl (.inr ())))
def fn_M_times (c : zw_Ct) (more1 : Int64) (cost2 : Int32) : Option Int32 :=
  (zw_whl (fn_M_times_l1 cost2 c more1) zw_F 1).bind fun q => match q with
    | .inl w => some w
    | .inr _ =>
    some (-1)
set_option maxRecDepth 100000 in
theorem km_M_times {l : Launch} {g : zw_G} {rr : zw_RR} {sh : zw_Sh} {c : zw_Ct} {more1 : Int64} {cost2 : Int32} {r : Int32} (hS : zw_Ok 0 101 sh rr) (hsem : fn_M_times c more1 cost2 = some r) : zw_Met l g y_M_times b_M_times 5 (some .int) 1 rr sh [.ref 71, .long more1, .int cost2] c (some (.int r)) c := by
  unfold fn_M_times at hsem
  refine zw_Met.of (by decide +kernel) (Nat.le_of_ble_eq_true rfl) (fun p e s m args below meth cd X => ?_)
  refine zw_eL (L2 := [some (.ref 71), some (.long more1), none, some (.int cost2), none]) rfl ?_
  refine r_iconst X (pc := 0) (v := 1) (zw_dg dk_M_times 0 rfl) (by decide) ?_
  refine r_istore X (pc := 1) (i := 4) (zw_dg dk_M_times 1 rfl) (by decide) rfl ?_
  obtain ⟨l4, hl4, hsl4⟩ := zw_bd hsem
  refine r_loopR (pc := 3) (pce := 41) hl4 (fun k3 => [some (.ref 71), some (.long more1), none, some (.int cost2), some (.int k3)] : Int32 → zw_Lc) (fun k3 => c : Int32 → zw_Ct) (fun (_ : Unit) => [some (.ref 71), some (.long more1), none, some (.int cost2), none] : Unit → zw_Lc) (fun (_ : Unit) => c : Unit → zw_Ct) (fun w => w = r) ?_ rfl rfl ?_ ?_
  · rintro k3 rr hsem hR hK hP
    try unfold fn_M_times_l1 at hsem
    refine r_iload X (pc := 3) (i := 4) (zw_dg dk_M_times 2 rfl) rfl ?_
    refine r_sipush X (pc := 5) (v := 9999) (zw_dg dk_M_times 3 rfl) (by decide) ?_
    refine r_icmp_gt X (pc := 8) (tgt := 41) (zw_dg dk_M_times 4 rfl) (by decide) (fun q6 => ?_) (fun q6 => ?_)
    · --
      have p5 : ¬ (k3 ≤ 9999) := (Int32.not_le.mpr q6)
      have hsem := zw_ifn p5 hsem
      have jj := hK _ (Option.some.inj hsem).symm
      exact (r_fgt [4] rfl jj)
    · --
      have p5 : (k3 ≤ 9999) := (Int32.not_lt.mp q6)
      have hsem := zw_ifp p5 hsem
      refine r_iload X (pc := 11) (i := 4) (zw_dg dk_M_times 5 rfl) rfl ?_
      refine r_i2l X (pc := 13) (zw_dg dk_M_times 6 rfl)  ?_
      refine r_lload_n X (pc := 14) (i := 1) (zw_dg dk_M_times 7 rfl) rfl rfl ?_
      refine r_lmul X (pc := 15) (zw_dg dk_M_times 8 rfl)  ?_
      refine r_ldc2 X (pc := 16) (v := 10) kw_1821 (zw_dg dk_M_times 9 rfl) ?_
      refine r_iload_n X (pc := 19) (i := 3) (zw_dg dk_M_times 10 rfl) rfl rfl ?_
      refine r_i2l X (pc := 20) (zw_dg dk_M_times 11 rfl)  ?_
      refine r_lmul X (pc := 21) (zw_dg dk_M_times 12 rfl)  ?_
      refine r_aload_n X (pc := 22) (i := 0) (zw_dg dk_M_times 13 rfl) rfl rfl ?_
      refine r_getI X (pc := 23) ci_M (zo hS 71 rfl rfl) rfl lk_M_13 (zw_dg dk_M_times 14 rfl) ?_
      refine r_i2l X (pc := 26) (zw_dg dk_M_times 15 rfl)  ?_
      refine r_lmul X (pc := 27) (zw_dg dk_M_times 16 rfl)  ?_
      refine r_lcmp_lt X (pc := 28) (tgt := 35) (zw_dg dk_M_times 17 rfl) (zw_dg dk_M_times 18 rfl) (by decide) (fun q8 => ?_) (fun q8 => ?_)
      · --
        have p7 : ¬ (((10 * cost2.toInt64) * ((c.1 71 1)).toInt64) ≤ (k3.toInt64 * more1)) := (Int64.not_le.mpr q8)
        have hsem := zw_ifn p7 hsem
        refine r_iinc X (pc := 35) (i := 4) (k := 1) (zw_dg dk_M_times 21 rfl) rfl (by decide) (by decide) rfl ?_
        refine r_goto X (pc := 38) (tgt := 3) (zw_dg dk_M_times 22 rfl) (by decide) ?_
        have jj := hP _ (Option.some.inj hsem).symm
        exact (r_fgt [] rfl jj)
      · --
        have p7 : (((10 * cost2.toInt64) * ((c.1 71 1)).toInt64) ≤ (k3.toInt64 * more1)) := (Int64.not_lt.mp q8)
        have hsem := zw_ifp p7 hsem
        refine r_iload X (pc := 32) (i := 4) (zw_dg dk_M_times 19 rfl) rfl ?_
        have hret := hR _ (Option.some.inj hsem).symm
        cases hret
        exact r_iret X (pc := 34) rfl (zw_dg dk_M_times 20 rfl)
  · intro w hw
    subst hw
    exact Option.some.inj hsl4
  rintro _u hw
  subst hw
  have hsem := hsl4
  refine r_iconst X (pc := 41) (v := (-1)) (zw_dg dk_M_times 23 rfl) (by decide) ?_
  cases hsem
  exact r_iret X (pc := 42) rfl (zw_dg dk_M_times 24 rfl)
def y_M_look : MethodName := ⟨R_M, "look", "(IIII)I"⟩
abbrev b_M_look : ByteArray := prog_14_method_59_code
def dl_M_look : List (Nat × Instr × Nat) := [(0, .aload_n 0, 1), (1, .iconst 0, 1), (2, .putfield 97, 3), (5, .aload_n 0, 1), (6, .iload_n 1, 1), (7, .invokevirtual 222, 3), (10, .ifCond .eq 21, 3), (13, .aload_n 0, 1), (14, .iload_n 2, 1), (15, .invokevirtual 142, 3), (18, .ifCond .eq 13, 3), (21, .aload_n 0, 1), (22, .iload_n 3, 1), (23, .iload 4, 2), (25, .invokevirtual 278, 3), (28, .ifCond .ne 5, 3), (31, .iconst (-1), 1), (32, .ireturn, 1), (33, .aload_n 0, 1), (34, .iload_n 1, 1), (35, .iload_n 2, 1), (36, .iload_n 3, 1), (37, .invokevirtual 282, 3), (40, .lstore 5, 2), (42, .aload_n 0, 1), (43, .iconst 0, 1), (44, .putfield 100, 3), (47, .aload_n 0, 1), (48, .lload 5, 2), (50, .invokevirtual 109, 3), (53, .aload_n 0, 1), (54, .aload_n 0, 1), (55, .lload 5, 2), (57, .iload 4, 2), (59, .invokevirtual 286, 3), (62, .i2l, 1), (63, .invokevirtual 109, 3), (66, .iconst 0, 1), (67, .ireturn, 1)]
theorem dk_M_look : zw_dk b_M_look dl_M_look = true := by decide +kernel
theorem ce_M_look : zw_cev y_M_look b_M_look 7 (some .int) 4 := ⟨⟨kt_in 1805 (by decide +kernel) rfl, kt_in 98 (by decide +kernel) rfl, by decide +kernel⟩, kt_in 1803 (by decide +kernel) rfl, kt_in 1804 (by decide +kernel) rfl⟩
def fn_M_look (c : zw_Ct) (p1 : Int32) (t2 : Int32) (lights3 : Int32) (cost4 : Int32) : Option (Int32 × zw_Ct) :=
  (some (zw_wI c 71 9 0)).bind fun c5 =>
  (fn_M_isPay c5 p1).bind fun r6 =>
  if (¬ (¬ r6 = 0)) then
  (some ((-1), c5))
  else
  (if (¬ (¬ (fn_M_isSaying c5 t2) = 0)) then
  (some ((-1), c5))
  else
  ((fn_M_areLights c5 lights3 cost4).bind fun r11 =>
  if (¬ (¬ r11 = 0)) then
  (some ((-1), c5))
  else
  ((fn_M_moreByLooking c5 p1 t2 lights3).bind fun (r14, c15) =>
  (some (zw_wI c15 71 8 0)).bind fun c16 =>
  (fn_M_tell c16 r14).bind fun c17 =>
  (fn_M_times c17 r14 cost4).bind fun r18 =>
  (fn_M_tell c17 r18.toInt64).bind fun c19 =>
  some (0, c19))))
set_option maxRecDepth 100000 in
theorem km_M_look {l : Launch} {g : zw_G} {rr : zw_RR} {sh : zw_Sh} {c : zw_Ct} {p1 : Int32} {t2 : Int32} {lights3 : Int32} {cost4 : Int32} {r : Int32} {c2 : zw_Ct} (hS : zw_Ok 0 101 sh rr) (hsem : fn_M_look c p1 t2 lights3 cost4 = some (r, c2)) : zw_Met l g y_M_look b_M_look 7 (some .int) 108 rr sh [.ref 71, .int p1, .int t2, .int lights3, .int cost4] c (some (.int r)) c2 := by
  unfold fn_M_look at hsem
  refine zw_Met.of (by decide +kernel) (Nat.le_of_ble_eq_true rfl) (fun p e s m args below meth cd X => ?_)
  refine zw_eL (L2 := [some (.ref 71), some (.int p1), some (.int t2), some (.int lights3), some (.int cost4), none, none]) rfl ?_
  refine r_aload_n X (pc := 0) (i := 0) (zw_dg dk_M_look 0 rfl) rfl rfl ?_
  refine r_iconst X (pc := 1) (v := 0) (zw_dg dk_M_look 1 rfl) (by decide) ?_
  refine r_putI X (pc := 2) ci_M (zo hS 71 rfl rfl) rfl lk_M_97 rfl ⟨rfl, rfl⟩ (zw_dg dk_M_look 2 rfl) ?_
  obtain ⟨c5, hc5, hsem⟩ := zw_bd hsem
  refine zw_topC hc5 ?_
  refine r_aload_n X (pc := 5) (i := 0) (zw_dg dk_M_look 3 rfl) rfl rfl ?_
  refine r_iload_n X (pc := 6) (i := 1) (zw_dg dk_M_look 4 rfl) rfl rfl ?_
  obtain ⟨r6, hr6, hsem⟩ := zw_bd hsem
  refine r_callVi X (pc := 7) (As := [_]) (st := []) (km_M_isPay hS hr6) ce_M_isPay kw_1688 (zo hS 71 rfl rfl) rfl rfl ⟨Nat.le_of_ble_eq_true rfl, Nat.le_of_ble_eq_true rfl⟩ (Nat.le_of_ble_eq_true rfl) (zw_dg dk_M_look 5 rfl) ?_
  refine r_if_eq X (pc := 10) (tgt := 31) (zw_dg dk_M_look 6 rfl) (by decide) (fun q8 => ?_) (fun q8 => ?_)
  · --
    have p7 : (¬ (¬ r6 = 0)) := (fun z => z q8)
    have hsem := zw_ifp p7 hsem
    refine r_iconst X (pc := 31) (v := (-1)) (zw_dg dk_M_look 16 rfl) (by decide) ?_
    obtain ⟨rfl, rfl⟩ := zw_in2 hsem
    exact r_iret X (pc := 32) rfl (zw_dg dk_M_look 17 rfl)
  · --
    have p7 : ¬ (¬ (¬ r6 = 0)) := (fun q => q q8)
    have hsem := zw_ifn p7 hsem
    refine r_aload_n X (pc := 13) (i := 0) (zw_dg dk_M_look 7 rfl) rfl rfl ?_
    refine r_iload_n X (pc := 14) (i := 2) (zw_dg dk_M_look 8 rfl) rfl rfl ?_
    refine r_callVi X (pc := 15) (As := [_]) (st := []) (km_M_isSaying hS rfl) ce_M_isSaying kw_1609 (zo hS 71 rfl rfl) rfl rfl ⟨Nat.le_of_ble_eq_true rfl, Nat.le_of_ble_eq_true rfl⟩ (Nat.le_of_ble_eq_true rfl) (zw_dg dk_M_look 9 rfl) ?_
    refine r_if_eq X (pc := 18) (tgt := 31) (zw_dg dk_M_look 10 rfl) (by decide) (fun q10 => ?_) (fun q10 => ?_)
    · --
      have p9 : (¬ (¬ (fn_M_isSaying c5 t2) = 0)) := (fun z => z q10)
      have hsem := zw_ifp p9 hsem
      refine r_iconst X (pc := 31) (v := (-1)) (zw_dg dk_M_look 16 rfl) (by decide) ?_
      obtain ⟨rfl, rfl⟩ := zw_in2 hsem
      exact r_iret X (pc := 32) rfl (zw_dg dk_M_look 17 rfl)
    · --
      have p9 : ¬ (¬ (¬ (fn_M_isSaying c5 t2) = 0)) := (fun q => q q10)
      have hsem := zw_ifn p9 hsem
      refine r_aload_n X (pc := 21) (i := 0) (zw_dg dk_M_look 11 rfl) rfl rfl ?_
      refine r_iload_n X (pc := 22) (i := 3) (zw_dg dk_M_look 12 rfl) rfl rfl ?_
      refine r_iload X (pc := 23) (i := 4) (zw_dg dk_M_look 13 rfl) rfl ?_
      obtain ⟨r11, hr11, hsem⟩ := zw_bd hsem
      refine r_callVi X (pc := 25) (As := [_, _]) (st := []) (km_M_areLights hS hr11) ce_M_areLights kw_1806 (zo hS 71 rfl rfl) rfl rfl ⟨Nat.le_of_ble_eq_true rfl, Nat.le_of_ble_eq_true rfl⟩ (Nat.le_of_ble_eq_true rfl) (zw_dg dk_M_look 14 rfl) ?_
      refine r_if_ne X (pc := 28) (tgt := 33) (zw_dg dk_M_look 15 rfl) (by decide) (fun q13 => ?_) (fun q13 => ?_)
      · --
        have p12 : ¬ (¬ (¬ r11 = 0)) := (fun q => q q13)
        have hsem := zw_ifn p12 hsem
        refine r_aload_n X (pc := 33) (i := 0) (zw_dg dk_M_look 18 rfl) rfl rfl ?_
        refine r_iload_n X (pc := 34) (i := 1) (zw_dg dk_M_look 19 rfl) rfl rfl ?_
        refine r_iload_n X (pc := 35) (i := 2) (zw_dg dk_M_look 20 rfl) rfl rfl ?_
        refine r_iload_n X (pc := 36) (i := 3) (zw_dg dk_M_look 21 rfl) rfl rfl ?_
        obtain ⟨⟨r14, c15⟩, hr14_c15, hsem⟩ := zw_bd hsem
        refine r_callVl X (pc := 37) (As := [_, _, _]) (st := []) (km_M_moreByLooking hS hr14_c15) ce_M_moreByLooking kw_1813 (zo hS 71 rfl rfl) rfl rfl ⟨Nat.le_of_ble_eq_true rfl, Nat.le_of_ble_eq_true rfl⟩ (Nat.le_of_ble_eq_true rfl) (zw_dg dk_M_look 22 rfl) ?_
        refine r_lstore X (pc := 40) (i := 5) (L2 := [some (.ref 71), some (.int p1), some (.int t2), some (.int lights3), some (.int cost4), some (.long r14), none]) (zw_dg dk_M_look 23 rfl) (by decide) rfl ?_
        refine r_aload_n X (pc := 42) (i := 0) (zw_dg dk_M_look 24 rfl) rfl rfl ?_
        refine r_iconst X (pc := 43) (v := 0) (zw_dg dk_M_look 25 rfl) (by decide) ?_
        refine r_putI X (pc := 44) ci_M (zo hS 71 rfl rfl) rfl lk_M_100 rfl ⟨rfl, rfl⟩ (zw_dg dk_M_look 26 rfl) ?_
        obtain ⟨c16, hc16, hsem⟩ := zw_bd hsem
        refine zw_topC hc16 ?_
        refine r_aload_n X (pc := 47) (i := 0) (zw_dg dk_M_look 27 rfl) rfl rfl ?_
        refine r_lload X (pc := 48) (i := 5) (zw_dg dk_M_look 28 rfl) rfl ?_
        obtain ⟨c17, hc17, hsem⟩ := zw_bd hsem
        refine r_callVv X (pc := 50) (As := [_]) (st := []) (km_M_tell hS hc17) ce_M_tell kw_1704 (zo hS 71 rfl rfl) rfl rfl ⟨Nat.le_of_ble_eq_true rfl, Nat.le_of_ble_eq_true rfl⟩ (Nat.le_of_ble_eq_true rfl) (zw_dg dk_M_look 29 rfl) ?_
        refine r_aload_n X (pc := 53) (i := 0) (zw_dg dk_M_look 30 rfl) rfl rfl ?_
        refine r_aload_n X (pc := 54) (i := 0) (zw_dg dk_M_look 31 rfl) rfl rfl ?_
        refine r_lload X (pc := 55) (i := 5) (zw_dg dk_M_look 32 rfl) rfl ?_
        refine r_iload X (pc := 57) (i := 4) (zw_dg dk_M_look 33 rfl) rfl ?_
        obtain ⟨r18, hr18, hsem⟩ := zw_bd hsem
        refine r_callVi X (pc := 59) (As := [_, _]) (st := [.ref 71]) (km_M_times hS hr18) ce_M_times kw_1822 (zo hS 71 rfl rfl) rfl rfl ⟨Nat.le_of_ble_eq_true rfl, Nat.le_of_ble_eq_true rfl⟩ (Nat.le_of_ble_eq_true rfl) (zw_dg dk_M_look 34 rfl) ?_
        refine r_i2l X (pc := 62) (zw_dg dk_M_look 35 rfl)  ?_
        obtain ⟨c19, hc19, hsem⟩ := zw_bd hsem
        refine r_callVv X (pc := 63) (As := [_]) (st := []) (km_M_tell hS hc19) ce_M_tell kw_1704 (zo hS 71 rfl rfl) rfl rfl ⟨Nat.le_of_ble_eq_true rfl, Nat.le_of_ble_eq_true rfl⟩ (Nat.le_of_ble_eq_true rfl) (zw_dg dk_M_look 36 rfl) ?_
        refine r_iconst X (pc := 66) (v := 0) (zw_dg dk_M_look 37 rfl) (by decide) ?_
        obtain ⟨rfl, rfl⟩ := zw_in2 hsem
        exact r_iret X (pc := 67) rfl (zw_dg dk_M_look 38 rfl)
      · --
        have p12 : (¬ (¬ r11 = 0)) := (fun z => z q13)
        have hsem := zw_ifp p12 hsem
        refine r_iconst X (pc := 31) (v := (-1)) (zw_dg dk_M_look 16 rfl) (by decide) ?_
        obtain ⟨rfl, rfl⟩ := zw_in2 hsem
        exact r_iret X (pc := 32) rfl (zw_dg dk_M_look 17 rfl)
def y_M_purse : MethodName := ⟨R_M, "purse", "(III)I"⟩
abbrev b_M_purse : ByteArray := prog_14_method_60_code
def dl_M_purse : List (Nat × Instr × Nat) := [(0, .aload_n 0, 1), (1, .iconst 0, 1), (2, .putfield 97, 3), (5, .aload_n 0, 1), (6, .iload_n 1, 1), (7, .invokevirtual 142, 3), (10, .ifCond .eq 12, 3), (13, .aload_n 0, 1), (14, .iload_n 2, 1), (15, .iload_n 3, 1), (16, .invokevirtual 278, 3), (19, .ifCond .ne 5, 3), (22, .iconst (-1), 1), (23, .ireturn, 1), (24, .bipush (-2), 2), (26, .istore 4, 2), (28, .iconst 0, 1), (29, .istore 5, 2), (31, .iconst 0, 1), (32, .istore 6, 2), (34, .iload 6, 2), (36, .iconst 4, 1), (37, .if_icmp .ge 66, 3), (40, .aload_n 0, 1), (41, .iload 6, 2), (43, .invokevirtual 222, 3), (46, .ifCond .eq 19, 3), (49, .aload_n 0, 1), (50, .aload_n 0, 1), (51, .iload 6, 2), (53, .iload_n 1, 1), (54, .iload_n 2, 1), (55, .invokevirtual 282, 3), (58, .iload_n 3, 1), (59, .invokevirtual 286, 3), (62, .goto 4, 3), (65, .iconst (-1), 1), (66, .istore 7, 2), (68, .iload 7, 2), (70, .iconst (-1), 1), (71, .if_icmp .eq 26, 3), (74, .iload 4, 2), (76, .ifCond .lt 13, 3), (79, .iload 7, 2), (81, .iload 5, 2), (83, .if_icmp .lt 6, 3), (86, .goto 11, 3), (89, .iload 6, 2), (91, .istore 4, 2), (93, .iload 7, 2), (95, .istore 5, 2), (97, .iinc 6 1, 3), (100, .goto (-66), 3), (103, .iload 4, 2), (105, .ifCond .ge 6, 3), (108, .bipush (-2), 2), (110, .ireturn, 1), (111, .aload_n 0, 1), (112, .iconst 0, 1), (113, .putfield 100, 3), (116, .aload_n 0, 1), (117, .iload 5, 2), (119, .i2l, 1), (120, .invokevirtual 109, 3), (123, .iload 4, 2), (125, .ireturn, 1)]
theorem dk_M_purse : zw_dk b_M_purse dl_M_purse = true := by decide +kernel
theorem ce_M_purse : zw_cev y_M_purse b_M_purse 8 (some .int) 3 := ⟨⟨kt_in 1829 (by decide +kernel) rfl, kt_in 98 (by decide +kernel) rfl, by decide +kernel⟩, kt_in 1827 (by decide +kernel) rfl, kt_in 1828 (by decide +kernel) rfl⟩
def fn_M_purse_l1 (t1 : Int32) (lights2 : Int32) (cost3 : Int32) : Int32 × Int32 × Int32 × zw_Ct → Option ((Int32 × Int32 × zw_Ct) ⊕ (Int32 × Int32 × Int32 × zw_Ct)) := fun (best10, fewest11, p12, c13) =>
  if (p12 < 4) then
  ((fn_M_isPay c13 p12).bind fun r20 =>
  (if (¬ r20 = 0) then
  ((fn_M_moreByLooking c13 p12 t1 lights2).bind fun (r25, c26) =>
  (fn_M_times c26 r25 cost3).bind fun r27 =>
  some ((r27 : Int32), c26))
  else
  (some (((-1) : Int32), c13))).bind fun (v21, c22) =>
  if ((v21 = (-1)) ∨ ((0 ≤ best10) ∧ (fewest11 ≤ v21))) then
  (some (.inr (best10, fewest11, (p12 + 1), c22)))
  else
  (some (.inr (p12, v21, (p12 + 1), c22))))
  else
  (some (.inl (best10, fewest11, c13)))
def fn_M_purse (c : zw_Ct) (t1 : Int32) (lights2 : Int32) (cost3 : Int32) : Option (Int32 × zw_Ct) :=
  (some (zw_wI c 71 9 0)).bind fun c4 =>
  if (¬ (¬ (fn_M_isSaying c4 t1) = 0)) then
  (some ((-1), c4))
  else
  ((fn_M_areLights c4 lights2 cost3).bind fun r7 =>
  if (¬ (¬ r7 = 0)) then
  (some ((-1), c4))
  else
  ((zw_whl (fn_M_purse_l1 t1 lights2 cost3) zw_F ((-2), 0, 0, c4)).bind fun (best14, fewest15, c16) =>
  if (best14 < 0) then
  (some ((-2), c16))
  else
  ((some (zw_wI c16 71 8 0)).bind fun c34 =>
  (fn_M_tell c34 fewest15.toInt64).bind fun c35 =>
  some (best14, c35))))
set_option maxRecDepth 100000 in
theorem km_M_purse {l : Launch} {g : zw_G} {rr : zw_RR} {sh : zw_Sh} {c : zw_Ct} {t1 : Int32} {lights2 : Int32} {cost3 : Int32} {r : Int32} {c2 : zw_Ct} (hS : zw_Ok 0 101 sh rr) (hsem : fn_M_purse c t1 lights2 cost3 = some (r, c2)) : zw_Met l g y_M_purse b_M_purse 8 (some .int) 108 rr sh [.ref 71, .int t1, .int lights2, .int cost3] c (some (.int r)) c2 := by
  unfold fn_M_purse at hsem
  refine zw_Met.of (by decide +kernel) (Nat.le_of_ble_eq_true rfl) (fun p e s m args below meth cd X => ?_)
  refine zw_eL (L2 := [some (.ref 71), some (.int t1), some (.int lights2), some (.int cost3), none, none, none, none]) rfl ?_
  refine r_aload_n X (pc := 0) (i := 0) (zw_dg dk_M_purse 0 rfl) rfl rfl ?_
  refine r_iconst X (pc := 1) (v := 0) (zw_dg dk_M_purse 1 rfl) (by decide) ?_
  refine r_putI X (pc := 2) ci_M (zo hS 71 rfl rfl) rfl lk_M_97 rfl ⟨rfl, rfl⟩ (zw_dg dk_M_purse 2 rfl) ?_
  obtain ⟨c4, hc4, hsem⟩ := zw_bd hsem
  refine zw_topC hc4 ?_
  refine r_aload_n X (pc := 5) (i := 0) (zw_dg dk_M_purse 3 rfl) rfl rfl ?_
  refine r_iload_n X (pc := 6) (i := 1) (zw_dg dk_M_purse 4 rfl) rfl rfl ?_
  refine r_callVi X (pc := 7) (As := [_]) (st := []) (km_M_isSaying hS rfl) ce_M_isSaying kw_1609 (zo hS 71 rfl rfl) rfl rfl ⟨Nat.le_of_ble_eq_true rfl, Nat.le_of_ble_eq_true rfl⟩ (Nat.le_of_ble_eq_true rfl) (zw_dg dk_M_purse 5 rfl) ?_
  refine r_if_eq X (pc := 10) (tgt := 22) (zw_dg dk_M_purse 6 rfl) (by decide) (fun q6 => ?_) (fun q6 => ?_)
  · --
    have p5 : (¬ (¬ (fn_M_isSaying c4 t1) = 0)) := (fun z => z q6)
    have hsem := zw_ifp p5 hsem
    refine r_iconst X (pc := 22) (v := (-1)) (zw_dg dk_M_purse 12 rfl) (by decide) ?_
    obtain ⟨rfl, rfl⟩ := zw_in2 hsem
    exact r_iret X (pc := 23) rfl (zw_dg dk_M_purse 13 rfl)
  · --
    have p5 : ¬ (¬ (¬ (fn_M_isSaying c4 t1) = 0)) := (fun q => q q6)
    have hsem := zw_ifn p5 hsem
    refine r_aload_n X (pc := 13) (i := 0) (zw_dg dk_M_purse 7 rfl) rfl rfl ?_
    refine r_iload_n X (pc := 14) (i := 2) (zw_dg dk_M_purse 8 rfl) rfl rfl ?_
    refine r_iload_n X (pc := 15) (i := 3) (zw_dg dk_M_purse 9 rfl) rfl rfl ?_
    obtain ⟨r7, hr7, hsem⟩ := zw_bd hsem
    refine r_callVi X (pc := 16) (As := [_, _]) (st := []) (km_M_areLights hS hr7) ce_M_areLights kw_1806 (zo hS 71 rfl rfl) rfl rfl ⟨Nat.le_of_ble_eq_true rfl, Nat.le_of_ble_eq_true rfl⟩ (Nat.le_of_ble_eq_true rfl) (zw_dg dk_M_purse 10 rfl) ?_
    refine r_if_ne X (pc := 19) (tgt := 24) (zw_dg dk_M_purse 11 rfl) (by decide) (fun q9 => ?_) (fun q9 => ?_)
    · --
      have p8 : ¬ (¬ (¬ r7 = 0)) := (fun q => q q9)
      have hsem := zw_ifn p8 hsem
      refine r_bipush X (pc := 24) (v := (-2)) (zw_dg dk_M_purse 14 rfl) (by decide) ?_
      refine r_istore X (pc := 26) (i := 4) (zw_dg dk_M_purse 15 rfl) (by decide) rfl ?_
      refine r_iconst X (pc := 28) (v := 0) (zw_dg dk_M_purse 16 rfl) (by decide) ?_
      refine r_istore X (pc := 29) (i := 5) (zw_dg dk_M_purse 17 rfl) (by decide) rfl ?_
      refine r_iconst X (pc := 31) (v := 0) (zw_dg dk_M_purse 18 rfl) (by decide) ?_
      refine r_istore X (pc := 32) (i := 6) (zw_dg dk_M_purse 19 rfl) (by decide) rfl ?_
      obtain ⟨l17, hl17, hsl17⟩ := zw_bd hsem
      refine r_loop (pc := 34) (pce := 103) hl17 (fun (best10, fewest11, p12, c13) => [some (.ref 71), some (.int t1), some (.int lights2), some (.int cost3), some (.int best10), some (.int fewest11), some (.int p12), none] : Int32 × Int32 × Int32 × zw_Ct → zw_Lc) (fun (best10, fewest11, p12, c13) => c13 : Int32 × Int32 × Int32 × zw_Ct → zw_Ct) (fun (best14, fewest15, c16) => [some (.ref 71), some (.int t1), some (.int lights2), some (.int cost3), some (.int best14), some (.int fewest15), none, none] : Int32 × Int32 × zw_Ct → zw_Lc) (fun (best14, fewest15, c16) => c16 : Int32 × Int32 × zw_Ct → zw_Ct) ?_ rfl rfl ?_
      · rintro ⟨best10, fewest11, p12, c13⟩ rr hsem hK hP
        try unfold fn_M_purse_l1 at hsem
        refine r_iload X (pc := 34) (i := 6) (zw_dg dk_M_purse 20 rfl) rfl ?_
        refine r_iconst X (pc := 36) (v := 4) (zw_dg dk_M_purse 21 rfl) (by decide) ?_
        refine r_icmp_ge X (pc := 37) (tgt := 103) (zw_dg dk_M_purse 22 rfl) (by decide) (fun q19 => ?_) (fun q19 => ?_)
        · --
          have p18 : ¬ (p12 < 4) := (Int32.not_lt.mpr q19)
          have hsem := zw_ifn p18 hsem
          have jj := hK _ (Option.some.inj hsem).symm
          exact (r_fgt [6] rfl jj)
        · --
          have p18 : (p12 < 4) := (Int32.not_le.mp q19)
          have hsem := zw_ifp p18 hsem
          refine r_aload_n X (pc := 40) (i := 0) (zw_dg dk_M_purse 23 rfl) rfl rfl ?_
          refine r_iload X (pc := 41) (i := 6) (zw_dg dk_M_purse 24 rfl) rfl ?_
          obtain ⟨r20, hr20, hsem⟩ := zw_bd hsem
          refine r_callVi X (pc := 43) (As := [_]) (st := []) (km_M_isPay hS hr20) ce_M_isPay kw_1688 (zo hS 71 rfl rfl) rfl rfl ⟨Nat.le_of_ble_eq_true rfl, Nat.le_of_ble_eq_true rfl⟩ (Nat.le_of_ble_eq_true rfl) (zw_dg dk_M_purse 25 rfl) ?_
          obtain ⟨⟨v21, c22⟩, hv21, hsv21⟩ := zw_bd hsem
          refine zw_terO (f := Value.int) (v := v21) (J := 66) (st2 := []) (c2 := c22) (fun jj => ?_) ?_
          · have hsem := hv21
            refine r_if_eq X (pc := 46) (tgt := 65) (zw_dg dk_M_purse 26 rfl) (by decide) (fun q24 => ?_) (fun q24 => ?_)
            · --
              have p23 : ¬ (¬ r20 = 0) := (fun z => z q24)
              have hsem := zw_ifn p23 hsem
              refine r_iconst X (pc := 65) (v := (-1)) (zw_dg dk_M_purse 36 rfl) (by decide) ?_
              cases hsem; exact jj
            · --
              have p23 : (¬ r20 = 0) := q24
              have hsem := zw_ifp p23 hsem
              refine r_aload_n X (pc := 49) (i := 0) (zw_dg dk_M_purse 27 rfl) rfl rfl ?_
              refine r_aload_n X (pc := 50) (i := 0) (zw_dg dk_M_purse 28 rfl) rfl rfl ?_
              refine r_iload X (pc := 51) (i := 6) (zw_dg dk_M_purse 29 rfl) rfl ?_
              refine r_iload_n X (pc := 53) (i := 1) (zw_dg dk_M_purse 30 rfl) rfl rfl ?_
              refine r_iload_n X (pc := 54) (i := 2) (zw_dg dk_M_purse 31 rfl) rfl rfl ?_
              obtain ⟨⟨r25, c26⟩, hr25_c26, hsem⟩ := zw_bd hsem
              refine r_callVl X (pc := 55) (As := [_, _, _]) (st := [.ref 71]) (km_M_moreByLooking hS hr25_c26) ce_M_moreByLooking kw_1813 (zo hS 71 rfl rfl) rfl rfl ⟨Nat.le_of_ble_eq_true rfl, Nat.le_of_ble_eq_true rfl⟩ (Nat.le_of_ble_eq_true rfl) (zw_dg dk_M_purse 32 rfl) ?_
              refine r_iload_n X (pc := 58) (i := 3) (zw_dg dk_M_purse 33 rfl) rfl rfl ?_
              obtain ⟨r27, hr27, hsem⟩ := zw_bd hsem
              refine r_callVi X (pc := 59) (As := [_, _]) (st := []) (km_M_times hS hr27) ce_M_times kw_1822 (zo hS 71 rfl rfl) rfl rfl ⟨Nat.le_of_ble_eq_true rfl, Nat.le_of_ble_eq_true rfl⟩ (Nat.le_of_ble_eq_true rfl) (zw_dg dk_M_purse 34 rfl) ?_
              refine r_goto X (pc := 62) (tgt := 66) (zw_dg dk_M_purse 35 rfl) (by decide) ?_
              cases hsem; exact jj
          have hsem := hsv21
          refine r_istore X (pc := 66) (i := 7) (zw_dg dk_M_purse 37 rfl) (by decide) rfl ?_
          refine zw_cnd (P := ((v21 = (-1)) ∨ ((0 ≤ best10) ∧ (fewest11 ≤ v21)))) (J1 := 97) (J2 := 89) (st2 := []) (fun jT jF => ?_) (fun p28 => ?_) (fun p28 => ?_)
          · --
            refine r_iload X (pc := 68) (i := 7) (zw_dg dk_M_purse 38 rfl) rfl ?_
            refine r_iconst X (pc := 70) (v := (-1)) (zw_dg dk_M_purse 39 rfl) (by decide) ?_
            refine r_icmp_eq X (pc := 71) (tgt := 97) (zw_dg dk_M_purse 40 rfl) (by decide) (fun q29 => ?_) (fun q29 => ?_)
            · --
              exact jT (Or.inl q29)
            · --
              refine r_iload X (pc := 74) (i := 4) (zw_dg dk_M_purse 41 rfl) rfl ?_
              refine r_if_lt X (pc := 76) (tgt := 89) (zw_dg dk_M_purse 42 rfl) (by decide) (fun q30 => ?_) (fun q30 => ?_)
              · --
                exact jF (fun q => q.elim q29 (fun q => (Int32.not_le.mpr q30) q.1))
              · --
                refine r_iload X (pc := 79) (i := 7) (zw_dg dk_M_purse 43 rfl) rfl ?_
                refine r_iload X (pc := 81) (i := 5) (zw_dg dk_M_purse 44 rfl) rfl ?_
                refine r_icmp_lt X (pc := 83) (tgt := 89) (zw_dg dk_M_purse 45 rfl) (by decide) (fun q31 => ?_) (fun q31 => ?_)
                · --
                  exact jF (fun q => q.elim q29 (fun q => (Int32.not_le.mpr q31) q.2))
                · --
                  refine r_goto X (pc := 86) (tgt := 97) (zw_dg dk_M_purse 46 rfl) (by decide) ?_
                  exact jT (Or.inr ⟨(Int32.not_lt.mp q30), (Int32.not_lt.mp q31)⟩)
          · --
            have hsem := zw_ifp p28 hsem
            refine r_iinc X (pc := 97) (i := 6) (k := 1) (zw_dg dk_M_purse 51 rfl) rfl (by decide) (by decide) rfl ?_
            refine r_goto X (pc := 100) (tgt := 34) (zw_dg dk_M_purse 52 rfl) (by decide) ?_
            have jj := hP _ (Option.some.inj hsem).symm
            exact (r_fgt [7] rfl jj)
          · --
            have hsem := zw_ifn p28 hsem
            refine r_iload X (pc := 89) (i := 6) (zw_dg dk_M_purse 47 rfl) rfl ?_
            refine r_istore X (pc := 91) (i := 4) (zw_dg dk_M_purse 48 rfl) (by decide) rfl ?_
            refine r_iload X (pc := 93) (i := 7) (zw_dg dk_M_purse 49 rfl) rfl ?_
            refine r_istore X (pc := 95) (i := 5) (zw_dg dk_M_purse 50 rfl) (by decide) rfl ?_
            refine r_iinc X (pc := 97) (i := 6) (k := 1) (zw_dg dk_M_purse 51 rfl) rfl (by decide) (by decide) rfl ?_
            refine r_goto X (pc := 100) (tgt := 34) (zw_dg dk_M_purse 52 rfl) (by decide) ?_
            have jj := hP _ (Option.some.inj hsem).symm
            exact (r_fgt [7] rfl jj)
      obtain ⟨best14, fewest15, c16⟩ := l17
      have hsem := hsl17
      refine r_iload X (pc := 103) (i := 4) (zw_dg dk_M_purse 53 rfl) rfl ?_
      refine r_if_ge X (pc := 105) (tgt := 111) (zw_dg dk_M_purse 54 rfl) (by decide) (fun q33 => ?_) (fun q33 => ?_)
      · --
        have p32 : ¬ (best14 < 0) := (Int32.not_lt.mpr q33)
        have hsem := zw_ifn p32 hsem
        refine r_aload_n X (pc := 111) (i := 0) (zw_dg dk_M_purse 57 rfl) rfl rfl ?_
        refine r_iconst X (pc := 112) (v := 0) (zw_dg dk_M_purse 58 rfl) (by decide) ?_
        refine r_putI X (pc := 113) ci_M (zo hS 71 rfl rfl) rfl lk_M_100 rfl ⟨rfl, rfl⟩ (zw_dg dk_M_purse 59 rfl) ?_
        obtain ⟨c34, hc34, hsem⟩ := zw_bd hsem
        refine zw_topC hc34 ?_
        refine r_aload_n X (pc := 116) (i := 0) (zw_dg dk_M_purse 60 rfl) rfl rfl ?_
        refine r_iload X (pc := 117) (i := 5) (zw_dg dk_M_purse 61 rfl) rfl ?_
        refine r_i2l X (pc := 119) (zw_dg dk_M_purse 62 rfl)  ?_
        obtain ⟨c35, hc35, hsem⟩ := zw_bd hsem
        refine r_callVv X (pc := 120) (As := [_]) (st := []) (km_M_tell hS hc35) ce_M_tell kw_1704 (zo hS 71 rfl rfl) rfl rfl ⟨Nat.le_of_ble_eq_true rfl, Nat.le_of_ble_eq_true rfl⟩ (Nat.le_of_ble_eq_true rfl) (zw_dg dk_M_purse 63 rfl) ?_
        refine r_iload X (pc := 123) (i := 4) (zw_dg dk_M_purse 64 rfl) rfl ?_
        obtain ⟨rfl, rfl⟩ := zw_in2 hsem
        exact r_iret X (pc := 125) rfl (zw_dg dk_M_purse 65 rfl)
      · --
        have p32 : (best14 < 0) := (Int32.not_le.mp q33)
        have hsem := zw_ifp p32 hsem
        refine r_bipush X (pc := 108) (v := (-2)) (zw_dg dk_M_purse 55 rfl) (by decide) ?_
        obtain ⟨rfl, rfl⟩ := zw_in2 hsem
        exact r_iret X (pc := 110) rfl (zw_dg dk_M_purse 56 rfl)
    · --
      have p8 : (¬ (¬ r7 = 0)) := (fun z => z q9)
      have hsem := zw_ifp p8 hsem
      refine r_iconst X (pc := 22) (v := (-1)) (zw_dg dk_M_purse 12 rfl) (by decide) ?_
      obtain ⟨rfl, rfl⟩ := zw_in2 hsem
      exact r_iret X (pc := 23) rfl (zw_dg dk_M_purse 13 rfl)
def y_M_minds : MethodName := ⟨R_M, "minds", "(III)I"⟩
abbrev b_M_minds : ByteArray := prog_14_method_61_code
def dl_M_minds : List (Nat × Instr × Nat) := [(0, .aload_n 0, 1), (1, .iconst 0, 1), (2, .putfield 97, 3), (5, .aload_n 0, 1), (6, .iload_n 1, 1), (7, .invokevirtual 222, 3), (10, .ifCond .eq 23, 3), (13, .aload_n 0, 1), (14, .iload_n 2, 1), (15, .invokevirtual 142, 3), (18, .ifCond .eq 15, 3), (21, .iload_n 3, 1), (22, .i2l, 1), (23, .lconst 1, 1), (24, .ldc2_w 264, 3), (27, .invokestatic 120, 3), (30, .ifCond .ne 5, 3), (33, .iconst (-1), 1), (34, .ireturn, 1), (35, .aload_n 0, 1), (36, .iload_n 1, 1), (37, .invokevirtual 229, 3), (40, .iconst (-1), 1), (41, .istore 4, 2), (43, .iconst 0, 1), (44, .istore 5, 2), (46, .lconst 0, 1), (47, .lstore 6, 2), (49, .iconst 0, 1), (50, .istore 8, 2), (52, .iconst 0, 1), (53, .istore 9, 2), (55, .iload 9, 2), (57, .aload_n 0, 1), (58, .getfield 113, 3), (61, .if_icmp .ge 140, 3), (64, .lconst 0, 1), (65, .lstore 10, 2), (67, .iconst 0, 1), (68, .istore 12, 2), (70, .iload 12, 2), (72, .aload_n 0, 1), (73, .getfield 9, 3), (76, .if_icmp .ge 59, 3), (79, .aload_n 0, 1), (80, .getfield 46, 3), (83, .iconst 4, 1), (84, .iload 9, 2), (86, .imul, 1), (87, .iload 12, 2), (89, .iadd, 1), (90, .iaload, 1), (91, .i2l, 1), (92, .lstore 13, 2), (94, .lload 10, 2), (96, .aload_n 0, 1), (97, .getfield 16, 3), (100, .iconst 4, 1), (101, .iload_n 2, 1), (102, .imul, 1), (103, .iload 12, 2), (105, .iadd, 1), (106, .iaload, 1), (107, .i2l, 1), (108, .lload 13, 2), (110, .lconst 0, 1), (111, .lcmp, 1), (112, .ifCond .ge 11, 3), (115, .iload_n 3, 1), (116, .i2l, 1), (117, .lload 13, 2), (119, .lmul, 1), (120, .goto 5, 3), (123, .lload 13, 2), (125, .lmul, 1), (126, .ladd, 1), (127, .lstore 10, 2), (129, .iinc 12 1, 3), (132, .goto (-62), 3), (135, .iload 4, 2), (137, .iconst (-1), 1), (138, .if_icmp .eq 11, 3), (141, .lload 10, 2), (143, .lload 6, 2), (145, .lcmp, 1), (146, .ifCond .le 17, 3), (149, .iload 9, 2), (151, .istore 4, 2), (153, .lload 10, 2), (155, .lstore 6, 2), (157, .iconst 0, 1), (158, .istore 5, 2), (160, .iconst 0, 1), (161, .istore 8, 2), (163, .lload 10, 2), (165, .lload 6, 2), (167, .lcmp, 1), (168, .ifCond .ge 6, 3), (171, .goto 24, 3), (174, .iinc 5 1, 3), (177, .iload 8, 2), (179, .ifCond .ne 9, 3), (182, .iload 9, 2), (184, .iload_n 2, 1), (185, .if_icmp .ne 7, 3), (188, .iconst 1, 1), (189, .goto 4, 3), (192, .iconst 0, 1), (193, .istore 8, 2), (195, .iinc 9 1, 3), (198, .goto (-143), 3), (201, .aload_n 0, 1), (202, .iconst 0, 1), (203, .putfield 100, 3), (206, .aload_n 0, 1), (207, .iload 5, 2), (209, .i2l, 1), (210, .invokevirtual 109, 3), (213, .aload_n 0, 1), (214, .iload 8, 2), (216, .ifCond .eq 7, 3), (219, .lconst 1, 1), (220, .goto 4, 3), (223, .lconst 0, 1), (224, .invokevirtual 109, 3), (227, .aload_n 0, 1), (228, .aload_n 0, 1), (229, .iload 4, 2), (231, .iload_n 2, 1), (232, .invokevirtual 233, 3), (235, .aload_n 0, 1), (236, .getfield 13, 3), (239, .i2l, 1), (240, .invokevirtual 240, 3), (243, .iload 4, 2), (245, .ireturn, 1)]
theorem dk_M_minds : zw_dk b_M_minds dl_M_minds = true := by decide +kernel
theorem ce_M_minds : zw_cev y_M_minds b_M_minds 15 (some .int) 3 := ⟨⟨kt_in 1833 (by decide +kernel) rfl, kt_in 98 (by decide +kernel) rfl, by decide +kernel⟩, kt_in 1831 (by decide +kernel) rfl, kt_in 1832 (by decide +kernel) rfl⟩
def fn_M_minds_l2 (c10 : zw_Ct) (s15 : Int32) (t2 : Int32) (w3 : Int32) : Int64 × Int32 → Option ((Int64) ⊕ (Int64 × Int32)) := fun (v23, e24) =>
  if (e24 < (c10.1 71 0)) then
  ((zw_aI 1820 c10 84 ((4 * s15) + e24)).bind fun x29 =>
  (some (x29.toInt64 : Int64)).bind fun x30 =>
  (zw_aI 1820 c10 72 ((4 * t2) + e24)).bind fun x31 =>
  (some ((v23 + (x31.toInt64 * (if (x30 < 0) then ((w3.toInt64 * x30) : Int64) else x30))) : Int64)).bind fun v33 =>
  some (.inr (v33, (e24 + 1))))
  else
  (some (.inl v23))
def fn_M_minds_l1 (c10 : zw_Ct) (t2 : Int32) (w3 : Int32) : Int32 × Int64 × Int32 × Int32 × Int32 → Option ((Int32 × Int64 × Int32 × Int32) ⊕ (Int32 × Int64 × Int32 × Int32 × Int32)) := fun (best11, most12, n13, isTrue14, s15) =>
  if (s15 < (c10.1 71 2)) then
  ((zw_whl (fn_M_minds_l2 c10 s15 t2 w3) zw_F (0, 0)).bind fun v25 =>
  (if ((best11 = (-1)) ∨ (most12 < v25)) then
  (some ((s15 : Int32), (v25 : Int64), (0 : Int32), (0 : Int32)))
  else
  (some ((best11 : Int32), (most12 : Int64), (n13 : Int32), (isTrue14 : Int32)))).bind fun (best34, most35, n36, isTrue37) =>
  if (v25 < most35) then
  (some (.inr (best34, most35, n36, isTrue37, (s15 + 1))))
  else
  ((some ((if ((¬ isTrue37 = 0) ∨ (s15 = t2)) then (1 : Int32) else 0) : Int32)).bind fun isTrue45 =>
  some (.inr (best34, most35, (n36 + 1), isTrue45, (s15 + 1)))))
  else
  (some (.inl (best11, most12, n13, isTrue14)))
def fn_M_minds (c : zw_Ct) (p1 : Int32) (t2 : Int32) (w3 : Int32) : Option (Int32 × zw_Ct) :=
  (some (zw_wI c 71 9 0)).bind fun c4 =>
  (fn_M_isPay c4 p1).bind fun r5 =>
  if (((¬ (¬ r5 = 0)) ∨ (¬ (¬ (fn_M_isSaying c4 t2) = 0))) ∨ (¬ (¬ (fn_M_in w3.toInt64 1 9) = 0))) then
  (some ((-1), c4))
  else
  ((fn_M_layPay c4 p1).bind fun c10 =>
  (zw_whl (fn_M_minds_l1 c10 t2 w3) zw_F ((-1), 0, 0, 0, 0)).bind fun (best16, most17, n18, isTrue19) =>
  (some (zw_wI c10 71 8 0)).bind fun c46 =>
  (fn_M_tell c46 n18.toInt64).bind fun c47 =>
  (fn_M_tell c47 (if (¬ isTrue19 = 0) then (1 : Int64) else 0)).bind fun c49 =>
  (fn_M_worth c49 best16 t2).bind fun r50 =>
  (fn_M_tellPart c49 r50 ((c49.1 71 1)).toInt64).bind fun c51 =>
  some (best16, c51))
set_option maxRecDepth 100000 in
theorem km_M_minds {l : Launch} {g : zw_G} {rr : zw_RR} {sh : zw_Sh} {c : zw_Ct} {p1 : Int32} {t2 : Int32} {w3 : Int32} {r : Int32} {c2 : zw_Ct} (hS : zw_Ok 0 101 sh rr) (hsem : fn_M_minds c p1 t2 w3 = some (r, c2)) : zw_Met l g y_M_minds b_M_minds 15 (some .int) 107 rr sh [.ref 71, .int p1, .int t2, .int w3] c (some (.int r)) c2 := by
  unfold fn_M_minds at hsem
  refine zw_Met.of (by decide +kernel) (Nat.le_of_ble_eq_true rfl) (fun p e s m args below meth cd X => ?_)
  refine zw_eL (L2 := [some (.ref 71), some (.int p1), some (.int t2), some (.int w3), none, none, none, none, none, none, none, none, none, none, none]) rfl ?_
  refine r_aload_n X (pc := 0) (i := 0) (zw_dg dk_M_minds 0 rfl) rfl rfl ?_
  refine r_iconst X (pc := 1) (v := 0) (zw_dg dk_M_minds 1 rfl) (by decide) ?_
  refine r_putI X (pc := 2) ci_M (zo hS 71 rfl rfl) rfl lk_M_97 rfl ⟨rfl, rfl⟩ (zw_dg dk_M_minds 2 rfl) ?_
  obtain ⟨c4, hc4, hsem⟩ := zw_bd hsem
  refine zw_topC hc4 ?_
  refine r_aload_n X (pc := 5) (i := 0) (zw_dg dk_M_minds 3 rfl) rfl rfl ?_
  refine r_iload_n X (pc := 6) (i := 1) (zw_dg dk_M_minds 4 rfl) rfl rfl ?_
  obtain ⟨r5, hr5, hsem⟩ := zw_bd hsem
  refine r_callVi X (pc := 7) (As := [_]) (st := []) (km_M_isPay hS hr5) ce_M_isPay kw_1688 (zo hS 71 rfl rfl) rfl rfl ⟨Nat.le_of_ble_eq_true rfl, Nat.le_of_ble_eq_true rfl⟩ (Nat.le_of_ble_eq_true rfl) (zw_dg dk_M_minds 5 rfl) ?_
  refine zw_cnd (P := (((¬ (¬ r5 = 0)) ∨ (¬ (¬ (fn_M_isSaying c4 t2) = 0))) ∨ (¬ (¬ (fn_M_in w3.toInt64 1 9) = 0)))) (J1 := 33) (J2 := 35) (st2 := []) (fun jT jF => ?_) (fun p6 => ?_) (fun p6 => ?_)
  · --
    refine r_if_eq X (pc := 10) (tgt := 33) (zw_dg dk_M_minds 6 rfl) (by decide) (fun q7 => ?_) (fun q7 => ?_)
    · --
      exact jT (Or.inl (Or.inl (fun z => z q7)))
    · --
      refine r_aload_n X (pc := 13) (i := 0) (zw_dg dk_M_minds 7 rfl) rfl rfl ?_
      refine r_iload_n X (pc := 14) (i := 2) (zw_dg dk_M_minds 8 rfl) rfl rfl ?_
      refine r_callVi X (pc := 15) (As := [_]) (st := []) (km_M_isSaying hS rfl) ce_M_isSaying kw_1609 (zo hS 71 rfl rfl) rfl rfl ⟨Nat.le_of_ble_eq_true rfl, Nat.le_of_ble_eq_true rfl⟩ (Nat.le_of_ble_eq_true rfl) (zw_dg dk_M_minds 9 rfl) ?_
      refine r_if_eq X (pc := 18) (tgt := 33) (zw_dg dk_M_minds 10 rfl) (by decide) (fun q8 => ?_) (fun q8 => ?_)
      · --
        exact jT (Or.inl (Or.inr (fun z => z q8)))
      · --
        refine r_iload_n X (pc := 21) (i := 3) (zw_dg dk_M_minds 11 rfl) rfl rfl ?_
        refine r_i2l X (pc := 22) (zw_dg dk_M_minds 12 rfl)  ?_
        refine r_lconst X (pc := 23) (v := 1) (zw_dg dk_M_minds 13 rfl) (by decide) ?_
        refine r_ldc2 X (pc := 24) (v := 9) kw_1789 (zw_dg dk_M_minds 14 rfl) ?_
        refine r_callSi X (pc := 27) (As := [_, _, _]) (st := []) (km_M_in hS rfl) ce_M_in kw_1597 rfl ⟨Nat.le_of_ble_eq_true rfl, Nat.le_of_ble_eq_true rfl⟩ (Nat.le_of_ble_eq_true rfl) (zw_dg dk_M_minds 15 rfl) ?_
        refine r_if_ne X (pc := 30) (tgt := 35) (zw_dg dk_M_minds 16 rfl) (by decide) (fun q9 => ?_) (fun q9 => ?_)
        · --
          exact jF (fun q => q.elim (fun q => q.elim (fun q => q q7) (fun q => q q8)) (fun q => q q9))
        · --
          exact jT (Or.inr (fun z => z q9))
  · --
    have hsem := zw_ifp p6 hsem
    refine r_iconst X (pc := 33) (v := (-1)) (zw_dg dk_M_minds 17 rfl) (by decide) ?_
    obtain ⟨rfl, rfl⟩ := zw_in2 hsem
    exact r_iret X (pc := 34) rfl (zw_dg dk_M_minds 18 rfl)
  · --
    have hsem := zw_ifn p6 hsem
    refine r_aload_n X (pc := 35) (i := 0) (zw_dg dk_M_minds 19 rfl) rfl rfl ?_
    refine r_iload_n X (pc := 36) (i := 1) (zw_dg dk_M_minds 20 rfl) rfl rfl ?_
    obtain ⟨c10, hc10, hsem⟩ := zw_bd hsem
    refine r_callVv X (pc := 37) (As := [_]) (st := []) (km_M_layPay hS hc10) ce_M_layPay kw_1700 (zo hS 71 rfl rfl) rfl rfl ⟨Nat.le_of_ble_eq_true rfl, Nat.le_of_ble_eq_true rfl⟩ (Nat.le_of_ble_eq_true rfl) (zw_dg dk_M_minds 21 rfl) ?_
    refine r_iconst X (pc := 40) (v := (-1)) (zw_dg dk_M_minds 22 rfl) (by decide) ?_
    refine r_istore X (pc := 41) (i := 4) (zw_dg dk_M_minds 23 rfl) (by decide) rfl ?_
    refine r_iconst X (pc := 43) (v := 0) (zw_dg dk_M_minds 24 rfl) (by decide) ?_
    refine r_istore X (pc := 44) (i := 5) (zw_dg dk_M_minds 25 rfl) (by decide) rfl ?_
    refine r_lconst X (pc := 46) (v := 0) (zw_dg dk_M_minds 26 rfl) (by decide) ?_
    refine r_lstore X (pc := 47) (i := 6) (L2 := [some (.ref 71), some (.int p1), some (.int t2), some (.int w3), some (.int (-1)), some (.int 0), some (.long 0), none, none, none, none, none, none, none, none]) (zw_dg dk_M_minds 27 rfl) (by decide) rfl ?_
    refine r_iconst X (pc := 49) (v := 0) (zw_dg dk_M_minds 28 rfl) (by decide) ?_
    refine r_istore X (pc := 50) (i := 8) (zw_dg dk_M_minds 29 rfl) (by decide) rfl ?_
    refine r_iconst X (pc := 52) (v := 0) (zw_dg dk_M_minds 30 rfl) (by decide) ?_
    refine r_istore X (pc := 53) (i := 9) (zw_dg dk_M_minds 31 rfl) (by decide) rfl ?_
    obtain ⟨l20, hl20, hsl20⟩ := zw_bd hsem
    refine r_loop (pc := 55) (pce := 201) hl20 (fun (best11, most12, n13, isTrue14, s15) => [some (.ref 71), some (.int p1), some (.int t2), some (.int w3), some (.int best11), some (.int n13), some (.long most12), none, some (.int isTrue14), some (.int s15), none, none, none, none, none] : Int32 × Int64 × Int32 × Int32 × Int32 → zw_Lc) (fun (best11, most12, n13, isTrue14, s15) => c10 : Int32 × Int64 × Int32 × Int32 × Int32 → zw_Ct) (fun (best16, most17, n18, isTrue19) => [some (.ref 71), some (.int p1), some (.int t2), some (.int w3), some (.int best16), some (.int n18), some (.long most17), none, some (.int isTrue19), none, none, none, none, none, none] : Int32 × Int64 × Int32 × Int32 → zw_Lc) (fun (best16, most17, n18, isTrue19) => c10 : Int32 × Int64 × Int32 × Int32 → zw_Ct) ?_ rfl rfl ?_
    · rintro ⟨best11, most12, n13, isTrue14, s15⟩ rr hsem hK hP
      try unfold fn_M_minds_l1 at hsem
      refine r_iload X (pc := 55) (i := 9) (zw_dg dk_M_minds 32 rfl) rfl ?_
      refine r_aload_n X (pc := 57) (i := 0) (zw_dg dk_M_minds 33 rfl) rfl rfl ?_
      refine r_getI X (pc := 58) ci_M (zo hS 71 rfl rfl) rfl lk_M_113 (zw_dg dk_M_minds 34 rfl) ?_
      refine r_icmp_ge X (pc := 61) (tgt := 201) (zw_dg dk_M_minds 35 rfl) (by decide) (fun q22 => ?_) (fun q22 => ?_)
      · --
        have p21 : ¬ (s15 < (c10.1 71 2)) := (Int32.not_lt.mpr q22)
        have hsem := zw_ifn p21 hsem
        have jj := hK _ (Option.some.inj hsem).symm
        exact (r_fgt [9] rfl jj)
      · --
        have p21 : (s15 < (c10.1 71 2)) := (Int32.not_le.mp q22)
        have hsem := zw_ifp p21 hsem
        refine r_lconst X (pc := 64) (v := 0) (zw_dg dk_M_minds 36 rfl) (by decide) ?_
        refine r_lstore X (pc := 65) (i := 10) (L2 := [some (.ref 71), some (.int p1), some (.int t2), some (.int w3), some (.int best11), some (.int n13), some (.long most12), none, some (.int isTrue14), some (.int s15), some (.long 0), none, none, none, none]) (zw_dg dk_M_minds 37 rfl) (by decide) rfl ?_
        refine r_iconst X (pc := 67) (v := 0) (zw_dg dk_M_minds 38 rfl) (by decide) ?_
        refine r_istore X (pc := 68) (i := 12) (zw_dg dk_M_minds 39 rfl) (by decide) rfl ?_
        obtain ⟨v25, hl26, hsl26⟩ := zw_bd hsem
        refine r_loop (pc := 70) (pce := 135) hl26 (fun (v23, e24) => [some (.ref 71), some (.int p1), some (.int t2), some (.int w3), some (.int best11), some (.int n13), some (.long most12), none, some (.int isTrue14), some (.int s15), some (.long v23), none, some (.int e24), none, none] : Int64 × Int32 → zw_Lc) (fun (v23, e24) => c10 : Int64 × Int32 → zw_Ct) (fun v25 => [some (.ref 71), some (.int p1), some (.int t2), some (.int w3), some (.int best11), some (.int n13), some (.long most12), none, some (.int isTrue14), some (.int s15), some (.long v25), none, none, none, none] : Int64 → zw_Lc) (fun v25 => c10 : Int64 → zw_Ct) ?_ rfl rfl ?_
        · rintro ⟨v23, e24⟩ rr hsem hK hP
          try unfold fn_M_minds_l2 at hsem
          refine r_iload X (pc := 70) (i := 12) (zw_dg dk_M_minds 40 rfl) rfl ?_
          refine r_aload_n X (pc := 72) (i := 0) (zw_dg dk_M_minds 41 rfl) rfl rfl ?_
          refine r_getI X (pc := 73) ci_M (zo hS 71 rfl rfl) rfl lk_M_9 (zw_dg dk_M_minds 42 rfl) ?_
          refine r_icmp_ge X (pc := 76) (tgt := 135) (zw_dg dk_M_minds 43 rfl) (by decide) (fun q28 => ?_) (fun q28 => ?_)
          · --
            have p27 : ¬ (e24 < (c10.1 71 0)) := (Int32.not_lt.mpr q28)
            have hsem := zw_ifn p27 hsem
            have jj := hK _ (Option.some.inj hsem).symm
            exact (r_fgt [12] rfl jj)
          · --
            have p27 : (e24 < (c10.1 71 0)) := (Int32.not_le.mp q28)
            have hsem := zw_ifp p27 hsem
            refine r_aload_n X (pc := 79) (i := 0) (zw_dg dk_M_minds 44 rfl) rfl rfl ?_
            refine r_getR X (pc := 80) (r := 84) ci_M (zo hS 71 rfl rfl) rfl (zr hS 71 21 rfl rfl) lk_M_46 (zw_dg dk_M_minds 45 rfl) ?_
            refine r_iconst X (pc := 83) (v := 4) (zw_dg dk_M_minds 46 rfl) (by decide) ?_
            refine r_iload X (pc := 84) (i := 9) (zw_dg dk_M_minds 47 rfl) rfl ?_
            refine r_imul X (pc := 86) (zw_dg dk_M_minds 48 rfl)  ?_
            refine r_iload X (pc := 87) (i := 12) (zw_dg dk_M_minds 49 rfl) rfl ?_
            refine r_iadd X (pc := 89) (zw_dg dk_M_minds 50 rfl)  ?_
            obtain ⟨x29, hx29, hsem⟩ := zw_bd hsem
            refine r_iald X (pc := 90) (zo hS 84 rfl rfl) hx29 (zw_dg dk_M_minds 51 rfl) ?_
            refine r_i2l X (pc := 91) (zw_dg dk_M_minds 52 rfl)  ?_
            obtain ⟨x30, hx30, hsem⟩ := zw_bd hsem
            refine zw_topJ hx30 ?_
            refine r_lstore X (pc := 92) (i := 13) (L2 := [some (.ref 71), some (.int p1), some (.int t2), some (.int w3), some (.int best11), some (.int n13), some (.long most12), none, some (.int isTrue14), some (.int s15), some (.long v23), none, some (.int e24), some (.long x30), none]) (zw_dg dk_M_minds 53 rfl) (by decide) rfl ?_
            refine r_lload X (pc := 94) (i := 10) (zw_dg dk_M_minds 54 rfl) rfl ?_
            refine r_aload_n X (pc := 96) (i := 0) (zw_dg dk_M_minds 55 rfl) rfl rfl ?_
            refine r_getR X (pc := 97) (r := 72) ci_M (zo hS 71 rfl rfl) rfl (zr hS 71 3 rfl rfl) lk_M_16 (zw_dg dk_M_minds 56 rfl) ?_
            refine r_iconst X (pc := 100) (v := 4) (zw_dg dk_M_minds 57 rfl) (by decide) ?_
            refine r_iload_n X (pc := 101) (i := 2) (zw_dg dk_M_minds 58 rfl) rfl rfl ?_
            refine r_imul X (pc := 102) (zw_dg dk_M_minds 59 rfl)  ?_
            refine r_iload X (pc := 103) (i := 12) (zw_dg dk_M_minds 60 rfl) rfl ?_
            refine r_iadd X (pc := 105) (zw_dg dk_M_minds 61 rfl)  ?_
            obtain ⟨x31, hx31, hsem⟩ := zw_bd hsem
            refine r_iald X (pc := 106) (zo hS 72 rfl rfl) hx31 (zw_dg dk_M_minds 62 rfl) ?_
            refine r_i2l X (pc := 107) (zw_dg dk_M_minds 63 rfl)  ?_
            refine zw_ter (P := (x30 < 0)) (f := Value.long) (x := (w3.toInt64 * x30)) (y := x30) (J := 125) (st2 := [.long x31.toInt64, .long v23]) (fun jT jF => ?_) ?_
            · --
              refine r_lload X (pc := 108) (i := 13) (zw_dg dk_M_minds 64 rfl) rfl ?_
              refine r_lconst X (pc := 110) (v := 0) (zw_dg dk_M_minds 65 rfl) (by decide) ?_
              refine r_lcmp_ge X (pc := 111) (tgt := 123) (zw_dg dk_M_minds 66 rfl) (zw_dg dk_M_minds 67 rfl) (by decide) (fun q32 => ?_) (fun q32 => ?_)
              · --
                refine r_lload X (pc := 123) (i := 13) (zw_dg dk_M_minds 73 rfl) rfl ?_
                exact jF (Int64.not_lt.mpr q32)
              · --
                refine r_iload_n X (pc := 115) (i := 3) (zw_dg dk_M_minds 68 rfl) rfl rfl ?_
                refine r_i2l X (pc := 116) (zw_dg dk_M_minds 69 rfl)  ?_
                refine r_lload X (pc := 117) (i := 13) (zw_dg dk_M_minds 70 rfl) rfl ?_
                refine r_lmul X (pc := 119) (zw_dg dk_M_minds 71 rfl)  ?_
                refine r_goto X (pc := 120) (tgt := 125) (zw_dg dk_M_minds 72 rfl) (by decide) ?_
                exact jT (Int64.not_le.mp q32)
            refine r_lmul X (pc := 125) (zw_dg dk_M_minds 74 rfl)  ?_
            refine r_ladd X (pc := 126) (zw_dg dk_M_minds 75 rfl)  ?_
            obtain ⟨v33, hv33, hsem⟩ := zw_bd hsem
            refine zw_topJ hv33 ?_
            refine r_lstore X (pc := 127) (i := 10) (L2 := [some (.ref 71), some (.int p1), some (.int t2), some (.int w3), some (.int best11), some (.int n13), some (.long most12), none, some (.int isTrue14), some (.int s15), some (.long v33), none, some (.int e24), some (.long x30), none]) (zw_dg dk_M_minds 76 rfl) (by decide) rfl ?_
            refine r_iinc X (pc := 129) (i := 12) (k := 1) (zw_dg dk_M_minds 77 rfl) rfl (by decide) (by decide) rfl ?_
            refine r_goto X (pc := 132) (tgt := 70) (zw_dg dk_M_minds 78 rfl) (by decide) ?_
            have jj := hP _ (Option.some.inj hsem).symm
            exact (r_fgt [13] rfl jj)
        have hsem := hsl26
        obtain ⟨⟨best34, most35, n36, isTrue37⟩, ht163, hs163⟩ := zw_bd hsem
        refine zw_jn (J := 163) (L2 := [some (.ref 71), some (.int p1), some (.int t2), some (.int w3), some (.int best34), some (.int n36), some (.long most35), none, some (.int isTrue37), some (.int s15), some (.long v25), none, none, none, none]) (c2 := c10) (fun jj => ?_) ?_
        · have hsem := ht163
          refine zw_cnd (P := ((best11 = (-1)) ∨ (most12 < v25))) (J1 := 149) (J2 := 163) (st2 := []) (fun jT jF => ?_) (fun p38 => ?_) (fun p38 => ?_)
          · --
            refine r_iload X (pc := 135) (i := 4) (zw_dg dk_M_minds 79 rfl) rfl ?_
            refine r_iconst X (pc := 137) (v := (-1)) (zw_dg dk_M_minds 80 rfl) (by decide) ?_
            refine r_icmp_eq X (pc := 138) (tgt := 149) (zw_dg dk_M_minds 81 rfl) (by decide) (fun q39 => ?_) (fun q39 => ?_)
            · --
              exact jT (Or.inl q39)
            · --
              refine r_lload X (pc := 141) (i := 10) (zw_dg dk_M_minds 82 rfl) rfl ?_
              refine r_lload X (pc := 143) (i := 6) (zw_dg dk_M_minds 83 rfl) rfl ?_
              refine r_lcmp_le X (pc := 145) (tgt := 163) (zw_dg dk_M_minds 84 rfl) (zw_dg dk_M_minds 85 rfl) (by decide) (fun q40 => ?_) (fun q40 => ?_)
              · --
                exact jF (fun q => q.elim q39 (Int64.not_lt.mpr q40))
              · --
                exact jT (Or.inr (Int64.not_le.mp q40))
          · --
            have hsem := zw_ifp p38 hsem
            refine r_iload X (pc := 149) (i := 9) (zw_dg dk_M_minds 86 rfl) rfl ?_
            refine r_istore X (pc := 151) (i := 4) (zw_dg dk_M_minds 87 rfl) (by decide) rfl ?_
            refine r_lload X (pc := 153) (i := 10) (zw_dg dk_M_minds 88 rfl) rfl ?_
            refine r_lstore X (pc := 155) (i := 6) (L2 := [some (.ref 71), some (.int p1), some (.int t2), some (.int w3), some (.int s15), some (.int n13), some (.long v25), none, some (.int isTrue14), some (.int s15), some (.long v25), none, none, none, none]) (zw_dg dk_M_minds 89 rfl) (by decide) rfl ?_
            refine r_iconst X (pc := 157) (v := 0) (zw_dg dk_M_minds 90 rfl) (by decide) ?_
            refine r_istore X (pc := 158) (i := 5) (zw_dg dk_M_minds 91 rfl) (by decide) rfl ?_
            refine r_iconst X (pc := 160) (v := 0) (zw_dg dk_M_minds 92 rfl) (by decide) ?_
            refine r_istore X (pc := 161) (i := 8) (zw_dg dk_M_minds 93 rfl) (by decide) rfl ?_
            obtain ⟨rfl, rfl, rfl, rfl⟩ := zw_in4 hsem
            exact (r_fgt [] rfl jj)
          · --
            have hsem := zw_ifn p38 hsem
            obtain ⟨rfl, rfl, rfl, rfl⟩ := zw_in4 hsem
            exact (r_fgt [] rfl jj)
        have hsem := hs163
        refine r_lload X (pc := 163) (i := 10) (zw_dg dk_M_minds 94 rfl) rfl ?_
        refine r_lload X (pc := 165) (i := 6) (zw_dg dk_M_minds 95 rfl) rfl ?_
        refine r_lcmp_ge X (pc := 167) (tgt := 174) (zw_dg dk_M_minds 96 rfl) (zw_dg dk_M_minds 97 rfl) (by decide) (fun q42 => ?_) (fun q42 => ?_)
        · --
          have p41 : ¬ (v25 < most35) := (Int64.not_lt.mpr q42)
          have hsem := zw_ifn p41 hsem
          refine r_iinc X (pc := 174) (i := 5) (k := 1) (zw_dg dk_M_minds 99 rfl) rfl (by decide) (by decide) rfl ?_
          refine zw_ter (P := ((¬ isTrue37 = 0) ∨ (s15 = t2))) (f := Value.int) (x := 1) (y := 0) (J := 193) (st2 := []) (fun jT jF => ?_) ?_
          · --
            refine r_iload X (pc := 177) (i := 8) (zw_dg dk_M_minds 100 rfl) rfl ?_
            refine r_if_ne X (pc := 179) (tgt := 188) (zw_dg dk_M_minds 101 rfl) (by decide) (fun q43 => ?_) (fun q43 => ?_)
            · --
              refine r_iconst X (pc := 188) (v := 1) (zw_dg dk_M_minds 105 rfl) (by decide) ?_
              refine r_goto X (pc := 189) (tgt := 193) (zw_dg dk_M_minds 106 rfl) (by decide) ?_
              exact jT (Or.inl q43)
            · --
              refine r_iload X (pc := 182) (i := 9) (zw_dg dk_M_minds 102 rfl) rfl ?_
              refine r_iload_n X (pc := 184) (i := 2) (zw_dg dk_M_minds 103 rfl) rfl rfl ?_
              refine r_icmp_ne X (pc := 185) (tgt := 192) (zw_dg dk_M_minds 104 rfl) (by decide) (fun q44 => ?_) (fun q44 => ?_)
              · --
                refine r_iconst X (pc := 192) (v := 0) (zw_dg dk_M_minds 107 rfl) (by decide) ?_
                exact jF (fun q => q.elim (fun z => z q43) q44)
              · --
                refine r_iconst X (pc := 188) (v := 1) (zw_dg dk_M_minds 105 rfl) (by decide) ?_
                refine r_goto X (pc := 189) (tgt := 193) (zw_dg dk_M_minds 106 rfl) (by decide) ?_
                exact jT (Or.inr q44)
          obtain ⟨isTrue45, hisTrue45, hsem⟩ := zw_bd hsem
          refine zw_topI hisTrue45 ?_
          refine r_istore X (pc := 193) (i := 8) (zw_dg dk_M_minds 108 rfl) (by decide) rfl ?_
          refine r_iinc X (pc := 195) (i := 9) (k := 1) (zw_dg dk_M_minds 109 rfl) rfl (by decide) (by decide) rfl ?_
          refine r_goto X (pc := 198) (tgt := 55) (zw_dg dk_M_minds 110 rfl) (by decide) ?_
          have jj := hP _ (Option.some.inj hsem).symm
          exact (r_fgt [10] rfl jj)
        · --
          have p41 : (v25 < most35) := (Int64.not_le.mp q42)
          have hsem := zw_ifp p41 hsem
          refine r_goto X (pc := 171) (tgt := 195) (zw_dg dk_M_minds 98 rfl) (by decide) ?_
          refine r_iinc X (pc := 195) (i := 9) (k := 1) (zw_dg dk_M_minds 109 rfl) rfl (by decide) (by decide) rfl ?_
          refine r_goto X (pc := 198) (tgt := 55) (zw_dg dk_M_minds 110 rfl) (by decide) ?_
          have jj := hP _ (Option.some.inj hsem).symm
          exact (r_fgt [10] rfl jj)
    obtain ⟨best16, most17, n18, isTrue19⟩ := l20
    have hsem := hsl20
    refine r_aload_n X (pc := 201) (i := 0) (zw_dg dk_M_minds 111 rfl) rfl rfl ?_
    refine r_iconst X (pc := 202) (v := 0) (zw_dg dk_M_minds 112 rfl) (by decide) ?_
    refine r_putI X (pc := 203) ci_M (zo hS 71 rfl rfl) rfl lk_M_100 rfl ⟨rfl, rfl⟩ (zw_dg dk_M_minds 113 rfl) ?_
    obtain ⟨c46, hc46, hsem⟩ := zw_bd hsem
    refine zw_topC hc46 ?_
    refine r_aload_n X (pc := 206) (i := 0) (zw_dg dk_M_minds 114 rfl) rfl rfl ?_
    refine r_iload X (pc := 207) (i := 5) (zw_dg dk_M_minds 115 rfl) rfl ?_
    refine r_i2l X (pc := 209) (zw_dg dk_M_minds 116 rfl)  ?_
    obtain ⟨c47, hc47, hsem⟩ := zw_bd hsem
    refine r_callVv X (pc := 210) (As := [_]) (st := []) (km_M_tell hS hc47) ce_M_tell kw_1704 (zo hS 71 rfl rfl) rfl rfl ⟨Nat.le_of_ble_eq_true rfl, Nat.le_of_ble_eq_true rfl⟩ (Nat.le_of_ble_eq_true rfl) (zw_dg dk_M_minds 117 rfl) ?_
    refine r_aload_n X (pc := 213) (i := 0) (zw_dg dk_M_minds 118 rfl) rfl rfl ?_
    refine zw_ter (P := (¬ isTrue19 = 0)) (f := Value.long) (x := 1) (y := 0) (J := 224) (st2 := [.ref 71]) (fun jT jF => ?_) ?_
    · --
      refine r_iload X (pc := 214) (i := 8) (zw_dg dk_M_minds 119 rfl) rfl ?_
      refine r_if_eq X (pc := 216) (tgt := 223) (zw_dg dk_M_minds 120 rfl) (by decide) (fun q48 => ?_) (fun q48 => ?_)
      · --
        refine r_lconst X (pc := 223) (v := 0) (zw_dg dk_M_minds 123 rfl) (by decide) ?_
        exact jF (fun z => z q48)
      · --
        refine r_lconst X (pc := 219) (v := 1) (zw_dg dk_M_minds 121 rfl) (by decide) ?_
        refine r_goto X (pc := 220) (tgt := 224) (zw_dg dk_M_minds 122 rfl) (by decide) ?_
        exact jT q48
    obtain ⟨c49, hc49, hsem⟩ := zw_bd hsem
    refine r_callVv X (pc := 224) (As := [_]) (st := []) (km_M_tell hS hc49) ce_M_tell kw_1704 (zo hS 71 rfl rfl) rfl rfl ⟨Nat.le_of_ble_eq_true rfl, Nat.le_of_ble_eq_true rfl⟩ (Nat.le_of_ble_eq_true rfl) (zw_dg dk_M_minds 124 rfl) ?_
    refine r_aload_n X (pc := 227) (i := 0) (zw_dg dk_M_minds 125 rfl) rfl rfl ?_
    refine r_aload_n X (pc := 228) (i := 0) (zw_dg dk_M_minds 126 rfl) rfl rfl ?_
    refine r_iload X (pc := 229) (i := 4) (zw_dg dk_M_minds 127 rfl) rfl ?_
    refine r_iload_n X (pc := 231) (i := 2) (zw_dg dk_M_minds 128 rfl) rfl rfl ?_
    obtain ⟨r50, hr50, hsem⟩ := zw_bd hsem
    refine r_callVl X (pc := 232) (As := [_, _]) (st := [.ref 71]) (km_M_worth hS hr50) ce_M_worth kw_1712 (zo hS 71 rfl rfl) rfl rfl ⟨Nat.le_of_ble_eq_true rfl, Nat.le_of_ble_eq_true rfl⟩ (Nat.le_of_ble_eq_true rfl) (zw_dg dk_M_minds 129 rfl) ?_
    refine r_aload_n X (pc := 235) (i := 0) (zw_dg dk_M_minds 130 rfl) rfl rfl ?_
    refine r_getI X (pc := 236) ci_M (zo hS 71 rfl rfl) rfl lk_M_13 (zw_dg dk_M_minds 131 rfl) ?_
    refine r_i2l X (pc := 239) (zw_dg dk_M_minds 132 rfl)  ?_
    obtain ⟨c51, hc51, hsem⟩ := zw_bd hsem
    refine r_callVv X (pc := 240) (As := [_, _]) (st := []) (km_M_tellPart hS hc51) ce_M_tellPart kw_1716 (zo hS 71 rfl rfl) rfl rfl ⟨Nat.le_of_ble_eq_true rfl, Nat.le_of_ble_eq_true rfl⟩ (Nat.le_of_ble_eq_true rfl) (zw_dg dk_M_minds 133 rfl) ?_
    refine r_iload X (pc := 243) (i := 4) (zw_dg dk_M_minds 134 rfl) rfl ?_
    obtain ⟨rfl, rfl⟩ := zw_in2 hsem
    exact r_iret X (pc := 245) rfl (zw_dg dk_M_minds 135 rfl)
