/-! PaidForThinking$Chooser: names, functions, contracts (by program: wip/whole/gen) -/
def y_Chooser_decidesFirst : MethodName := ⟨R_Chooser, "decidesFirst", "(II)Z"⟩
abbrev b_Chooser_decidesFirst : ByteArray := prog_2_method_2_code
def dl_Chooser_decidesFirst : List (Nat × Instr × Nat) := [(0, .aload_n 0, 1), (1, .getfield 9, 3), (4, .iload_n 1, 1), (5, .iconst 0, 1), (6, .invokevirtual 23, 3), (9, .iload_n 2, 1), (10, .if_icmp .lt 7, 3), (13, .iconst 1, 1), (14, .goto 4, 3), (17, .iconst 0, 1), (18, .ireturn, 1)]
theorem dk_Chooser_decidesFirst : zw_dk b_Chooser_decidesFirst dl_Chooser_decidesFirst = true := by decide +kernel
theorem ce_Chooser_decidesFirst : zw_cev y_Chooser_decidesFirst b_Chooser_decidesFirst 3 (some .boolean) 2 := ⟨⟨kt_in 1169 (by decide +kernel) rfl, kt_in 96 (by decide +kernel) rfl, by decide +kernel⟩, kt_in 1168 (by decide +kernel) rfl, kt_in 30 (by decide +kernel) rfl⟩
def fn_Chooser_decidesFirst (c : zw_Ct) (saying1 : Int32) (least2 : Int32) : Option Int32 :=
  (fn_Sayings_partOf c saying1 0).bind fun r3 =>
  some (if (least2 ≤ r3) then (1 : Int32) else 0)
set_option maxRecDepth 100000 in
theorem km_Chooser_decidesFirst {l : Launch} {g : zw_G} {rr : zw_RR} {sh : zw_Sh} {c : zw_Ct} {saying1 : Int32} {least2 : Int32} {r : Int32} (hS : zw_Ok 0 101 sh rr) (hsem : fn_Chooser_decidesFirst c saying1 least2 = some r) : zw_Met l g y_Chooser_decidesFirst b_Chooser_decidesFirst 3 (some .boolean) 2 rr sh [.ref 68, .int saying1, .int least2] c (some (.int r)) c := by
  unfold fn_Chooser_decidesFirst at hsem
  refine zw_Met.of (by decide +kernel) (Nat.le_of_ble_eq_true rfl) (fun p e s m args below meth cd X => ?_)
  refine zw_eL (L2 := [some (.ref 68), some (.int saying1), some (.int least2)]) rfl ?_
  refine r_aload_n X (pc := 0) (i := 0) (zw_dg dk_Chooser_decidesFirst 0 rfl) rfl rfl ?_
  refine r_getR X (pc := 1) (r := 1) ci_Chooser (zo hS 68 rfl rfl) rfl (zr hS 68 0 rfl rfl) lk_Chooser_9 (zw_dg dk_Chooser_decidesFirst 1 rfl) ?_
  refine r_iload_n X (pc := 4) (i := 1) (zw_dg dk_Chooser_decidesFirst 2 rfl) rfl rfl ?_
  refine r_iconst X (pc := 5) (v := 0) (zw_dg dk_Chooser_decidesFirst 3 rfl) (by decide) ?_
  obtain ⟨r3, hr3, hsem⟩ := zw_bd hsem
  refine r_callVi X (pc := 6) (As := [_, _]) (st := []) (km_Sayings_partOf hS hr3) ce_Sayings_partOf kw_1170 (zo hS 1 rfl rfl) rfl rfl ⟨Nat.le_of_ble_eq_true rfl, Nat.le_of_ble_eq_true rfl⟩ (Nat.le_of_ble_eq_true rfl) (zw_dg dk_Chooser_decidesFirst 4 rfl) ?_
  refine r_iload_n X (pc := 9) (i := 2) (zw_dg dk_Chooser_decidesFirst 5 rfl) rfl rfl ?_
  refine zw_ter (P := (least2 ≤ r3)) (f := Value.int) (x := 1) (y := 0) (J := 18) (st2 := []) (fun jT jF => ?_) ?_
  · --
    refine r_icmp_lt X (pc := 10) (tgt := 17) (zw_dg dk_Chooser_decidesFirst 6 rfl) (by decide) (fun q4 => ?_) (fun q4 => ?_)
    · --
      refine r_iconst X (pc := 17) (v := 0) (zw_dg dk_Chooser_decidesFirst 9 rfl) (by decide) ?_
      exact jF (Int32.not_le.mpr q4)
    · --
      refine r_iconst X (pc := 13) (v := 1) (zw_dg dk_Chooser_decidesFirst 7 rfl) (by decide) ?_
      refine r_goto X (pc := 14) (tgt := 18) (zw_dg dk_Chooser_decidesFirst 8 rfl) (by decide) ?_
      exact jT (Int32.not_lt.mp q4)
  have hbz : ((if (least2 ≤ r3) then (1 : Int32) else 0) : Int32) = 0 ∨ ((if (least2 ≤ r3) then (1 : Int32) else 0) : Int32) = 1 := zw_ite01
  cases hsem
  exact r_zret X (pc := 18) rfl (zw_bzn hbz).1 (zw_dg dk_Chooser_decidesFirst 10 rfl)
def y_Chooser_tellDecided : MethodName := ⟨R_Chooser, "tellDecided", "([IIIILPaidForThinking$Row;)I"⟩
abbrev b_Chooser_tellDecided : ByteArray := prog_2_method_3_code
def dl_Chooser_tellDecided : List (Nat × Instr × Nat) := [(0, .ldc2_w 29, 3), (3, .lstore 6, 2), (5, .iconst 0, 1), (6, .istore 8, 2), (8, .iconst 0, 1), (9, .istore 9, 2), (11, .iload 9, 2), (13, .aload_n 0, 1), (14, .getfield 9, 3), (17, .getfield 31, 3), (20, .if_icmp .ge 80, 3), (23, .aload_n 0, 1), (24, .iload 9, 2), (26, .iload_n 2, 1), (27, .invokevirtual 35, 3), (30, .ifCond .eq 7, 3), (33, .iload_n 3, 1), (34, .goto 5, 3), (37, .iload 4, 2), (39, .istore 10, 2), (41, .aload_n 0, 1), (42, .getfield 19, 3), (45, .aload_n 1, 1), (46, .iload 9, 2), (48, .iload 10, 2), (50, .invokevirtual 39, 3), (53, .lstore 11, 2), (55, .aload_n 0, 1), (56, .getfield 15, 3), (59, .getfield 45, 3), (62, .iload 9, 2), (64, .lload 11, 2), (66, .lastore, 1), (67, .iload 9, 2), (69, .iload 10, 2), (71, .if_icmp .ne 23, 3), (74, .iload 8, 2), (76, .ifCond .eq 11, 3), (79, .lload 11, 2), (81, .lload 6, 2), (83, .lcmp, 1), (84, .ifCond .le 10, 3), (87, .lload 11, 2), (89, .lstore 6, 2), (91, .iconst 1, 1), (92, .istore 8, 2), (94, .iinc 9 1, 3), (97, .goto (-86), 3), (100, .aload_n 0, 1), (101, .getfield 15, 3), (104, .invokevirtual 51, 3), (107, .istore 9, 2), (109, .aload_n 0, 1), (110, .iload 9, 2), (112, .iload_n 2, 1), (113, .invokevirtual 35, 3), (116, .ifCond .eq 7, 3), (119, .iload_n 3, 1), (120, .goto 5, 3), (123, .iload 4, 2), (125, .istore 10, 2), (127, .aload 5, 2), (129, .invokevirtual 55, 3), (132, .aload 5, 2), (134, .iload 9, 2), (136, .iload 10, 2), (138, .if_icmp .ne 7, 3), (141, .lconst 1, 1), (142, .goto 4, 3), (145, .lconst 0, 1), (146, .invokevirtual 60, 3), (149, .aload 5, 2), (151, .aload_n 0, 1), (152, .getfield 15, 3), (155, .getfield 45, 3), (158, .iload 9, 2), (160, .laload, 1), (161, .invokevirtual 60, 3), (164, .aload 5, 2), (166, .lload 6, 2), (168, .invokevirtual 60, 3), (171, .iload 9, 2), (173, .ireturn, 1)]
theorem dk_Chooser_tellDecided : zw_dk b_Chooser_tellDecided dl_Chooser_tellDecided = true := by decide +kernel
theorem ce_Chooser_tellDecided : zw_cev y_Chooser_tellDecided b_Chooser_tellDecided 13 (some .int) 5 := ⟨⟨kt_in 1164 (by decide +kernel) rfl, kt_in 96 (by decide +kernel) rfl, by decide +kernel⟩, kt_in 1162 (by decide +kernel) rfl, kt_in 1163 (by decide +kernel) rfl⟩
def fn_Chooser_tellDecided_l1 (least2 : Int32) (then3 : Int32) (otherwise4 : Int32) (values1 : Nat) : Int64 × Int32 × Int32 × zw_Ct → Option ((Int64 × Int32 × zw_Ct) ⊕ (Int64 × Int32 × Int32 × zw_Ct)) := fun (greatestTrue5, anyTrue6, s7, c8) =>
  if (s7 < (c8.1 1 2)) then
  ((fn_Chooser_decidesFirst c8 s7 least2).bind fun r15 =>
  (some ((if (¬ r15 = 0) then (then3 : Int32) else otherwise4) : Int32)).bind fun comes17 =>
  (fn_Judge_worth c8 values1 s7 comes17).bind fun r18 =>
  (zw_uL 455 c8 12 s7 r18).bind fun c19 =>
  (if ((s7 = comes17) ∧ ((¬ (¬ anyTrue6 = 0)) ∨ (greatestTrue5 < r18))) then
  (some ((r18 : Int64), (1 : Int32)))
  else
  (some ((greatestTrue5 : Int64), (anyTrue6 : Int32)))).bind fun (greatestTrue20, anyTrue21) =>
  some (.inr (greatestTrue20, anyTrue21, (s7 + 1), c19)))
  else
  (some (.inl (greatestTrue5, anyTrue6, c8)))
def fn_Chooser_tellDecided (c : zw_Ct) (values1 : Nat) (least2 : Int32) (then3 : Int32) (otherwise4 : Int32) : Option (Int32 × zw_Ct) :=
  (zw_whl (fn_Chooser_tellDecided_l1 least2 then3 otherwise4 values1) zw_F ((-1000000000), 0, 0, c)).bind fun (greatestTrue9, anyTrue10, c11) =>
  (fn_Tally_top c11).bind fun r26 =>
  (fn_Chooser_decidesFirst c11 r26 least2).bind fun r27 =>
  (some ((if (¬ r27 = 0) then (then3 : Int32) else otherwise4) : Int32)).bind fun comes29 =>
  (fn_Row_clear c11).bind fun c30 =>
  (fn_Row_add c30 (if (r26 = comes29) then (1 : Int64) else 0)).bind fun c32 =>
  (zw_aL 455 c32 12 r26).bind fun x33 =>
  (fn_Row_add c32 x33).bind fun c34 =>
  (fn_Row_add c34 greatestTrue9).bind fun c35 =>
  some (r26, c35)
set_option maxRecDepth 100000 in
theorem km_Chooser_tellDecided {l : Launch} {g : zw_G} {rr : zw_RR} {sh : zw_Sh} {c : zw_Ct} {values1 : Nat} {least2 : Int32} {then3 : Int32} {otherwise4 : Int32} {r : Int32} {c2 : zw_Ct} (hS : zw_Ok 0 101 sh rr) (hsem : fn_Chooser_tellDecided c values1 least2 then3 otherwise4 = some (r, c2)) : zw_Met l g y_Chooser_tellDecided b_Chooser_tellDecided 13 (some .int) 3 rr sh [.ref 68, .ref values1, .int least2, .int then3, .int otherwise4, .ref 61] c (some (.int r)) c2 := by
  unfold fn_Chooser_tellDecided at hsem
  refine zw_Met.of (by decide +kernel) (Nat.le_of_ble_eq_true rfl) (fun p e s m args below meth cd X => ?_)
  refine zw_eL (L2 := [some (.ref 68), some (.ref values1), some (.int least2), some (.int then3), some (.int otherwise4), some (.ref 61), none, none, none, none, none, none, none]) rfl ?_
  refine r_ldc2 X (pc := 0) (v := (-1000000000)) kw_1165 (zw_dg dk_Chooser_tellDecided 0 rfl) ?_
  refine r_lstore X (pc := 3) (i := 6) (L2 := [some (.ref 68), some (.ref values1), some (.int least2), some (.int then3), some (.int otherwise4), some (.ref 61), some (.long (-1000000000)), none, none, none, none, none, none]) (zw_dg dk_Chooser_tellDecided 1 rfl) (by decide) rfl ?_
  refine r_iconst X (pc := 5) (v := 0) (zw_dg dk_Chooser_tellDecided 2 rfl) (by decide) ?_
  refine r_istore X (pc := 6) (i := 8) (zw_dg dk_Chooser_tellDecided 3 rfl) (by decide) rfl ?_
  refine r_iconst X (pc := 8) (v := 0) (zw_dg dk_Chooser_tellDecided 4 rfl) (by decide) ?_
  refine r_istore X (pc := 9) (i := 9) (zw_dg dk_Chooser_tellDecided 5 rfl) (by decide) rfl ?_
  obtain ⟨l12, hl12, hsl12⟩ := zw_bd hsem
  refine r_loop (pc := 11) (pce := 100) hl12 (fun (greatestTrue5, anyTrue6, s7, c8) => [some (.ref 68), some (.ref values1), some (.int least2), some (.int then3), some (.int otherwise4), some (.ref 61), some (.long greatestTrue5), none, some (.int anyTrue6), some (.int s7), none, none, none] : Int64 × Int32 × Int32 × zw_Ct → zw_Lc) (fun (greatestTrue5, anyTrue6, s7, c8) => c8 : Int64 × Int32 × Int32 × zw_Ct → zw_Ct) (fun (greatestTrue9, anyTrue10, c11) => [some (.ref 68), some (.ref values1), some (.int least2), some (.int then3), some (.int otherwise4), some (.ref 61), some (.long greatestTrue9), none, some (.int anyTrue10), none, none, none, none] : Int64 × Int32 × zw_Ct → zw_Lc) (fun (greatestTrue9, anyTrue10, c11) => c11 : Int64 × Int32 × zw_Ct → zw_Ct) ?_ rfl rfl ?_
  · rintro ⟨greatestTrue5, anyTrue6, s7, c8⟩ rr hsem hK hP
    try unfold fn_Chooser_tellDecided_l1 at hsem
    refine r_iload X (pc := 11) (i := 9) (zw_dg dk_Chooser_tellDecided 6 rfl) rfl ?_
    refine r_aload_n X (pc := 13) (i := 0) (zw_dg dk_Chooser_tellDecided 7 rfl) rfl rfl ?_
    refine r_getR X (pc := 14) (r := 1) ci_Chooser (zo hS 68 rfl rfl) rfl (zr hS 68 0 rfl rfl) lk_Chooser_9 (zw_dg dk_Chooser_tellDecided 8 rfl) ?_
    refine r_getI X (pc := 17) ci_Sayings (zo hS 1 rfl rfl) rfl lk_Chooser_31 (zw_dg dk_Chooser_tellDecided 9 rfl) ?_
    refine r_icmp_ge X (pc := 20) (tgt := 100) (zw_dg dk_Chooser_tellDecided 10 rfl) (by decide) (fun q14 => ?_) (fun q14 => ?_)
    · --
      have p13 : ¬ (s7 < (c8.1 1 2)) := (Int32.not_lt.mpr q14)
      have hsem := zw_ifn p13 hsem
      have jj := hK _ (Option.some.inj hsem).symm
      exact (r_fgt [9] rfl jj)
    · --
      have p13 : (s7 < (c8.1 1 2)) := (Int32.not_le.mp q14)
      have hsem := zw_ifp p13 hsem
      refine r_aload_n X (pc := 23) (i := 0) (zw_dg dk_Chooser_tellDecided 11 rfl) rfl rfl ?_
      refine r_iload X (pc := 24) (i := 9) (zw_dg dk_Chooser_tellDecided 12 rfl) rfl ?_
      refine r_iload_n X (pc := 26) (i := 2) (zw_dg dk_Chooser_tellDecided 13 rfl) rfl rfl ?_
      obtain ⟨r15, hr15, hsem⟩ := zw_bd hsem
      refine r_callVi X (pc := 27) (As := [_, _]) (st := []) (km_Chooser_decidesFirst hS hr15) ce_Chooser_decidesFirst kw_1166 (zo hS 68 rfl rfl) rfl rfl ⟨Nat.le_of_ble_eq_true rfl, Nat.le_of_ble_eq_true rfl⟩ (Nat.le_of_ble_eq_true rfl) (zw_dg dk_Chooser_tellDecided 14 rfl) ?_
      refine zw_ter (P := (¬ r15 = 0)) (f := Value.int) (x := then3) (y := otherwise4) (J := 39) (st2 := []) (fun jT jF => ?_) ?_
      · --
        refine r_if_eq X (pc := 30) (tgt := 37) (zw_dg dk_Chooser_tellDecided 15 rfl) (by decide) (fun q16 => ?_) (fun q16 => ?_)
        · --
          refine r_iload X (pc := 37) (i := 4) (zw_dg dk_Chooser_tellDecided 18 rfl) rfl ?_
          exact jF (fun z => z q16)
        · --
          refine r_iload_n X (pc := 33) (i := 3) (zw_dg dk_Chooser_tellDecided 16 rfl) rfl rfl ?_
          refine r_goto X (pc := 34) (tgt := 39) (zw_dg dk_Chooser_tellDecided 17 rfl) (by decide) ?_
          exact jT q16
      obtain ⟨comes17, hcomes17, hsem⟩ := zw_bd hsem
      refine zw_topI hcomes17 ?_
      refine r_istore X (pc := 39) (i := 10) (zw_dg dk_Chooser_tellDecided 19 rfl) (by decide) rfl ?_
      refine r_aload_n X (pc := 41) (i := 0) (zw_dg dk_Chooser_tellDecided 20 rfl) rfl rfl ?_
      refine r_getR X (pc := 42) (r := 13) ci_Chooser (zo hS 68 rfl rfl) rfl (zr hS 68 2 rfl rfl) lk_Chooser_19 (zw_dg dk_Chooser_tellDecided 21 rfl) ?_
      refine r_aload_n X (pc := 45) (i := 1) (zw_dg dk_Chooser_tellDecided 22 rfl) rfl rfl ?_
      refine r_iload X (pc := 46) (i := 9) (zw_dg dk_Chooser_tellDecided 23 rfl) rfl ?_
      refine r_iload X (pc := 48) (i := 10) (zw_dg dk_Chooser_tellDecided 24 rfl) rfl ?_
      obtain ⟨r18, hr18, hsem⟩ := zw_bd hsem
      refine r_callVl X (pc := 50) (As := [_, _, _]) (st := []) (km_Judge_worth hS hr18) ce_Judge_worth kw_1171 (zo hS 13 rfl rfl) rfl rfl ⟨Nat.le_of_ble_eq_true rfl, Nat.le_of_ble_eq_true rfl⟩ (Nat.le_of_ble_eq_true rfl) (zw_dg dk_Chooser_tellDecided 25 rfl) ?_
      refine r_lstore X (pc := 53) (i := 11) (L2 := [some (.ref 68), some (.ref values1), some (.int least2), some (.int then3), some (.int otherwise4), some (.ref 61), some (.long greatestTrue5), none, some (.int anyTrue6), some (.int s7), some (.int comes17), some (.long r18), none]) (zw_dg dk_Chooser_tellDecided 26 rfl) (by decide) rfl ?_
      refine r_aload_n X (pc := 55) (i := 0) (zw_dg dk_Chooser_tellDecided 27 rfl) rfl rfl ?_
      refine r_getR X (pc := 56) (r := 11) ci_Chooser (zo hS 68 rfl rfl) rfl (zr hS 68 1 rfl rfl) lk_Chooser_15 (zw_dg dk_Chooser_tellDecided 28 rfl) ?_
      refine r_getR X (pc := 59) (r := 12) ci_Tally (zo hS 11 rfl rfl) rfl (zr hS 11 1 rfl rfl) lk_Chooser_45 (zw_dg dk_Chooser_tellDecided 29 rfl) ?_
      refine r_iload X (pc := 62) (i := 9) (zw_dg dk_Chooser_tellDecided 30 rfl) rfl ?_
      refine r_lload X (pc := 64) (i := 11) (zw_dg dk_Chooser_tellDecided 31 rfl) rfl ?_
      obtain ⟨c19, hc19, hsem⟩ := zw_bd hsem
      refine r_last X (pc := 66) (zo hS 12 rfl rfl) hc19 (zw_dg dk_Chooser_tellDecided 32 rfl) ?_
      obtain ⟨⟨greatestTrue20, anyTrue21⟩, ht94, hs94⟩ := zw_bd hsem
      refine zw_jn (J := 94) (L2 := [some (.ref 68), some (.ref values1), some (.int least2), some (.int then3), some (.int otherwise4), some (.ref 61), some (.long greatestTrue20), none, some (.int anyTrue21), some (.int s7), some (.int comes17), some (.long r18), none]) (c2 := c19) (fun jj => ?_) ?_
      · have hsem := ht94
        refine zw_cnd (P := ((s7 = comes17) ∧ ((¬ (¬ anyTrue6 = 0)) ∨ (greatestTrue5 < r18)))) (J1 := 87) (J2 := 94) (st2 := []) (fun jT jF => ?_) (fun p22 => ?_) (fun p22 => ?_)
        · --
          refine r_iload X (pc := 67) (i := 9) (zw_dg dk_Chooser_tellDecided 33 rfl) rfl ?_
          refine r_iload X (pc := 69) (i := 10) (zw_dg dk_Chooser_tellDecided 34 rfl) rfl ?_
          refine r_icmp_ne X (pc := 71) (tgt := 94) (zw_dg dk_Chooser_tellDecided 35 rfl) (by decide) (fun q23 => ?_) (fun q23 => ?_)
          · --
            exact jF (fun q => q23 q.1)
          · --
            refine r_iload X (pc := 74) (i := 8) (zw_dg dk_Chooser_tellDecided 36 rfl) rfl ?_
            refine r_if_eq X (pc := 76) (tgt := 87) (zw_dg dk_Chooser_tellDecided 37 rfl) (by decide) (fun q24 => ?_) (fun q24 => ?_)
            · --
              exact jT ⟨q23, (Or.inl (fun z => z q24))⟩
            · --
              refine r_lload X (pc := 79) (i := 11) (zw_dg dk_Chooser_tellDecided 38 rfl) rfl ?_
              refine r_lload X (pc := 81) (i := 6) (zw_dg dk_Chooser_tellDecided 39 rfl) rfl ?_
              refine r_lcmp_le X (pc := 83) (tgt := 94) (zw_dg dk_Chooser_tellDecided 40 rfl) (zw_dg dk_Chooser_tellDecided 41 rfl) (by decide) (fun q25 => ?_) (fun q25 => ?_)
              · --
                exact jF (fun q => (fun q => q.elim (fun q => q q24) (Int64.not_lt.mpr q25)) q.2)
              · --
                exact jT ⟨q23, (Or.inr (Int64.not_le.mp q25))⟩
        · --
          have hsem := zw_ifp p22 hsem
          refine r_lload X (pc := 87) (i := 11) (zw_dg dk_Chooser_tellDecided 42 rfl) rfl ?_
          refine r_lstore X (pc := 89) (i := 6) (L2 := [some (.ref 68), some (.ref values1), some (.int least2), some (.int then3), some (.int otherwise4), some (.ref 61), some (.long r18), none, some (.int anyTrue6), some (.int s7), some (.int comes17), some (.long r18), none]) (zw_dg dk_Chooser_tellDecided 43 rfl) (by decide) rfl ?_
          refine r_iconst X (pc := 91) (v := 1) (zw_dg dk_Chooser_tellDecided 44 rfl) (by decide) ?_
          refine r_istore X (pc := 92) (i := 8) (zw_dg dk_Chooser_tellDecided 45 rfl) (by decide) rfl ?_
          obtain ⟨rfl, rfl⟩ := zw_in2 hsem
          exact (r_fgt [] rfl jj)
        · --
          have hsem := zw_ifn p22 hsem
          obtain ⟨rfl, rfl⟩ := zw_in2 hsem
          exact (r_fgt [] rfl jj)
      have hsem := hs94
      refine r_iinc X (pc := 94) (i := 9) (k := 1) (zw_dg dk_Chooser_tellDecided 46 rfl) rfl (by decide) (by decide) rfl ?_
      refine r_goto X (pc := 97) (tgt := 11) (zw_dg dk_Chooser_tellDecided 47 rfl) (by decide) ?_
      have jj := hP _ (Option.some.inj hsem).symm
      exact (r_fgt [10, 11] rfl jj)
  obtain ⟨greatestTrue9, anyTrue10, c11⟩ := l12
  have hsem := hsl12
  refine r_aload_n X (pc := 100) (i := 0) (zw_dg dk_Chooser_tellDecided 48 rfl) rfl rfl ?_
  refine r_getR X (pc := 101) (r := 11) ci_Chooser (zo hS 68 rfl rfl) rfl (zr hS 68 1 rfl rfl) lk_Chooser_15 (zw_dg dk_Chooser_tellDecided 49 rfl) ?_
  obtain ⟨r26, hr26, hsem⟩ := zw_bd hsem
  refine r_callVi X (pc := 104) (As := []) (st := []) (km_Tally_top hS hr26) ce_Tally_top kw_1172 (zo hS 11 rfl rfl) rfl rfl ⟨Nat.le_of_ble_eq_true rfl, Nat.le_of_ble_eq_true rfl⟩ (Nat.le_of_ble_eq_true rfl) (zw_dg dk_Chooser_tellDecided 50 rfl) ?_
  refine r_istore X (pc := 107) (i := 9) (zw_dg dk_Chooser_tellDecided 51 rfl) (by decide) rfl ?_
  refine r_aload_n X (pc := 109) (i := 0) (zw_dg dk_Chooser_tellDecided 52 rfl) rfl rfl ?_
  refine r_iload X (pc := 110) (i := 9) (zw_dg dk_Chooser_tellDecided 53 rfl) rfl ?_
  refine r_iload_n X (pc := 112) (i := 2) (zw_dg dk_Chooser_tellDecided 54 rfl) rfl rfl ?_
  obtain ⟨r27, hr27, hsem⟩ := zw_bd hsem
  refine r_callVi X (pc := 113) (As := [_, _]) (st := []) (km_Chooser_decidesFirst hS hr27) ce_Chooser_decidesFirst kw_1166 (zo hS 68 rfl rfl) rfl rfl ⟨Nat.le_of_ble_eq_true rfl, Nat.le_of_ble_eq_true rfl⟩ (Nat.le_of_ble_eq_true rfl) (zw_dg dk_Chooser_tellDecided 55 rfl) ?_
  refine zw_ter (P := (¬ r27 = 0)) (f := Value.int) (x := then3) (y := otherwise4) (J := 125) (st2 := []) (fun jT jF => ?_) ?_
  · --
    refine r_if_eq X (pc := 116) (tgt := 123) (zw_dg dk_Chooser_tellDecided 56 rfl) (by decide) (fun q28 => ?_) (fun q28 => ?_)
    · --
      refine r_iload X (pc := 123) (i := 4) (zw_dg dk_Chooser_tellDecided 59 rfl) rfl ?_
      exact jF (fun z => z q28)
    · --
      refine r_iload_n X (pc := 119) (i := 3) (zw_dg dk_Chooser_tellDecided 57 rfl) rfl rfl ?_
      refine r_goto X (pc := 120) (tgt := 125) (zw_dg dk_Chooser_tellDecided 58 rfl) (by decide) ?_
      exact jT q28
  obtain ⟨comes29, hcomes29, hsem⟩ := zw_bd hsem
  refine zw_topI hcomes29 ?_
  refine r_istore X (pc := 125) (i := 10) (zw_dg dk_Chooser_tellDecided 60 rfl) (by decide) rfl ?_
  refine r_aload X (pc := 127) (i := 5) (zw_dg dk_Chooser_tellDecided 61 rfl) rfl ?_
  obtain ⟨c30, hc30, hsem⟩ := zw_bd hsem
  refine r_callVv X (pc := 129) (As := []) (st := []) (km_Row_clear hS hc30) ce_Row_clear kw_1173 (zo hS 61 rfl rfl) rfl rfl ⟨Nat.le_of_ble_eq_true rfl, Nat.le_of_ble_eq_true rfl⟩ (Nat.le_of_ble_eq_true rfl) (zw_dg dk_Chooser_tellDecided 62 rfl) ?_
  refine r_aload X (pc := 132) (i := 5) (zw_dg dk_Chooser_tellDecided 63 rfl) rfl ?_
  refine zw_ter (P := (r26 = comes29)) (f := Value.long) (x := 1) (y := 0) (J := 146) (st2 := [.ref 61]) (fun jT jF => ?_) ?_
  · --
    refine r_iload X (pc := 134) (i := 9) (zw_dg dk_Chooser_tellDecided 64 rfl) rfl ?_
    refine r_iload X (pc := 136) (i := 10) (zw_dg dk_Chooser_tellDecided 65 rfl) rfl ?_
    refine r_icmp_ne X (pc := 138) (tgt := 145) (zw_dg dk_Chooser_tellDecided 66 rfl) (by decide) (fun q31 => ?_) (fun q31 => ?_)
    · --
      refine r_lconst X (pc := 145) (v := 0) (zw_dg dk_Chooser_tellDecided 69 rfl) (by decide) ?_
      exact jF q31
    · --
      refine r_lconst X (pc := 141) (v := 1) (zw_dg dk_Chooser_tellDecided 67 rfl) (by decide) ?_
      refine r_goto X (pc := 142) (tgt := 146) (zw_dg dk_Chooser_tellDecided 68 rfl) (by decide) ?_
      exact jT q31
  obtain ⟨c32, hc32, hsem⟩ := zw_bd hsem
  refine r_callVv X (pc := 146) (As := [_]) (st := []) (km_Row_add hS hc32) ce_Row_add kw_1174 (zo hS 61 rfl rfl) rfl rfl ⟨Nat.le_of_ble_eq_true rfl, Nat.le_of_ble_eq_true rfl⟩ (Nat.le_of_ble_eq_true rfl) (zw_dg dk_Chooser_tellDecided 70 rfl) ?_
  refine r_aload X (pc := 149) (i := 5) (zw_dg dk_Chooser_tellDecided 71 rfl) rfl ?_
  refine r_aload_n X (pc := 151) (i := 0) (zw_dg dk_Chooser_tellDecided 72 rfl) rfl rfl ?_
  refine r_getR X (pc := 152) (r := 11) ci_Chooser (zo hS 68 rfl rfl) rfl (zr hS 68 1 rfl rfl) lk_Chooser_15 (zw_dg dk_Chooser_tellDecided 73 rfl) ?_
  refine r_getR X (pc := 155) (r := 12) ci_Tally (zo hS 11 rfl rfl) rfl (zr hS 11 1 rfl rfl) lk_Chooser_45 (zw_dg dk_Chooser_tellDecided 74 rfl) ?_
  refine r_iload X (pc := 158) (i := 9) (zw_dg dk_Chooser_tellDecided 75 rfl) rfl ?_
  obtain ⟨x33, hx33, hsem⟩ := zw_bd hsem
  refine r_lald X (pc := 160) (zo hS 12 rfl rfl) hx33 (zw_dg dk_Chooser_tellDecided 76 rfl) ?_
  obtain ⟨c34, hc34, hsem⟩ := zw_bd hsem
  refine r_callVv X (pc := 161) (As := [_]) (st := []) (km_Row_add hS hc34) ce_Row_add kw_1174 (zo hS 61 rfl rfl) rfl rfl ⟨Nat.le_of_ble_eq_true rfl, Nat.le_of_ble_eq_true rfl⟩ (Nat.le_of_ble_eq_true rfl) (zw_dg dk_Chooser_tellDecided 77 rfl) ?_
  refine r_aload X (pc := 164) (i := 5) (zw_dg dk_Chooser_tellDecided 78 rfl) rfl ?_
  refine r_lload X (pc := 166) (i := 6) (zw_dg dk_Chooser_tellDecided 79 rfl) rfl ?_
  obtain ⟨c35, hc35, hsem⟩ := zw_bd hsem
  refine r_callVv X (pc := 168) (As := [_]) (st := []) (km_Row_add hS hc35) ce_Row_add kw_1174 (zo hS 61 rfl rfl) rfl rfl ⟨Nat.le_of_ble_eq_true rfl, Nat.le_of_ble_eq_true rfl⟩ (Nat.le_of_ble_eq_true rfl) (zw_dg dk_Chooser_tellDecided 80 rfl) ?_
  refine r_iload X (pc := 171) (i := 9) (zw_dg dk_Chooser_tellDecided 81 rfl) rfl ?_
  cases hsem
  exact r_iret X (pc := 173) rfl (zw_dg dk_Chooser_tellDecided 82 rfl)
def y_Chooser_findWays : MethodName := ⟨R_Chooser, "findWays", "([IIII)V"⟩
abbrev b_Chooser_findWays : ByteArray := prog_2_method_5_code
def dl_Chooser_findWays : List (Nat × Instr × Nat) := [(0, .iconst 0, 1), (1, .istore 5, 2), (3, .iconst 0, 1), (4, .istore 6, 2), (6, .iconst 0, 1), (7, .istore 7, 2), (9, .iload 7, 2), (11, .aload_n 0, 1), (12, .getfield 9, 3), (15, .getfield 31, 3), (18, .if_icmp .ge 87, 3), (21, .aload_n 0, 1), (22, .getfield 19, 3), (25, .aload_n 1, 1), (26, .iload 7, 2), (28, .iload_n 3, 1), (29, .invokevirtual 39, 3), (32, .lstore 8, 2), (34, .aload_n 0, 1), (35, .iload 7, 2), (37, .iload_n 2, 1), (38, .invokevirtual 35, 3), (41, .ifCond .eq 32, 3), (44, .aload_n 0, 1), (45, .iload 5, 2), (47, .ifCond .eq 15, 3), (50, .aload_n 0, 1), (51, .getfield 76, 3), (54, .lload 8, 2), (56, .invokestatic 80, 3), (59, .goto 5, 3), (62, .lload 8, 2), (64, .putfield 76, 3), (67, .iconst 1, 1), (68, .istore 5, 2), (70, .goto 29, 3), (73, .aload_n 0, 1), (74, .iload 6, 2), (76, .ifCond .eq 15, 3), (79, .aload_n 0, 1), (80, .getfield 86, 3), (83, .lload 8, 2), (85, .invokestatic 80, 3), (88, .goto 5, 3), (91, .lload 8, 2), (93, .putfield 86, 3), (96, .iconst 1, 1), (97, .istore 6, 2), (99, .iinc 7 1, 3), (102, .goto (-93), 3), (105, .aload_n 0, 1), (106, .aload_n 0, 1), (107, .getfield 19, 3), (110, .aload_n 1, 1), (111, .iload 4, 2), (113, .invokevirtual 89, 3), (116, .putfield 93, 3), (119, .return_, 1)]
theorem dk_Chooser_findWays : zw_dk b_Chooser_findWays dl_Chooser_findWays = true := by decide +kernel
theorem ce_Chooser_findWays : zw_cev y_Chooser_findWays b_Chooser_findWays 10 (none) 4 := ⟨⟨kt_in 1186 (by decide +kernel) rfl, kt_in 96 (by decide +kernel) rfl, by decide +kernel⟩, kt_in 1185 (by decide +kernel) rfl, kt_in 31 (by decide +kernel) rfl⟩
def fn_Chooser_findWays_l1 (values1 : Nat) (then3 : Int32) (least2 : Int32) : Int32 × Int32 × Int32 × zw_Ct → Option ((Int32 × Int32 × zw_Ct) ⊕ (Int32 × Int32 × Int32 × zw_Ct)) := fun (anyFirst5, anyAside6, s7, c8) =>
  if (s7 < (c8.1 1 2)) then
  ((fn_Judge_worth c8 values1 s7 then3).bind fun r15 =>
  (fn_Chooser_decidesFirst c8 s7 least2).bind fun r16 =>
  (if (¬ r16 = 0) then
  ((some (zw_wL c8 68 3 (if (¬ anyFirst5 = 0) then ((if r15 < (c8.2 68 3) then (c8.2 68 3) else r15) : Int64) else r15))).bind fun c25 =>
  some ((1 : Int32), (anyAside6 : Int32), c25))
  else
  ((some (zw_wL c8 68 4 (if (¬ anyAside6 = 0) then ((if r15 < (c8.2 68 4) then (c8.2 68 4) else r15) : Int64) else r15))).bind fun c23 =>
  some ((anyFirst5 : Int32), (1 : Int32), c23))).bind fun (anyFirst17, anyAside18, c19) =>
  some (.inr (anyFirst17, anyAside18, (s7 + 1), c19)))
  else
  (some (.inl (anyFirst5, anyAside6, c8)))
def fn_Chooser_findWays (c : zw_Ct) (values1 : Nat) (least2 : Int32) (then3 : Int32) (otherwise4 : Int32) : Option zw_Ct :=
  (zw_whl (fn_Chooser_findWays_l1 values1 then3 least2) zw_F (0, 0, 0, c)).bind fun (anyFirst9, anyAside10, c11) =>
  (fn_Judge_greatestWorth c11 values1 otherwise4).bind fun (r26, c27) =>
  (some (zw_wL c27 68 5 r26)).bind fun c28 =>
  some c28
set_option maxRecDepth 100000 in
theorem km_Chooser_findWays {l : Launch} {g : zw_G} {rr : zw_RR} {sh : zw_Sh} {c : zw_Ct} {values1 : Nat} {least2 : Int32} {then3 : Int32} {otherwise4 : Int32} {c2 : zw_Ct} (hS : zw_Ok 0 101 sh rr) (hsem : fn_Chooser_findWays c values1 least2 then3 otherwise4 = some c2) : zw_Met l g y_Chooser_findWays b_Chooser_findWays 10 (none) 5 rr sh [.ref 68, .ref values1, .int least2, .int then3, .int otherwise4] c none c2 := by
  unfold fn_Chooser_findWays at hsem
  refine zw_Met.of (by decide +kernel) (Nat.le_of_ble_eq_true rfl) (fun p e s m args below meth cd X => ?_)
  refine zw_eL (L2 := [some (.ref 68), some (.ref values1), some (.int least2), some (.int then3), some (.int otherwise4), none, none, none, none, none]) rfl ?_
  refine r_iconst X (pc := 0) (v := 0) (zw_dg dk_Chooser_findWays 0 rfl) (by decide) ?_
  refine r_istore X (pc := 1) (i := 5) (zw_dg dk_Chooser_findWays 1 rfl) (by decide) rfl ?_
  refine r_iconst X (pc := 3) (v := 0) (zw_dg dk_Chooser_findWays 2 rfl) (by decide) ?_
  refine r_istore X (pc := 4) (i := 6) (zw_dg dk_Chooser_findWays 3 rfl) (by decide) rfl ?_
  refine r_iconst X (pc := 6) (v := 0) (zw_dg dk_Chooser_findWays 4 rfl) (by decide) ?_
  refine r_istore X (pc := 7) (i := 7) (zw_dg dk_Chooser_findWays 5 rfl) (by decide) rfl ?_
  obtain ⟨l12, hl12, hsl12⟩ := zw_bd hsem
  refine r_loop (pc := 9) (pce := 105) hl12 (fun (anyFirst5, anyAside6, s7, c8) => [some (.ref 68), some (.ref values1), some (.int least2), some (.int then3), some (.int otherwise4), some (.int anyFirst5), some (.int anyAside6), some (.int s7), none, none] : Int32 × Int32 × Int32 × zw_Ct → zw_Lc) (fun (anyFirst5, anyAside6, s7, c8) => c8 : Int32 × Int32 × Int32 × zw_Ct → zw_Ct) (fun (anyFirst9, anyAside10, c11) => [some (.ref 68), some (.ref values1), some (.int least2), some (.int then3), some (.int otherwise4), some (.int anyFirst9), some (.int anyAside10), none, none, none] : Int32 × Int32 × zw_Ct → zw_Lc) (fun (anyFirst9, anyAside10, c11) => c11 : Int32 × Int32 × zw_Ct → zw_Ct) ?_ rfl rfl ?_
  · rintro ⟨anyFirst5, anyAside6, s7, c8⟩ rr hsem hK hP
    try unfold fn_Chooser_findWays_l1 at hsem
    refine r_iload X (pc := 9) (i := 7) (zw_dg dk_Chooser_findWays 6 rfl) rfl ?_
    refine r_aload_n X (pc := 11) (i := 0) (zw_dg dk_Chooser_findWays 7 rfl) rfl rfl ?_
    refine r_getR X (pc := 12) (r := 1) ci_Chooser (zo hS 68 rfl rfl) rfl (zr hS 68 0 rfl rfl) lk_Chooser_9 (zw_dg dk_Chooser_findWays 8 rfl) ?_
    refine r_getI X (pc := 15) ci_Sayings (zo hS 1 rfl rfl) rfl lk_Chooser_31 (zw_dg dk_Chooser_findWays 9 rfl) ?_
    refine r_icmp_ge X (pc := 18) (tgt := 105) (zw_dg dk_Chooser_findWays 10 rfl) (by decide) (fun q14 => ?_) (fun q14 => ?_)
    · --
      have p13 : ¬ (s7 < (c8.1 1 2)) := (Int32.not_lt.mpr q14)
      have hsem := zw_ifn p13 hsem
      have jj := hK _ (Option.some.inj hsem).symm
      exact (r_fgt [7] rfl jj)
    · --
      have p13 : (s7 < (c8.1 1 2)) := (Int32.not_le.mp q14)
      have hsem := zw_ifp p13 hsem
      refine r_aload_n X (pc := 21) (i := 0) (zw_dg dk_Chooser_findWays 11 rfl) rfl rfl ?_
      refine r_getR X (pc := 22) (r := 13) ci_Chooser (zo hS 68 rfl rfl) rfl (zr hS 68 2 rfl rfl) lk_Chooser_19 (zw_dg dk_Chooser_findWays 12 rfl) ?_
      refine r_aload_n X (pc := 25) (i := 1) (zw_dg dk_Chooser_findWays 13 rfl) rfl rfl ?_
      refine r_iload X (pc := 26) (i := 7) (zw_dg dk_Chooser_findWays 14 rfl) rfl ?_
      refine r_iload_n X (pc := 28) (i := 3) (zw_dg dk_Chooser_findWays 15 rfl) rfl rfl ?_
      obtain ⟨r15, hr15, hsem⟩ := zw_bd hsem
      refine r_callVl X (pc := 29) (As := [_, _, _]) (st := []) (km_Judge_worth hS hr15) ce_Judge_worth kw_1171 (zo hS 13 rfl rfl) rfl rfl ⟨Nat.le_of_ble_eq_true rfl, Nat.le_of_ble_eq_true rfl⟩ (Nat.le_of_ble_eq_true rfl) (zw_dg dk_Chooser_findWays 16 rfl) ?_
      refine r_lstore X (pc := 32) (i := 8) (L2 := [some (.ref 68), some (.ref values1), some (.int least2), some (.int then3), some (.int otherwise4), some (.int anyFirst5), some (.int anyAside6), some (.int s7), some (.long r15), none]) (zw_dg dk_Chooser_findWays 17 rfl) (by decide) rfl ?_
      refine r_aload_n X (pc := 34) (i := 0) (zw_dg dk_Chooser_findWays 18 rfl) rfl rfl ?_
      refine r_iload X (pc := 35) (i := 7) (zw_dg dk_Chooser_findWays 19 rfl) rfl ?_
      refine r_iload_n X (pc := 37) (i := 2) (zw_dg dk_Chooser_findWays 20 rfl) rfl rfl ?_
      obtain ⟨r16, hr16, hsem⟩ := zw_bd hsem
      refine r_callVi X (pc := 38) (As := [_, _]) (st := []) (km_Chooser_decidesFirst hS hr16) ce_Chooser_decidesFirst kw_1166 (zo hS 68 rfl rfl) rfl rfl ⟨Nat.le_of_ble_eq_true rfl, Nat.le_of_ble_eq_true rfl⟩ (Nat.le_of_ble_eq_true rfl) (zw_dg dk_Chooser_findWays 21 rfl) ?_
      obtain ⟨⟨anyFirst17, anyAside18, c19⟩, ht99, hs99⟩ := zw_bd hsem
      refine zw_jn (J := 99) (L2 := [some (.ref 68), some (.ref values1), some (.int least2), some (.int then3), some (.int otherwise4), some (.int anyFirst17), some (.int anyAside18), some (.int s7), some (.long r15), none]) (c2 := c19) (fun jj => ?_) ?_
      · have hsem := ht99
        refine r_if_eq X (pc := 41) (tgt := 73) (zw_dg dk_Chooser_findWays 22 rfl) (by decide) (fun q21 => ?_) (fun q21 => ?_)
        · --
          have p20 : ¬ (¬ r16 = 0) := (fun z => z q21)
          have hsem := zw_ifn p20 hsem
          refine r_aload_n X (pc := 73) (i := 0) (zw_dg dk_Chooser_findWays 36 rfl) rfl rfl ?_
          refine zw_ter (P := (¬ anyAside6 = 0)) (f := Value.long) (x := (if r15 < (c8.2 68 4) then (c8.2 68 4) else r15)) (y := r15) (J := 93) (st2 := [.ref 68]) (fun jT jF => ?_) ?_
          · --
            refine r_iload X (pc := 74) (i := 6) (zw_dg dk_Chooser_findWays 37 rfl) rfl ?_
            refine r_if_eq X (pc := 76) (tgt := 91) (zw_dg dk_Chooser_findWays 38 rfl) (by decide) (fun q22 => ?_) (fun q22 => ?_)
            · --
              refine r_lload X (pc := 91) (i := 8) (zw_dg dk_Chooser_findWays 44 rfl) rfl ?_
              exact jF (fun z => z q22)
            · --
              refine r_aload_n X (pc := 79) (i := 0) (zw_dg dk_Chooser_findWays 39 rfl) rfl rfl ?_
              refine r_getL X (pc := 80) ci_Chooser (zo hS 68 rfl rfl) rfl lk_Chooser_86 (zw_dg dk_Chooser_findWays 40 rfl) ?_
              refine r_lload X (pc := 83) (i := 8) (zw_dg dk_Chooser_findWays 41 rfl) rfl ?_
              refine r_mmaxl X (pc := 85) kw_1187 mws_maxl kw_88 mwc_maxl ⟨Nat.le_of_ble_eq_true rfl, Nat.le_of_ble_eq_true rfl⟩ (st := [.ref 68]) (Nat.le_of_ble_eq_true rfl) (zw_dg dk_Chooser_findWays 42 rfl) ?_
              refine r_goto X (pc := 88) (tgt := 93) (zw_dg dk_Chooser_findWays 43 rfl) (by decide) ?_
              exact jT q22
          refine r_putL X (pc := 93) ci_Chooser (zo hS 68 rfl rfl) rfl lk_Chooser_86 rfl ⟨rfl, rfl⟩ (zw_dg dk_Chooser_findWays 45 rfl) ?_
          obtain ⟨c23, hc23, hsem⟩ := zw_bd hsem
          refine zw_topC hc23 ?_
          refine r_iconst X (pc := 96) (v := 1) (zw_dg dk_Chooser_findWays 46 rfl) (by decide) ?_
          refine r_istore X (pc := 97) (i := 6) (zw_dg dk_Chooser_findWays 47 rfl) (by decide) rfl ?_
          obtain ⟨rfl, rfl, rfl⟩ := zw_in3 hsem
          exact (r_fgt [] rfl jj)
        · --
          have p20 : (¬ r16 = 0) := q21
          have hsem := zw_ifp p20 hsem
          refine r_aload_n X (pc := 44) (i := 0) (zw_dg dk_Chooser_findWays 23 rfl) rfl rfl ?_
          refine zw_ter (P := (¬ anyFirst5 = 0)) (f := Value.long) (x := (if r15 < (c8.2 68 3) then (c8.2 68 3) else r15)) (y := r15) (J := 64) (st2 := [.ref 68]) (fun jT jF => ?_) ?_
          · --
            refine r_iload X (pc := 45) (i := 5) (zw_dg dk_Chooser_findWays 24 rfl) rfl ?_
            refine r_if_eq X (pc := 47) (tgt := 62) (zw_dg dk_Chooser_findWays 25 rfl) (by decide) (fun q24 => ?_) (fun q24 => ?_)
            · --
              refine r_lload X (pc := 62) (i := 8) (zw_dg dk_Chooser_findWays 31 rfl) rfl ?_
              exact jF (fun z => z q24)
            · --
              refine r_aload_n X (pc := 50) (i := 0) (zw_dg dk_Chooser_findWays 26 rfl) rfl rfl ?_
              refine r_getL X (pc := 51) ci_Chooser (zo hS 68 rfl rfl) rfl lk_Chooser_76 (zw_dg dk_Chooser_findWays 27 rfl) ?_
              refine r_lload X (pc := 54) (i := 8) (zw_dg dk_Chooser_findWays 28 rfl) rfl ?_
              refine r_mmaxl X (pc := 56) kw_1187 mws_maxl kw_88 mwc_maxl ⟨Nat.le_of_ble_eq_true rfl, Nat.le_of_ble_eq_true rfl⟩ (st := [.ref 68]) (Nat.le_of_ble_eq_true rfl) (zw_dg dk_Chooser_findWays 29 rfl) ?_
              refine r_goto X (pc := 59) (tgt := 64) (zw_dg dk_Chooser_findWays 30 rfl) (by decide) ?_
              exact jT q24
          refine r_putL X (pc := 64) ci_Chooser (zo hS 68 rfl rfl) rfl lk_Chooser_76 rfl ⟨rfl, rfl⟩ (zw_dg dk_Chooser_findWays 32 rfl) ?_
          obtain ⟨c25, hc25, hsem⟩ := zw_bd hsem
          refine zw_topC hc25 ?_
          refine r_iconst X (pc := 67) (v := 1) (zw_dg dk_Chooser_findWays 33 rfl) (by decide) ?_
          refine r_istore X (pc := 68) (i := 5) (zw_dg dk_Chooser_findWays 34 rfl) (by decide) rfl ?_
          refine r_goto X (pc := 70) (tgt := 99) (zw_dg dk_Chooser_findWays 35 rfl) (by decide) ?_
          obtain ⟨rfl, rfl, rfl⟩ := zw_in3 hsem
          exact (r_fgt [] rfl jj)
      have hsem := hs99
      refine r_iinc X (pc := 99) (i := 7) (k := 1) (zw_dg dk_Chooser_findWays 48 rfl) rfl (by decide) (by decide) rfl ?_
      refine r_goto X (pc := 102) (tgt := 9) (zw_dg dk_Chooser_findWays 49 rfl) (by decide) ?_
      have jj := hP _ (Option.some.inj hsem).symm
      exact (r_fgt [8] rfl jj)
  obtain ⟨anyFirst9, anyAside10, c11⟩ := l12
  have hsem := hsl12
  refine r_aload_n X (pc := 105) (i := 0) (zw_dg dk_Chooser_findWays 50 rfl) rfl rfl ?_
  refine r_aload_n X (pc := 106) (i := 0) (zw_dg dk_Chooser_findWays 51 rfl) rfl rfl ?_
  refine r_getR X (pc := 107) (r := 13) ci_Chooser (zo hS 68 rfl rfl) rfl (zr hS 68 2 rfl rfl) lk_Chooser_19 (zw_dg dk_Chooser_findWays 52 rfl) ?_
  refine r_aload_n X (pc := 110) (i := 1) (zw_dg dk_Chooser_findWays 53 rfl) rfl rfl ?_
  refine r_iload X (pc := 111) (i := 4) (zw_dg dk_Chooser_findWays 54 rfl) rfl ?_
  obtain ⟨⟨r26, c27⟩, hr26_c27, hsem⟩ := zw_bd hsem
  refine r_callVl X (pc := 113) (As := [_, _]) (st := [.ref 68]) (km_Judge_greatestWorth hS hr26_c27) ce_Judge_greatestWorth kw_1188 (zo hS 13 rfl rfl) rfl rfl ⟨Nat.le_of_ble_eq_true rfl, Nat.le_of_ble_eq_true rfl⟩ (Nat.le_of_ble_eq_true rfl) (zw_dg dk_Chooser_findWays 55 rfl) ?_
  refine r_putL X (pc := 116) ci_Chooser (zo hS 68 rfl rfl) rfl lk_Chooser_93 rfl ⟨rfl, rfl⟩ (zw_dg dk_Chooser_findWays 56 rfl) ?_
  obtain ⟨c28, hc28, hsem⟩ := zw_bd hsem
  refine zw_topC hc28 ?_
  cases hsem
  exact r_vret X (pc := 119) rfl (zw_dg dk_Chooser_findWays 57 rfl)
def y_Chooser_ofTwo : MethodName := ⟨R_Chooser, "ofTwo", "(JJI)J"⟩
abbrev b_Chooser_ofTwo : ByteArray := prog_2_method_7_code
def dl_Chooser_ofTwo : List (Nat × Instr × Nat) := [(0, .bipush 40, 2), (2, .iload 4, 2), (4, .isub, 1), (5, .i2l, 1), (6, .lload_n 0, 1), (7, .lmul, 1), (8, .iload 4, 2), (10, .i2l, 1), (11, .lload_n 2, 1), (12, .lmul, 1), (13, .ladd, 1), (14, .lreturn, 1)]
theorem dk_Chooser_ofTwo : zw_dk b_Chooser_ofTwo dl_Chooser_ofTwo = true := by decide +kernel
theorem ce_Chooser_ofTwo : zw_ces y_Chooser_ofTwo b_Chooser_ofTwo 5 (some .long) 3 := ⟨⟨kt_in 1191 (by decide +kernel) rfl, kt_in 96 (by decide +kernel) rfl, by decide +kernel⟩, kt_in 1190 (by decide +kernel) rfl⟩
def fn_Chooser_ofTwo (decided1 : Int64) (left2 : Int64) (k3 : Int32) : Int64 :=
  ((((40 - k3)).toInt64 * decided1) + (k3.toInt64 * left2))
set_option maxRecDepth 100000 in
theorem km_Chooser_ofTwo {l : Launch} {g : zw_G} {rr : zw_RR} {sh : zw_Sh} {c : zw_Ct} {decided1 : Int64} {left2 : Int64} {k3 : Int32} {r : Int64} (hS : zw_Ok 0 101 sh rr) (hsem : fn_Chooser_ofTwo decided1 left2 k3 = r) : zw_Met l g y_Chooser_ofTwo b_Chooser_ofTwo 5 (some .long) 1 rr sh [.long decided1, .long left2, .int k3] c (some (.long r)) c := by
  unfold fn_Chooser_ofTwo at hsem
  refine zw_Met.of (by decide +kernel) (Nat.le_of_ble_eq_true rfl) (fun p e s m args below meth cd X => ?_)
  refine zw_eL (L2 := [some (.long decided1), none, some (.long left2), none, some (.int k3)]) rfl ?_
  refine r_bipush X (pc := 0) (v := 40) (zw_dg dk_Chooser_ofTwo 0 rfl) (by decide) ?_
  refine r_iload X (pc := 2) (i := 4) (zw_dg dk_Chooser_ofTwo 1 rfl) rfl ?_
  refine r_isub X (pc := 4) (zw_dg dk_Chooser_ofTwo 2 rfl)  ?_
  refine r_i2l X (pc := 5) (zw_dg dk_Chooser_ofTwo 3 rfl)  ?_
  refine r_lload_n X (pc := 6) (i := 0) (zw_dg dk_Chooser_ofTwo 4 rfl) rfl rfl ?_
  refine r_lmul X (pc := 7) (zw_dg dk_Chooser_ofTwo 5 rfl)  ?_
  refine r_iload X (pc := 8) (i := 4) (zw_dg dk_Chooser_ofTwo 6 rfl) rfl ?_
  refine r_i2l X (pc := 10) (zw_dg dk_Chooser_ofTwo 7 rfl)  ?_
  refine r_lload_n X (pc := 11) (i := 2) (zw_dg dk_Chooser_ofTwo 8 rfl) rfl rfl ?_
  refine r_lmul X (pc := 12) (zw_dg dk_Chooser_ofTwo 9 rfl)  ?_
  refine r_ladd X (pc := 13) (zw_dg dk_Chooser_ofTwo 10 rfl)  ?_
  have hsem : (((((40 - k3)).toInt64 * decided1) + (k3.toInt64 * left2)) : _) = r := hsem
  cases hsem
  exact r_lret X (pc := 14) rfl (zw_dg dk_Chooser_ofTwo 11 rfl)
def y_Chooser_mostOfAny : MethodName := ⟨R_Chooser, "mostOfAny", "(II)J"⟩
abbrev b_Chooser_mostOfAny : ByteArray := prog_2_method_6_code
def dl_Chooser_mostOfAny : List (Nat × Instr × Nat) := [(0, .aload_n 0, 1), (1, .getfield 76, 3), (4, .aload_n 0, 1), (5, .getfield 93, 3), (8, .iload_n 2, 1), (9, .invokestatic 68, 3), (12, .lstore_n 3, 1), (13, .aload_n 0, 1), (14, .getfield 93, 3), (17, .aload_n 0, 1), (18, .getfield 86, 3), (21, .iload_n 2, 1), (22, .invokestatic 68, 3), (25, .lstore 5, 2), (27, .iload_n 1, 1), (28, .aload_n 0, 1), (29, .getfield 9, 3), (32, .getfield 96, 3), (35, .if_icmp .le 6, 3), (38, .lload 5, 2), (40, .lreturn, 1), (41, .iload_n 1, 1), (42, .ifCond .ne 7, 3), (45, .lload_n 3, 1), (46, .goto 9, 3), (49, .lload_n 3, 1), (50, .lload 5, 2), (52, .invokestatic 80, 3), (55, .lreturn, 1)]
theorem dk_Chooser_mostOfAny : zw_dk b_Chooser_mostOfAny dl_Chooser_mostOfAny = true := by decide +kernel
theorem ce_Chooser_mostOfAny : zw_cev y_Chooser_mostOfAny b_Chooser_mostOfAny 7 (some .long) 2 := ⟨⟨kt_in 1195 (by decide +kernel) rfl, kt_in 96 (by decide +kernel) rfl, by decide +kernel⟩, kt_in 1194 (by decide +kernel) rfl, kt_in 32 (by decide +kernel) rfl⟩
def fn_Chooser_mostOfAny (c : zw_Ct) (least1 : Int32) (k2 : Int32) : Int64 :=
  if ((c.1 1 1) < least1) then
  ((fn_Chooser_ofTwo (c.2 68 5) (c.2 68 4) k2))
  else
  ((if (least1 = 0) then ((fn_Chooser_ofTwo (c.2 68 3) (c.2 68 5) k2) : Int64) else (if (fn_Chooser_ofTwo (c.2 68 5) (c.2 68 4) k2) < (fn_Chooser_ofTwo (c.2 68 3) (c.2 68 5) k2) then (fn_Chooser_ofTwo (c.2 68 3) (c.2 68 5) k2) else (fn_Chooser_ofTwo (c.2 68 5) (c.2 68 4) k2))))
set_option maxRecDepth 100000 in
theorem km_Chooser_mostOfAny {l : Launch} {g : zw_G} {rr : zw_RR} {sh : zw_Sh} {c : zw_Ct} {least1 : Int32} {k2 : Int32} {r : Int64} (hS : zw_Ok 0 101 sh rr) (hsem : fn_Chooser_mostOfAny c least1 k2 = r) : zw_Met l g y_Chooser_mostOfAny b_Chooser_mostOfAny 7 (some .long) 2 rr sh [.ref 68, .int least1, .int k2] c (some (.long r)) c := by
  unfold fn_Chooser_mostOfAny at hsem
  refine zw_Met.of (by decide +kernel) (Nat.le_of_ble_eq_true rfl) (fun p e s m args below meth cd X => ?_)
  refine zw_eL (L2 := [some (.ref 68), some (.int least1), some (.int k2), none, none, none, none]) rfl ?_
  refine r_aload_n X (pc := 0) (i := 0) (zw_dg dk_Chooser_mostOfAny 0 rfl) rfl rfl ?_
  refine r_getL X (pc := 1) ci_Chooser (zo hS 68 rfl rfl) rfl lk_Chooser_76 (zw_dg dk_Chooser_mostOfAny 1 rfl) ?_
  refine r_aload_n X (pc := 4) (i := 0) (zw_dg dk_Chooser_mostOfAny 2 rfl) rfl rfl ?_
  refine r_getL X (pc := 5) ci_Chooser (zo hS 68 rfl rfl) rfl lk_Chooser_93 (zw_dg dk_Chooser_mostOfAny 3 rfl) ?_
  refine r_iload_n X (pc := 8) (i := 2) (zw_dg dk_Chooser_mostOfAny 4 rfl) rfl rfl ?_
  refine r_callSl X (pc := 9) (As := [_, _, _]) (st := []) (km_Chooser_ofTwo hS rfl) ce_Chooser_ofTwo kw_1189 rfl ⟨Nat.le_of_ble_eq_true rfl, Nat.le_of_ble_eq_true rfl⟩ (Nat.le_of_ble_eq_true rfl) (zw_dg dk_Chooser_mostOfAny 5 rfl) ?_
  refine r_lstore_n X (pc := 12) (i := 3) (L2 := [some (.ref 68), some (.int least1), some (.int k2), some (.long (fn_Chooser_ofTwo (c.2 68 3) (c.2 68 5) k2)), none, none, none]) (zw_dg dk_Chooser_mostOfAny 6 rfl) rfl (by decide) rfl ?_
  refine r_aload_n X (pc := 13) (i := 0) (zw_dg dk_Chooser_mostOfAny 7 rfl) rfl rfl ?_
  refine r_getL X (pc := 14) ci_Chooser (zo hS 68 rfl rfl) rfl lk_Chooser_93 (zw_dg dk_Chooser_mostOfAny 8 rfl) ?_
  refine r_aload_n X (pc := 17) (i := 0) (zw_dg dk_Chooser_mostOfAny 9 rfl) rfl rfl ?_
  refine r_getL X (pc := 18) ci_Chooser (zo hS 68 rfl rfl) rfl lk_Chooser_86 (zw_dg dk_Chooser_mostOfAny 10 rfl) ?_
  refine r_iload_n X (pc := 21) (i := 2) (zw_dg dk_Chooser_mostOfAny 11 rfl) rfl rfl ?_
  refine r_callSl X (pc := 22) (As := [_, _, _]) (st := []) (km_Chooser_ofTwo hS rfl) ce_Chooser_ofTwo kw_1189 rfl ⟨Nat.le_of_ble_eq_true rfl, Nat.le_of_ble_eq_true rfl⟩ (Nat.le_of_ble_eq_true rfl) (zw_dg dk_Chooser_mostOfAny 12 rfl) ?_
  refine r_lstore X (pc := 25) (i := 5) (L2 := [some (.ref 68), some (.int least1), some (.int k2), some (.long (fn_Chooser_ofTwo (c.2 68 3) (c.2 68 5) k2)), none, some (.long (fn_Chooser_ofTwo (c.2 68 5) (c.2 68 4) k2)), none]) (zw_dg dk_Chooser_mostOfAny 13 rfl) (by decide) rfl ?_
  refine r_iload_n X (pc := 27) (i := 1) (zw_dg dk_Chooser_mostOfAny 14 rfl) rfl rfl ?_
  refine r_aload_n X (pc := 28) (i := 0) (zw_dg dk_Chooser_mostOfAny 15 rfl) rfl rfl ?_
  refine r_getR X (pc := 29) (r := 1) ci_Chooser (zo hS 68 rfl rfl) rfl (zr hS 68 0 rfl rfl) lk_Chooser_9 (zw_dg dk_Chooser_mostOfAny 16 rfl) ?_
  refine r_getI X (pc := 32) ci_Sayings (zo hS 1 rfl rfl) rfl lk_Chooser_96 (zw_dg dk_Chooser_mostOfAny 17 rfl) ?_
  refine r_icmp_le X (pc := 35) (tgt := 41) (zw_dg dk_Chooser_mostOfAny 18 rfl) (by decide) (fun q4 => ?_) (fun q4 => ?_)
  · --
    have p3 : ¬ ((c.1 1 1) < least1) := (Int32.not_lt.mpr q4)
    have hsem := zw_ifn p3 hsem
    refine zw_ter (P := (least1 = 0)) (f := Value.long) (x := (fn_Chooser_ofTwo (c.2 68 3) (c.2 68 5) k2)) (y := (if (fn_Chooser_ofTwo (c.2 68 5) (c.2 68 4) k2) < (fn_Chooser_ofTwo (c.2 68 3) (c.2 68 5) k2) then (fn_Chooser_ofTwo (c.2 68 3) (c.2 68 5) k2) else (fn_Chooser_ofTwo (c.2 68 5) (c.2 68 4) k2))) (J := 55) (st2 := []) (fun jT jF => ?_) ?_
    · --
      refine r_iload_n X (pc := 41) (i := 1) (zw_dg dk_Chooser_mostOfAny 21 rfl) rfl rfl ?_
      refine r_if_ne X (pc := 42) (tgt := 49) (zw_dg dk_Chooser_mostOfAny 22 rfl) (by decide) (fun q5 => ?_) (fun q5 => ?_)
      · --
        refine r_lload_n X (pc := 49) (i := 3) (zw_dg dk_Chooser_mostOfAny 25 rfl) rfl rfl ?_
        refine r_lload X (pc := 50) (i := 5) (zw_dg dk_Chooser_mostOfAny 26 rfl) rfl ?_
        refine r_mmaxl X (pc := 52) kw_1187 mws_maxl kw_88 mwc_maxl ⟨Nat.le_of_ble_eq_true rfl, Nat.le_of_ble_eq_true rfl⟩ (st := []) (Nat.le_of_ble_eq_true rfl) (zw_dg dk_Chooser_mostOfAny 27 rfl) ?_
        exact jF q5
      · --
        refine r_lload_n X (pc := 45) (i := 3) (zw_dg dk_Chooser_mostOfAny 23 rfl) rfl rfl ?_
        refine r_goto X (pc := 46) (tgt := 55) (zw_dg dk_Chooser_mostOfAny 24 rfl) (by decide) ?_
        exact jT q5
    have hsem : ((if (least1 = 0) then ((fn_Chooser_ofTwo (c.2 68 3) (c.2 68 5) k2) : Int64) else (if (fn_Chooser_ofTwo (c.2 68 5) (c.2 68 4) k2) < (fn_Chooser_ofTwo (c.2 68 3) (c.2 68 5) k2) then (fn_Chooser_ofTwo (c.2 68 3) (c.2 68 5) k2) else (fn_Chooser_ofTwo (c.2 68 5) (c.2 68 4) k2))) : _) = r := hsem
    cases hsem
    exact r_lret X (pc := 55) rfl (zw_dg dk_Chooser_mostOfAny 28 rfl)
  · --
    have p3 : ((c.1 1 1) < least1) := (Int32.not_le.mp q4)
    have hsem := zw_ifp p3 hsem
    refine r_lload X (pc := 38) (i := 5) (zw_dg dk_Chooser_mostOfAny 19 rfl) rfl ?_
    have hsem : ((fn_Chooser_ofTwo (c.2 68 5) (c.2 68 4) k2) : _) = r := hsem
    cases hsem
    exact r_lret X (pc := 40) rfl (zw_dg dk_Chooser_mostOfAny 20 rfl)
def y_Chooser_tellCoin : MethodName := ⟨R_Chooser, "tellCoin", "([IIIILPaidForThinking$Row;)I"⟩
abbrev b_Chooser_tellCoin : ByteArray := prog_2_method_4_code
def dl_Chooser_tellCoin : List (Nat × Instr × Nat) := [(0, .aload_n 0, 1), (1, .aload_n 1, 1), (2, .iload_n 2, 1), (3, .iload_n 3, 1), (4, .iload 4, 2), (6, .invokevirtual 64, 3), (9, .aload_n 0, 1), (10, .getfield 19, 3), (13, .aload_n 1, 1), (14, .iload_n 3, 1), (15, .iload_n 3, 1), (16, .invokevirtual 39, 3), (19, .lstore 6, 2), (21, .aload_n 0, 1), (22, .getfield 19, 3), (25, .aload_n 1, 1), (26, .iload 4, 2), (28, .iload 4, 2), (30, .invokevirtual 39, 3), (33, .lstore 8, 2), (35, .aload_n 0, 1), (36, .iload_n 3, 1), (37, .iload_n 2, 1), (38, .invokevirtual 35, 3), (41, .istore 10, 2), (43, .iconst 0, 1), (44, .istore 11, 2), (46, .iload 11, 2), (48, .bipush 20, 2), (50, .if_icmp .gt 76, 3), (53, .iload 10, 2), (55, .ifCond .eq 15, 3), (58, .lload 6, 2), (60, .lload 8, 2), (62, .iload 11, 2), (64, .invokestatic 68, 3), (67, .goto 12, 3), (70, .lload 8, 2), (72, .lload 6, 2), (74, .iload 11, 2), (76, .invokestatic 68, 3), (79, .lstore 12, 2), (81, .aload_n 0, 1), (82, .iload_n 2, 1), (83, .iload 11, 2), (85, .invokevirtual 72, 3), (88, .lload 12, 2), (90, .lcmp, 1), (91, .ifCond .gt 29, 3), (94, .aload 5, 2), (96, .invokevirtual 55, 3), (99, .aload 5, 2), (101, .lload 12, 2), (103, .invokevirtual 60, 3), (106, .aload 5, 2), (108, .aload_n 0, 1), (109, .iload_n 2, 1), (110, .iconst 0, 1), (111, .invokevirtual 72, 3), (114, .invokevirtual 60, 3), (117, .iload 11, 2), (119, .ireturn, 1), (120, .iinc 11 1, 3), (123, .goto (-77), 3), (126, .bipush (-2), 2), (128, .ireturn, 1)]
theorem dk_Chooser_tellCoin : zw_dk b_Chooser_tellCoin dl_Chooser_tellCoin = true := by decide +kernel
theorem ce_Chooser_tellCoin : zw_cev y_Chooser_tellCoin b_Chooser_tellCoin 14 (some .int) 5 := ⟨⟨kt_in 1182 (by decide +kernel) rfl, kt_in 96 (by decide +kernel) rfl, by decide +kernel⟩, kt_in 1180 (by decide +kernel) rfl, kt_in 1181 (by decide +kernel) rfl⟩
def fn_Chooser_tellCoin_l1 (r8 : Int32) (r6 : Int64) (r7 : Int64) (least2 : Int32) : Int32 × zw_Ct → Option (((Int32 × zw_Ct) ⊕ (zw_Ct)) ⊕ (Int32 × zw_Ct)) := fun (k9, c10) =>
  if (k9 ≤ 20) then
  ((some ((if (¬ r8 = 0) then ((fn_Chooser_ofTwo r6 r7 k9) : Int64) else (fn_Chooser_ofTwo r7 r6 k9)) : Int64)).bind fun truth16 =>
  if ((fn_Chooser_mostOfAny c10 least2 k9) ≤ truth16) then
  ((fn_Row_clear c10).bind fun c19 =>
  (fn_Row_add c19 truth16).bind fun c20 =>
  (fn_Row_add c20 (fn_Chooser_mostOfAny c20 least2 0)).bind fun c21 =>
  some (.inl (.inl (k9, c21))))
  else
  (some (.inr ((k9 + 1), c10))))
  else
  (some (.inl (.inr c10)))
def fn_Chooser_tellCoin (c : zw_Ct) (values1 : Nat) (least2 : Int32) (then3 : Int32) (otherwise4 : Int32) : Option (Int32 × zw_Ct) :=
  (fn_Chooser_findWays c values1 least2 then3 otherwise4).bind fun c5 =>
  (fn_Judge_worth c5 values1 then3 then3).bind fun r6 =>
  (fn_Judge_worth c5 values1 otherwise4 otherwise4).bind fun r7 =>
  (fn_Chooser_decidesFirst c5 then3 least2).bind fun r8 =>
  (zw_whl (fn_Chooser_tellCoin_l1 r8 r6 r7 least2) zw_F (0, c5)).bind fun q => match q with
    | .inl w => some w
    | .inr c11 =>
    some ((-2), c11)
set_option maxRecDepth 100000 in
theorem km_Chooser_tellCoin {l : Launch} {g : zw_G} {rr : zw_RR} {sh : zw_Sh} {c : zw_Ct} {values1 : Nat} {least2 : Int32} {then3 : Int32} {otherwise4 : Int32} {r : Int32} {c2 : zw_Ct} (hS : zw_Ok 0 101 sh rr) (hsem : fn_Chooser_tellCoin c values1 least2 then3 otherwise4 = some (r, c2)) : zw_Met l g y_Chooser_tellCoin b_Chooser_tellCoin 14 (some .int) 6 rr sh [.ref 68, .ref values1, .int least2, .int then3, .int otherwise4, .ref 61] c (some (.int r)) c2 := by
  unfold fn_Chooser_tellCoin at hsem
  refine zw_Met.of (by decide +kernel) (Nat.le_of_ble_eq_true rfl) (fun p e s m args below meth cd X => ?_)
  refine zw_eL (L2 := [some (.ref 68), some (.ref values1), some (.int least2), some (.int then3), some (.int otherwise4), some (.ref 61), none, none, none, none, none, none, none, none]) rfl ?_
  refine r_aload_n X (pc := 0) (i := 0) (zw_dg dk_Chooser_tellCoin 0 rfl) rfl rfl ?_
  refine r_aload_n X (pc := 1) (i := 1) (zw_dg dk_Chooser_tellCoin 1 rfl) rfl rfl ?_
  refine r_iload_n X (pc := 2) (i := 2) (zw_dg dk_Chooser_tellCoin 2 rfl) rfl rfl ?_
  refine r_iload_n X (pc := 3) (i := 3) (zw_dg dk_Chooser_tellCoin 3 rfl) rfl rfl ?_
  refine r_iload X (pc := 4) (i := 4) (zw_dg dk_Chooser_tellCoin 4 rfl) rfl ?_
  obtain ⟨c5, hc5, hsem⟩ := zw_bd hsem
  refine r_callVv X (pc := 6) (As := [_, _, _, _]) (st := []) (km_Chooser_findWays hS hc5) ce_Chooser_findWays kw_1183 (zo hS 68 rfl rfl) rfl rfl ⟨Nat.le_of_ble_eq_true rfl, Nat.le_of_ble_eq_true rfl⟩ (Nat.le_of_ble_eq_true rfl) (zw_dg dk_Chooser_tellCoin 5 rfl) ?_
  refine r_aload_n X (pc := 9) (i := 0) (zw_dg dk_Chooser_tellCoin 6 rfl) rfl rfl ?_
  refine r_getR X (pc := 10) (r := 13) ci_Chooser (zo hS 68 rfl rfl) rfl (zr hS 68 2 rfl rfl) lk_Chooser_19 (zw_dg dk_Chooser_tellCoin 7 rfl) ?_
  refine r_aload_n X (pc := 13) (i := 1) (zw_dg dk_Chooser_tellCoin 8 rfl) rfl rfl ?_
  refine r_iload_n X (pc := 14) (i := 3) (zw_dg dk_Chooser_tellCoin 9 rfl) rfl rfl ?_
  refine r_iload_n X (pc := 15) (i := 3) (zw_dg dk_Chooser_tellCoin 10 rfl) rfl rfl ?_
  obtain ⟨r6, hr6, hsem⟩ := zw_bd hsem
  refine r_callVl X (pc := 16) (As := [_, _, _]) (st := []) (km_Judge_worth hS hr6) ce_Judge_worth kw_1171 (zo hS 13 rfl rfl) rfl rfl ⟨Nat.le_of_ble_eq_true rfl, Nat.le_of_ble_eq_true rfl⟩ (Nat.le_of_ble_eq_true rfl) (zw_dg dk_Chooser_tellCoin 11 rfl) ?_
  refine r_lstore X (pc := 19) (i := 6) (L2 := [some (.ref 68), some (.ref values1), some (.int least2), some (.int then3), some (.int otherwise4), some (.ref 61), some (.long r6), none, none, none, none, none, none, none]) (zw_dg dk_Chooser_tellCoin 12 rfl) (by decide) rfl ?_
  refine r_aload_n X (pc := 21) (i := 0) (zw_dg dk_Chooser_tellCoin 13 rfl) rfl rfl ?_
  refine r_getR X (pc := 22) (r := 13) ci_Chooser (zo hS 68 rfl rfl) rfl (zr hS 68 2 rfl rfl) lk_Chooser_19 (zw_dg dk_Chooser_tellCoin 14 rfl) ?_
  refine r_aload_n X (pc := 25) (i := 1) (zw_dg dk_Chooser_tellCoin 15 rfl) rfl rfl ?_
  refine r_iload X (pc := 26) (i := 4) (zw_dg dk_Chooser_tellCoin 16 rfl) rfl ?_
  refine r_iload X (pc := 28) (i := 4) (zw_dg dk_Chooser_tellCoin 17 rfl) rfl ?_
  obtain ⟨r7, hr7, hsem⟩ := zw_bd hsem
  refine r_callVl X (pc := 30) (As := [_, _, _]) (st := []) (km_Judge_worth hS hr7) ce_Judge_worth kw_1171 (zo hS 13 rfl rfl) rfl rfl ⟨Nat.le_of_ble_eq_true rfl, Nat.le_of_ble_eq_true rfl⟩ (Nat.le_of_ble_eq_true rfl) (zw_dg dk_Chooser_tellCoin 18 rfl) ?_
  refine r_lstore X (pc := 33) (i := 8) (L2 := [some (.ref 68), some (.ref values1), some (.int least2), some (.int then3), some (.int otherwise4), some (.ref 61), some (.long r6), none, some (.long r7), none, none, none, none, none]) (zw_dg dk_Chooser_tellCoin 19 rfl) (by decide) rfl ?_
  refine r_aload_n X (pc := 35) (i := 0) (zw_dg dk_Chooser_tellCoin 20 rfl) rfl rfl ?_
  refine r_iload_n X (pc := 36) (i := 3) (zw_dg dk_Chooser_tellCoin 21 rfl) rfl rfl ?_
  refine r_iload_n X (pc := 37) (i := 2) (zw_dg dk_Chooser_tellCoin 22 rfl) rfl rfl ?_
  obtain ⟨r8, hr8, hsem⟩ := zw_bd hsem
  refine r_callVi X (pc := 38) (As := [_, _]) (st := []) (km_Chooser_decidesFirst hS hr8) ce_Chooser_decidesFirst kw_1166 (zo hS 68 rfl rfl) rfl rfl ⟨Nat.le_of_ble_eq_true rfl, Nat.le_of_ble_eq_true rfl⟩ (Nat.le_of_ble_eq_true rfl) (zw_dg dk_Chooser_tellCoin 23 rfl) ?_
  refine r_istore X (pc := 41) (i := 10) (zw_dg dk_Chooser_tellCoin 24 rfl) (by decide) rfl ?_
  refine r_iconst X (pc := 43) (v := 0) (zw_dg dk_Chooser_tellCoin 25 rfl) (by decide) ?_
  refine r_istore X (pc := 44) (i := 11) (zw_dg dk_Chooser_tellCoin 26 rfl) (by decide) rfl ?_
  obtain ⟨l12, hl12, hsl12⟩ := zw_bd hsem
  refine r_loopR (pc := 46) (pce := 126) hl12 (fun (k9, c10) => [some (.ref 68), some (.ref values1), some (.int least2), some (.int then3), some (.int otherwise4), some (.ref 61), some (.long r6), none, some (.long r7), none, some (.int r8), some (.int k9), none, none] : Int32 × zw_Ct → zw_Lc) (fun (k9, c10) => c10 : Int32 × zw_Ct → zw_Ct) (fun c11 => [some (.ref 68), some (.ref values1), some (.int least2), some (.int then3), some (.int otherwise4), some (.ref 61), some (.long r6), none, some (.long r7), none, some (.int r8), none, none, none] : zw_Ct → zw_Lc) (fun c11 => c11 : zw_Ct → zw_Ct) (fun w => w = (r, c2)) ?_ rfl rfl ?_ ?_
  · rintro ⟨k9, c10⟩ rr hsem hR hK hP
    try unfold fn_Chooser_tellCoin_l1 at hsem
    refine r_iload X (pc := 46) (i := 11) (zw_dg dk_Chooser_tellCoin 27 rfl) rfl ?_
    refine r_bipush X (pc := 48) (v := 20) (zw_dg dk_Chooser_tellCoin 28 rfl) (by decide) ?_
    refine r_icmp_gt X (pc := 50) (tgt := 126) (zw_dg dk_Chooser_tellCoin 29 rfl) (by decide) (fun q14 => ?_) (fun q14 => ?_)
    · --
      have p13 : ¬ (k9 ≤ 20) := (Int32.not_le.mpr q14)
      have hsem := zw_ifn p13 hsem
      have jj := hK _ (Option.some.inj hsem).symm
      exact (r_fgt [11] rfl jj)
    · --
      have p13 : (k9 ≤ 20) := (Int32.not_lt.mp q14)
      have hsem := zw_ifp p13 hsem
      refine zw_ter (P := (¬ r8 = 0)) (f := Value.long) (x := (fn_Chooser_ofTwo r6 r7 k9)) (y := (fn_Chooser_ofTwo r7 r6 k9)) (J := 79) (st2 := []) (fun jT jF => ?_) ?_
      · --
        refine r_iload X (pc := 53) (i := 10) (zw_dg dk_Chooser_tellCoin 30 rfl) rfl ?_
        refine r_if_eq X (pc := 55) (tgt := 70) (zw_dg dk_Chooser_tellCoin 31 rfl) (by decide) (fun q15 => ?_) (fun q15 => ?_)
        · --
          refine r_lload X (pc := 70) (i := 8) (zw_dg dk_Chooser_tellCoin 37 rfl) rfl ?_
          refine r_lload X (pc := 72) (i := 6) (zw_dg dk_Chooser_tellCoin 38 rfl) rfl ?_
          refine r_iload X (pc := 74) (i := 11) (zw_dg dk_Chooser_tellCoin 39 rfl) rfl ?_
          refine r_callSl X (pc := 76) (As := [_, _, _]) (st := []) (km_Chooser_ofTwo hS rfl) ce_Chooser_ofTwo kw_1189 rfl ⟨Nat.le_of_ble_eq_true rfl, Nat.le_of_ble_eq_true rfl⟩ (Nat.le_of_ble_eq_true rfl) (zw_dg dk_Chooser_tellCoin 40 rfl) ?_
          exact jF (fun z => z q15)
        · --
          refine r_lload X (pc := 58) (i := 6) (zw_dg dk_Chooser_tellCoin 32 rfl) rfl ?_
          refine r_lload X (pc := 60) (i := 8) (zw_dg dk_Chooser_tellCoin 33 rfl) rfl ?_
          refine r_iload X (pc := 62) (i := 11) (zw_dg dk_Chooser_tellCoin 34 rfl) rfl ?_
          refine r_callSl X (pc := 64) (As := [_, _, _]) (st := []) (km_Chooser_ofTwo hS rfl) ce_Chooser_ofTwo kw_1189 rfl ⟨Nat.le_of_ble_eq_true rfl, Nat.le_of_ble_eq_true rfl⟩ (Nat.le_of_ble_eq_true rfl) (zw_dg dk_Chooser_tellCoin 35 rfl) ?_
          refine r_goto X (pc := 67) (tgt := 79) (zw_dg dk_Chooser_tellCoin 36 rfl) (by decide) ?_
          exact jT q15
      obtain ⟨truth16, htruth16, hsem⟩ := zw_bd hsem
      refine zw_topJ htruth16 ?_
      refine r_lstore X (pc := 79) (i := 12) (L2 := [some (.ref 68), some (.ref values1), some (.int least2), some (.int then3), some (.int otherwise4), some (.ref 61), some (.long r6), none, some (.long r7), none, some (.int r8), some (.int k9), some (.long truth16), none]) (zw_dg dk_Chooser_tellCoin 41 rfl) (by decide) rfl ?_
      refine r_aload_n X (pc := 81) (i := 0) (zw_dg dk_Chooser_tellCoin 42 rfl) rfl rfl ?_
      refine r_iload_n X (pc := 82) (i := 2) (zw_dg dk_Chooser_tellCoin 43 rfl) rfl rfl ?_
      refine r_iload X (pc := 83) (i := 11) (zw_dg dk_Chooser_tellCoin 44 rfl) rfl ?_
      refine r_callVl X (pc := 85) (As := [_, _]) (st := []) (km_Chooser_mostOfAny hS rfl) ce_Chooser_mostOfAny kw_1192 (zo hS 68 rfl rfl) rfl rfl ⟨Nat.le_of_ble_eq_true rfl, Nat.le_of_ble_eq_true rfl⟩ (Nat.le_of_ble_eq_true rfl) (zw_dg dk_Chooser_tellCoin 45 rfl) ?_
      refine r_lload X (pc := 88) (i := 12) (zw_dg dk_Chooser_tellCoin 46 rfl) rfl ?_
      refine r_lcmp_gt X (pc := 90) (tgt := 120) (zw_dg dk_Chooser_tellCoin 47 rfl) (zw_dg dk_Chooser_tellCoin 48 rfl) (by decide) (fun q18 => ?_) (fun q18 => ?_)
      · --
        have p17 : ¬ ((fn_Chooser_mostOfAny c10 least2 k9) ≤ truth16) := (Int64.not_le.mpr q18)
        have hsem := zw_ifn p17 hsem
        refine r_iinc X (pc := 120) (i := 11) (k := 1) (zw_dg dk_Chooser_tellCoin 62 rfl) rfl (by decide) (by decide) rfl ?_
        refine r_goto X (pc := 123) (tgt := 46) (zw_dg dk_Chooser_tellCoin 63 rfl) (by decide) ?_
        have jj := hP _ (Option.some.inj hsem).symm
        exact (r_fgt [12] rfl jj)
      · --
        have p17 : ((fn_Chooser_mostOfAny c10 least2 k9) ≤ truth16) := (Int64.not_lt.mp q18)
        have hsem := zw_ifp p17 hsem
        refine r_aload X (pc := 94) (i := 5) (zw_dg dk_Chooser_tellCoin 49 rfl) rfl ?_
        obtain ⟨c19, hc19, hsem⟩ := zw_bd hsem
        refine r_callVv X (pc := 96) (As := []) (st := []) (km_Row_clear hS hc19) ce_Row_clear kw_1173 (zo hS 61 rfl rfl) rfl rfl ⟨Nat.le_of_ble_eq_true rfl, Nat.le_of_ble_eq_true rfl⟩ (Nat.le_of_ble_eq_true rfl) (zw_dg dk_Chooser_tellCoin 50 rfl) ?_
        refine r_aload X (pc := 99) (i := 5) (zw_dg dk_Chooser_tellCoin 51 rfl) rfl ?_
        refine r_lload X (pc := 101) (i := 12) (zw_dg dk_Chooser_tellCoin 52 rfl) rfl ?_
        obtain ⟨c20, hc20, hsem⟩ := zw_bd hsem
        refine r_callVv X (pc := 103) (As := [_]) (st := []) (km_Row_add hS hc20) ce_Row_add kw_1174 (zo hS 61 rfl rfl) rfl rfl ⟨Nat.le_of_ble_eq_true rfl, Nat.le_of_ble_eq_true rfl⟩ (Nat.le_of_ble_eq_true rfl) (zw_dg dk_Chooser_tellCoin 53 rfl) ?_
        refine r_aload X (pc := 106) (i := 5) (zw_dg dk_Chooser_tellCoin 54 rfl) rfl ?_
        refine r_aload_n X (pc := 108) (i := 0) (zw_dg dk_Chooser_tellCoin 55 rfl) rfl rfl ?_
        refine r_iload_n X (pc := 109) (i := 2) (zw_dg dk_Chooser_tellCoin 56 rfl) rfl rfl ?_
        refine r_iconst X (pc := 110) (v := 0) (zw_dg dk_Chooser_tellCoin 57 rfl) (by decide) ?_
        refine r_callVl X (pc := 111) (As := [_, _]) (st := [.ref 61]) (km_Chooser_mostOfAny hS rfl) ce_Chooser_mostOfAny kw_1192 (zo hS 68 rfl rfl) rfl rfl ⟨Nat.le_of_ble_eq_true rfl, Nat.le_of_ble_eq_true rfl⟩ (Nat.le_of_ble_eq_true rfl) (zw_dg dk_Chooser_tellCoin 58 rfl) ?_
        obtain ⟨c21, hc21, hsem⟩ := zw_bd hsem
        refine r_callVv X (pc := 114) (As := [_]) (st := []) (km_Row_add hS hc21) ce_Row_add kw_1174 (zo hS 61 rfl rfl) rfl rfl ⟨Nat.le_of_ble_eq_true rfl, Nat.le_of_ble_eq_true rfl⟩ (Nat.le_of_ble_eq_true rfl) (zw_dg dk_Chooser_tellCoin 59 rfl) ?_
        refine r_iload X (pc := 117) (i := 11) (zw_dg dk_Chooser_tellCoin 60 rfl) rfl ?_
        have hret := hR _ (Option.some.inj hsem).symm
        cases hret
        exact r_iret X (pc := 119) rfl (zw_dg dk_Chooser_tellCoin 61 rfl)
  · intro w hw
    subst hw
    exact Option.some.inj hsl12
  rintro c11 hw
  subst hw
  have hsem := hsl12
  refine r_bipush X (pc := 126) (v := (-2)) (zw_dg dk_Chooser_tellCoin 64 rfl) (by decide) ?_
  cases hsem
  exact r_iret X (pc := 128) rfl (zw_dg dk_Chooser_tellCoin 65 rfl)
def y_Chooser_bestNumber : MethodName := ⟨R_Chooser, "bestNumber", "([II)I"⟩
abbrev b_Chooser_bestNumber : ByteArray := prog_2_method_8_code
def dl_Chooser_bestNumber : List (Nat × Instr × Nat) := [(0, .iconst 0, 1), (1, .istore_n 3, 1), (2, .aload_n 0, 1), (3, .getfield 19, 3), (6, .aload_n 1, 1), (7, .aload_n 0, 1), (8, .getfield 9, 3), (11, .iconst 0, 1), (12, .invokevirtual 99, 3), (15, .iload_n 2, 1), (16, .invokevirtual 39, 3), (19, .lstore 4, 2), (21, .iconst 1, 1), (22, .istore 6, 2), (24, .iload 6, 2), (26, .aload_n 0, 1), (27, .getfield 9, 3), (30, .getfield 103, 3), (33, .if_icmp .ge 44, 3), (36, .aload_n 0, 1), (37, .getfield 19, 3), (40, .aload_n 1, 1), (41, .aload_n 0, 1), (42, .getfield 9, 3), (45, .iload 6, 2), (47, .invokevirtual 99, 3), (50, .iload_n 2, 1), (51, .invokevirtual 39, 3), (54, .lstore 7, 2), (56, .lload 7, 2), (58, .lload 4, 2), (60, .lcmp, 1), (61, .ifCond .le 10, 3), (64, .iload 6, 2), (66, .istore_n 3, 1), (67, .lload 7, 2), (69, .lstore 4, 2), (71, .iinc 6 1, 3), (74, .goto (-50), 3), (77, .iload_n 3, 1), (78, .ireturn, 1)]
theorem dk_Chooser_bestNumber : zw_dk b_Chooser_bestNumber dl_Chooser_bestNumber = true := by decide +kernel
theorem ce_Chooser_bestNumber : zw_cev y_Chooser_bestNumber b_Chooser_bestNumber 9 (some .int) 2 := ⟨⟨kt_in 1208 (by decide +kernel) rfl, kt_in 96 (by decide +kernel) rfl, by decide +kernel⟩, kt_in 1206 (by decide +kernel) rfl, kt_in 1207 (by decide +kernel) rfl⟩
def fn_Chooser_bestNumber_l1 (c : zw_Ct) (values1 : Nat) (thought2 : Int32) : Int32 × Int64 × Int32 → Option ((Int32 × Int64) ⊕ (Int32 × Int64 × Int32)) := fun (best5, greatest6, r7) =>
  if (r7 < (c.1 1 0)) then
  ((fn_Sayings_allTo c r7).bind fun r13 =>
  (fn_Judge_worth c values1 r13 thought2).bind fun r14 =>
  (if (greatest6 < r14) then
  (some ((r7 : Int32), (r14 : Int64)))
  else
  (some ((best5 : Int32), (greatest6 : Int64)))).bind fun (best15, greatest16) =>
  some (.inr (best15, greatest16, (r7 + 1))))
  else
  (some (.inl (best5, greatest6)))
def fn_Chooser_bestNumber (c : zw_Ct) (values1 : Nat) (thought2 : Int32) : Option Int32 :=
  (fn_Sayings_allTo c 0).bind fun r3 =>
  (fn_Judge_worth c values1 r3 thought2).bind fun r4 =>
  (zw_whl (fn_Chooser_bestNumber_l1 c values1 thought2) zw_F (0, r4, 1)).bind fun (best8, greatest9) =>
  some best8
set_option maxRecDepth 100000 in
theorem km_Chooser_bestNumber {l : Launch} {g : zw_G} {rr : zw_RR} {sh : zw_Sh} {c : zw_Ct} {values1 : Nat} {thought2 : Int32} {r : Int32} (hS : zw_Ok 0 101 sh rr) (hsem : fn_Chooser_bestNumber c values1 thought2 = some r) : zw_Met l g y_Chooser_bestNumber b_Chooser_bestNumber 9 (some .int) 3 rr sh [.ref 68, .ref values1, .int thought2] c (some (.int r)) c := by
  unfold fn_Chooser_bestNumber at hsem
  refine zw_Met.of (by decide +kernel) (Nat.le_of_ble_eq_true rfl) (fun p e s m args below meth cd X => ?_)
  refine zw_eL (L2 := [some (.ref 68), some (.ref values1), some (.int thought2), none, none, none, none, none, none]) rfl ?_
  refine r_iconst X (pc := 0) (v := 0) (zw_dg dk_Chooser_bestNumber 0 rfl) (by decide) ?_
  refine r_istore_n X (pc := 1) (i := 3) (zw_dg dk_Chooser_bestNumber 1 rfl) rfl (by decide) rfl ?_
  refine r_aload_n X (pc := 2) (i := 0) (zw_dg dk_Chooser_bestNumber 2 rfl) rfl rfl ?_
  refine r_getR X (pc := 3) (r := 13) ci_Chooser (zo hS 68 rfl rfl) rfl (zr hS 68 2 rfl rfl) lk_Chooser_19 (zw_dg dk_Chooser_bestNumber 3 rfl) ?_
  refine r_aload_n X (pc := 6) (i := 1) (zw_dg dk_Chooser_bestNumber 4 rfl) rfl rfl ?_
  refine r_aload_n X (pc := 7) (i := 0) (zw_dg dk_Chooser_bestNumber 5 rfl) rfl rfl ?_
  refine r_getR X (pc := 8) (r := 1) ci_Chooser (zo hS 68 rfl rfl) rfl (zr hS 68 0 rfl rfl) lk_Chooser_9 (zw_dg dk_Chooser_bestNumber 6 rfl) ?_
  refine r_iconst X (pc := 11) (v := 0) (zw_dg dk_Chooser_bestNumber 7 rfl) (by decide) ?_
  obtain ⟨r3, hr3, hsem⟩ := zw_bd hsem
  refine r_callVi X (pc := 12) (As := [_]) (st := [.ref values1, .ref 13]) (km_Sayings_allTo hS hr3) ce_Sayings_allTo kw_1209 (zo hS 1 rfl rfl) rfl rfl ⟨Nat.le_of_ble_eq_true rfl, Nat.le_of_ble_eq_true rfl⟩ (Nat.le_of_ble_eq_true rfl) (zw_dg dk_Chooser_bestNumber 8 rfl) ?_
  refine r_iload_n X (pc := 15) (i := 2) (zw_dg dk_Chooser_bestNumber 9 rfl) rfl rfl ?_
  obtain ⟨r4, hr4, hsem⟩ := zw_bd hsem
  refine r_callVl X (pc := 16) (As := [_, _, _]) (st := []) (km_Judge_worth hS hr4) ce_Judge_worth kw_1171 (zo hS 13 rfl rfl) rfl rfl ⟨Nat.le_of_ble_eq_true rfl, Nat.le_of_ble_eq_true rfl⟩ (Nat.le_of_ble_eq_true rfl) (zw_dg dk_Chooser_bestNumber 10 rfl) ?_
  refine r_lstore X (pc := 19) (i := 4) (L2 := [some (.ref 68), some (.ref values1), some (.int thought2), some (.int 0), some (.long r4), none, none, none, none]) (zw_dg dk_Chooser_bestNumber 11 rfl) (by decide) rfl ?_
  refine r_iconst X (pc := 21) (v := 1) (zw_dg dk_Chooser_bestNumber 12 rfl) (by decide) ?_
  refine r_istore X (pc := 22) (i := 6) (zw_dg dk_Chooser_bestNumber 13 rfl) (by decide) rfl ?_
  obtain ⟨l10, hl10, hsl10⟩ := zw_bd hsem
  refine r_loop (pc := 24) (pce := 77) hl10 (fun (best5, greatest6, r7) => [some (.ref 68), some (.ref values1), some (.int thought2), some (.int best5), some (.long greatest6), none, some (.int r7), none, none] : Int32 × Int64 × Int32 → zw_Lc) (fun (best5, greatest6, r7) => c : Int32 × Int64 × Int32 → zw_Ct) (fun (best8, greatest9) => [some (.ref 68), some (.ref values1), some (.int thought2), some (.int best8), some (.long greatest9), none, none, none, none] : Int32 × Int64 → zw_Lc) (fun (best8, greatest9) => c : Int32 × Int64 → zw_Ct) ?_ rfl rfl ?_
  · rintro ⟨best5, greatest6, r7⟩ rr hsem hK hP
    try unfold fn_Chooser_bestNumber_l1 at hsem
    refine r_iload X (pc := 24) (i := 6) (zw_dg dk_Chooser_bestNumber 14 rfl) rfl ?_
    refine r_aload_n X (pc := 26) (i := 0) (zw_dg dk_Chooser_bestNumber 15 rfl) rfl rfl ?_
    refine r_getR X (pc := 27) (r := 1) ci_Chooser (zo hS 68 rfl rfl) rfl (zr hS 68 0 rfl rfl) lk_Chooser_9 (zw_dg dk_Chooser_bestNumber 16 rfl) ?_
    refine r_getI X (pc := 30) ci_Sayings (zo hS 1 rfl rfl) rfl lk_Chooser_103 (zw_dg dk_Chooser_bestNumber 17 rfl) ?_
    refine r_icmp_ge X (pc := 33) (tgt := 77) (zw_dg dk_Chooser_bestNumber 18 rfl) (by decide) (fun q12 => ?_) (fun q12 => ?_)
    · --
      have p11 : ¬ (r7 < (c.1 1 0)) := (Int32.not_lt.mpr q12)
      have hsem := zw_ifn p11 hsem
      have jj := hK _ (Option.some.inj hsem).symm
      exact (r_fgt [6] rfl jj)
    · --
      have p11 : (r7 < (c.1 1 0)) := (Int32.not_le.mp q12)
      have hsem := zw_ifp p11 hsem
      refine r_aload_n X (pc := 36) (i := 0) (zw_dg dk_Chooser_bestNumber 19 rfl) rfl rfl ?_
      refine r_getR X (pc := 37) (r := 13) ci_Chooser (zo hS 68 rfl rfl) rfl (zr hS 68 2 rfl rfl) lk_Chooser_19 (zw_dg dk_Chooser_bestNumber 20 rfl) ?_
      refine r_aload_n X (pc := 40) (i := 1) (zw_dg dk_Chooser_bestNumber 21 rfl) rfl rfl ?_
      refine r_aload_n X (pc := 41) (i := 0) (zw_dg dk_Chooser_bestNumber 22 rfl) rfl rfl ?_
      refine r_getR X (pc := 42) (r := 1) ci_Chooser (zo hS 68 rfl rfl) rfl (zr hS 68 0 rfl rfl) lk_Chooser_9 (zw_dg dk_Chooser_bestNumber 23 rfl) ?_
      refine r_iload X (pc := 45) (i := 6) (zw_dg dk_Chooser_bestNumber 24 rfl) rfl ?_
      obtain ⟨r13, hr13, hsem⟩ := zw_bd hsem
      refine r_callVi X (pc := 47) (As := [_]) (st := [.ref values1, .ref 13]) (km_Sayings_allTo hS hr13) ce_Sayings_allTo kw_1209 (zo hS 1 rfl rfl) rfl rfl ⟨Nat.le_of_ble_eq_true rfl, Nat.le_of_ble_eq_true rfl⟩ (Nat.le_of_ble_eq_true rfl) (zw_dg dk_Chooser_bestNumber 25 rfl) ?_
      refine r_iload_n X (pc := 50) (i := 2) (zw_dg dk_Chooser_bestNumber 26 rfl) rfl rfl ?_
      obtain ⟨r14, hr14, hsem⟩ := zw_bd hsem
      refine r_callVl X (pc := 51) (As := [_, _, _]) (st := []) (km_Judge_worth hS hr14) ce_Judge_worth kw_1171 (zo hS 13 rfl rfl) rfl rfl ⟨Nat.le_of_ble_eq_true rfl, Nat.le_of_ble_eq_true rfl⟩ (Nat.le_of_ble_eq_true rfl) (zw_dg dk_Chooser_bestNumber 27 rfl) ?_
      refine r_lstore X (pc := 54) (i := 7) (L2 := [some (.ref 68), some (.ref values1), some (.int thought2), some (.int best5), some (.long greatest6), none, some (.int r7), some (.long r14), none]) (zw_dg dk_Chooser_bestNumber 28 rfl) (by decide) rfl ?_
      obtain ⟨⟨best15, greatest16⟩, ht71, hs71⟩ := zw_bd hsem
      refine zw_jn (J := 71) (L2 := [some (.ref 68), some (.ref values1), some (.int thought2), some (.int best15), some (.long greatest16), none, some (.int r7), some (.long r14), none]) (c2 := c) (fun jj => ?_) ?_
      · have hsem := ht71
        refine r_lload X (pc := 56) (i := 7) (zw_dg dk_Chooser_bestNumber 29 rfl) rfl ?_
        refine r_lload X (pc := 58) (i := 4) (zw_dg dk_Chooser_bestNumber 30 rfl) rfl ?_
        refine r_lcmp_le X (pc := 60) (tgt := 71) (zw_dg dk_Chooser_bestNumber 31 rfl) (zw_dg dk_Chooser_bestNumber 32 rfl) (by decide) (fun q18 => ?_) (fun q18 => ?_)
        · --
          have p17 : ¬ (greatest6 < r14) := (Int64.not_lt.mpr q18)
          have hsem := zw_ifn p17 hsem
          obtain ⟨rfl, rfl⟩ := zw_in2 hsem
          exact (r_fgt [] rfl jj)
        · --
          have p17 : (greatest6 < r14) := (Int64.not_le.mp q18)
          have hsem := zw_ifp p17 hsem
          refine r_iload X (pc := 64) (i := 6) (zw_dg dk_Chooser_bestNumber 33 rfl) rfl ?_
          refine r_istore_n X (pc := 66) (i := 3) (zw_dg dk_Chooser_bestNumber 34 rfl) rfl (by decide) rfl ?_
          refine r_lload X (pc := 67) (i := 7) (zw_dg dk_Chooser_bestNumber 35 rfl) rfl ?_
          refine r_lstore X (pc := 69) (i := 4) (L2 := [some (.ref 68), some (.ref values1), some (.int thought2), some (.int r7), some (.long r14), none, some (.int r7), some (.long r14), none]) (zw_dg dk_Chooser_bestNumber 36 rfl) (by decide) rfl ?_
          obtain ⟨rfl, rfl⟩ := zw_in2 hsem
          exact (r_fgt [] rfl jj)
      have hsem := hs71
      refine r_iinc X (pc := 71) (i := 6) (k := 1) (zw_dg dk_Chooser_bestNumber 37 rfl) rfl (by decide) (by decide) rfl ?_
      refine r_goto X (pc := 74) (tgt := 24) (zw_dg dk_Chooser_bestNumber 38 rfl) (by decide) ?_
      have jj := hP _ (Option.some.inj hsem).symm
      exact (r_fgt [7] rfl jj)
  obtain ⟨best8, greatest9⟩ := l10
  have hsem := hsl10
  refine r_iload_n X (pc := 77) (i := 3) (zw_dg dk_Chooser_bestNumber 39 rfl) rfl rfl ?_
  cases hsem
  exact r_iret X (pc := 78) rfl (zw_dg dk_Chooser_bestNumber 40 rfl)
def y_Chooser_lostBy : MethodName := ⟨R_Chooser, "lostBy", "(IIII)I"⟩
abbrev b_Chooser_lostBy : ByteArray := prog_2_method_10_code
def dl_Chooser_lostBy : List (Nat × Instr × Nat) := [(0, .iconst 0, 1), (1, .istore 5, 2), (3, .iconst 0, 1), (4, .istore 6, 2), (6, .iload 6, 2), (8, .aload_n 0, 1), (9, .getfield 9, 3), (12, .getfield 103, 3), (15, .if_icmp .ge 47, 3), (18, .iload 5, 2), (20, .aload_n 0, 1), (21, .getfield 9, 3), (24, .iload_n 2, 1), (25, .iload 6, 2), (27, .invokevirtual 23, 3), (30, .iload_n 1, 1), (31, .iload 6, 2), (33, .if_icmp .ge 12, 3), (36, .iload 6, 2), (38, .iload_n 1, 1), (39, .isub, 1), (40, .iload_n 3, 1), (41, .imul, 1), (42, .goto 10, 3), (45, .iload_n 1, 1), (46, .iload 6, 2), (48, .isub, 1), (49, .iload 4, 2), (51, .imul, 1), (52, .imul, 1), (53, .iadd, 1), (54, .istore 5, 2), (56, .iinc 6 1, 3), (59, .goto (-53), 3), (62, .iload 5, 2), (64, .ireturn, 1)]
theorem dk_Chooser_lostBy : zw_dk b_Chooser_lostBy dl_Chooser_lostBy = true := by decide +kernel
theorem ce_Chooser_lostBy : zw_cev y_Chooser_lostBy b_Chooser_lostBy 7 (some .int) 4 := ⟨⟨kt_in 1225 (by decide +kernel) rfl, kt_in 96 (by decide +kernel) rfl, by decide +kernel⟩, kt_in 1224 (by decide +kernel) rfl, kt_in 33 (by decide +kernel) rfl⟩
def fn_Chooser_lostBy_l1 (c : zw_Ct) (thought2 : Int32) (r1 : Int32) (a3 : Int32) (b4 : Int32) : Int32 × Int32 → Option ((Int32) ⊕ (Int32 × Int32)) := fun (sum5, e6) =>
  if (e6 < (c.1 1 0)) then
  ((fn_Sayings_partOf c thought2 e6).bind fun r11 =>
  (some ((sum5 + (r11 * (if (r1 < e6) then (((e6 - r1) * a3) : Int32) else ((r1 - e6) * b4)))) : Int32)).bind fun sum13 =>
  some (.inr (sum13, (e6 + 1))))
  else
  (some (.inl sum5))
def fn_Chooser_lostBy (c : zw_Ct) (r1 : Int32) (thought2 : Int32) (a3 : Int32) (b4 : Int32) : Option Int32 :=
  (zw_whl (fn_Chooser_lostBy_l1 c thought2 r1 a3 b4) zw_F (0, 0)).bind fun sum7 =>
  some sum7
set_option maxRecDepth 100000 in
theorem km_Chooser_lostBy {l : Launch} {g : zw_G} {rr : zw_RR} {sh : zw_Sh} {c : zw_Ct} {r1 : Int32} {thought2 : Int32} {a3 : Int32} {b4 : Int32} {r : Int32} (hS : zw_Ok 0 101 sh rr) (hsem : fn_Chooser_lostBy c r1 thought2 a3 b4 = some r) : zw_Met l g y_Chooser_lostBy b_Chooser_lostBy 7 (some .int) 2 rr sh [.ref 68, .int r1, .int thought2, .int a3, .int b4] c (some (.int r)) c := by
  unfold fn_Chooser_lostBy at hsem
  refine zw_Met.of (by decide +kernel) (Nat.le_of_ble_eq_true rfl) (fun p e s m args below meth cd X => ?_)
  refine zw_eL (L2 := [some (.ref 68), some (.int r1), some (.int thought2), some (.int a3), some (.int b4), none, none]) rfl ?_
  refine r_iconst X (pc := 0) (v := 0) (zw_dg dk_Chooser_lostBy 0 rfl) (by decide) ?_
  refine r_istore X (pc := 1) (i := 5) (zw_dg dk_Chooser_lostBy 1 rfl) (by decide) rfl ?_
  refine r_iconst X (pc := 3) (v := 0) (zw_dg dk_Chooser_lostBy 2 rfl) (by decide) ?_
  refine r_istore X (pc := 4) (i := 6) (zw_dg dk_Chooser_lostBy 3 rfl) (by decide) rfl ?_
  obtain ⟨sum7, hl8, hsl8⟩ := zw_bd hsem
  refine r_loop (pc := 6) (pce := 62) hl8 (fun (sum5, e6) => [some (.ref 68), some (.int r1), some (.int thought2), some (.int a3), some (.int b4), some (.int sum5), some (.int e6)] : Int32 × Int32 → zw_Lc) (fun (sum5, e6) => c : Int32 × Int32 → zw_Ct) (fun sum7 => [some (.ref 68), some (.int r1), some (.int thought2), some (.int a3), some (.int b4), some (.int sum7), none] : Int32 → zw_Lc) (fun sum7 => c : Int32 → zw_Ct) ?_ rfl rfl ?_
  · rintro ⟨sum5, e6⟩ rr hsem hK hP
    try unfold fn_Chooser_lostBy_l1 at hsem
    refine r_iload X (pc := 6) (i := 6) (zw_dg dk_Chooser_lostBy 4 rfl) rfl ?_
    refine r_aload_n X (pc := 8) (i := 0) (zw_dg dk_Chooser_lostBy 5 rfl) rfl rfl ?_
    refine r_getR X (pc := 9) (r := 1) ci_Chooser (zo hS 68 rfl rfl) rfl (zr hS 68 0 rfl rfl) lk_Chooser_9 (zw_dg dk_Chooser_lostBy 6 rfl) ?_
    refine r_getI X (pc := 12) ci_Sayings (zo hS 1 rfl rfl) rfl lk_Chooser_103 (zw_dg dk_Chooser_lostBy 7 rfl) ?_
    refine r_icmp_ge X (pc := 15) (tgt := 62) (zw_dg dk_Chooser_lostBy 8 rfl) (by decide) (fun q10 => ?_) (fun q10 => ?_)
    · --
      have p9 : ¬ (e6 < (c.1 1 0)) := (Int32.not_lt.mpr q10)
      have hsem := zw_ifn p9 hsem
      have jj := hK _ (Option.some.inj hsem).symm
      exact (r_fgt [6] rfl jj)
    · --
      have p9 : (e6 < (c.1 1 0)) := (Int32.not_le.mp q10)
      have hsem := zw_ifp p9 hsem
      refine r_iload X (pc := 18) (i := 5) (zw_dg dk_Chooser_lostBy 9 rfl) rfl ?_
      refine r_aload_n X (pc := 20) (i := 0) (zw_dg dk_Chooser_lostBy 10 rfl) rfl rfl ?_
      refine r_getR X (pc := 21) (r := 1) ci_Chooser (zo hS 68 rfl rfl) rfl (zr hS 68 0 rfl rfl) lk_Chooser_9 (zw_dg dk_Chooser_lostBy 11 rfl) ?_
      refine r_iload_n X (pc := 24) (i := 2) (zw_dg dk_Chooser_lostBy 12 rfl) rfl rfl ?_
      refine r_iload X (pc := 25) (i := 6) (zw_dg dk_Chooser_lostBy 13 rfl) rfl ?_
      obtain ⟨r11, hr11, hsem⟩ := zw_bd hsem
      refine r_callVi X (pc := 27) (As := [_, _]) (st := [.int sum5]) (km_Sayings_partOf hS hr11) ce_Sayings_partOf kw_1170 (zo hS 1 rfl rfl) rfl rfl ⟨Nat.le_of_ble_eq_true rfl, Nat.le_of_ble_eq_true rfl⟩ (Nat.le_of_ble_eq_true rfl) (zw_dg dk_Chooser_lostBy 14 rfl) ?_
      refine zw_ter (P := (r1 < e6)) (f := Value.int) (x := ((e6 - r1) * a3)) (y := ((r1 - e6) * b4)) (J := 52) (st2 := [.int r11, .int sum5]) (fun jT jF => ?_) ?_
      · --
        refine r_iload_n X (pc := 30) (i := 1) (zw_dg dk_Chooser_lostBy 15 rfl) rfl rfl ?_
        refine r_iload X (pc := 31) (i := 6) (zw_dg dk_Chooser_lostBy 16 rfl) rfl ?_
        refine r_icmp_ge X (pc := 33) (tgt := 45) (zw_dg dk_Chooser_lostBy 17 rfl) (by decide) (fun q12 => ?_) (fun q12 => ?_)
        · --
          refine r_iload_n X (pc := 45) (i := 1) (zw_dg dk_Chooser_lostBy 24 rfl) rfl rfl ?_
          refine r_iload X (pc := 46) (i := 6) (zw_dg dk_Chooser_lostBy 25 rfl) rfl ?_
          refine r_isub X (pc := 48) (zw_dg dk_Chooser_lostBy 26 rfl)  ?_
          refine r_iload X (pc := 49) (i := 4) (zw_dg dk_Chooser_lostBy 27 rfl) rfl ?_
          refine r_imul X (pc := 51) (zw_dg dk_Chooser_lostBy 28 rfl)  ?_
          exact jF (Int32.not_lt.mpr q12)
        · --
          refine r_iload X (pc := 36) (i := 6) (zw_dg dk_Chooser_lostBy 18 rfl) rfl ?_
          refine r_iload_n X (pc := 38) (i := 1) (zw_dg dk_Chooser_lostBy 19 rfl) rfl rfl ?_
          refine r_isub X (pc := 39) (zw_dg dk_Chooser_lostBy 20 rfl)  ?_
          refine r_iload_n X (pc := 40) (i := 3) (zw_dg dk_Chooser_lostBy 21 rfl) rfl rfl ?_
          refine r_imul X (pc := 41) (zw_dg dk_Chooser_lostBy 22 rfl)  ?_
          refine r_goto X (pc := 42) (tgt := 52) (zw_dg dk_Chooser_lostBy 23 rfl) (by decide) ?_
          exact jT (Int32.not_le.mp q12)
      refine r_imul X (pc := 52) (zw_dg dk_Chooser_lostBy 29 rfl)  ?_
      refine r_iadd X (pc := 53) (zw_dg dk_Chooser_lostBy 30 rfl)  ?_
      obtain ⟨sum13, hsum13, hsem⟩ := zw_bd hsem
      refine zw_topI hsum13 ?_
      refine r_istore X (pc := 54) (i := 5) (zw_dg dk_Chooser_lostBy 31 rfl) (by decide) rfl ?_
      refine r_iinc X (pc := 56) (i := 6) (k := 1) (zw_dg dk_Chooser_lostBy 32 rfl) rfl (by decide) (by decide) rfl ?_
      refine r_goto X (pc := 59) (tgt := 6) (zw_dg dk_Chooser_lostBy 33 rfl) (by decide) ?_
      have jj := hP _ (Option.some.inj hsem).symm
      exact (r_fgt [] rfl jj)
  have hsem := hsl8
  refine r_iload X (pc := 62) (i := 5) (zw_dg dk_Chooser_lostBy 34 rfl) rfl ?_
  cases hsem
  exact r_iret X (pc := 64) rfl (zw_dg dk_Chooser_lostBy 35 rfl)
def y_Chooser_tellMiddle : MethodName := ⟨R_Chooser, "tellMiddle", "(IIILPaidForThinking$Row;)I"⟩
abbrev b_Chooser_tellMiddle : ByteArray := prog_2_method_9_code
def dl_Chooser_tellMiddle : List (Nat × Instr × Nat) := [(0, .iconst 0, 1), (1, .istore 5, 2), (3, .aload_n 0, 1), (4, .iconst 0, 1), (5, .iload_n 1, 1), (6, .iload_n 2, 1), (7, .iload_n 3, 1), (8, .invokevirtual 106, 3), (11, .istore 6, 2), (13, .iconst 1, 1), (14, .istore 7, 2), (16, .iconst 1, 1), (17, .istore 8, 2), (19, .iload 8, 2), (21, .aload_n 0, 1), (22, .getfield 9, 3), (25, .getfield 103, 3), (28, .if_icmp .ge 51, 3), (31, .aload_n 0, 1), (32, .iload 8, 2), (34, .iload_n 1, 1), (35, .iload_n 2, 1), (36, .iload_n 3, 1), (37, .invokevirtual 106, 3), (40, .istore 9, 2), (42, .iload 9, 2), (44, .iload 6, 2), (46, .if_icmp .ge 17, 3), (49, .iload 8, 2), (51, .istore 5, 2), (53, .iload 9, 2), (55, .istore 6, 2), (57, .iconst 1, 1), (58, .istore 7, 2), (60, .goto 13, 3), (63, .iload 9, 2), (65, .iload 6, 2), (67, .if_icmp .ne 6, 3), (70, .iinc 7 1, 3), (73, .iinc 8 1, 3), (76, .goto (-57), 3), (79, .aload 4, 2), (81, .invokevirtual 55, 3), (84, .aload 4, 2), (86, .iload 6, 2), (88, .i2l, 1), (89, .invokevirtual 60, 3), (92, .aload 4, 2), (94, .iload 7, 2), (96, .i2l, 1), (97, .invokevirtual 60, 3), (100, .iload 5, 2), (102, .ireturn, 1)]
theorem dk_Chooser_tellMiddle : zw_dk b_Chooser_tellMiddle dl_Chooser_tellMiddle = true := by decide +kernel
theorem ce_Chooser_tellMiddle : zw_cev y_Chooser_tellMiddle b_Chooser_tellMiddle 10 (some .int) 4 := ⟨⟨kt_in 1221 (by decide +kernel) rfl, kt_in 96 (by decide +kernel) rfl, by decide +kernel⟩, kt_in 1219 (by decide +kernel) rfl, kt_in 1220 (by decide +kernel) rfl⟩
def fn_Chooser_tellMiddle_l1 (c : zw_Ct) (thought1 : Int32) (a2 : Int32) (b3 : Int32) : Int32 × Int32 × Int32 × Int32 → Option ((Int32 × Int32 × Int32) ⊕ (Int32 × Int32 × Int32 × Int32)) := fun (middle5, least6, many7, r8) =>
  if (r8 < (c.1 1 0)) then
  ((fn_Chooser_lostBy c r8 thought1 a2 b3).bind fun r15 =>
  (if (r15 < least6) then
  (some ((r8 : Int32), (r15 : Int32), (1 : Int32)))
  else
  ((if (r15 = least6) then
  (some ((many7 + 1) : Int32))
  else
  (some (many7 : Int32))).bind fun many21 =>
  some ((middle5 : Int32), (least6 : Int32), (many21 : Int32)))).bind fun (middle16, least17, many18) =>
  some (.inr (middle16, least17, many18, (r8 + 1))))
  else
  (some (.inl (middle5, least6, many7)))
def fn_Chooser_tellMiddle (c : zw_Ct) (thought1 : Int32) (a2 : Int32) (b3 : Int32) : Option (Int32 × zw_Ct) :=
  (fn_Chooser_lostBy c 0 thought1 a2 b3).bind fun r4 =>
  (zw_whl (fn_Chooser_tellMiddle_l1 c thought1 a2 b3) zw_F (0, r4, 1, 1)).bind fun (middle9, least10, many11) =>
  (fn_Row_clear c).bind fun c24 =>
  (fn_Row_add c24 least10.toInt64).bind fun c25 =>
  (fn_Row_add c25 many11.toInt64).bind fun c26 =>
  some (middle9, c26)
set_option maxRecDepth 100000 in
theorem km_Chooser_tellMiddle {l : Launch} {g : zw_G} {rr : zw_RR} {sh : zw_Sh} {c : zw_Ct} {thought1 : Int32} {a2 : Int32} {b3 : Int32} {r : Int32} {c2 : zw_Ct} (hS : zw_Ok 0 101 sh rr) (hsem : fn_Chooser_tellMiddle c thought1 a2 b3 = some (r, c2)) : zw_Met l g y_Chooser_tellMiddle b_Chooser_tellMiddle 10 (some .int) 3 rr sh [.ref 68, .int thought1, .int a2, .int b3, .ref 61] c (some (.int r)) c2 := by
  unfold fn_Chooser_tellMiddle at hsem
  refine zw_Met.of (by decide +kernel) (Nat.le_of_ble_eq_true rfl) (fun p e s m args below meth cd X => ?_)
  refine zw_eL (L2 := [some (.ref 68), some (.int thought1), some (.int a2), some (.int b3), some (.ref 61), none, none, none, none, none]) rfl ?_
  refine r_iconst X (pc := 0) (v := 0) (zw_dg dk_Chooser_tellMiddle 0 rfl) (by decide) ?_
  refine r_istore X (pc := 1) (i := 5) (zw_dg dk_Chooser_tellMiddle 1 rfl) (by decide) rfl ?_
  refine r_aload_n X (pc := 3) (i := 0) (zw_dg dk_Chooser_tellMiddle 2 rfl) rfl rfl ?_
  refine r_iconst X (pc := 4) (v := 0) (zw_dg dk_Chooser_tellMiddle 3 rfl) (by decide) ?_
  refine r_iload_n X (pc := 5) (i := 1) (zw_dg dk_Chooser_tellMiddle 4 rfl) rfl rfl ?_
  refine r_iload_n X (pc := 6) (i := 2) (zw_dg dk_Chooser_tellMiddle 5 rfl) rfl rfl ?_
  refine r_iload_n X (pc := 7) (i := 3) (zw_dg dk_Chooser_tellMiddle 6 rfl) rfl rfl ?_
  obtain ⟨r4, hr4, hsem⟩ := zw_bd hsem
  refine r_callVi X (pc := 8) (As := [_, _, _, _]) (st := []) (km_Chooser_lostBy hS hr4) ce_Chooser_lostBy kw_1222 (zo hS 68 rfl rfl) rfl rfl ⟨Nat.le_of_ble_eq_true rfl, Nat.le_of_ble_eq_true rfl⟩ (Nat.le_of_ble_eq_true rfl) (zw_dg dk_Chooser_tellMiddle 7 rfl) ?_
  refine r_istore X (pc := 11) (i := 6) (zw_dg dk_Chooser_tellMiddle 8 rfl) (by decide) rfl ?_
  refine r_iconst X (pc := 13) (v := 1) (zw_dg dk_Chooser_tellMiddle 9 rfl) (by decide) ?_
  refine r_istore X (pc := 14) (i := 7) (zw_dg dk_Chooser_tellMiddle 10 rfl) (by decide) rfl ?_
  refine r_iconst X (pc := 16) (v := 1) (zw_dg dk_Chooser_tellMiddle 11 rfl) (by decide) ?_
  refine r_istore X (pc := 17) (i := 8) (zw_dg dk_Chooser_tellMiddle 12 rfl) (by decide) rfl ?_
  obtain ⟨l12, hl12, hsl12⟩ := zw_bd hsem
  refine r_loop (pc := 19) (pce := 79) hl12 (fun (middle5, least6, many7, r8) => [some (.ref 68), some (.int thought1), some (.int a2), some (.int b3), some (.ref 61), some (.int middle5), some (.int least6), some (.int many7), some (.int r8), none] : Int32 × Int32 × Int32 × Int32 → zw_Lc) (fun (middle5, least6, many7, r8) => c : Int32 × Int32 × Int32 × Int32 → zw_Ct) (fun (middle9, least10, many11) => [some (.ref 68), some (.int thought1), some (.int a2), some (.int b3), some (.ref 61), some (.int middle9), some (.int least10), some (.int many11), none, none] : Int32 × Int32 × Int32 → zw_Lc) (fun (middle9, least10, many11) => c : Int32 × Int32 × Int32 → zw_Ct) ?_ rfl rfl ?_
  · rintro ⟨middle5, least6, many7, r8⟩ rr hsem hK hP
    try unfold fn_Chooser_tellMiddle_l1 at hsem
    refine r_iload X (pc := 19) (i := 8) (zw_dg dk_Chooser_tellMiddle 13 rfl) rfl ?_
    refine r_aload_n X (pc := 21) (i := 0) (zw_dg dk_Chooser_tellMiddle 14 rfl) rfl rfl ?_
    refine r_getR X (pc := 22) (r := 1) ci_Chooser (zo hS 68 rfl rfl) rfl (zr hS 68 0 rfl rfl) lk_Chooser_9 (zw_dg dk_Chooser_tellMiddle 15 rfl) ?_
    refine r_getI X (pc := 25) ci_Sayings (zo hS 1 rfl rfl) rfl lk_Chooser_103 (zw_dg dk_Chooser_tellMiddle 16 rfl) ?_
    refine r_icmp_ge X (pc := 28) (tgt := 79) (zw_dg dk_Chooser_tellMiddle 17 rfl) (by decide) (fun q14 => ?_) (fun q14 => ?_)
    · --
      have p13 : ¬ (r8 < (c.1 1 0)) := (Int32.not_lt.mpr q14)
      have hsem := zw_ifn p13 hsem
      have jj := hK _ (Option.some.inj hsem).symm
      exact (r_fgt [8] rfl jj)
    · --
      have p13 : (r8 < (c.1 1 0)) := (Int32.not_le.mp q14)
      have hsem := zw_ifp p13 hsem
      refine r_aload_n X (pc := 31) (i := 0) (zw_dg dk_Chooser_tellMiddle 18 rfl) rfl rfl ?_
      refine r_iload X (pc := 32) (i := 8) (zw_dg dk_Chooser_tellMiddle 19 rfl) rfl ?_
      refine r_iload_n X (pc := 34) (i := 1) (zw_dg dk_Chooser_tellMiddle 20 rfl) rfl rfl ?_
      refine r_iload_n X (pc := 35) (i := 2) (zw_dg dk_Chooser_tellMiddle 21 rfl) rfl rfl ?_
      refine r_iload_n X (pc := 36) (i := 3) (zw_dg dk_Chooser_tellMiddle 22 rfl) rfl rfl ?_
      obtain ⟨r15, hr15, hsem⟩ := zw_bd hsem
      refine r_callVi X (pc := 37) (As := [_, _, _, _]) (st := []) (km_Chooser_lostBy hS hr15) ce_Chooser_lostBy kw_1222 (zo hS 68 rfl rfl) rfl rfl ⟨Nat.le_of_ble_eq_true rfl, Nat.le_of_ble_eq_true rfl⟩ (Nat.le_of_ble_eq_true rfl) (zw_dg dk_Chooser_tellMiddle 23 rfl) ?_
      refine r_istore X (pc := 40) (i := 9) (zw_dg dk_Chooser_tellMiddle 24 rfl) (by decide) rfl ?_
      obtain ⟨⟨middle16, least17, many18⟩, ht73, hs73⟩ := zw_bd hsem
      refine zw_jn (J := 73) (L2 := [some (.ref 68), some (.int thought1), some (.int a2), some (.int b3), some (.ref 61), some (.int middle16), some (.int least17), some (.int many18), some (.int r8), some (.int r15)]) (c2 := c) (fun jj => ?_) ?_
      · have hsem := ht73
        refine r_iload X (pc := 42) (i := 9) (zw_dg dk_Chooser_tellMiddle 25 rfl) rfl ?_
        refine r_iload X (pc := 44) (i := 6) (zw_dg dk_Chooser_tellMiddle 26 rfl) rfl ?_
        refine r_icmp_ge X (pc := 46) (tgt := 63) (zw_dg dk_Chooser_tellMiddle 27 rfl) (by decide) (fun q20 => ?_) (fun q20 => ?_)
        · --
          have p19 : ¬ (r15 < least6) := (Int32.not_lt.mpr q20)
          have hsem := zw_ifn p19 hsem
          obtain ⟨many21, ht73, hs73⟩ := zw_bd hsem
          refine zw_jn (J := 73) (L2 := [some (.ref 68), some (.int thought1), some (.int a2), some (.int b3), some (.ref 61), some (.int middle5), some (.int least6), some (.int many21), some (.int r8), some (.int r15)]) (c2 := c) (fun jj => ?_) ?_
          · have hsem := ht73
            refine r_iload X (pc := 63) (i := 9) (zw_dg dk_Chooser_tellMiddle 35 rfl) rfl ?_
            refine r_iload X (pc := 65) (i := 6) (zw_dg dk_Chooser_tellMiddle 36 rfl) rfl ?_
            refine r_icmp_ne X (pc := 67) (tgt := 73) (zw_dg dk_Chooser_tellMiddle 37 rfl) (by decide) (fun q23 => ?_) (fun q23 => ?_)
            · --
              have p22 : ¬ (r15 = least6) := q23
              have hsem := zw_ifn p22 hsem
              cases hsem
              exact (r_fgt [] rfl jj)
            · --
              have p22 : (r15 = least6) := q23
              have hsem := zw_ifp p22 hsem
              refine r_iinc X (pc := 70) (i := 7) (k := 1) (zw_dg dk_Chooser_tellMiddle 38 rfl) rfl (by decide) (by decide) rfl ?_
              cases hsem
              exact (r_fgt [] rfl jj)
          have hsem := hs73
          obtain ⟨rfl, rfl, rfl⟩ := zw_in3 hsem
          exact (r_fgt [] rfl jj)
        · --
          have p19 : (r15 < least6) := (Int32.not_le.mp q20)
          have hsem := zw_ifp p19 hsem
          refine r_iload X (pc := 49) (i := 8) (zw_dg dk_Chooser_tellMiddle 28 rfl) rfl ?_
          refine r_istore X (pc := 51) (i := 5) (zw_dg dk_Chooser_tellMiddle 29 rfl) (by decide) rfl ?_
          refine r_iload X (pc := 53) (i := 9) (zw_dg dk_Chooser_tellMiddle 30 rfl) rfl ?_
          refine r_istore X (pc := 55) (i := 6) (zw_dg dk_Chooser_tellMiddle 31 rfl) (by decide) rfl ?_
          refine r_iconst X (pc := 57) (v := 1) (zw_dg dk_Chooser_tellMiddle 32 rfl) (by decide) ?_
          refine r_istore X (pc := 58) (i := 7) (zw_dg dk_Chooser_tellMiddle 33 rfl) (by decide) rfl ?_
          refine r_goto X (pc := 60) (tgt := 73) (zw_dg dk_Chooser_tellMiddle 34 rfl) (by decide) ?_
          obtain ⟨rfl, rfl, rfl⟩ := zw_in3 hsem
          exact (r_fgt [] rfl jj)
      have hsem := hs73
      refine r_iinc X (pc := 73) (i := 8) (k := 1) (zw_dg dk_Chooser_tellMiddle 39 rfl) rfl (by decide) (by decide) rfl ?_
      refine r_goto X (pc := 76) (tgt := 19) (zw_dg dk_Chooser_tellMiddle 40 rfl) (by decide) ?_
      have jj := hP _ (Option.some.inj hsem).symm
      exact (r_fgt [9] rfl jj)
  obtain ⟨middle9, least10, many11⟩ := l12
  have hsem := hsl12
  refine r_aload X (pc := 79) (i := 4) (zw_dg dk_Chooser_tellMiddle 41 rfl) rfl ?_
  obtain ⟨c24, hc24, hsem⟩ := zw_bd hsem
  refine r_callVv X (pc := 81) (As := []) (st := []) (km_Row_clear hS hc24) ce_Row_clear kw_1173 (zo hS 61 rfl rfl) rfl rfl ⟨Nat.le_of_ble_eq_true rfl, Nat.le_of_ble_eq_true rfl⟩ (Nat.le_of_ble_eq_true rfl) (zw_dg dk_Chooser_tellMiddle 42 rfl) ?_
  refine r_aload X (pc := 84) (i := 4) (zw_dg dk_Chooser_tellMiddle 43 rfl) rfl ?_
  refine r_iload X (pc := 86) (i := 6) (zw_dg dk_Chooser_tellMiddle 44 rfl) rfl ?_
  refine r_i2l X (pc := 88) (zw_dg dk_Chooser_tellMiddle 45 rfl)  ?_
  obtain ⟨c25, hc25, hsem⟩ := zw_bd hsem
  refine r_callVv X (pc := 89) (As := [_]) (st := []) (km_Row_add hS hc25) ce_Row_add kw_1174 (zo hS 61 rfl rfl) rfl rfl ⟨Nat.le_of_ble_eq_true rfl, Nat.le_of_ble_eq_true rfl⟩ (Nat.le_of_ble_eq_true rfl) (zw_dg dk_Chooser_tellMiddle 46 rfl) ?_
  refine r_aload X (pc := 92) (i := 4) (zw_dg dk_Chooser_tellMiddle 47 rfl) rfl ?_
  refine r_iload X (pc := 94) (i := 7) (zw_dg dk_Chooser_tellMiddle 48 rfl) rfl ?_
  refine r_i2l X (pc := 96) (zw_dg dk_Chooser_tellMiddle 49 rfl)  ?_
  obtain ⟨c26, hc26, hsem⟩ := zw_bd hsem
  refine r_callVv X (pc := 97) (As := [_]) (st := []) (km_Row_add hS hc26) ce_Row_add kw_1174 (zo hS 61 rfl rfl) rfl rfl ⟨Nat.le_of_ble_eq_true rfl, Nat.le_of_ble_eq_true rfl⟩ (Nat.le_of_ble_eq_true rfl) (zw_dg dk_Chooser_tellMiddle 50 rfl) ?_
  refine r_iload X (pc := 100) (i := 5) (zw_dg dk_Chooser_tellMiddle 51 rfl) rfl ?_
  cases hsem
  exact r_iret X (pc := 102) rfl (zw_dg dk_Chooser_tellMiddle 52 rfl)
