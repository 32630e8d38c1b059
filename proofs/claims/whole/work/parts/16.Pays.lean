/-! PaidForThinking$Pays: names, functions, contracts (by program: wip/whole/gen) -/
def y_Pays_sumOfTurns : MethodName := ⟨R_Pays, "sumOfTurns", "(I)I"⟩
abbrev b_Pays_sumOfTurns : ByteArray := prog_8_method_16_code
def dl_Pays_sumOfTurns : List (Nat × Instr × Nat) := [(0, .iconst 0, 1), (1, .istore_n 2, 1), (2, .iconst 0, 1), (3, .istore_n 3, 1), (4, .iload_n 3, 1), (5, .aload_n 0, 1), (6, .getfield 38, 3), (9, .getfield 102, 3), (12, .if_icmp .ge 29, 3), (15, .iload_n 2, 1), (16, .aload_n 0, 1), (17, .getfield 42, 3), (20, .getfield 78, 3), (23, .aload_n 0, 1), (24, .getfield 38, 3), (27, .iload_n 1, 1), (28, .iload_n 3, 1), (29, .invokevirtual 74, 3), (32, .iaload, 1), (33, .iadd, 1), (34, .istore_n 2, 1), (35, .iinc 3 1, 3), (38, .goto (-34), 3), (41, .iload_n 2, 1), (42, .ireturn, 1)]
theorem dk_Pays_sumOfTurns : zw_dk b_Pays_sumOfTurns dl_Pays_sumOfTurns = true := by decide +kernel
theorem ce_Pays_sumOfTurns : zw_cev y_Pays_sumOfTurns b_Pays_sumOfTurns 4 (some .int) 1 := ⟨⟨kt_in 729 (by decide +kernel) rfl, kt_in 92 (by decide +kernel) rfl, by decide +kernel⟩, kt_in 728 (by decide +kernel) rfl, kt_in 12 (by decide +kernel) rfl⟩
def fn_Pays_sumOfTurns_l1 (c : zw_Ct) (saying1 : Int32) : Int32 × Int32 → Option ((Int32) ⊕ (Int32 × Int32)) := fun (sum2, e3) =>
  if (e3 < (c.1 1 0)) then
  ((fn_Sayings_partOf c saying1 e3).bind fun r8 =>
  (zw_aI 13 c 4 r8).bind fun x9 =>
  (some ((sum2 + x9) : Int32)).bind fun sum10 =>
  some (.inr (sum10, (e3 + 1))))
  else
  (some (.inl sum2))
def fn_Pays_sumOfTurns (c : zw_Ct) (saying1 : Int32) : Option Int32 :=
  (zw_whl (fn_Pays_sumOfTurns_l1 c saying1) zw_F (0, 0)).bind fun sum4 =>
  some sum4
set_option maxRecDepth 100000 in
theorem km_Pays_sumOfTurns {l : Launch} {g : zw_G} {rr : zw_RR} {sh : zw_Sh} {c : zw_Ct} {saying1 : Int32} {r : Int32} (hS : zw_Ok 0 101 sh rr) (hsem : fn_Pays_sumOfTurns c saying1 = some r) : zw_Met l g y_Pays_sumOfTurns b_Pays_sumOfTurns 4 (some .int) 2 rr sh [.ref 45, .int saying1] c (some (.int r)) c := by
  unfold fn_Pays_sumOfTurns at hsem
  refine zw_Met.of (by decide +kernel) (Nat.le_of_ble_eq_true rfl) (fun p e s m args below meth cd X => ?_)
  refine zw_eL (L2 := [some (.ref 45), some (.int saying1), none, none]) rfl ?_
  refine r_iconst X (pc := 0) (v := 0) (zw_dg dk_Pays_sumOfTurns 0 rfl) (by decide) ?_
  refine r_istore_n X (pc := 1) (i := 2) (zw_dg dk_Pays_sumOfTurns 1 rfl) rfl (by decide) rfl ?_
  refine r_iconst X (pc := 2) (v := 0) (zw_dg dk_Pays_sumOfTurns 2 rfl) (by decide) ?_
  refine r_istore_n X (pc := 3) (i := 3) (zw_dg dk_Pays_sumOfTurns 3 rfl) rfl (by decide) rfl ?_
  obtain ⟨sum4, hl5, hsl5⟩ := zw_bd hsem
  refine r_loop (pc := 4) (pce := 41) hl5 (fun (sum2, e3) => [some (.ref 45), some (.int saying1), some (.int sum2), some (.int e3)] : Int32 × Int32 → zw_Lc) (fun (sum2, e3) => c : Int32 × Int32 → zw_Ct) (fun sum4 => [some (.ref 45), some (.int saying1), some (.int sum4), none] : Int32 → zw_Lc) (fun sum4 => c : Int32 → zw_Ct) ?_ rfl rfl ?_
  · rintro ⟨sum2, e3⟩ rr hsem hK hP
    try unfold fn_Pays_sumOfTurns_l1 at hsem
    refine r_iload_n X (pc := 4) (i := 3) (zw_dg dk_Pays_sumOfTurns 4 rfl) rfl rfl ?_
    refine r_aload_n X (pc := 5) (i := 0) (zw_dg dk_Pays_sumOfTurns 5 rfl) rfl rfl ?_
    refine r_getR X (pc := 6) (r := 1) ci_Pays (zo hS 45 rfl rfl) rfl (zr hS 45 0 rfl rfl) lk_Pays_38 (zw_dg dk_Pays_sumOfTurns 6 rfl) ?_
    refine r_getI X (pc := 9) ci_Sayings (zo hS 1 rfl rfl) rfl lk_Pays_102 (zw_dg dk_Pays_sumOfTurns 7 rfl) ?_
    refine r_icmp_ge X (pc := 12) (tgt := 41) (zw_dg dk_Pays_sumOfTurns 8 rfl) (by decide) (fun q7 => ?_) (fun q7 => ?_)
    · --
      have p6 : ¬ (e3 < (c.1 1 0)) := (Int32.not_lt.mpr q7)
      have hsem := zw_ifn p6 hsem
      have jj := hK _ (Option.some.inj hsem).symm
      exact (r_fgt [3] rfl jj)
    · --
      have p6 : (e3 < (c.1 1 0)) := (Int32.not_le.mp q7)
      have hsem := zw_ifp p6 hsem
      refine r_iload_n X (pc := 15) (i := 2) (zw_dg dk_Pays_sumOfTurns 9 rfl) rfl rfl ?_
      refine r_aload_n X (pc := 16) (i := 0) (zw_dg dk_Pays_sumOfTurns 10 rfl) rfl rfl ?_
      refine r_getR X (pc := 17) (r := 3) ci_Pays (zo hS 45 rfl rfl) rfl (zr hS 45 1 rfl rfl) lk_Pays_42 (zw_dg dk_Pays_sumOfTurns 11 rfl) ?_
      refine r_getR X (pc := 20) (r := 4) ci_Held (zo hS 3 rfl rfl) rfl (zr hS 3 0 rfl rfl) lk_Pays_78 (zw_dg dk_Pays_sumOfTurns 12 rfl) ?_
      refine r_aload_n X (pc := 23) (i := 0) (zw_dg dk_Pays_sumOfTurns 13 rfl) rfl rfl ?_
      refine r_getR X (pc := 24) (r := 1) ci_Pays (zo hS 45 rfl rfl) rfl (zr hS 45 0 rfl rfl) lk_Pays_38 (zw_dg dk_Pays_sumOfTurns 14 rfl) ?_
      refine r_iload_n X (pc := 27) (i := 1) (zw_dg dk_Pays_sumOfTurns 15 rfl) rfl rfl ?_
      refine r_iload_n X (pc := 28) (i := 3) (zw_dg dk_Pays_sumOfTurns 16 rfl) rfl rfl ?_
      obtain ⟨r8, hr8, hsem⟩ := zw_bd hsem
      refine r_callVi X (pc := 29) (As := [_, _]) (st := [.ref 4, .int sum2]) (km_Sayings_partOf hS hr8) ce_Sayings_partOf kw_721 (zo hS 1 rfl rfl) rfl rfl ⟨Nat.le_of_ble_eq_true rfl, Nat.le_of_ble_eq_true rfl⟩ (Nat.le_of_ble_eq_true rfl) (zw_dg dk_Pays_sumOfTurns 17 rfl) ?_
      obtain ⟨x9, hx9, hsem⟩ := zw_bd hsem
      refine r_iald X (pc := 32) (zo hS 4 rfl rfl) hx9 (zw_dg dk_Pays_sumOfTurns 18 rfl) ?_
      refine r_iadd X (pc := 33) (zw_dg dk_Pays_sumOfTurns 19 rfl)  ?_
      obtain ⟨sum10, hsum10, hsem⟩ := zw_bd hsem
      refine zw_topI hsum10 ?_
      refine r_istore_n X (pc := 34) (i := 2) (zw_dg dk_Pays_sumOfTurns 20 rfl) rfl (by decide) rfl ?_
      refine r_iinc X (pc := 35) (i := 3) (k := 1) (zw_dg dk_Pays_sumOfTurns 21 rfl) rfl (by decide) (by decide) rfl ?_
      refine r_goto X (pc := 38) (tgt := 4) (zw_dg dk_Pays_sumOfTurns 22 rfl) (by decide) ?_
      have jj := hP _ (Option.some.inj hsem).symm
      exact (r_fgt [] rfl jj)
  have hsem := hsl5
  refine r_iload_n X (pc := 41) (i := 2) (zw_dg dk_Pays_sumOfTurns 23 rfl) rfl rfl ?_
  cases hsem
  exact r_iret X (pc := 42) rfl (zw_dg dk_Pays_sumOfTurns 24 rfl)
def y_Pays_join : MethodName := ⟨R_Pays, "join", "(III)I"⟩
abbrev b_Pays_join : ByteArray := prog_8_method_18_code
def dl_Pays_join : List (Nat × Instr × Nat) := [(0, .iload_n 0, 1), (1, .lookupswitch 104 #[(42, 100), (43, 92), (45, 96), (60, 59), (61, 81), (62, 70)], 59), (60, .iload_n 1, 1), (61, .iload_n 2, 1), (62, .if_icmp .ge 7, 3), (65, .iconst 1, 1), (66, .goto 4, 3), (69, .iconst 0, 1), (70, .ireturn, 1), (71, .iload_n 1, 1), (72, .iload_n 2, 1), (73, .if_icmp .le 7, 3), (76, .iconst 1, 1), (77, .goto 4, 3), (80, .iconst 0, 1), (81, .ireturn, 1), (82, .iload_n 1, 1), (83, .iload_n 2, 1), (84, .if_icmp .ne 7, 3), (87, .iconst 1, 1), (88, .goto 4, 3), (91, .iconst 0, 1), (92, .ireturn, 1), (93, .iload_n 1, 1), (94, .iload_n 2, 1), (95, .iadd, 1), (96, .ireturn, 1), (97, .iload_n 1, 1), (98, .iload_n 2, 1), (99, .isub, 1), (100, .ireturn, 1), (101, .iload_n 1, 1), (102, .iload_n 2, 1), (103, .imul, 1), (104, .ireturn, 1), (105, .iload_n 2, 1), (106, .ifCond .ne 7, 3), (109, .iconst 0, 1), (110, .goto 6, 3), (113, .iload_n 1, 1), (114, .iload_n 2, 1), (115, .idiv, 1), (116, .ireturn, 1)]
theorem dk_Pays_join : zw_dk b_Pays_join dl_Pays_join = true := by decide +kernel
theorem ce_Pays_join : zw_ces y_Pays_join b_Pays_join 3 (some .int) 3 := ⟨⟨kt_in 736 (by decide +kernel) rfl, kt_in 92 (by decide +kernel) rfl, by decide +kernel⟩, kt_in 735 (by decide +kernel) rfl⟩
def fn_Pays_join (sign1 : Int32) (a2 : Int32) (b3 : Int32) : Option Int32 :=
  if sign1 = 60 then
  (some (if (a2 < b3) then (1 : Int32) else 0))
  else
  (if sign1 = 62 then
  (some (if (b3 < a2) then (1 : Int32) else 0))
  else
  (if sign1 = 61 then
  (some (if (a2 = b3) then (1 : Int32) else 0))
  else
  (if sign1 = 43 then
  (some (a2 + b3))
  else
  (if sign1 = 45 then
  (some (a2 - b3))
  else
  (if sign1 = 42 then
  (some (a2 * b3))
  else
  ((if (b3 = 0) then
  (some (0 : Int32))
  else
  ((zw_dvI a2 b3).bind fun d16 =>
  some (d16 : Int32))).bind fun v13 =>
  some v13))))))
set_option maxRecDepth 100000 in
theorem km_Pays_join {l : Launch} {g : zw_G} {rr : zw_RR} {sh : zw_Sh} {c : zw_Ct} {sign1 : Int32} {a2 : Int32} {b3 : Int32} {r : Int32} (hS : zw_Ok 0 101 sh rr) (hsem : fn_Pays_join sign1 a2 b3 = some r) : zw_Met l g y_Pays_join b_Pays_join 3 (some .int) 1 rr sh [.int sign1, .int a2, .int b3] c (some (.int r)) c := by
  unfold fn_Pays_join at hsem
  refine zw_Met.of (by decide +kernel) (Nat.le_of_ble_eq_true rfl) (fun p e s m args below meth cd X => ?_)
  refine zw_eL (L2 := [some (.int sign1), some (.int a2), some (.int b3)]) rfl ?_
  refine r_iload_n X (pc := 0) (i := 0) (zw_dg dk_Pays_join 0 rfl) rfl rfl ?_
  by_cases k4 : sign1 = 60
  · have hsem := zw_ifp k4 hsem
    refine zw_eqtI k4 ?_
    refine r_lookup X (pc := 1) (tgt := 60) (off := 59) (zw_dg dk_Pays_join 1 rfl) (by decide) (by decide) (by decide) ?_
    refine zw_ter (P := (a2 < b3)) (f := Value.int) (x := 1) (y := 0) (J := 70) (st2 := []) (fun jT jF => ?_) ?_
    · --
      refine r_iload_n X (pc := 60) (i := 1) (zw_dg dk_Pays_join 2 rfl) rfl rfl ?_
      refine r_iload_n X (pc := 61) (i := 2) (zw_dg dk_Pays_join 3 rfl) rfl rfl ?_
      refine r_icmp_ge X (pc := 62) (tgt := 69) (zw_dg dk_Pays_join 4 rfl) (by decide) (fun q5 => ?_) (fun q5 => ?_)
      · --
        refine r_iconst X (pc := 69) (v := 0) (zw_dg dk_Pays_join 7 rfl) (by decide) ?_
        exact jF (Int32.not_lt.mpr q5)
      · --
        refine r_iconst X (pc := 65) (v := 1) (zw_dg dk_Pays_join 5 rfl) (by decide) ?_
        refine r_goto X (pc := 66) (tgt := 70) (zw_dg dk_Pays_join 6 rfl) (by decide) ?_
        exact jT (Int32.not_le.mp q5)
    cases hsem
    exact r_iret X (pc := 70) rfl (zw_dg dk_Pays_join 8 rfl)
  · have hsem := zw_ifn k4 hsem
    by_cases k6 : sign1 = 62
    · have hsem := zw_ifp k6 hsem
      refine zw_eqtI k6 ?_
      refine r_lookup X (pc := 1) (tgt := 71) (off := 70) (zw_dg dk_Pays_join 1 rfl) (by decide) (by decide) (by decide) ?_
      refine zw_ter (P := (b3 < a2)) (f := Value.int) (x := 1) (y := 0) (J := 81) (st2 := []) (fun jT jF => ?_) ?_
      · --
        refine r_iload_n X (pc := 71) (i := 1) (zw_dg dk_Pays_join 9 rfl) rfl rfl ?_
        refine r_iload_n X (pc := 72) (i := 2) (zw_dg dk_Pays_join 10 rfl) rfl rfl ?_
        refine r_icmp_le X (pc := 73) (tgt := 80) (zw_dg dk_Pays_join 11 rfl) (by decide) (fun q7 => ?_) (fun q7 => ?_)
        · --
          refine r_iconst X (pc := 80) (v := 0) (zw_dg dk_Pays_join 14 rfl) (by decide) ?_
          exact jF (Int32.not_lt.mpr q7)
        · --
          refine r_iconst X (pc := 76) (v := 1) (zw_dg dk_Pays_join 12 rfl) (by decide) ?_
          refine r_goto X (pc := 77) (tgt := 81) (zw_dg dk_Pays_join 13 rfl) (by decide) ?_
          exact jT (Int32.not_le.mp q7)
      cases hsem
      exact r_iret X (pc := 81) rfl (zw_dg dk_Pays_join 15 rfl)
    · have hsem := zw_ifn k6 hsem
      by_cases k8 : sign1 = 61
      · have hsem := zw_ifp k8 hsem
        refine zw_eqtI k8 ?_
        refine r_lookup X (pc := 1) (tgt := 82) (off := 81) (zw_dg dk_Pays_join 1 rfl) (by decide) (by decide) (by decide) ?_
        refine zw_ter (P := (a2 = b3)) (f := Value.int) (x := 1) (y := 0) (J := 92) (st2 := []) (fun jT jF => ?_) ?_
        · --
          refine r_iload_n X (pc := 82) (i := 1) (zw_dg dk_Pays_join 16 rfl) rfl rfl ?_
          refine r_iload_n X (pc := 83) (i := 2) (zw_dg dk_Pays_join 17 rfl) rfl rfl ?_
          refine r_icmp_ne X (pc := 84) (tgt := 91) (zw_dg dk_Pays_join 18 rfl) (by decide) (fun q9 => ?_) (fun q9 => ?_)
          · --
            refine r_iconst X (pc := 91) (v := 0) (zw_dg dk_Pays_join 21 rfl) (by decide) ?_
            exact jF q9
          · --
            refine r_iconst X (pc := 87) (v := 1) (zw_dg dk_Pays_join 19 rfl) (by decide) ?_
            refine r_goto X (pc := 88) (tgt := 92) (zw_dg dk_Pays_join 20 rfl) (by decide) ?_
            exact jT q9
        cases hsem
        exact r_iret X (pc := 92) rfl (zw_dg dk_Pays_join 22 rfl)
      · have hsem := zw_ifn k8 hsem
        by_cases k10 : sign1 = 43
        · have hsem := zw_ifp k10 hsem
          refine zw_eqtI k10 ?_
          refine r_lookup X (pc := 1) (tgt := 93) (off := 92) (zw_dg dk_Pays_join 1 rfl) (by decide) (by decide) (by decide) ?_
          refine r_iload_n X (pc := 93) (i := 1) (zw_dg dk_Pays_join 23 rfl) rfl rfl ?_
          refine r_iload_n X (pc := 94) (i := 2) (zw_dg dk_Pays_join 24 rfl) rfl rfl ?_
          refine r_iadd X (pc := 95) (zw_dg dk_Pays_join 25 rfl)  ?_
          cases hsem
          exact r_iret X (pc := 96) rfl (zw_dg dk_Pays_join 26 rfl)
        · have hsem := zw_ifn k10 hsem
          by_cases k11 : sign1 = 45
          · have hsem := zw_ifp k11 hsem
            refine zw_eqtI k11 ?_
            refine r_lookup X (pc := 1) (tgt := 97) (off := 96) (zw_dg dk_Pays_join 1 rfl) (by decide) (by decide) (by decide) ?_
            refine r_iload_n X (pc := 97) (i := 1) (zw_dg dk_Pays_join 27 rfl) rfl rfl ?_
            refine r_iload_n X (pc := 98) (i := 2) (zw_dg dk_Pays_join 28 rfl) rfl rfl ?_
            refine r_isub X (pc := 99) (zw_dg dk_Pays_join 29 rfl)  ?_
            cases hsem
            exact r_iret X (pc := 100) rfl (zw_dg dk_Pays_join 30 rfl)
          · have hsem := zw_ifn k11 hsem
            by_cases k12 : sign1 = 42
            · have hsem := zw_ifp k12 hsem
              refine zw_eqtI k12 ?_
              refine r_lookup X (pc := 1) (tgt := 101) (off := 100) (zw_dg dk_Pays_join 1 rfl) (by decide) (by decide) (by decide) ?_
              refine r_iload_n X (pc := 101) (i := 1) (zw_dg dk_Pays_join 31 rfl) rfl rfl ?_
              refine r_iload_n X (pc := 102) (i := 2) (zw_dg dk_Pays_join 32 rfl) rfl rfl ?_
              refine r_imul X (pc := 103) (zw_dg dk_Pays_join 33 rfl)  ?_
              cases hsem
              exact r_iret X (pc := 104) rfl (zw_dg dk_Pays_join 34 rfl)
            · have hsem := zw_ifn k12 hsem
              refine r_lookup X (pc := 1) (tgt := 105) (off := 104) (zw_dg dk_Pays_join 1 rfl) (by decide) (by
                show Op.lookupswitch.offset [(42, 100), (43, 92), (45, 96), (60, 59), (61, 81), (62, 70)] _ _ = _
                rw [lv_osw (fun z => k12 z) (show (42 : Int32).toInt = 42 from by decide)]
                rw [lv_osw (fun z => k10 z) (show (43 : Int32).toInt = 43 from by decide)]
                rw [lv_osw (fun z => k11 z) (show (45 : Int32).toInt = 45 from by decide)]
                rw [lv_osw (fun z => k4 z) (show (60 : Int32).toInt = 60 from by decide)]
                rw [lv_osw (fun z => k8 z) (show (61 : Int32).toInt = 61 from by decide)]
                rw [lv_osw (fun z => k6 z) (show (62 : Int32).toInt = 62 from by decide)]
                rfl) (by decide) ?_
              obtain ⟨v13, hv13, hsv13⟩ := zw_bd hsem
              refine zw_terO (f := Value.int) (v := v13) (J := 116) (st2 := []) (c2 := c) (fun jj => ?_) ?_
              · have hsem := hv13
                refine r_iload_n X (pc := 105) (i := 2) (zw_dg dk_Pays_join 35 rfl) rfl rfl ?_
                refine r_if_ne X (pc := 106) (tgt := 113) (zw_dg dk_Pays_join 36 rfl) (by decide) (fun q15 => ?_) (fun q15 => ?_)
                · --
                  have p14 : ¬ (b3 = 0) := q15
                  have hsem := zw_ifn p14 hsem
                  refine r_iload_n X (pc := 113) (i := 1) (zw_dg dk_Pays_join 39 rfl) rfl rfl ?_
                  refine r_iload_n X (pc := 114) (i := 2) (zw_dg dk_Pays_join 40 rfl) rfl rfl ?_
                  obtain ⟨d16, hd16, hsem⟩ := zw_bd hsem
                  obtain ⟨hyd16, hd16⟩ := zw_dvI_of hd16
                  refine r_idiv X (pc := 115) (zw_dg dk_Pays_join 41 rfl) hyd16 ?_
                  refine zw_eqtI hd16 ?_
                  cases hsem; exact jj
                · --
                  have p14 : (b3 = 0) := q15
                  have hsem := zw_ifp p14 hsem
                  refine r_iconst X (pc := 109) (v := 0) (zw_dg dk_Pays_join 37 rfl) (by decide) ?_
                  refine r_goto X (pc := 110) (tgt := 116) (zw_dg dk_Pays_join 38 rfl) (by decide) ?_
                  cases hsem; exact jj
              have hsem := hsv13
              cases hsem
              exact r_iret X (pc := 116) rfl (zw_dg dk_Pays_join 42 rfl)
def y_Pays_reckon : MethodName := ⟨R_Pays, "reckon", "([II)I"⟩
abbrev b_Pays_reckon : ByteArray := prog_8_method_17_code
def dl_Pays_reckon : List (Nat × Instr × Nat) := [(0, .iconst 0, 1), (1, .istore_n 3, 1), (2, .iconst 0, 1), (3, .istore 4, 2), (5, .iload 4, 2), (7, .iload_n 2, 1), (8, .if_icmp .ge 130, 3), (11, .aload_n 1, 1), (12, .iload 4, 2), (14, .iaload, 1), (15, .istore 5, 2), (17, .iload 5, 2), (19, .sipush 10000, 3), (22, .if_icmp .ge 17, 3), (25, .aload_n 0, 1), (26, .getfield 35, 3), (29, .iload_n 3, 1), (30, .iload 5, 2), (32, .iastore, 1), (33, .iinc 3 1, 3), (36, .goto 96, 3), (39, .iload 5, 2), (41, .sipush 20000, 3), (44, .if_icmp .ge 26, 3), (47, .aload_n 0, 1), (48, .getfield 35, 3), (51, .iload_n 3, 1), (52, .aload_n 0, 1), (53, .getfield 32, 3), (56, .iload 5, 2), (58, .sipush 10000, 3), (61, .isub, 1), (62, .iaload, 1), (63, .iastore, 1), (64, .iinc 3 1, 3), (67, .goto 65, 3), (70, .iload 5, 2), (72, .sipush 20256, 3), (75, .if_icmp .ne 23, 3), (78, .aload_n 0, 1), (79, .getfield 35, 3), (82, .iload_n 3, 1), (83, .iconst 1, 1), (84, .isub, 1), (85, .aload_n 0, 1), (86, .getfield 35, 3), (89, .iload_n 3, 1), (90, .iconst 1, 1), (91, .isub, 1), (92, .iaload, 1), (93, .ineg, 1), (94, .iastore, 1), (95, .goto 37, 3), (98, .iinc 3 (-1), 3), (101, .aload_n 0, 1), (102, .getfield 35, 3), (105, .iload_n 3, 1), (106, .iconst 1, 1), (107, .isub, 1), (108, .iload 5, 2), (110, .sipush 20000, 3), (113, .isub, 1), (114, .aload_n 0, 1), (115, .getfield 35, 3), (118, .iload_n 3, 1), (119, .iconst 1, 1), (120, .isub, 1), (121, .iaload, 1), (122, .aload_n 0, 1), (123, .getfield 35, 3), (126, .iload_n 3, 1), (127, .iaload, 1), (128, .invokestatic 121, 3), (131, .iastore, 1), (132, .iinc 4 1, 3), (135, .goto (-130), 3), (138, .aload_n 0, 1), (139, .getfield 35, 3), (142, .iconst 0, 1), (143, .iaload, 1), (144, .ireturn, 1)]
theorem dk_Pays_reckon : zw_dk b_Pays_reckon dl_Pays_reckon = true := by decide +kernel
theorem ce_Pays_reckon : zw_cev y_Pays_reckon b_Pays_reckon 6 (some .int) 2 := ⟨⟨kt_in 733 (by decide +kernel) rfl, kt_in 92 (by decide +kernel) rfl, by decide +kernel⟩, kt_in 732 (by decide +kernel) rfl, kt_in 13 (by decide +kernel) rfl⟩
def fn_Pays_reckon_l1 (length2 : Int32) (code1 : Nat) : Int32 × Int32 × zw_Ct → Option ((Int32 × zw_Ct) ⊕ (Int32 × Int32 × zw_Ct)) := fun (top3, i4, c5) =>
  if (i4 < length2) then
  ((zw_dI SH 0 c5 code1 i4).bind fun x11 =>
  (if (x11 < 10000) then
  ((zw_uI 60 c5 60 top3 x11).bind fun c32 =>
  some (((top3 + 1) : Int32), c32))
  else
  ((if (x11 < 20000) then
  ((zw_aI 9 c5 59 (x11 - 10000)).bind fun x30 =>
  (zw_uI 60 c5 60 top3 x30).bind fun c31 =>
  some (((top3 + 1) : Int32), c31))
  else
  ((if (x11 = 20256) then
  ((zw_aI 60 c5 60 (top3 - 1)).bind fun x28 =>
  (zw_uI 60 c5 60 (top3 - 1) (-x28)).bind fun c29 =>
  some ((top3 : Int32), c29))
  else
  ((zw_aI 60 c5 60 ((top3 + (-1)) - 1)).bind fun x24 =>
  (zw_aI 60 c5 60 (top3 + (-1))).bind fun x25 =>
  (fn_Pays_join (x11 - 20000) x24 x25).bind fun r26 =>
  (zw_uI 60 c5 60 ((top3 + (-1)) - 1) r26).bind fun c27 =>
  some (((top3 + (-1)) : Int32), c27))).bind fun (top20, c21) =>
  some ((top20 : Int32), c21))).bind fun (top16, c17) =>
  some ((top16 : Int32), c17))).bind fun (top12, c13) =>
  some (.inr (top12, (i4 + 1), c13)))
  else
  (some (.inl (top3, c5)))
def fn_Pays_reckon (c : zw_Ct) (code1 : Nat) (length2 : Int32) : Option (Int32 × zw_Ct) :=
  (zw_whl (fn_Pays_reckon_l1 length2 code1) zw_F (0, 0, c)).bind fun (top6, c7) =>
  (zw_aI 60 c7 60 0).bind fun x33 =>
  some (x33, c7)
set_option maxRecDepth 100000 in
theorem km_Pays_reckon {l : Launch} {g : zw_G} {rr : zw_RR} {sh : zw_Sh} {c : zw_Ct} {code1 : Nat} {length2 : Int32} {r : Int32} {c2 : zw_Ct} (hS : zw_Ok 0 101 sh rr) (hsem : fn_Pays_reckon c code1 length2 = some (r, c2)) : zw_Met l g y_Pays_reckon b_Pays_reckon 6 (some .int) 2 rr sh [.ref 45, .ref code1, .int length2] c (some (.int r)) c2 := by
  unfold fn_Pays_reckon at hsem
  refine zw_Met.of (by decide +kernel) (Nat.le_of_ble_eq_true rfl) (fun p e s m args below meth cd X => ?_)
  refine zw_eL (L2 := [some (.ref 45), some (.ref code1), some (.int length2), none, none, none]) rfl ?_
  refine r_iconst X (pc := 0) (v := 0) (zw_dg dk_Pays_reckon 0 rfl) (by decide) ?_
  refine r_istore_n X (pc := 1) (i := 3) (zw_dg dk_Pays_reckon 1 rfl) rfl (by decide) rfl ?_
  refine r_iconst X (pc := 2) (v := 0) (zw_dg dk_Pays_reckon 2 rfl) (by decide) ?_
  refine r_istore X (pc := 3) (i := 4) (zw_dg dk_Pays_reckon 3 rfl) (by decide) rfl ?_
  obtain ⟨l8, hl8, hsl8⟩ := zw_bd hsem
  refine r_loop (pc := 5) (pce := 138) hl8 (fun (top3, i4, c5) => [some (.ref 45), some (.ref code1), some (.int length2), some (.int top3), some (.int i4), none] : Int32 × Int32 × zw_Ct → zw_Lc) (fun (top3, i4, c5) => c5 : Int32 × Int32 × zw_Ct → zw_Ct) (fun (top6, c7) => [some (.ref 45), some (.ref code1), some (.int length2), some (.int top6), none, none] : Int32 × zw_Ct → zw_Lc) (fun (top6, c7) => c7 : Int32 × zw_Ct → zw_Ct) ?_ rfl rfl ?_
  · rintro ⟨top3, i4, c5⟩ rr hsem hK hP
    try unfold fn_Pays_reckon_l1 at hsem
    refine r_iload X (pc := 5) (i := 4) (zw_dg dk_Pays_reckon 4 rfl) rfl ?_
    refine r_iload_n X (pc := 7) (i := 2) (zw_dg dk_Pays_reckon 5 rfl) rfl rfl ?_
    refine r_icmp_ge X (pc := 8) (tgt := 138) (zw_dg dk_Pays_reckon 6 rfl) (by decide) (fun q10 => ?_) (fun q10 => ?_)
    · --
      have p9 : ¬ (i4 < length2) := (Int32.not_lt.mpr q10)
      have hsem := zw_ifn p9 hsem
      have jj := hK _ (Option.some.inj hsem).symm
      exact (r_fgt [4] rfl jj)
    · --
      have p9 : (i4 < length2) := (Int32.not_le.mp q10)
      have hsem := zw_ifp p9 hsem
      refine r_aload_n X (pc := 11) (i := 1) (zw_dg dk_Pays_reckon 7 rfl) rfl rfl ?_
      refine r_iload X (pc := 12) (i := 4) (zw_dg dk_Pays_reckon 8 rfl) rfl ?_
      obtain ⟨x11, hx11, hsem⟩ := zw_bd hsem
      obtain ⟨_, hnx11, hx11⟩ := zw_bd hx11
      refine r_iald X (pc := 14) (zd hS (zw_len_of hnx11)) hx11 (zw_dg dk_Pays_reckon 9 rfl) ?_
      refine r_istore X (pc := 15) (i := 5) (zw_dg dk_Pays_reckon 10 rfl) (by decide) rfl ?_
      obtain ⟨⟨top12, c13⟩, ht132, hs132⟩ := zw_bd hsem
      refine zw_jn (J := 132) (L2 := [some (.ref 45), some (.ref code1), some (.int length2), some (.int top12), some (.int i4), some (.int x11)]) (c2 := c13) (fun jj => ?_) ?_
      · have hsem := ht132
        refine r_iload X (pc := 17) (i := 5) (zw_dg dk_Pays_reckon 11 rfl) rfl ?_
        refine r_sipush X (pc := 19) (v := 10000) (zw_dg dk_Pays_reckon 12 rfl) (by decide) ?_
        refine r_icmp_ge X (pc := 22) (tgt := 39) (zw_dg dk_Pays_reckon 13 rfl) (by decide) (fun q15 => ?_) (fun q15 => ?_)
        · --
          have p14 : ¬ (x11 < 10000) := (Int32.not_lt.mpr q15)
          have hsem := zw_ifn p14 hsem
          obtain ⟨⟨top16, c17⟩, ht132, hs132⟩ := zw_bd hsem
          refine zw_jn (J := 132) (L2 := [some (.ref 45), some (.ref code1), some (.int length2), some (.int top16), some (.int i4), some (.int x11)]) (c2 := c17) (fun jj => ?_) ?_
          · have hsem := ht132
            refine r_iload X (pc := 39) (i := 5) (zw_dg dk_Pays_reckon 21 rfl) rfl ?_
            refine r_sipush X (pc := 41) (v := 20000) (zw_dg dk_Pays_reckon 22 rfl) (by decide) ?_
            refine r_icmp_ge X (pc := 44) (tgt := 70) (zw_dg dk_Pays_reckon 23 rfl) (by decide) (fun q19 => ?_) (fun q19 => ?_)
            · --
              have p18 : ¬ (x11 < 20000) := (Int32.not_lt.mpr q19)
              have hsem := zw_ifn p18 hsem
              obtain ⟨⟨top20, c21⟩, ht132, hs132⟩ := zw_bd hsem
              refine zw_jn (J := 132) (L2 := [some (.ref 45), some (.ref code1), some (.int length2), some (.int top20), some (.int i4), some (.int x11)]) (c2 := c21) (fun jj => ?_) ?_
              · have hsem := ht132
                refine r_iload X (pc := 70) (i := 5) (zw_dg dk_Pays_reckon 36 rfl) rfl ?_
                refine r_sipush X (pc := 72) (v := 20256) (zw_dg dk_Pays_reckon 37 rfl) (by decide) ?_
                refine r_icmp_ne X (pc := 75) (tgt := 98) (zw_dg dk_Pays_reckon 38 rfl) (by decide) (fun q23 => ?_) (fun q23 => ?_)
                · --
                  have p22 : ¬ (x11 = 20256) := q23
                  have hsem := zw_ifn p22 hsem
                  refine r_iinc X (pc := 98) (i := 3) (k := (-1)) (zw_dg dk_Pays_reckon 53 rfl) rfl (by decide) (by decide) rfl ?_
                  refine r_aload_n X (pc := 101) (i := 0) (zw_dg dk_Pays_reckon 54 rfl) rfl rfl ?_
                  refine r_getR X (pc := 102) (r := 60) ci_Pays (zo hS 45 rfl rfl) rfl (zr hS 45 8 rfl rfl) lk_Pays_35 (zw_dg dk_Pays_reckon 55 rfl) ?_
                  refine r_iload_n X (pc := 105) (i := 3) (zw_dg dk_Pays_reckon 56 rfl) rfl rfl ?_
                  refine r_iconst X (pc := 106) (v := 1) (zw_dg dk_Pays_reckon 57 rfl) (by decide) ?_
                  refine r_isub X (pc := 107) (zw_dg dk_Pays_reckon 58 rfl)  ?_
                  refine r_iload X (pc := 108) (i := 5) (zw_dg dk_Pays_reckon 59 rfl) rfl ?_
                  refine r_sipush X (pc := 110) (v := 20000) (zw_dg dk_Pays_reckon 60 rfl) (by decide) ?_
                  refine r_isub X (pc := 113) (zw_dg dk_Pays_reckon 61 rfl)  ?_
                  refine r_aload_n X (pc := 114) (i := 0) (zw_dg dk_Pays_reckon 62 rfl) rfl rfl ?_
                  refine r_getR X (pc := 115) (r := 60) ci_Pays (zo hS 45 rfl rfl) rfl (zr hS 45 8 rfl rfl) lk_Pays_35 (zw_dg dk_Pays_reckon 63 rfl) ?_
                  refine r_iload_n X (pc := 118) (i := 3) (zw_dg dk_Pays_reckon 64 rfl) rfl rfl ?_
                  refine r_iconst X (pc := 119) (v := 1) (zw_dg dk_Pays_reckon 65 rfl) (by decide) ?_
                  refine r_isub X (pc := 120) (zw_dg dk_Pays_reckon 66 rfl)  ?_
                  obtain ⟨x24, hx24, hsem⟩ := zw_bd hsem
                  refine r_iald X (pc := 121) (zo hS 60 rfl rfl) hx24 (zw_dg dk_Pays_reckon 67 rfl) ?_
                  refine r_aload_n X (pc := 122) (i := 0) (zw_dg dk_Pays_reckon 68 rfl) rfl rfl ?_
                  refine r_getR X (pc := 123) (r := 60) ci_Pays (zo hS 45 rfl rfl) rfl (zr hS 45 8 rfl rfl) lk_Pays_35 (zw_dg dk_Pays_reckon 69 rfl) ?_
                  refine r_iload_n X (pc := 126) (i := 3) (zw_dg dk_Pays_reckon 70 rfl) rfl rfl ?_
                  obtain ⟨x25, hx25, hsem⟩ := zw_bd hsem
                  refine r_iald X (pc := 127) (zo hS 60 rfl rfl) hx25 (zw_dg dk_Pays_reckon 71 rfl) ?_
                  obtain ⟨r26, hr26, hsem⟩ := zw_bd hsem
                  refine r_callSi X (pc := 128) (As := [_, _, _]) (st := [.int ((top3 + (-1)) - 1), .ref 60]) (km_Pays_join hS hr26) ce_Pays_join kw_734 rfl ⟨Nat.le_of_ble_eq_true rfl, Nat.le_of_ble_eq_true rfl⟩ (Nat.le_of_ble_eq_true rfl) (zw_dg dk_Pays_reckon 72 rfl) ?_
                  obtain ⟨c27, hc27, hsem⟩ := zw_bd hsem
                  refine r_iast X (pc := 131) (zo hS 60 rfl rfl) hc27 (zw_dg dk_Pays_reckon 73 rfl) ?_
                  obtain ⟨rfl, rfl⟩ := zw_in2 hsem
                  exact (r_fgt [] rfl jj)
                · --
                  have p22 : (x11 = 20256) := q23
                  have hsem := zw_ifp p22 hsem
                  refine r_aload_n X (pc := 78) (i := 0) (zw_dg dk_Pays_reckon 39 rfl) rfl rfl ?_
                  refine r_getR X (pc := 79) (r := 60) ci_Pays (zo hS 45 rfl rfl) rfl (zr hS 45 8 rfl rfl) lk_Pays_35 (zw_dg dk_Pays_reckon 40 rfl) ?_
                  refine r_iload_n X (pc := 82) (i := 3) (zw_dg dk_Pays_reckon 41 rfl) rfl rfl ?_
                  refine r_iconst X (pc := 83) (v := 1) (zw_dg dk_Pays_reckon 42 rfl) (by decide) ?_
                  refine r_isub X (pc := 84) (zw_dg dk_Pays_reckon 43 rfl)  ?_
                  refine r_aload_n X (pc := 85) (i := 0) (zw_dg dk_Pays_reckon 44 rfl) rfl rfl ?_
                  refine r_getR X (pc := 86) (r := 60) ci_Pays (zo hS 45 rfl rfl) rfl (zr hS 45 8 rfl rfl) lk_Pays_35 (zw_dg dk_Pays_reckon 45 rfl) ?_
                  refine r_iload_n X (pc := 89) (i := 3) (zw_dg dk_Pays_reckon 46 rfl) rfl rfl ?_
                  refine r_iconst X (pc := 90) (v := 1) (zw_dg dk_Pays_reckon 47 rfl) (by decide) ?_
                  refine r_isub X (pc := 91) (zw_dg dk_Pays_reckon 48 rfl)  ?_
                  obtain ⟨x28, hx28, hsem⟩ := zw_bd hsem
                  refine r_iald X (pc := 92) (zo hS 60 rfl rfl) hx28 (zw_dg dk_Pays_reckon 49 rfl) ?_
                  refine r_ineg X (pc := 93) (zw_dg dk_Pays_reckon 50 rfl)  ?_
                  obtain ⟨c29, hc29, hsem⟩ := zw_bd hsem
                  refine r_iast X (pc := 94) (zo hS 60 rfl rfl) hc29 (zw_dg dk_Pays_reckon 51 rfl) ?_
                  refine r_goto X (pc := 95) (tgt := 132) (zw_dg dk_Pays_reckon 52 rfl) (by decide) ?_
                  obtain ⟨rfl, rfl⟩ := zw_in2 hsem
                  exact (r_fgt [] rfl jj)
              have hsem := hs132
              obtain ⟨rfl, rfl⟩ := zw_in2 hsem
              exact (r_fgt [] rfl jj)
            · --
              have p18 : (x11 < 20000) := (Int32.not_le.mp q19)
              have hsem := zw_ifp p18 hsem
              refine r_aload_n X (pc := 47) (i := 0) (zw_dg dk_Pays_reckon 24 rfl) rfl rfl ?_
              refine r_getR X (pc := 48) (r := 60) ci_Pays (zo hS 45 rfl rfl) rfl (zr hS 45 8 rfl rfl) lk_Pays_35 (zw_dg dk_Pays_reckon 25 rfl) ?_
              refine r_iload_n X (pc := 51) (i := 3) (zw_dg dk_Pays_reckon 26 rfl) rfl rfl ?_
              refine r_aload_n X (pc := 52) (i := 0) (zw_dg dk_Pays_reckon 27 rfl) rfl rfl ?_
              refine r_getR X (pc := 53) (r := 59) ci_Pays (zo hS 45 rfl rfl) rfl (zr hS 45 7 rfl rfl) lk_Pays_32 (zw_dg dk_Pays_reckon 28 rfl) ?_
              refine r_iload X (pc := 56) (i := 5) (zw_dg dk_Pays_reckon 29 rfl) rfl ?_
              refine r_sipush X (pc := 58) (v := 10000) (zw_dg dk_Pays_reckon 30 rfl) (by decide) ?_
              refine r_isub X (pc := 61) (zw_dg dk_Pays_reckon 31 rfl)  ?_
              obtain ⟨x30, hx30, hsem⟩ := zw_bd hsem
              refine r_iald X (pc := 62) (zo hS 59 rfl rfl) hx30 (zw_dg dk_Pays_reckon 32 rfl) ?_
              obtain ⟨c31, hc31, hsem⟩ := zw_bd hsem
              refine r_iast X (pc := 63) (zo hS 60 rfl rfl) hc31 (zw_dg dk_Pays_reckon 33 rfl) ?_
              refine r_iinc X (pc := 64) (i := 3) (k := 1) (zw_dg dk_Pays_reckon 34 rfl) rfl (by decide) (by decide) rfl ?_
              refine r_goto X (pc := 67) (tgt := 132) (zw_dg dk_Pays_reckon 35 rfl) (by decide) ?_
              obtain ⟨rfl, rfl⟩ := zw_in2 hsem
              exact (r_fgt [] rfl jj)
          have hsem := hs132
          obtain ⟨rfl, rfl⟩ := zw_in2 hsem
          exact (r_fgt [] rfl jj)
        · --
          have p14 : (x11 < 10000) := (Int32.not_le.mp q15)
          have hsem := zw_ifp p14 hsem
          refine r_aload_n X (pc := 25) (i := 0) (zw_dg dk_Pays_reckon 14 rfl) rfl rfl ?_
          refine r_getR X (pc := 26) (r := 60) ci_Pays (zo hS 45 rfl rfl) rfl (zr hS 45 8 rfl rfl) lk_Pays_35 (zw_dg dk_Pays_reckon 15 rfl) ?_
          refine r_iload_n X (pc := 29) (i := 3) (zw_dg dk_Pays_reckon 16 rfl) rfl rfl ?_
          refine r_iload X (pc := 30) (i := 5) (zw_dg dk_Pays_reckon 17 rfl) rfl ?_
          obtain ⟨c32, hc32, hsem⟩ := zw_bd hsem
          refine r_iast X (pc := 32) (zo hS 60 rfl rfl) hc32 (zw_dg dk_Pays_reckon 18 rfl) ?_
          refine r_iinc X (pc := 33) (i := 3) (k := 1) (zw_dg dk_Pays_reckon 19 rfl) rfl (by decide) (by decide) rfl ?_
          refine r_goto X (pc := 36) (tgt := 132) (zw_dg dk_Pays_reckon 20 rfl) (by decide) ?_
          obtain ⟨rfl, rfl⟩ := zw_in2 hsem
          exact (r_fgt [] rfl jj)
      have hsem := hs132
      refine r_iinc X (pc := 132) (i := 4) (k := 1) (zw_dg dk_Pays_reckon 74 rfl) rfl (by decide) (by decide) rfl ?_
      refine r_goto X (pc := 135) (tgt := 5) (zw_dg dk_Pays_reckon 75 rfl) (by decide) ?_
      have jj := hP _ (Option.some.inj hsem).symm
      exact (r_fgt [5] rfl jj)
  obtain ⟨top6, c7⟩ := l8
  have hsem := hsl8
  refine r_aload_n X (pc := 138) (i := 0) (zw_dg dk_Pays_reckon 76 rfl) rfl rfl ?_
  refine r_getR X (pc := 139) (r := 60) ci_Pays (zo hS 45 rfl rfl) rfl (zr hS 45 8 rfl rfl) lk_Pays_35 (zw_dg dk_Pays_reckon 77 rfl) ?_
  refine r_iconst X (pc := 142) (v := 0) (zw_dg dk_Pays_reckon 78 rfl) (by decide) ?_
  obtain ⟨x33, hx33, hsem⟩ := zw_bd hsem
  refine r_iald X (pc := 143) (zo hS 60 rfl rfl) hx33 (zw_dg dk_Pays_reckon 79 rfl) ?_
  cases hsem
  exact r_iret X (pc := 144) rfl (zw_dg dk_Pays_reckon 80 rfl)
def y_Pays_reckonAll : MethodName := ⟨R_Pays, "reckonAll", "([II[I)V"⟩
abbrev b_Pays_reckonAll : ByteArray := prog_8_method_15_code
def dl_Pays_reckonAll : List (Nat × Instr × Nat) := [(0, .aload_n 0, 1), (1, .getfield 32, 3), (4, .bipush 7, 2), (6, .aload_n 0, 1), (7, .getfield 38, 3), (10, .getfield 102, 3), (13, .iastore, 1), (14, .aload_n 0, 1), (15, .getfield 32, 3), (18, .bipush 8, 2), (20, .aload_n 0, 1), (21, .getfield 38, 3), (24, .getfield 87, 3), (27, .iastore, 1), (28, .iconst 0, 1), (29, .istore 4, 2), (31, .iload 4, 2), (33, .aload_n 0, 1), (34, .getfield 38, 3), (37, .getfield 69, 3), (40, .if_icmp .ge 164, 3), (43, .aload_n 0, 1), (44, .getfield 38, 3), (47, .iload 4, 2), (49, .aload_n 0, 1), (50, .getfield 38, 3), (53, .iload 4, 2), (55, .invokevirtual 108, 3), (58, .invokevirtual 74, 3), (61, .istore 5, 2), (63, .aload_n 0, 1), (64, .getfield 32, 3), (67, .iconst 1, 1), (68, .aload_n 0, 1), (69, .getfield 38, 3), (72, .iload 4, 2), (74, .invokevirtual 111, 3), (77, .iastore, 1), (78, .aload_n 0, 1), (79, .getfield 32, 3), (82, .iconst 2, 1), (83, .iload 5, 2), (85, .iastore, 1), (86, .aload_n 0, 1), (87, .getfield 32, 3), (90, .iconst 5, 1), (91, .aload_n 0, 1), (92, .iload 4, 2), (94, .invokevirtual 114, 3), (97, .iastore, 1), (98, .iconst 0, 1), (99, .istore 6, 2), (101, .iload 6, 2), (103, .aload_n 0, 1), (104, .getfield 38, 3), (107, .getfield 102, 3), (110, .if_icmp .ge 88, 3), (113, .aload_n 0, 1), (114, .getfield 38, 3), (117, .iload 4, 2), (119, .iload 6, 2), (121, .invokevirtual 74, 3), (124, .istore 7, 2), (126, .aload_n 0, 1), (127, .getfield 32, 3), (130, .iconst 0, 1), (131, .iload 7, 2), (133, .iastore, 1), (134, .aload_n 0, 1), (135, .getfield 32, 3), (138, .iconst 3, 1), (139, .iload 7, 2), (141, .iload 5, 2), (143, .if_icmp .ne 7, 3), (146, .iconst 1, 1), (147, .goto 4, 3), (150, .iconst 0, 1), (151, .iastore, 1), (152, .aload_n 0, 1), (153, .getfield 32, 3), (156, .iconst 4, 1), (157, .aload_n 0, 1), (158, .getfield 42, 3), (161, .getfield 78, 3), (164, .iload 7, 2), (166, .iaload, 1), (167, .iastore, 1), (168, .aload_n 0, 1), (169, .getfield 32, 3), (172, .bipush 6, 2), (174, .iload 6, 2), (176, .iastore, 1), (177, .aload_n 3, 1), (178, .iload 4, 2), (180, .iconst 4, 1), (181, .imul, 1), (182, .iload 6, 2), (184, .iadd, 1), (185, .aload_n 0, 1), (186, .aload_n 1, 1), (187, .iload_n 2, 1), (188, .invokevirtual 117, 3), (191, .iastore, 1), (192, .iinc 6 1, 3), (195, .goto (-94), 3), (198, .iinc 4 1, 3), (201, .goto (-170), 3), (204, .return_, 1)]
theorem dk_Pays_reckonAll : zw_dk b_Pays_reckonAll dl_Pays_reckonAll = true := by decide +kernel
theorem ce_Pays_reckonAll : zw_cev y_Pays_reckonAll b_Pays_reckonAll 8 (none) 3 := ⟨⟨kt_in 712 (by decide +kernel) rfl, kt_in 92 (by decide +kernel) rfl, by decide +kernel⟩, kt_in 711 (by decide +kernel) rfl, kt_in 11 (by decide +kernel) rfl⟩
def fn_Pays_reckonAll_l2 (saying6 : Int32) (r13 : Int32) (code1 : Nat) (length2 : Int32) (into3 : Nat) : Int32 × zw_Ct → Option ((zw_Ct) ⊕ (Int32 × zw_Ct)) := fun (e19, c20) =>
  if (e19 < (c20.1 1 0)) then
  ((fn_Sayings_partOf c20 saying6 e19).bind fun r25 =>
  (zw_uI 9 c20 59 0 r25).bind fun c26 =>
  (zw_uI 9 c26 59 3 (if (r25 = r13) then (1 : Int32) else 0)).bind fun c28 =>
  (zw_aI 13 c28 4 r25).bind fun x29 =>
  (zw_uI 9 c28 59 4 x29).bind fun c30 =>
  (zw_uI 9 c30 59 6 e19).bind fun c31 =>
  (fn_Pays_reckon c31 code1 length2).bind fun (r32, c33) =>
  (zw_eI SH 0 c33 into3 ((saying6 * 4) + e19) r32).bind fun c34 =>
  some (.inr ((e19 + 1), c34)))
  else
  (some (.inl c20))
def fn_Pays_reckonAll_l1 (code1 : Nat) (length2 : Int32) (into3 : Nat) : Int32 × zw_Ct → Option ((zw_Ct) ⊕ (Int32 × zw_Ct)) := fun (saying6, c7) =>
  if (saying6 < (c7.1 1 2)) then
  ((fn_Sayings_mode c7 saying6).bind fun r12 =>
  (fn_Sayings_partOf c7 saying6 r12).bind fun r13 =>
  (fn_Sayings_sumOfSquares c7 saying6).bind fun r14 =>
  (zw_uI 9 c7 59 1 r14).bind fun c15 =>
  (zw_uI 9 c15 59 2 r13).bind fun c16 =>
  (fn_Pays_sumOfTurns c16 saying6).bind fun r17 =>
  (zw_uI 9 c16 59 5 r17).bind fun c18 =>
  (zw_whl (fn_Pays_reckonAll_l2 saying6 r13 code1 length2 into3) zw_F (0, c18)).bind fun c21 =>
  some (.inr ((saying6 + 1), c21)))
  else
  (some (.inl c7))
def fn_Pays_reckonAll (c : zw_Ct) (code1 : Nat) (length2 : Int32) (into3 : Nat) : Option zw_Ct :=
  (zw_uI 9 c 59 7 (c.1 1 0)).bind fun c4 =>
  (zw_uI 9 c4 59 8 (c4.1 1 1)).bind fun c5 =>
  (zw_whl (fn_Pays_reckonAll_l1 code1 length2 into3) zw_F (0, c5)).bind fun c8 =>
  some c8
set_option maxRecDepth 100000 in
theorem km_Pays_reckonAll {l : Launch} {g : zw_G} {rr : zw_RR} {sh : zw_Sh} {c : zw_Ct} {code1 : Nat} {length2 : Int32} {into3 : Nat} {c2 : zw_Ct} (hS : zw_Ok 0 101 sh rr) (hsem : fn_Pays_reckonAll c code1 length2 into3 = some c2) : zw_Met l g y_Pays_reckonAll b_Pays_reckonAll 8 (none) 3 rr sh [.ref 45, .ref code1, .int length2, .ref into3] c none c2 := by
  unfold fn_Pays_reckonAll at hsem
  refine zw_Met.of (by decide +kernel) (Nat.le_of_ble_eq_true rfl) (fun p e s m args below meth cd X => ?_)
  refine zw_eL (L2 := [some (.ref 45), some (.ref code1), some (.int length2), some (.ref into3), none, none, none, none]) rfl ?_
  refine r_aload_n X (pc := 0) (i := 0) (zw_dg dk_Pays_reckonAll 0 rfl) rfl rfl ?_
  refine r_getR X (pc := 1) (r := 59) ci_Pays (zo hS 45 rfl rfl) rfl (zr hS 45 7 rfl rfl) lk_Pays_32 (zw_dg dk_Pays_reckonAll 1 rfl) ?_
  refine r_bipush X (pc := 4) (v := 7) (zw_dg dk_Pays_reckonAll 2 rfl) (by decide) ?_
  refine r_aload_n X (pc := 6) (i := 0) (zw_dg dk_Pays_reckonAll 3 rfl) rfl rfl ?_
  refine r_getR X (pc := 7) (r := 1) ci_Pays (zo hS 45 rfl rfl) rfl (zr hS 45 0 rfl rfl) lk_Pays_38 (zw_dg dk_Pays_reckonAll 4 rfl) ?_
  refine r_getI X (pc := 10) ci_Sayings (zo hS 1 rfl rfl) rfl lk_Pays_102 (zw_dg dk_Pays_reckonAll 5 rfl) ?_
  obtain ⟨c4, hc4, hsem⟩ := zw_bd hsem
  refine r_iast X (pc := 13) (zo hS 59 rfl rfl) hc4 (zw_dg dk_Pays_reckonAll 6 rfl) ?_
  refine r_aload_n X (pc := 14) (i := 0) (zw_dg dk_Pays_reckonAll 7 rfl) rfl rfl ?_
  refine r_getR X (pc := 15) (r := 59) ci_Pays (zo hS 45 rfl rfl) rfl (zr hS 45 7 rfl rfl) lk_Pays_32 (zw_dg dk_Pays_reckonAll 8 rfl) ?_
  refine r_bipush X (pc := 18) (v := 8) (zw_dg dk_Pays_reckonAll 9 rfl) (by decide) ?_
  refine r_aload_n X (pc := 20) (i := 0) (zw_dg dk_Pays_reckonAll 10 rfl) rfl rfl ?_
  refine r_getR X (pc := 21) (r := 1) ci_Pays (zo hS 45 rfl rfl) rfl (zr hS 45 0 rfl rfl) lk_Pays_38 (zw_dg dk_Pays_reckonAll 11 rfl) ?_
  refine r_getI X (pc := 24) ci_Sayings (zo hS 1 rfl rfl) rfl lk_Pays_87 (zw_dg dk_Pays_reckonAll 12 rfl) ?_
  obtain ⟨c5, hc5, hsem⟩ := zw_bd hsem
  refine r_iast X (pc := 27) (zo hS 59 rfl rfl) hc5 (zw_dg dk_Pays_reckonAll 13 rfl) ?_
  refine r_iconst X (pc := 28) (v := 0) (zw_dg dk_Pays_reckonAll 14 rfl) (by decide) ?_
  refine r_istore X (pc := 29) (i := 4) (zw_dg dk_Pays_reckonAll 15 rfl) (by decide) rfl ?_
  obtain ⟨c8, hl9, hsl9⟩ := zw_bd hsem
  refine r_loop (pc := 31) (pce := 204) hl9 (fun (saying6, c7) => [some (.ref 45), some (.ref code1), some (.int length2), some (.ref into3), some (.int saying6), none, none, none] : Int32 × zw_Ct → zw_Lc) (fun (saying6, c7) => c7 : Int32 × zw_Ct → zw_Ct) (fun c8 => [some (.ref 45), some (.ref code1), some (.int length2), some (.ref into3), none, none, none, none] : zw_Ct → zw_Lc) (fun c8 => c8 : zw_Ct → zw_Ct) ?_ rfl rfl ?_
  · rintro ⟨saying6, c7⟩ rr hsem hK hP
    try unfold fn_Pays_reckonAll_l1 at hsem
    refine r_iload X (pc := 31) (i := 4) (zw_dg dk_Pays_reckonAll 16 rfl) rfl ?_
    refine r_aload_n X (pc := 33) (i := 0) (zw_dg dk_Pays_reckonAll 17 rfl) rfl rfl ?_
    refine r_getR X (pc := 34) (r := 1) ci_Pays (zo hS 45 rfl rfl) rfl (zr hS 45 0 rfl rfl) lk_Pays_38 (zw_dg dk_Pays_reckonAll 18 rfl) ?_
    refine r_getI X (pc := 37) ci_Sayings (zo hS 1 rfl rfl) rfl lk_Pays_69 (zw_dg dk_Pays_reckonAll 19 rfl) ?_
    refine r_icmp_ge X (pc := 40) (tgt := 204) (zw_dg dk_Pays_reckonAll 20 rfl) (by decide) (fun q11 => ?_) (fun q11 => ?_)
    · --
      have p10 : ¬ (saying6 < (c7.1 1 2)) := (Int32.not_lt.mpr q11)
      have hsem := zw_ifn p10 hsem
      have jj := hK _ (Option.some.inj hsem).symm
      exact (r_fgt [4] rfl jj)
    · --
      have p10 : (saying6 < (c7.1 1 2)) := (Int32.not_le.mp q11)
      have hsem := zw_ifp p10 hsem
      refine r_aload_n X (pc := 43) (i := 0) (zw_dg dk_Pays_reckonAll 21 rfl) rfl rfl ?_
      refine r_getR X (pc := 44) (r := 1) ci_Pays (zo hS 45 rfl rfl) rfl (zr hS 45 0 rfl rfl) lk_Pays_38 (zw_dg dk_Pays_reckonAll 22 rfl) ?_
      refine r_iload X (pc := 47) (i := 4) (zw_dg dk_Pays_reckonAll 23 rfl) rfl ?_
      refine r_aload_n X (pc := 49) (i := 0) (zw_dg dk_Pays_reckonAll 24 rfl) rfl rfl ?_
      refine r_getR X (pc := 50) (r := 1) ci_Pays (zo hS 45 rfl rfl) rfl (zr hS 45 0 rfl rfl) lk_Pays_38 (zw_dg dk_Pays_reckonAll 25 rfl) ?_
      refine r_iload X (pc := 53) (i := 4) (zw_dg dk_Pays_reckonAll 26 rfl) rfl ?_
      obtain ⟨r12, hr12, hsem⟩ := zw_bd hsem
      refine r_callVi X (pc := 55) (As := [_]) (st := [.int saying6, .ref 1]) (km_Sayings_mode hS hr12) ce_Sayings_mode kw_713 (zo hS 1 rfl rfl) rfl rfl ⟨Nat.le_of_ble_eq_true rfl, Nat.le_of_ble_eq_true rfl⟩ (Nat.le_of_ble_eq_true rfl) (zw_dg dk_Pays_reckonAll 27 rfl) ?_
      obtain ⟨r13, hr13, hsem⟩ := zw_bd hsem
      refine r_callVi X (pc := 58) (As := [_, _]) (st := []) (km_Sayings_partOf hS hr13) ce_Sayings_partOf kw_721 (zo hS 1 rfl rfl) rfl rfl ⟨Nat.le_of_ble_eq_true rfl, Nat.le_of_ble_eq_true rfl⟩ (Nat.le_of_ble_eq_true rfl) (zw_dg dk_Pays_reckonAll 28 rfl) ?_
      refine r_istore X (pc := 61) (i := 5) (zw_dg dk_Pays_reckonAll 29 rfl) (by decide) rfl ?_
      refine r_aload_n X (pc := 63) (i := 0) (zw_dg dk_Pays_reckonAll 30 rfl) rfl rfl ?_
      refine r_getR X (pc := 64) (r := 59) ci_Pays (zo hS 45 rfl rfl) rfl (zr hS 45 7 rfl rfl) lk_Pays_32 (zw_dg dk_Pays_reckonAll 31 rfl) ?_
      refine r_iconst X (pc := 67) (v := 1) (zw_dg dk_Pays_reckonAll 32 rfl) (by decide) ?_
      refine r_aload_n X (pc := 68) (i := 0) (zw_dg dk_Pays_reckonAll 33 rfl) rfl rfl ?_
      refine r_getR X (pc := 69) (r := 1) ci_Pays (zo hS 45 rfl rfl) rfl (zr hS 45 0 rfl rfl) lk_Pays_38 (zw_dg dk_Pays_reckonAll 34 rfl) ?_
      refine r_iload X (pc := 72) (i := 4) (zw_dg dk_Pays_reckonAll 35 rfl) rfl ?_
      obtain ⟨r14, hr14, hsem⟩ := zw_bd hsem
      refine r_callVi X (pc := 74) (As := [_]) (st := [.int 1, .ref 59]) (km_Sayings_sumOfSquares hS hr14) ce_Sayings_sumOfSquares kw_722 (zo hS 1 rfl rfl) rfl rfl ⟨Nat.le_of_ble_eq_true rfl, Nat.le_of_ble_eq_true rfl⟩ (Nat.le_of_ble_eq_true rfl) (zw_dg dk_Pays_reckonAll 36 rfl) ?_
      obtain ⟨c15, hc15, hsem⟩ := zw_bd hsem
      refine r_iast X (pc := 77) (zo hS 59 rfl rfl) hc15 (zw_dg dk_Pays_reckonAll 37 rfl) ?_
      refine r_aload_n X (pc := 78) (i := 0) (zw_dg dk_Pays_reckonAll 38 rfl) rfl rfl ?_
      refine r_getR X (pc := 79) (r := 59) ci_Pays (zo hS 45 rfl rfl) rfl (zr hS 45 7 rfl rfl) lk_Pays_32 (zw_dg dk_Pays_reckonAll 39 rfl) ?_
      refine r_iconst X (pc := 82) (v := 2) (zw_dg dk_Pays_reckonAll 40 rfl) (by decide) ?_
      refine r_iload X (pc := 83) (i := 5) (zw_dg dk_Pays_reckonAll 41 rfl) rfl ?_
      obtain ⟨c16, hc16, hsem⟩ := zw_bd hsem
      refine r_iast X (pc := 85) (zo hS 59 rfl rfl) hc16 (zw_dg dk_Pays_reckonAll 42 rfl) ?_
      refine r_aload_n X (pc := 86) (i := 0) (zw_dg dk_Pays_reckonAll 43 rfl) rfl rfl ?_
      refine r_getR X (pc := 87) (r := 59) ci_Pays (zo hS 45 rfl rfl) rfl (zr hS 45 7 rfl rfl) lk_Pays_32 (zw_dg dk_Pays_reckonAll 44 rfl) ?_
      refine r_iconst X (pc := 90) (v := 5) (zw_dg dk_Pays_reckonAll 45 rfl) (by decide) ?_
      refine r_aload_n X (pc := 91) (i := 0) (zw_dg dk_Pays_reckonAll 46 rfl) rfl rfl ?_
      refine r_iload X (pc := 92) (i := 4) (zw_dg dk_Pays_reckonAll 47 rfl) rfl ?_
      obtain ⟨r17, hr17, hsem⟩ := zw_bd hsem
      refine r_callVi X (pc := 94) (As := [_]) (st := [.int 5, .ref 59]) (km_Pays_sumOfTurns hS hr17) ce_Pays_sumOfTurns kw_726 (zo hS 45 rfl rfl) rfl rfl ⟨Nat.le_of_ble_eq_true rfl, Nat.le_of_ble_eq_true rfl⟩ (Nat.le_of_ble_eq_true rfl) (zw_dg dk_Pays_reckonAll 48 rfl) ?_
      obtain ⟨c18, hc18, hsem⟩ := zw_bd hsem
      refine r_iast X (pc := 97) (zo hS 59 rfl rfl) hc18 (zw_dg dk_Pays_reckonAll 49 rfl) ?_
      refine r_iconst X (pc := 98) (v := 0) (zw_dg dk_Pays_reckonAll 50 rfl) (by decide) ?_
      refine r_istore X (pc := 99) (i := 6) (zw_dg dk_Pays_reckonAll 51 rfl) (by decide) rfl ?_
      obtain ⟨c21, hl22, hsl22⟩ := zw_bd hsem
      refine r_loop (pc := 101) (pce := 198) hl22 (fun (e19, c20) => [some (.ref 45), some (.ref code1), some (.int length2), some (.ref into3), some (.int saying6), some (.int r13), some (.int e19), none] : Int32 × zw_Ct → zw_Lc) (fun (e19, c20) => c20 : Int32 × zw_Ct → zw_Ct) (fun c21 => [some (.ref 45), some (.ref code1), some (.int length2), some (.ref into3), some (.int saying6), some (.int r13), none, none] : zw_Ct → zw_Lc) (fun c21 => c21 : zw_Ct → zw_Ct) ?_ rfl rfl ?_
      · rintro ⟨e19, c20⟩ rr hsem hK hP
        try unfold fn_Pays_reckonAll_l2 at hsem
        refine r_iload X (pc := 101) (i := 6) (zw_dg dk_Pays_reckonAll 52 rfl) rfl ?_
        refine r_aload_n X (pc := 103) (i := 0) (zw_dg dk_Pays_reckonAll 53 rfl) rfl rfl ?_
        refine r_getR X (pc := 104) (r := 1) ci_Pays (zo hS 45 rfl rfl) rfl (zr hS 45 0 rfl rfl) lk_Pays_38 (zw_dg dk_Pays_reckonAll 54 rfl) ?_
        refine r_getI X (pc := 107) ci_Sayings (zo hS 1 rfl rfl) rfl lk_Pays_102 (zw_dg dk_Pays_reckonAll 55 rfl) ?_
        refine r_icmp_ge X (pc := 110) (tgt := 198) (zw_dg dk_Pays_reckonAll 56 rfl) (by decide) (fun q24 => ?_) (fun q24 => ?_)
        · --
          have p23 : ¬ (e19 < (c20.1 1 0)) := (Int32.not_lt.mpr q24)
          have hsem := zw_ifn p23 hsem
          have jj := hK _ (Option.some.inj hsem).symm
          exact (r_fgt [6] rfl jj)
        · --
          have p23 : (e19 < (c20.1 1 0)) := (Int32.not_le.mp q24)
          have hsem := zw_ifp p23 hsem
          refine r_aload_n X (pc := 113) (i := 0) (zw_dg dk_Pays_reckonAll 57 rfl) rfl rfl ?_
          refine r_getR X (pc := 114) (r := 1) ci_Pays (zo hS 45 rfl rfl) rfl (zr hS 45 0 rfl rfl) lk_Pays_38 (zw_dg dk_Pays_reckonAll 58 rfl) ?_
          refine r_iload X (pc := 117) (i := 4) (zw_dg dk_Pays_reckonAll 59 rfl) rfl ?_
          refine r_iload X (pc := 119) (i := 6) (zw_dg dk_Pays_reckonAll 60 rfl) rfl ?_
          obtain ⟨r25, hr25, hsem⟩ := zw_bd hsem
          refine r_callVi X (pc := 121) (As := [_, _]) (st := []) (km_Sayings_partOf hS hr25) ce_Sayings_partOf kw_721 (zo hS 1 rfl rfl) rfl rfl ⟨Nat.le_of_ble_eq_true rfl, Nat.le_of_ble_eq_true rfl⟩ (Nat.le_of_ble_eq_true rfl) (zw_dg dk_Pays_reckonAll 61 rfl) ?_
          refine r_istore X (pc := 124) (i := 7) (zw_dg dk_Pays_reckonAll 62 rfl) (by decide) rfl ?_
          refine r_aload_n X (pc := 126) (i := 0) (zw_dg dk_Pays_reckonAll 63 rfl) rfl rfl ?_
          refine r_getR X (pc := 127) (r := 59) ci_Pays (zo hS 45 rfl rfl) rfl (zr hS 45 7 rfl rfl) lk_Pays_32 (zw_dg dk_Pays_reckonAll 64 rfl) ?_
          refine r_iconst X (pc := 130) (v := 0) (zw_dg dk_Pays_reckonAll 65 rfl) (by decide) ?_
          refine r_iload X (pc := 131) (i := 7) (zw_dg dk_Pays_reckonAll 66 rfl) rfl ?_
          obtain ⟨c26, hc26, hsem⟩ := zw_bd hsem
          refine r_iast X (pc := 133) (zo hS 59 rfl rfl) hc26 (zw_dg dk_Pays_reckonAll 67 rfl) ?_
          refine r_aload_n X (pc := 134) (i := 0) (zw_dg dk_Pays_reckonAll 68 rfl) rfl rfl ?_
          refine r_getR X (pc := 135) (r := 59) ci_Pays (zo hS 45 rfl rfl) rfl (zr hS 45 7 rfl rfl) lk_Pays_32 (zw_dg dk_Pays_reckonAll 69 rfl) ?_
          refine r_iconst X (pc := 138) (v := 3) (zw_dg dk_Pays_reckonAll 70 rfl) (by decide) ?_
          refine zw_ter (P := (r25 = r13)) (f := Value.int) (x := 1) (y := 0) (J := 151) (st2 := [.int 3, .ref 59]) (fun jT jF => ?_) ?_
          · --
            refine r_iload X (pc := 139) (i := 7) (zw_dg dk_Pays_reckonAll 71 rfl) rfl ?_
            refine r_iload X (pc := 141) (i := 5) (zw_dg dk_Pays_reckonAll 72 rfl) rfl ?_
            refine r_icmp_ne X (pc := 143) (tgt := 150) (zw_dg dk_Pays_reckonAll 73 rfl) (by decide) (fun q27 => ?_) (fun q27 => ?_)
            · --
              refine r_iconst X (pc := 150) (v := 0) (zw_dg dk_Pays_reckonAll 76 rfl) (by decide) ?_
              exact jF q27
            · --
              refine r_iconst X (pc := 146) (v := 1) (zw_dg dk_Pays_reckonAll 74 rfl) (by decide) ?_
              refine r_goto X (pc := 147) (tgt := 151) (zw_dg dk_Pays_reckonAll 75 rfl) (by decide) ?_
              exact jT q27
          obtain ⟨c28, hc28, hsem⟩ := zw_bd hsem
          refine r_iast X (pc := 151) (zo hS 59 rfl rfl) hc28 (zw_dg dk_Pays_reckonAll 77 rfl) ?_
          refine r_aload_n X (pc := 152) (i := 0) (zw_dg dk_Pays_reckonAll 78 rfl) rfl rfl ?_
          refine r_getR X (pc := 153) (r := 59) ci_Pays (zo hS 45 rfl rfl) rfl (zr hS 45 7 rfl rfl) lk_Pays_32 (zw_dg dk_Pays_reckonAll 79 rfl) ?_
          refine r_iconst X (pc := 156) (v := 4) (zw_dg dk_Pays_reckonAll 80 rfl) (by decide) ?_
          refine r_aload_n X (pc := 157) (i := 0) (zw_dg dk_Pays_reckonAll 81 rfl) rfl rfl ?_
          refine r_getR X (pc := 158) (r := 3) ci_Pays (zo hS 45 rfl rfl) rfl (zr hS 45 1 rfl rfl) lk_Pays_42 (zw_dg dk_Pays_reckonAll 82 rfl) ?_
          refine r_getR X (pc := 161) (r := 4) ci_Held (zo hS 3 rfl rfl) rfl (zr hS 3 0 rfl rfl) lk_Pays_78 (zw_dg dk_Pays_reckonAll 83 rfl) ?_
          refine r_iload X (pc := 164) (i := 7) (zw_dg dk_Pays_reckonAll 84 rfl) rfl ?_
          obtain ⟨x29, hx29, hsem⟩ := zw_bd hsem
          refine r_iald X (pc := 166) (zo hS 4 rfl rfl) hx29 (zw_dg dk_Pays_reckonAll 85 rfl) ?_
          obtain ⟨c30, hc30, hsem⟩ := zw_bd hsem
          refine r_iast X (pc := 167) (zo hS 59 rfl rfl) hc30 (zw_dg dk_Pays_reckonAll 86 rfl) ?_
          refine r_aload_n X (pc := 168) (i := 0) (zw_dg dk_Pays_reckonAll 87 rfl) rfl rfl ?_
          refine r_getR X (pc := 169) (r := 59) ci_Pays (zo hS 45 rfl rfl) rfl (zr hS 45 7 rfl rfl) lk_Pays_32 (zw_dg dk_Pays_reckonAll 88 rfl) ?_
          refine r_bipush X (pc := 172) (v := 6) (zw_dg dk_Pays_reckonAll 89 rfl) (by decide) ?_
          refine r_iload X (pc := 174) (i := 6) (zw_dg dk_Pays_reckonAll 90 rfl) rfl ?_
          obtain ⟨c31, hc31, hsem⟩ := zw_bd hsem
          refine r_iast X (pc := 176) (zo hS 59 rfl rfl) hc31 (zw_dg dk_Pays_reckonAll 91 rfl) ?_
          refine r_aload_n X (pc := 177) (i := 3) (zw_dg dk_Pays_reckonAll 92 rfl) rfl rfl ?_
          refine r_iload X (pc := 178) (i := 4) (zw_dg dk_Pays_reckonAll 93 rfl) rfl ?_
          refine r_iconst X (pc := 180) (v := 4) (zw_dg dk_Pays_reckonAll 94 rfl) (by decide) ?_
          refine r_imul X (pc := 181) (zw_dg dk_Pays_reckonAll 95 rfl)  ?_
          refine r_iload X (pc := 182) (i := 6) (zw_dg dk_Pays_reckonAll 96 rfl) rfl ?_
          refine r_iadd X (pc := 184) (zw_dg dk_Pays_reckonAll 97 rfl)  ?_
          refine r_aload_n X (pc := 185) (i := 0) (zw_dg dk_Pays_reckonAll 98 rfl) rfl rfl ?_
          refine r_aload_n X (pc := 186) (i := 1) (zw_dg dk_Pays_reckonAll 99 rfl) rfl rfl ?_
          refine r_iload_n X (pc := 187) (i := 2) (zw_dg dk_Pays_reckonAll 100 rfl) rfl rfl ?_
          obtain ⟨⟨r32, c33⟩, hr32_c33, hsem⟩ := zw_bd hsem
          refine r_callVi X (pc := 188) (As := [_, _]) (st := [.int ((saying6 * 4) + e19), .ref into3]) (km_Pays_reckon hS hr32_c33) ce_Pays_reckon kw_730 (zo hS 45 rfl rfl) rfl rfl ⟨Nat.le_of_ble_eq_true rfl, Nat.le_of_ble_eq_true rfl⟩ (Nat.le_of_ble_eq_true rfl) (zw_dg dk_Pays_reckonAll 101 rfl) ?_
          obtain ⟨c34, hc34, hsem⟩ := zw_bd hsem
          obtain ⟨_, hnc34, hc34⟩ := zw_bd hc34
          refine r_iast X (pc := 191) (zd hS (zw_len_of hnc34)) hc34 (zw_dg dk_Pays_reckonAll 102 rfl) ?_
          refine r_iinc X (pc := 192) (i := 6) (k := 1) (zw_dg dk_Pays_reckonAll 103 rfl) rfl (by decide) (by decide) rfl ?_
          refine r_goto X (pc := 195) (tgt := 101) (zw_dg dk_Pays_reckonAll 104 rfl) (by decide) ?_
          have jj := hP _ (Option.some.inj hsem).symm
          exact (r_fgt [7] rfl jj)
      have hsem := hsl22
      refine r_iinc X (pc := 198) (i := 4) (k := 1) (zw_dg dk_Pays_reckonAll 105 rfl) rfl (by decide) (by decide) rfl ?_
      refine r_goto X (pc := 201) (tgt := 31) (zw_dg dk_Pays_reckonAll 106 rfl) (by decide) ?_
      have jj := hP _ (Option.some.inj hsem).symm
      exact (r_fgt [5] rfl jj)
  have hsem := hsl9
  cases hsem
  exact r_vret X (pc := 204) rfl (zw_dg dk_Pays_reckonAll 107 rfl)
def y_Pays_valuesOf : MethodName := ⟨R_Pays, "valuesOf", "(I)[I"⟩
abbrev b_Pays_valuesOf : ByteArray := prog_8_method_2_code
def dl_Pays_valuesOf : List (Nat × Instr × Nat) := [(0, .iload_n 1, 1), (1, .ifCond .lt 17, 3), (4, .iload_n 1, 1), (5, .iconst 4, 1), (6, .if_icmp .ge 12, 3), (9, .aload_n 0, 1), (10, .getfield 9, 3), (13, .iload_n 1, 1), (14, .iaload, 1), (15, .ifCond .ne 5, 3), (18, .aconst_null, 1), (19, .areturn, 1), (20, .aload_n 0, 1), (21, .getfield 28, 3), (24, .iload_n 1, 1), (25, .baload, 1), (26, .ifCond .ne 32, 3), (29, .aload_n 0, 1), (30, .aload_n 0, 1), (31, .getfield 19, 3), (34, .iload_n 1, 1), (35, .aaload, 1), (36, .aload_n 0, 1), (37, .getfield 22, 3), (40, .iload_n 1, 1), (41, .iaload, 1), (42, .aload_n 0, 1), (43, .getfield 25, 3), (46, .iload_n 1, 1), (47, .aaload, 1), (48, .invokevirtual 46, 3), (51, .aload_n 0, 1), (52, .getfield 28, 3), (55, .iload_n 1, 1), (56, .iconst 1, 1), (57, .bastore, 1), (58, .aload_n 0, 1), (59, .getfield 25, 3), (62, .iload_n 1, 1), (63, .aaload, 1), (64, .areturn, 1)]
theorem dk_Pays_valuesOf : zw_dk b_Pays_valuesOf dl_Pays_valuesOf = true := by decide +kernel
theorem ce_Pays_valuesOf : zw_cev y_Pays_valuesOf b_Pays_valuesOf 2 (some (.array .int)) 1 := ⟨⟨kt_in 708 (by decide +kernel) rfl, kt_in 92 (by decide +kernel) rfl, by decide +kernel⟩, kt_in 706 (by decide +kernel) rfl, kt_in 707 (by decide +kernel) rfl⟩
def fn_Pays_valuesOf (c : zw_Ct) (pay1 : Int32) : Option ((Option Nat) × zw_Ct) :=
  if (pay1 < 0) then
  (some (none, c))
  else
  (if (4 ≤ pay1) then
  (some (none, c))
  else
  ((zw_aI 4 c 46 pay1).bind fun x6 =>
  if (x6 = 0) then
  (some (none, c))
  else
  ((zw_aI 4 c 58 pay1).bind fun x9 =>
  (if (¬ (¬ x9 = 0)) then
  ((zw_gr 48 4 1 pay1).bind fun r13 =>
  (zw_aI 4 c 52 pay1).bind fun x14 =>
  (zw_gr 54 4 1 pay1).bind fun r15 =>
  (fn_Pays_reckonAll c r13 x14 r15).bind fun c16 =>
  (zw_uI 4 c16 58 pay1 1).bind fun c17 =>
  some c17)
  else
  (some c)).bind fun c10 =>
  (zw_gr 54 4 1 pay1).bind fun r18 =>
  some ((some r18), c10))))
set_option maxRecDepth 100000 in
theorem km_Pays_valuesOf {l : Launch} {g : zw_G} {rr : zw_RR} {sh : zw_Sh} {c : zw_Ct} {pay1 : Int32} {r : Option Nat} {c2 : zw_Ct} (hS : zw_Ok 0 101 sh rr) (hsem : fn_Pays_valuesOf c pay1 = some (r, c2)) : zw_Met l g y_Pays_valuesOf b_Pays_valuesOf 2 (some (.array .int)) 4 rr sh [.ref 45, .int pay1] c (some (zw_ov r)) c2 := by
  unfold fn_Pays_valuesOf at hsem
  refine zw_Met.of (by decide +kernel) (Nat.le_of_ble_eq_true rfl) (fun p e s m args below meth cd X => ?_)
  refine zw_eL (L2 := [some (.ref 45), some (.int pay1)]) rfl ?_
  refine r_iload_n X (pc := 0) (i := 1) (zw_dg dk_Pays_valuesOf 0 rfl) rfl rfl ?_
  refine r_if_lt X (pc := 1) (tgt := 18) (zw_dg dk_Pays_valuesOf 1 rfl) (by decide) (fun q3 => ?_) (fun q3 => ?_)
  · --
    have p2 : (pay1 < 0) := q3
    have hsem := zw_ifp p2 hsem
    refine r_aconst_null X (pc := 18) (zw_dg dk_Pays_valuesOf 10 rfl)  ?_
    cases hsem
    exact r_aretO X (pc := 19) rfl (zw_dg dk_Pays_valuesOf 11 rfl)
  · --
    have p2 : ¬ (pay1 < 0) := q3
    have hsem := zw_ifn p2 hsem
    refine r_iload_n X (pc := 4) (i := 1) (zw_dg dk_Pays_valuesOf 2 rfl) rfl rfl ?_
    refine r_iconst X (pc := 5) (v := 4) (zw_dg dk_Pays_valuesOf 3 rfl) (by decide) ?_
    refine r_icmp_ge X (pc := 6) (tgt := 18) (zw_dg dk_Pays_valuesOf 4 rfl) (by decide) (fun q5 => ?_) (fun q5 => ?_)
    · --
      have p4 : (4 ≤ pay1) := q5
      have hsem := zw_ifp p4 hsem
      refine r_aconst_null X (pc := 18) (zw_dg dk_Pays_valuesOf 10 rfl)  ?_
      cases hsem
      exact r_aretO X (pc := 19) rfl (zw_dg dk_Pays_valuesOf 11 rfl)
    · --
      have p4 : ¬ (4 ≤ pay1) := q5
      have hsem := zw_ifn p4 hsem
      refine r_aload_n X (pc := 9) (i := 0) (zw_dg dk_Pays_valuesOf 5 rfl) rfl rfl ?_
      refine r_getR X (pc := 10) (r := 46) ci_Pays (zo hS 45 rfl rfl) rfl (zr hS 45 2 rfl rfl) lk_Pays_9 (zw_dg dk_Pays_valuesOf 6 rfl) ?_
      refine r_iload_n X (pc := 13) (i := 1) (zw_dg dk_Pays_valuesOf 7 rfl) rfl rfl ?_
      obtain ⟨x6, hx6, hsem⟩ := zw_bd hsem
      refine r_iald X (pc := 14) (zo hS 46 rfl rfl) hx6 (zw_dg dk_Pays_valuesOf 8 rfl) ?_
      refine r_if_ne X (pc := 15) (tgt := 20) (zw_dg dk_Pays_valuesOf 9 rfl) (by decide) (fun q8 => ?_) (fun q8 => ?_)
      · --
        have p7 : ¬ (x6 = 0) := q8
        have hsem := zw_ifn p7 hsem
        refine r_aload_n X (pc := 20) (i := 0) (zw_dg dk_Pays_valuesOf 12 rfl) rfl rfl ?_
        refine r_getR X (pc := 21) (r := 58) ci_Pays (zo hS 45 rfl rfl) rfl (zr hS 45 6 rfl rfl) lk_Pays_28 (zw_dg dk_Pays_valuesOf 13 rfl) ?_
        refine r_iload_n X (pc := 24) (i := 1) (zw_dg dk_Pays_valuesOf 14 rfl) rfl rfl ?_
        obtain ⟨x9, hx9, hsem⟩ := zw_bd hsem
        refine r_zald X (pc := 25) (zo hS 58 rfl rfl) hx9 (zw_dg dk_Pays_valuesOf 15 rfl) ?_
        obtain ⟨c10, ht58, hs58⟩ := zw_bd hsem
        refine zw_jn (J := 58) (L2 := [some (.ref 45), some (.int pay1)]) (c2 := c10) (fun jj => ?_) ?_
        · have hsem := ht58
          refine r_if_ne X (pc := 26) (tgt := 58) (zw_dg dk_Pays_valuesOf 16 rfl) (by decide) (fun q12 => ?_) (fun q12 => ?_)
          · --
            have p11 : ¬ (¬ (¬ x9 = 0)) := (fun q => q q12)
            have hsem := zw_ifn p11 hsem
            cases hsem
            exact (r_fgt [] rfl jj)
          · --
            have p11 : (¬ (¬ x9 = 0)) := (fun z => z q12)
            have hsem := zw_ifp p11 hsem
            refine r_aload_n X (pc := 29) (i := 0) (zw_dg dk_Pays_valuesOf 17 rfl) rfl rfl ?_
            refine r_aload_n X (pc := 30) (i := 0) (zw_dg dk_Pays_valuesOf 18 rfl) rfl rfl ?_
            refine r_getR X (pc := 31) (r := 47) ci_Pays (zo hS 45 rfl rfl) rfl (zr hS 45 3 rfl rfl) lk_Pays_19 (zw_dg dk_Pays_valuesOf 19 rfl) ?_
            refine r_iload_n X (pc := 34) (i := 1) (zw_dg dk_Pays_valuesOf 20 rfl) rfl rfl ?_
            obtain ⟨r13, hr13, hsem⟩ := zw_bd hsem
            refine r_aald X (pc := 35) (t := 4) (zo hS 47 rfl rfl) (by decide) rfl rfl (zw_gr_in hr13) (zgr hS 47 hr13 rfl) (zw_dg dk_Pays_valuesOf 21 rfl) ?_
            refine r_aload_n X (pc := 36) (i := 0) (zw_dg dk_Pays_valuesOf 22 rfl) rfl rfl ?_
            refine r_getR X (pc := 37) (r := 52) ci_Pays (zo hS 45 rfl rfl) rfl (zr hS 45 4 rfl rfl) lk_Pays_22 (zw_dg dk_Pays_valuesOf 23 rfl) ?_
            refine r_iload_n X (pc := 40) (i := 1) (zw_dg dk_Pays_valuesOf 24 rfl) rfl rfl ?_
            obtain ⟨x14, hx14, hsem⟩ := zw_bd hsem
            refine r_iald X (pc := 41) (zo hS 52 rfl rfl) hx14 (zw_dg dk_Pays_valuesOf 25 rfl) ?_
            refine r_aload_n X (pc := 42) (i := 0) (zw_dg dk_Pays_valuesOf 26 rfl) rfl rfl ?_
            refine r_getR X (pc := 43) (r := 53) ci_Pays (zo hS 45 rfl rfl) rfl (zr hS 45 5 rfl rfl) lk_Pays_25 (zw_dg dk_Pays_valuesOf 27 rfl) ?_
            refine r_iload_n X (pc := 46) (i := 1) (zw_dg dk_Pays_valuesOf 28 rfl) rfl rfl ?_
            obtain ⟨r15, hr15, hsem⟩ := zw_bd hsem
            refine r_aald X (pc := 47) (t := 4) (zo hS 53 rfl rfl) (by decide) rfl rfl (zw_gr_in hr15) (zgr hS 53 hr15 rfl) (zw_dg dk_Pays_valuesOf 29 rfl) ?_
            obtain ⟨c16, hc16, hsem⟩ := zw_bd hsem
            refine r_callVv X (pc := 48) (As := [_, _, _]) (st := []) (km_Pays_reckonAll hS hc16) ce_Pays_reckonAll kw_709 (zo hS 45 rfl rfl) rfl rfl ⟨Nat.le_of_ble_eq_true rfl, Nat.le_of_ble_eq_true rfl⟩ (Nat.le_of_ble_eq_true rfl) (zw_dg dk_Pays_valuesOf 30 rfl) ?_
            refine r_aload_n X (pc := 51) (i := 0) (zw_dg dk_Pays_valuesOf 31 rfl) rfl rfl ?_
            refine r_getR X (pc := 52) (r := 58) ci_Pays (zo hS 45 rfl rfl) rfl (zr hS 45 6 rfl rfl) lk_Pays_28 (zw_dg dk_Pays_valuesOf 32 rfl) ?_
            refine r_iload_n X (pc := 55) (i := 1) (zw_dg dk_Pays_valuesOf 33 rfl) rfl rfl ?_
            refine r_iconst X (pc := 56) (v := 1) (zw_dg dk_Pays_valuesOf 34 rfl) (by decide) ?_
            obtain ⟨c17, hc17, hsem⟩ := zw_bd hsem
            refine r_zast X (pc := 57) (zo hS 58 rfl rfl) (by rw [(zw_bzn (by decide)).2.2]; exact hc17) (zw_dg dk_Pays_valuesOf 35 rfl) ?_
            cases hsem
            exact (r_fgt [] rfl jj)
        have hsem := hs58
        refine r_aload_n X (pc := 58) (i := 0) (zw_dg dk_Pays_valuesOf 36 rfl) rfl rfl ?_
        refine r_getR X (pc := 59) (r := 53) ci_Pays (zo hS 45 rfl rfl) rfl (zr hS 45 5 rfl rfl) lk_Pays_25 (zw_dg dk_Pays_valuesOf 37 rfl) ?_
        refine r_iload_n X (pc := 62) (i := 1) (zw_dg dk_Pays_valuesOf 38 rfl) rfl rfl ?_
        obtain ⟨r18, hr18, hsem⟩ := zw_bd hsem
        refine r_aald X (pc := 63) (t := 4) (zo hS 53 rfl rfl) (by decide) rfl rfl (zw_gr_in hr18) (zgr hS 53 hr18 rfl) (zw_dg dk_Pays_valuesOf 39 rfl) ?_
        refine zw_topRO ?_
        cases hsem
        exact r_aretO X (pc := 64) rfl (zw_dg dk_Pays_valuesOf 40 rfl)
      · --
        have p7 : (x6 = 0) := q8
        have hsem := zw_ifp p7 hsem
        refine r_aconst_null X (pc := 18) (zw_dg dk_Pays_valuesOf 10 rfl)  ?_
        cases hsem
        exact r_aretO X (pc := 19) rfl (zw_dg dk_Pays_valuesOf 11 rfl)
def y_Pays_bits : MethodName := ⟨R_Pays, "bits", "()I"⟩
abbrev b_Pays_bits : ByteArray := prog_8_method_3_code
def dl_Pays_bits : List (Nat × Instr × Nat) := [(0, .iconst 0, 1), (1, .istore_n 1, 1), (2, .iconst 0, 1), (3, .istore_n 2, 1), (4, .iload_n 2, 1), (5, .iconst 4, 1), (6, .if_icmp .ge 28, 3), (9, .iload_n 1, 1), (10, .aload_n 0, 1), (11, .getfield 9, 3), (14, .iload_n 2, 1), (15, .iaload, 1), (16, .ifCond .ne 7, 3), (19, .iconst 0, 1), (20, .goto 6, 3), (23, .iconst 1, 1), (24, .iload_n 2, 1), (25, .ishl, 1), (26, .ior, 1), (27, .istore_n 1, 1), (28, .iinc 2 1, 3), (31, .goto (-27), 3), (34, .iload_n 1, 1), (35, .ireturn, 1)]
theorem dk_Pays_bits : zw_dk b_Pays_bits dl_Pays_bits = true := by decide +kernel
theorem ce_Pays_bits : zw_cev y_Pays_bits b_Pays_bits 3 (some .int) 0 := ⟨⟨kt_in 1354 (by decide +kernel) rfl, kt_in 92 (by decide +kernel) rfl, by decide +kernel⟩, kt_in 1352 (by decide +kernel) rfl, kt_in 1353 (by decide +kernel) rfl⟩
def fn_Pays_bits_l1 (c : zw_Ct) : Int32 × Int32 → Option ((Int32) ⊕ (Int32 × Int32)) := fun (bits1, pay2) =>
  if (pay2 < 4) then
  ((zw_aI 4 c 46 pay2).bind fun x7 =>
  (some ((bits1 ||| (if (x7 = 0) then (0 : Int32) else (1 <<< (pay2 &&& 31)))) : Int32)).bind fun bits9 =>
  some (.inr (bits9, (pay2 + 1))))
  else
  (some (.inl bits1))
def fn_Pays_bits (c : zw_Ct) : Option Int32 :=
  (zw_whl (fn_Pays_bits_l1 c) zw_F (0, 0)).bind fun bits3 =>
  some bits3
set_option maxRecDepth 100000 in
theorem km_Pays_bits {l : Launch} {g : zw_G} {rr : zw_RR} {sh : zw_Sh} {c : zw_Ct} {r : Int32} (hS : zw_Ok 0 101 sh rr) (hsem : fn_Pays_bits c = some r) : zw_Met l g y_Pays_bits b_Pays_bits 3 (some .int) 1 rr sh [.ref 45] c (some (.int r)) c := by
  unfold fn_Pays_bits at hsem
  refine zw_Met.of (by decide +kernel) (Nat.le_of_ble_eq_true rfl) (fun p e s m args below meth cd X => ?_)
  refine zw_eL (L2 := [some (.ref 45), none, none]) rfl ?_
  refine r_iconst X (pc := 0) (v := 0) (zw_dg dk_Pays_bits 0 rfl) (by decide) ?_
  refine r_istore_n X (pc := 1) (i := 1) (zw_dg dk_Pays_bits 1 rfl) rfl (by decide) rfl ?_
  refine r_iconst X (pc := 2) (v := 0) (zw_dg dk_Pays_bits 2 rfl) (by decide) ?_
  refine r_istore_n X (pc := 3) (i := 2) (zw_dg dk_Pays_bits 3 rfl) rfl (by decide) rfl ?_
  obtain ⟨bits3, hl4, hsl4⟩ := zw_bd hsem
  refine r_loop (pc := 4) (pce := 34) hl4 (fun (bits1, pay2) => [some (.ref 45), some (.int bits1), some (.int pay2)] : Int32 × Int32 → zw_Lc) (fun (bits1, pay2) => c : Int32 × Int32 → zw_Ct) (fun bits3 => [some (.ref 45), some (.int bits3), none] : Int32 → zw_Lc) (fun bits3 => c : Int32 → zw_Ct) ?_ rfl rfl ?_
  · rintro ⟨bits1, pay2⟩ rr hsem hK hP
    try unfold fn_Pays_bits_l1 at hsem
    refine r_iload_n X (pc := 4) (i := 2) (zw_dg dk_Pays_bits 4 rfl) rfl rfl ?_
    refine r_iconst X (pc := 5) (v := 4) (zw_dg dk_Pays_bits 5 rfl) (by decide) ?_
    refine r_icmp_ge X (pc := 6) (tgt := 34) (zw_dg dk_Pays_bits 6 rfl) (by decide) (fun q6 => ?_) (fun q6 => ?_)
    · --
      have p5 : ¬ (pay2 < 4) := (Int32.not_lt.mpr q6)
      have hsem := zw_ifn p5 hsem
      have jj := hK _ (Option.some.inj hsem).symm
      exact (r_fgt [2] rfl jj)
    · --
      have p5 : (pay2 < 4) := (Int32.not_le.mp q6)
      have hsem := zw_ifp p5 hsem
      refine r_iload_n X (pc := 9) (i := 1) (zw_dg dk_Pays_bits 7 rfl) rfl rfl ?_
      refine r_aload_n X (pc := 10) (i := 0) (zw_dg dk_Pays_bits 8 rfl) rfl rfl ?_
      refine r_getR X (pc := 11) (r := 46) ci_Pays (zo hS 45 rfl rfl) rfl (zr hS 45 2 rfl rfl) lk_Pays_9 (zw_dg dk_Pays_bits 9 rfl) ?_
      refine r_iload_n X (pc := 14) (i := 2) (zw_dg dk_Pays_bits 10 rfl) rfl rfl ?_
      obtain ⟨x7, hx7, hsem⟩ := zw_bd hsem
      refine r_iald X (pc := 15) (zo hS 46 rfl rfl) hx7 (zw_dg dk_Pays_bits 11 rfl) ?_
      refine zw_ter (P := (x7 = 0)) (f := Value.int) (x := 0) (y := (1 <<< (pay2 &&& 31))) (J := 26) (st2 := [.int bits1]) (fun jT jF => ?_) ?_
      · --
        refine r_if_ne X (pc := 16) (tgt := 23) (zw_dg dk_Pays_bits 12 rfl) (by decide) (fun q8 => ?_) (fun q8 => ?_)
        · --
          refine r_iconst X (pc := 23) (v := 1) (zw_dg dk_Pays_bits 15 rfl) (by decide) ?_
          refine r_iload_n X (pc := 24) (i := 2) (zw_dg dk_Pays_bits 16 rfl) rfl rfl ?_
          refine r_ishl X (pc := 25) (zw_dg dk_Pays_bits 17 rfl)  ?_
          exact jF q8
        · --
          refine r_iconst X (pc := 19) (v := 0) (zw_dg dk_Pays_bits 13 rfl) (by decide) ?_
          refine r_goto X (pc := 20) (tgt := 26) (zw_dg dk_Pays_bits 14 rfl) (by decide) ?_
          exact jT q8
      refine r_ior X (pc := 26) (zw_dg dk_Pays_bits 18 rfl)  ?_
      obtain ⟨bits9, hbits9, hsem⟩ := zw_bd hsem
      refine zw_topI hbits9 ?_
      refine r_istore_n X (pc := 27) (i := 1) (zw_dg dk_Pays_bits 19 rfl) rfl (by decide) rfl ?_
      refine r_iinc X (pc := 28) (i := 2) (k := 1) (zw_dg dk_Pays_bits 20 rfl) rfl (by decide) (by decide) rfl ?_
      refine r_goto X (pc := 31) (tgt := 4) (zw_dg dk_Pays_bits 21 rfl) (by decide) ?_
      have jj := hP _ (Option.some.inj hsem).symm
      exact (r_fgt [] rfl jj)
  have hsem := hsl4
  refine r_iload_n X (pc := 34) (i := 1) (zw_dg dk_Pays_bits 22 rfl) rfl rfl ?_
  cases hsem
  exact r_iret X (pc := 35) rfl (zw_dg dk_Pays_bits 23 rfl)
def y_Pays_drop : MethodName := ⟨R_Pays, "drop", "(I)V"⟩
abbrev b_Pays_drop : ByteArray := prog_8_method_4_code
def dl_Pays_drop : List (Nat × Instr × Nat) := [(0, .aload_n 0, 1), (1, .getfield 9, 3), (4, .iload_n 1, 1), (5, .iconst 0, 1), (6, .iastore, 1), (7, .return_, 1)]
theorem dk_Pays_drop : zw_dk b_Pays_drop dl_Pays_drop = true := by decide +kernel
theorem ce_Pays_drop : zw_cev y_Pays_drop b_Pays_drop 2 (none) 1 := ⟨⟨kt_in 511 (by decide +kernel) rfl, kt_in 92 (by decide +kernel) rfl, by decide +kernel⟩, kt_in 509 (by decide +kernel) rfl, kt_in 510 (by decide +kernel) rfl⟩
def fn_Pays_drop (c : zw_Ct) (pay1 : Int32) : Option zw_Ct :=
  (zw_uI 4 c 46 pay1 0).bind fun c3 =>
  some c3
set_option maxRecDepth 100000 in
theorem km_Pays_drop {l : Launch} {g : zw_G} {rr : zw_RR} {sh : zw_Sh} {c : zw_Ct} {pay1 : Int32} {c2 : zw_Ct} (hS : zw_Ok 0 101 sh rr) (hsem : fn_Pays_drop c pay1 = some c2) : zw_Met l g y_Pays_drop b_Pays_drop 2 (none) 1 rr sh [.ref 45, .int pay1] c none c2 := by
  unfold fn_Pays_drop at hsem
  refine zw_Met.of (by decide +kernel) (Nat.le_of_ble_eq_true rfl) (fun p e s m args below meth cd X => ?_)
  refine zw_eL (L2 := [some (.ref 45), some (.int pay1)]) rfl ?_
  refine r_aload_n X (pc := 0) (i := 0) (zw_dg dk_Pays_drop 0 rfl) rfl rfl ?_
  refine r_getR X (pc := 1) (r := 46) ci_Pays (zo hS 45 rfl rfl) rfl (zr hS 45 2 rfl rfl) lk_Pays_9 (zw_dg dk_Pays_drop 1 rfl) ?_
  refine r_iload_n X (pc := 4) (i := 1) (zw_dg dk_Pays_drop 2 rfl) rfl rfl ?_
  refine r_iconst X (pc := 5) (v := 0) (zw_dg dk_Pays_drop 3 rfl) (by decide) ?_
  obtain ⟨c3, hc3, hsem⟩ := zw_bd hsem
  refine r_iast X (pc := 6) (zo hS 46 rfl rfl) hc3 (zw_dg dk_Pays_drop 4 rfl) ?_
  cases hsem
  exact r_vret X (pc := 7) rfl (zw_dg dk_Pays_drop 5 rfl)
def y_Pays_tell : MethodName := ⟨R_Pays, "tell", "(ILPaidForThinking$Text;)V"⟩
abbrev b_Pays_tell : ByteArray := prog_8_method_5_code
def dl_Pays_tell : List (Nat × Instr × Nat) := [(0, .aload_n 2, 1), (1, .getfield 50, 3), (4, .iconst 0, 1), (5, .aload_n 0, 1), (6, .getfield 19, 3), (9, .iload_n 1, 1), (10, .aaload, 1), (11, .iconst 0, 1), (12, .aload_n 2, 1), (13, .getfield 53, 3), (16, .invokestatic 56, 3), (19, .aload_n 0, 1), (20, .getfield 22, 3), (23, .iload_n 1, 1), (24, .aload_n 2, 1), (25, .getfield 53, 3), (28, .iastore, 1), (29, .aload_n 0, 1), (30, .getfield 9, 3), (33, .iload_n 1, 1), (34, .iconst 1, 1), (35, .iastore, 1), (36, .aload_n 0, 1), (37, .getfield 28, 3), (40, .iload_n 1, 1), (41, .iconst 0, 1), (42, .bastore, 1), (43, .return_, 1)]
theorem dk_Pays_tell : zw_dk b_Pays_tell dl_Pays_tell = true := by decide +kernel
theorem ce_Pays_tell : zw_cev y_Pays_tell b_Pays_tell 3 (none) 2 := ⟨⟨kt_in 692 (by decide +kernel) rfl, kt_in 92 (by decide +kernel) rfl, by decide +kernel⟩, kt_in 690 (by decide +kernel) rfl, kt_in 691 (by decide +kernel) rfl⟩
def fn_Pays_tell (c : zw_Ct) (pay1 : Int32) : Option zw_Ct :=
  (zw_gr 48 4 1 pay1).bind fun r2 =>
  (zw_len SH 0 r2).bind fun n4 =>
  (zw_cp 60 n4 c 42 0 r2 0 (c.1 40 3)).bind fun c3 =>
  (zw_uI 4 c3 52 pay1 (c3.1 40 3)).bind fun c5 =>
  (zw_uI 4 c5 46 pay1 1).bind fun c6 =>
  (zw_uI 4 c6 58 pay1 0).bind fun c7 =>
  some c7
set_option maxRecDepth 100000 in
theorem km_Pays_tell {l : Launch} {g : zw_G} {rr : zw_RR} {sh : zw_Sh} {c : zw_Ct} {pay1 : Int32} {c2 : zw_Ct} (hS : zw_Ok 0 101 sh rr) (hsem : fn_Pays_tell c pay1 = some c2) : zw_Met l g y_Pays_tell b_Pays_tell 3 (none) 1 rr sh [.ref 45, .int pay1, .ref 40] c none c2 := by
  unfold fn_Pays_tell at hsem
  refine zw_Met.of (by decide +kernel) (Nat.le_of_ble_eq_true rfl) (fun p e s m args below meth cd X => ?_)
  refine zw_eL (L2 := [some (.ref 45), some (.int pay1), some (.ref 40)]) rfl ?_
  refine r_aload_n X (pc := 0) (i := 2) (zw_dg dk_Pays_tell 0 rfl) rfl rfl ?_
  refine r_getR X (pc := 1) (r := 42) ci_Text (zo hS 40 rfl rfl) rfl (zr hS 40 2 rfl rfl) lk_Pays_50 (zw_dg dk_Pays_tell 1 rfl) ?_
  refine r_iconst X (pc := 4) (v := 0) (zw_dg dk_Pays_tell 2 rfl) (by decide) ?_
  refine r_aload_n X (pc := 5) (i := 0) (zw_dg dk_Pays_tell 3 rfl) rfl rfl ?_
  refine r_getR X (pc := 6) (r := 47) ci_Pays (zo hS 45 rfl rfl) rfl (zr hS 45 3 rfl rfl) lk_Pays_19 (zw_dg dk_Pays_tell 4 rfl) ?_
  refine r_iload_n X (pc := 9) (i := 1) (zw_dg dk_Pays_tell 5 rfl) rfl rfl ?_
  obtain ⟨r2, hr2, hsem⟩ := zw_bd hsem
  refine r_aald X (pc := 10) (t := 4) (zo hS 47 rfl rfl) (by decide) rfl rfl (zw_gr_in hr2) (zgr hS 47 hr2 rfl) (zw_dg dk_Pays_tell 6 rfl) ?_
  refine r_iconst X (pc := 11) (v := 0) (zw_dg dk_Pays_tell 7 rfl) (by decide) ?_
  refine r_aload_n X (pc := 12) (i := 2) (zw_dg dk_Pays_tell 8 rfl) rfl rfl ?_
  refine r_getI X (pc := 13) ci_Text (zo hS 40 rfl rfl) rfl lk_Pays_53 (zw_dg dk_Pays_tell 9 rfl) ?_
  obtain ⟨n4, hn4, hsem⟩ := zw_bd hsem
  obtain ⟨c3, hc3, hsem⟩ := zw_bd hsem
  refine r_copy X (pc := 16) kw_693 kw_695 kw_694 kw_108 (zo hS 42 rfl rfl) (zd hS (zw_len_of hn4)) hc3 ⟨Nat.le_of_ble_eq_true rfl, by decide⟩ (st := []) (Nat.le_of_ble_eq_true rfl) (zw_dg dk_Pays_tell 10 rfl) ?_
  refine r_aload_n X (pc := 19) (i := 0) (zw_dg dk_Pays_tell 11 rfl) rfl rfl ?_
  refine r_getR X (pc := 20) (r := 52) ci_Pays (zo hS 45 rfl rfl) rfl (zr hS 45 4 rfl rfl) lk_Pays_22 (zw_dg dk_Pays_tell 12 rfl) ?_
  refine r_iload_n X (pc := 23) (i := 1) (zw_dg dk_Pays_tell 13 rfl) rfl rfl ?_
  refine r_aload_n X (pc := 24) (i := 2) (zw_dg dk_Pays_tell 14 rfl) rfl rfl ?_
  refine r_getI X (pc := 25) ci_Text (zo hS 40 rfl rfl) rfl lk_Pays_53 (zw_dg dk_Pays_tell 15 rfl) ?_
  obtain ⟨c5, hc5, hsem⟩ := zw_bd hsem
  refine r_iast X (pc := 28) (zo hS 52 rfl rfl) hc5 (zw_dg dk_Pays_tell 16 rfl) ?_
  refine r_aload_n X (pc := 29) (i := 0) (zw_dg dk_Pays_tell 17 rfl) rfl rfl ?_
  refine r_getR X (pc := 30) (r := 46) ci_Pays (zo hS 45 rfl rfl) rfl (zr hS 45 2 rfl rfl) lk_Pays_9 (zw_dg dk_Pays_tell 18 rfl) ?_
  refine r_iload_n X (pc := 33) (i := 1) (zw_dg dk_Pays_tell 19 rfl) rfl rfl ?_
  refine r_iconst X (pc := 34) (v := 1) (zw_dg dk_Pays_tell 20 rfl) (by decide) ?_
  obtain ⟨c6, hc6, hsem⟩ := zw_bd hsem
  refine r_iast X (pc := 35) (zo hS 46 rfl rfl) hc6 (zw_dg dk_Pays_tell 21 rfl) ?_
  refine r_aload_n X (pc := 36) (i := 0) (zw_dg dk_Pays_tell 22 rfl) rfl rfl ?_
  refine r_getR X (pc := 37) (r := 58) ci_Pays (zo hS 45 rfl rfl) rfl (zr hS 45 6 rfl rfl) lk_Pays_28 (zw_dg dk_Pays_tell 23 rfl) ?_
  refine r_iload_n X (pc := 40) (i := 1) (zw_dg dk_Pays_tell 24 rfl) rfl rfl ?_
  refine r_iconst X (pc := 41) (v := 0) (zw_dg dk_Pays_tell 25 rfl) (by decide) ?_
  obtain ⟨c7, hc7, hsem⟩ := zw_bd hsem
  refine r_zast X (pc := 42) (zo hS 58 rfl rfl) (by rw [(zw_bzn (by decide)).2.2]; exact hc7) (zw_dg dk_Pays_tell 26 rfl) ?_
  cases hsem
  exact r_vret X (pc := 43) rfl (zw_dg dk_Pays_tell 27 rfl)
def y_Pays_turnChanged : MethodName := ⟨R_Pays, "turnChanged", "()V"⟩
abbrev b_Pays_turnChanged : ByteArray := prog_8_method_6_code
def dl_Pays_turnChanged : List (Nat × Instr × Nat) := [(0, .iconst 0, 1), (1, .istore_n 1, 1), (2, .iload_n 1, 1), (3, .iconst 4, 1), (4, .if_icmp .ge 30, 3), (7, .aload_n 0, 1), (8, .getfield 28, 3), (11, .iload_n 1, 1), (12, .aload_n 0, 1), (13, .getfield 9, 3), (16, .iload_n 1, 1), (17, .iaload, 1), (18, .iconst 2, 1), (19, .if_icmp .ne 7, 3), (22, .iconst 1, 1), (23, .goto 4, 3), (26, .iconst 0, 1), (27, .bastore, 1), (28, .iinc 1 1, 3), (31, .goto (-29), 3), (34, .return_, 1)]
theorem dk_Pays_turnChanged : zw_dk b_Pays_turnChanged dl_Pays_turnChanged = true := by decide +kernel
theorem ce_Pays_turnChanged : zw_cev y_Pays_turnChanged b_Pays_turnChanged 2 (none) 0 := ⟨⟨kt_in 515 (by decide +kernel) rfl, kt_in 92 (by decide +kernel) rfl, by decide +kernel⟩, kt_in 513 (by decide +kernel) rfl, kt_in 514 (by decide +kernel) rfl⟩
def fn_Pays_turnChanged_l1  : Int32 × zw_Ct → Option ((zw_Ct) ⊕ (Int32 × zw_Ct)) := fun (pay1, c3) =>
  if (pay1 < 4) then
  ((zw_aI 4 c3 46 pay1).bind fun x8 =>
  (zw_uI 4 c3 58 pay1 (if (x8 = 2) then (1 : Int32) else 0)).bind fun c10 =>
  some (.inr ((pay1 + 1), c10)))
  else
  (some (.inl c3))
def fn_Pays_turnChanged (c : zw_Ct) : Option zw_Ct :=
  (zw_whl (fn_Pays_turnChanged_l1) zw_F (0, c)).bind fun c4 =>
  some c4
set_option maxRecDepth 100000 in
theorem km_Pays_turnChanged {l : Launch} {g : zw_G} {rr : zw_RR} {sh : zw_Sh} {c : zw_Ct} {c2 : zw_Ct} (hS : zw_Ok 0 101 sh rr) (hsem : fn_Pays_turnChanged c = some c2) : zw_Met l g y_Pays_turnChanged b_Pays_turnChanged 2 (none) 1 rr sh [.ref 45] c none c2 := by
  unfold fn_Pays_turnChanged at hsem
  refine zw_Met.of (by decide +kernel) (Nat.le_of_ble_eq_true rfl) (fun p e s m args below meth cd X => ?_)
  refine zw_eL (L2 := [some (.ref 45), none]) rfl ?_
  refine r_iconst X (pc := 0) (v := 0) (zw_dg dk_Pays_turnChanged 0 rfl) (by decide) ?_
  refine r_istore_n X (pc := 1) (i := 1) (zw_dg dk_Pays_turnChanged 1 rfl) rfl (by decide) rfl ?_
  obtain ⟨c4, hl5, hsl5⟩ := zw_bd hsem
  refine r_loop (pc := 2) (pce := 34) hl5 (fun (pay1, c3) => [some (.ref 45), some (.int pay1)] : Int32 × zw_Ct → zw_Lc) (fun (pay1, c3) => c3 : Int32 × zw_Ct → zw_Ct) (fun c4 => [some (.ref 45), none] : zw_Ct → zw_Lc) (fun c4 => c4 : zw_Ct → zw_Ct) ?_ rfl rfl ?_
  · rintro ⟨pay1, c3⟩ rr hsem hK hP
    try unfold fn_Pays_turnChanged_l1 at hsem
    refine r_iload_n X (pc := 2) (i := 1) (zw_dg dk_Pays_turnChanged 2 rfl) rfl rfl ?_
    refine r_iconst X (pc := 3) (v := 4) (zw_dg dk_Pays_turnChanged 3 rfl) (by decide) ?_
    refine r_icmp_ge X (pc := 4) (tgt := 34) (zw_dg dk_Pays_turnChanged 4 rfl) (by decide) (fun q7 => ?_) (fun q7 => ?_)
    · --
      have p6 : ¬ (pay1 < 4) := (Int32.not_lt.mpr q7)
      have hsem := zw_ifn p6 hsem
      have jj := hK _ (Option.some.inj hsem).symm
      exact (r_fgt [1] rfl jj)
    · --
      have p6 : (pay1 < 4) := (Int32.not_le.mp q7)
      have hsem := zw_ifp p6 hsem
      refine r_aload_n X (pc := 7) (i := 0) (zw_dg dk_Pays_turnChanged 5 rfl) rfl rfl ?_
      refine r_getR X (pc := 8) (r := 58) ci_Pays (zo hS 45 rfl rfl) rfl (zr hS 45 6 rfl rfl) lk_Pays_28 (zw_dg dk_Pays_turnChanged 6 rfl) ?_
      refine r_iload_n X (pc := 11) (i := 1) (zw_dg dk_Pays_turnChanged 7 rfl) rfl rfl ?_
      refine r_aload_n X (pc := 12) (i := 0) (zw_dg dk_Pays_turnChanged 8 rfl) rfl rfl ?_
      refine r_getR X (pc := 13) (r := 46) ci_Pays (zo hS 45 rfl rfl) rfl (zr hS 45 2 rfl rfl) lk_Pays_9 (zw_dg dk_Pays_turnChanged 9 rfl) ?_
      refine r_iload_n X (pc := 16) (i := 1) (zw_dg dk_Pays_turnChanged 10 rfl) rfl rfl ?_
      obtain ⟨x8, hx8, hsem⟩ := zw_bd hsem
      refine r_iald X (pc := 17) (zo hS 46 rfl rfl) hx8 (zw_dg dk_Pays_turnChanged 11 rfl) ?_
      refine r_iconst X (pc := 18) (v := 2) (zw_dg dk_Pays_turnChanged 12 rfl) (by decide) ?_
      refine zw_ter (P := (x8 = 2)) (f := Value.int) (x := 1) (y := 0) (J := 27) (st2 := [.int pay1, .ref 58]) (fun jT jF => ?_) ?_
      · --
        refine r_icmp_ne X (pc := 19) (tgt := 26) (zw_dg dk_Pays_turnChanged 13 rfl) (by decide) (fun q9 => ?_) (fun q9 => ?_)
        · --
          refine r_iconst X (pc := 26) (v := 0) (zw_dg dk_Pays_turnChanged 16 rfl) (by decide) ?_
          exact jF q9
        · --
          refine r_iconst X (pc := 22) (v := 1) (zw_dg dk_Pays_turnChanged 14 rfl) (by decide) ?_
          refine r_goto X (pc := 23) (tgt := 27) (zw_dg dk_Pays_turnChanged 15 rfl) (by decide) ?_
          exact jT q9
      obtain ⟨c10, hc10, hsem⟩ := zw_bd hsem
      refine r_zast X (pc := 27) (zo hS 58 rfl rfl) (by rw [(zw_bzn zw_ite01).2.2]; exact hc10) (zw_dg dk_Pays_turnChanged 17 rfl) ?_
      refine r_iinc X (pc := 28) (i := 1) (k := 1) (zw_dg dk_Pays_turnChanged 18 rfl) rfl (by decide) (by decide) rfl ?_
      refine r_goto X (pc := 31) (tgt := 2) (zw_dg dk_Pays_turnChanged 19 rfl) (by decide) ?_
      have jj := hP _ (Option.some.inj hsem).symm
      exact (r_fgt [] rfl jj)
  have hsem := hsl5
  cases hsem
  exact r_vret X (pc := 34) rfl (zw_dg dk_Pays_turnChanged 20 rfl)
def y_Pays_dropMade : MethodName := ⟨R_Pays, "dropMade", "()V"⟩
abbrev b_Pays_dropMade : ByteArray := prog_8_method_7_code
def dl_Pays_dropMade : List (Nat × Instr × Nat) := [(0, .iconst 0, 1), (1, .istore_n 1, 1), (2, .iload_n 1, 1), (3, .iconst 4, 1), (4, .if_icmp .ge 24, 3), (7, .aload_n 0, 1), (8, .getfield 9, 3), (11, .iload_n 1, 1), (12, .iaload, 1), (13, .iconst 2, 1), (14, .if_icmp .ne 8, 3), (17, .aload_n 0, 1), (18, .iload_n 1, 1), (19, .invokevirtual 62, 3), (22, .iinc 1 1, 3), (25, .goto (-23), 3), (28, .aload_n 0, 1), (29, .invokevirtual 66, 3), (32, .return_, 1)]
theorem dk_Pays_dropMade : zw_dk b_Pays_dropMade dl_Pays_dropMade = true := by decide +kernel
theorem ce_Pays_dropMade : zw_cev y_Pays_dropMade b_Pays_dropMade 2 (none) 0 := ⟨⟨kt_in 507 (by decide +kernel) rfl, kt_in 92 (by decide +kernel) rfl, by decide +kernel⟩, kt_in 505 (by decide +kernel) rfl, kt_in 506 (by decide +kernel) rfl⟩
def fn_Pays_dropMade_l1  : Int32 × zw_Ct → Option ((zw_Ct) ⊕ (Int32 × zw_Ct)) := fun (pay1, c3) =>
  if (pay1 < 4) then
  ((zw_aI 4 c3 46 pay1).bind fun x8 =>
  (if (x8 = 2) then
  ((fn_Pays_drop c3 pay1).bind fun c12 =>
  some c12)
  else
  (some c3)).bind fun c9 =>
  some (.inr ((pay1 + 1), c9)))
  else
  (some (.inl c3))
def fn_Pays_dropMade (c : zw_Ct) : Option zw_Ct :=
  (zw_whl (fn_Pays_dropMade_l1) zw_F (0, c)).bind fun c4 =>
  (fn_Pays_turnChanged c4).bind fun c13 =>
  some c13
set_option maxRecDepth 100000 in
theorem km_Pays_dropMade {l : Launch} {g : zw_G} {rr : zw_RR} {sh : zw_Sh} {c : zw_Ct} {c2 : zw_Ct} (hS : zw_Ok 0 101 sh rr) (hsem : fn_Pays_dropMade c = some c2) : zw_Met l g y_Pays_dropMade b_Pays_dropMade 2 (none) 2 rr sh [.ref 45] c none c2 := by
  unfold fn_Pays_dropMade at hsem
  refine zw_Met.of (by decide +kernel) (Nat.le_of_ble_eq_true rfl) (fun p e s m args below meth cd X => ?_)
  refine zw_eL (L2 := [some (.ref 45), none]) rfl ?_
  refine r_iconst X (pc := 0) (v := 0) (zw_dg dk_Pays_dropMade 0 rfl) (by decide) ?_
  refine r_istore_n X (pc := 1) (i := 1) (zw_dg dk_Pays_dropMade 1 rfl) rfl (by decide) rfl ?_
  obtain ⟨c4, hl5, hsl5⟩ := zw_bd hsem
  refine r_loop (pc := 2) (pce := 28) hl5 (fun (pay1, c3) => [some (.ref 45), some (.int pay1)] : Int32 × zw_Ct → zw_Lc) (fun (pay1, c3) => c3 : Int32 × zw_Ct → zw_Ct) (fun c4 => [some (.ref 45), none] : zw_Ct → zw_Lc) (fun c4 => c4 : zw_Ct → zw_Ct) ?_ rfl rfl ?_
  · rintro ⟨pay1, c3⟩ rr hsem hK hP
    try unfold fn_Pays_dropMade_l1 at hsem
    refine r_iload_n X (pc := 2) (i := 1) (zw_dg dk_Pays_dropMade 2 rfl) rfl rfl ?_
    refine r_iconst X (pc := 3) (v := 4) (zw_dg dk_Pays_dropMade 3 rfl) (by decide) ?_
    refine r_icmp_ge X (pc := 4) (tgt := 28) (zw_dg dk_Pays_dropMade 4 rfl) (by decide) (fun q7 => ?_) (fun q7 => ?_)
    · --
      have p6 : ¬ (pay1 < 4) := (Int32.not_lt.mpr q7)
      have hsem := zw_ifn p6 hsem
      have jj := hK _ (Option.some.inj hsem).symm
      exact (r_fgt [1] rfl jj)
    · --
      have p6 : (pay1 < 4) := (Int32.not_le.mp q7)
      have hsem := zw_ifp p6 hsem
      refine r_aload_n X (pc := 7) (i := 0) (zw_dg dk_Pays_dropMade 5 rfl) rfl rfl ?_
      refine r_getR X (pc := 8) (r := 46) ci_Pays (zo hS 45 rfl rfl) rfl (zr hS 45 2 rfl rfl) lk_Pays_9 (zw_dg dk_Pays_dropMade 6 rfl) ?_
      refine r_iload_n X (pc := 11) (i := 1) (zw_dg dk_Pays_dropMade 7 rfl) rfl rfl ?_
      obtain ⟨x8, hx8, hsem⟩ := zw_bd hsem
      refine r_iald X (pc := 12) (zo hS 46 rfl rfl) hx8 (zw_dg dk_Pays_dropMade 8 rfl) ?_
      refine r_iconst X (pc := 13) (v := 2) (zw_dg dk_Pays_dropMade 9 rfl) (by decide) ?_
      obtain ⟨c9, ht22, hs22⟩ := zw_bd hsem
      refine zw_jn (J := 22) (L2 := [some (.ref 45), some (.int pay1)]) (c2 := c9) (fun jj => ?_) ?_
      · have hsem := ht22
        refine r_icmp_ne X (pc := 14) (tgt := 22) (zw_dg dk_Pays_dropMade 10 rfl) (by decide) (fun q11 => ?_) (fun q11 => ?_)
        · --
          have p10 : ¬ (x8 = 2) := q11
          have hsem := zw_ifn p10 hsem
          cases hsem
          exact (r_fgt [] rfl jj)
        · --
          have p10 : (x8 = 2) := q11
          have hsem := zw_ifp p10 hsem
          refine r_aload_n X (pc := 17) (i := 0) (zw_dg dk_Pays_dropMade 11 rfl) rfl rfl ?_
          refine r_iload_n X (pc := 18) (i := 1) (zw_dg dk_Pays_dropMade 12 rfl) rfl rfl ?_
          obtain ⟨c12, hc12, hsem⟩ := zw_bd hsem
          refine r_callVv X (pc := 19) (As := [_]) (st := []) (km_Pays_drop hS hc12) ce_Pays_drop kw_508 (zo hS 45 rfl rfl) rfl rfl ⟨Nat.le_of_ble_eq_true rfl, Nat.le_of_ble_eq_true rfl⟩ (Nat.le_of_ble_eq_true rfl) (zw_dg dk_Pays_dropMade 13 rfl) ?_
          cases hsem
          exact (r_fgt [] rfl jj)
      have hsem := hs22
      refine r_iinc X (pc := 22) (i := 1) (k := 1) (zw_dg dk_Pays_dropMade 14 rfl) rfl (by decide) (by decide) rfl ?_
      refine r_goto X (pc := 25) (tgt := 2) (zw_dg dk_Pays_dropMade 15 rfl) (by decide) ?_
      have jj := hP _ (Option.some.inj hsem).symm
      exact (r_fgt [] rfl jj)
  have hsem := hsl5
  refine r_aload_n X (pc := 28) (i := 0) (zw_dg dk_Pays_dropMade 16 rfl) rfl rfl ?_
  obtain ⟨c13, hc13, hsem⟩ := zw_bd hsem
  refine r_callVv X (pc := 29) (As := []) (st := []) (km_Pays_turnChanged hS hc13) ce_Pays_turnChanged kw_512 (zo hS 45 rfl rfl) rfl rfl ⟨Nat.le_of_ble_eq_true rfl, Nat.le_of_ble_eq_true rfl⟩ (Nat.le_of_ble_eq_true rfl) (zw_dg dk_Pays_dropMade 17 rfl) ?_
  cases hsem
  exact r_vret X (pc := 32) rfl (zw_dg dk_Pays_dropMade 18 rfl)
def y_Pays_setMade : MethodName := ⟨R_Pays, "setMade", "(I)V"⟩
abbrev b_Pays_setMade : ByteArray := prog_8_method_8_code
def dl_Pays_setMade : List (Nat × Instr × Nat) := [(0, .aload_n 0, 1), (1, .getfield 9, 3), (4, .iload_n 1, 1), (5, .iconst 2, 1), (6, .iastore, 1), (7, .aload_n 0, 1), (8, .getfield 28, 3), (11, .iload_n 1, 1), (12, .iconst 1, 1), (13, .bastore, 1), (14, .return_, 1)]
theorem dk_Pays_setMade : zw_dk b_Pays_setMade dl_Pays_setMade = true := by decide +kernel
theorem ce_Pays_setMade : zw_cev y_Pays_setMade b_Pays_setMade 2 (none) 1 := ⟨⟨kt_in 886 (by decide +kernel) rfl, kt_in 92 (by decide +kernel) rfl, by decide +kernel⟩, kt_in 885 (by decide +kernel) rfl, kt_in 15 (by decide +kernel) rfl⟩
def fn_Pays_setMade (c : zw_Ct) (pay1 : Int32) : Option zw_Ct :=
  (zw_uI 4 c 46 pay1 2).bind fun c3 =>
  (zw_uI 4 c3 58 pay1 1).bind fun c4 =>
  some c4
set_option maxRecDepth 100000 in
theorem km_Pays_setMade {l : Launch} {g : zw_G} {rr : zw_RR} {sh : zw_Sh} {c : zw_Ct} {pay1 : Int32} {c2 : zw_Ct} (hS : zw_Ok 0 101 sh rr) (hsem : fn_Pays_setMade c pay1 = some c2) : zw_Met l g y_Pays_setMade b_Pays_setMade 2 (none) 1 rr sh [.ref 45, .int pay1] c none c2 := by
  unfold fn_Pays_setMade at hsem
  refine zw_Met.of (by decide +kernel) (Nat.le_of_ble_eq_true rfl) (fun p e s m args below meth cd X => ?_)
  refine zw_eL (L2 := [some (.ref 45), some (.int pay1)]) rfl ?_
  refine r_aload_n X (pc := 0) (i := 0) (zw_dg dk_Pays_setMade 0 rfl) rfl rfl ?_
  refine r_getR X (pc := 1) (r := 46) ci_Pays (zo hS 45 rfl rfl) rfl (zr hS 45 2 rfl rfl) lk_Pays_9 (zw_dg dk_Pays_setMade 1 rfl) ?_
  refine r_iload_n X (pc := 4) (i := 1) (zw_dg dk_Pays_setMade 2 rfl) rfl rfl ?_
  refine r_iconst X (pc := 5) (v := 2) (zw_dg dk_Pays_setMade 3 rfl) (by decide) ?_
  obtain ⟨c3, hc3, hsem⟩ := zw_bd hsem
  refine r_iast X (pc := 6) (zo hS 46 rfl rfl) hc3 (zw_dg dk_Pays_setMade 4 rfl) ?_
  refine r_aload_n X (pc := 7) (i := 0) (zw_dg dk_Pays_setMade 5 rfl) rfl rfl ?_
  refine r_getR X (pc := 8) (r := 58) ci_Pays (zo hS 45 rfl rfl) rfl (zr hS 45 6 rfl rfl) lk_Pays_28 (zw_dg dk_Pays_setMade 6 rfl) ?_
  refine r_iload_n X (pc := 11) (i := 1) (zw_dg dk_Pays_setMade 7 rfl) rfl rfl ?_
  refine r_iconst X (pc := 12) (v := 1) (zw_dg dk_Pays_setMade 8 rfl) (by decide) ?_
  obtain ⟨c4, hc4, hsem⟩ := zw_bd hsem
  refine r_zast X (pc := 13) (zo hS 58 rfl rfl) (by rw [(zw_bzn (by decide)).2.2]; exact hc4) (zw_dg dk_Pays_setMade 9 rfl) ?_
  cases hsem
  exact r_vret X (pc := 14) rfl (zw_dg dk_Pays_setMade 10 rfl)
def y_Pays_slope : MethodName := ⟨R_Pays, "slope", "(I)I"⟩
abbrev b_Pays_slope : ByteArray := prog_8_method_10_code
def dl_Pays_slope : List (Nat × Instr × Nat) := [(0, .iload_n 1, 1), (1, .aload_n 0, 1), (2, .getfield 38, 3), (5, .getfield 87, 3), (8, .iconst 1, 1), (9, .isub, 1), (10, .invokestatic 93, 3), (13, .istore_n 2, 1), (14, .aload_n 0, 1), (15, .getfield 42, 3), (18, .getfield 78, 3), (21, .iload_n 2, 1), (22, .iconst 1, 1), (23, .iadd, 1), (24, .iaload, 1), (25, .aload_n 0, 1), (26, .getfield 42, 3), (29, .getfield 78, 3), (32, .iload_n 2, 1), (33, .iaload, 1), (34, .isub, 1), (35, .ireturn, 1)]
theorem dk_Pays_slope : zw_dk b_Pays_slope dl_Pays_slope = true := by decide +kernel
theorem ce_Pays_slope : zw_cev y_Pays_slope b_Pays_slope 3 (some .int) 1 := ⟨⟨kt_in 881 (by decide +kernel) rfl, kt_in 92 (by decide +kernel) rfl, by decide +kernel⟩, kt_in 880 (by decide +kernel) rfl, kt_in 14 (by decide +kernel) rfl⟩
def fn_Pays_slope (c : zw_Ct) (s1 : Int32) : Option Int32 :=
  (some ((if ((c.1 1 1) - 1) < s1 then ((c.1 1 1) - 1) else s1) : Int32)).bind fun from2 =>
  (zw_aI 13 c 4 (from2 + 1)).bind fun x3 =>
  (zw_aI 13 c 4 from2).bind fun x4 =>
  some (x3 - x4)
set_option maxRecDepth 100000 in
theorem km_Pays_slope {l : Launch} {g : zw_G} {rr : zw_RR} {sh : zw_Sh} {c : zw_Ct} {s1 : Int32} {r : Int32} (hS : zw_Ok 0 101 sh rr) (hsem : fn_Pays_slope c s1 = some r) : zw_Met l g y_Pays_slope b_Pays_slope 3 (some .int) 1 rr sh [.ref 45, .int s1] c (some (.int r)) c := by
  unfold fn_Pays_slope at hsem
  refine zw_Met.of (by decide +kernel) (Nat.le_of_ble_eq_true rfl) (fun p e s m args below meth cd X => ?_)
  refine zw_eL (L2 := [some (.ref 45), some (.int s1), none]) rfl ?_
  refine r_iload_n X (pc := 0) (i := 1) (zw_dg dk_Pays_slope 0 rfl) rfl rfl ?_
  refine r_aload_n X (pc := 1) (i := 0) (zw_dg dk_Pays_slope 1 rfl) rfl rfl ?_
  refine r_getR X (pc := 2) (r := 1) ci_Pays (zo hS 45 rfl rfl) rfl (zr hS 45 0 rfl rfl) lk_Pays_38 (zw_dg dk_Pays_slope 2 rfl) ?_
  refine r_getI X (pc := 5) ci_Sayings (zo hS 1 rfl rfl) rfl lk_Pays_87 (zw_dg dk_Pays_slope 3 rfl) ?_
  refine r_iconst X (pc := 8) (v := 1) (zw_dg dk_Pays_slope 4 rfl) (by decide) ?_
  refine r_isub X (pc := 9) (zw_dg dk_Pays_slope 5 rfl)  ?_
  refine r_mmin X (pc := 10) kw_882 mws_min kw_88 mwc_min ⟨Nat.le_of_ble_eq_true rfl, Nat.le_of_ble_eq_true rfl⟩ (st := []) (Nat.le_of_ble_eq_true rfl) (zw_dg dk_Pays_slope 6 rfl) ?_
  obtain ⟨from2, hfrom2, hsem⟩ := zw_bd hsem
  refine zw_topI hfrom2 ?_
  refine r_istore_n X (pc := 13) (i := 2) (zw_dg dk_Pays_slope 7 rfl) rfl (by decide) rfl ?_
  refine r_aload_n X (pc := 14) (i := 0) (zw_dg dk_Pays_slope 8 rfl) rfl rfl ?_
  refine r_getR X (pc := 15) (r := 3) ci_Pays (zo hS 45 rfl rfl) rfl (zr hS 45 1 rfl rfl) lk_Pays_42 (zw_dg dk_Pays_slope 9 rfl) ?_
  refine r_getR X (pc := 18) (r := 4) ci_Held (zo hS 3 rfl rfl) rfl (zr hS 3 0 rfl rfl) lk_Pays_78 (zw_dg dk_Pays_slope 10 rfl) ?_
  refine r_iload_n X (pc := 21) (i := 2) (zw_dg dk_Pays_slope 11 rfl) rfl rfl ?_
  refine r_iconst X (pc := 22) (v := 1) (zw_dg dk_Pays_slope 12 rfl) (by decide) ?_
  refine r_iadd X (pc := 23) (zw_dg dk_Pays_slope 13 rfl)  ?_
  obtain ⟨x3, hx3, hsem⟩ := zw_bd hsem
  refine r_iald X (pc := 24) (zo hS 4 rfl rfl) hx3 (zw_dg dk_Pays_slope 14 rfl) ?_
  refine r_aload_n X (pc := 25) (i := 0) (zw_dg dk_Pays_slope 15 rfl) rfl rfl ?_
  refine r_getR X (pc := 26) (r := 3) ci_Pays (zo hS 45 rfl rfl) rfl (zr hS 45 1 rfl rfl) lk_Pays_42 (zw_dg dk_Pays_slope 16 rfl) ?_
  refine r_getR X (pc := 29) (r := 4) ci_Held (zo hS 3 rfl rfl) rfl (zr hS 3 0 rfl rfl) lk_Pays_78 (zw_dg dk_Pays_slope 17 rfl) ?_
  refine r_iload_n X (pc := 32) (i := 2) (zw_dg dk_Pays_slope 18 rfl) rfl rfl ?_
  obtain ⟨x4, hx4, hsem⟩ := zw_bd hsem
  refine r_iald X (pc := 33) (zo hS 4 rfl rfl) hx4 (zw_dg dk_Pays_slope 19 rfl) ?_
  refine r_isub X (pc := 34) (zw_dg dk_Pays_slope 20 rfl)  ?_
  cases hsem
  exact r_iret X (pc := 35) rfl (zw_dg dk_Pays_slope 21 rfl)
def y_Pays_makeOfTurn : MethodName := ⟨R_Pays, "makeOfTurn", "(I)Z"⟩
abbrev b_Pays_makeOfTurn : ByteArray := prog_8_method_9_code
def dl_Pays_makeOfTurn : List (Nat × Instr × Nat) := [(0, .iconst 0, 1), (1, .istore_n 2, 1), (2, .iload_n 2, 1), (3, .aload_n 0, 1), (4, .getfield 38, 3), (7, .getfield 69, 3), (10, .if_icmp .ge 86, 3), (13, .aload_n 0, 1), (14, .getfield 38, 3), (17, .iload_n 2, 1), (18, .iconst 1, 1), (19, .invokevirtual 74, 3), (22, .istore_n 3, 1), (23, .iload_n 2, 1), (24, .iconst 4, 1), (25, .imul, 1), (26, .istore 4, 2), (28, .aload_n 0, 1), (29, .getfield 25, 3), (32, .iload_n 1, 1), (33, .aaload, 1), (34, .iload 4, 2), (36, .aload_n 0, 1), (37, .getfield 42, 3), (40, .getfield 78, 3), (43, .iload_n 3, 1), (44, .iaload, 1), (45, .iload_n 3, 1), (46, .aload_n 0, 1), (47, .iload_n 3, 1), (48, .invokevirtual 83, 3), (51, .imul, 1), (52, .isub, 1), (53, .iastore, 1), (54, .aload_n 0, 1), (55, .getfield 25, 3), (58, .iload_n 1, 1), (59, .aaload, 1), (60, .iload 4, 2), (62, .iconst 1, 1), (63, .iadd, 1), (64, .aload_n 0, 1), (65, .getfield 42, 3), (68, .getfield 78, 3), (71, .iload_n 3, 1), (72, .iaload, 1), (73, .aload_n 0, 1), (74, .getfield 38, 3), (77, .getfield 87, 3), (80, .iload_n 3, 1), (81, .isub, 1), (82, .aload_n 0, 1), (83, .iload_n 3, 1), (84, .invokevirtual 83, 3), (87, .imul, 1), (88, .iadd, 1), (89, .iastore, 1), (90, .iinc 2 1, 3), (93, .goto (-91), 3), (96, .aload_n 0, 1), (97, .iload_n 1, 1), (98, .invokevirtual 90, 3), (101, .iconst 1, 1), (102, .istore_n 2, 1), (103, .iload_n 2, 1), (104, .aload_n 0, 1), (105, .getfield 38, 3), (108, .getfield 87, 3), (111, .if_icmp .ge 26, 3), (114, .aload_n 0, 1), (115, .iload_n 2, 1), (116, .invokevirtual 83, 3), (119, .aload_n 0, 1), (120, .iload_n 2, 1), (121, .iconst 1, 1), (122, .isub, 1), (123, .invokevirtual 83, 3), (126, .if_icmp .ge 5, 3), (129, .iconst 0, 1), (130, .ireturn, 1), (131, .iinc 2 1, 3), (134, .goto (-31), 3), (137, .iconst 1, 1), (138, .ireturn, 1)]
theorem dk_Pays_makeOfTurn : zw_dk b_Pays_makeOfTurn dl_Pays_makeOfTurn = true := by decide +kernel
theorem ce_Pays_makeOfTurn : zw_cev y_Pays_makeOfTurn b_Pays_makeOfTurn 5 (some .boolean) 1 := ⟨⟨kt_in 877 (by decide +kernel) rfl, kt_in 92 (by decide +kernel) rfl, by decide +kernel⟩, kt_in 875 (by decide +kernel) rfl, kt_in 876 (by decide +kernel) rfl⟩
def fn_Pays_makeOfTurn_l1 (pay1 : Int32) : Int32 × zw_Ct → Option ((zw_Ct) ⊕ (Int32 × zw_Ct)) := fun (saying2, c3) =>
  if (saying2 < (c3.1 1 2)) then
  ((fn_Sayings_partOf c3 saying2 1).bind fun r8 =>
  (some ((saying2 * 4) : Int32)).bind fun at9 =>
  (zw_gr 54 4 1 pay1).bind fun r10 =>
  (zw_aI 13 c3 4 r8).bind fun x11 =>
  (fn_Pays_slope c3 r8).bind fun r12 =>
  (zw_eI SH 0 c3 r10 at9 (x11 - (r8 * r12))).bind fun c13 =>
  (zw_gr 54 4 1 pay1).bind fun r14 =>
  (zw_aI 13 c13 4 r8).bind fun x15 =>
  (fn_Pays_slope c13 r8).bind fun r16 =>
  (zw_eI SH 0 c13 r14 (at9 + 1) (x15 + (((c13.1 1 1) - r8) * r16))).bind fun c17 =>
  some (.inr ((saying2 + 1), c17)))
  else
  (some (.inl c3))
def fn_Pays_makeOfTurn_l2 (c18 : zw_Ct) : Int32 → Option (((Int32 × zw_Ct) ⊕ (Unit)) ⊕ (Int32)) := fun s19 =>
  if (s19 < (c18.1 1 1)) then
  ((fn_Pays_slope c18 s19).bind fun r23 =>
  (fn_Pays_slope c18 (s19 - 1)).bind fun r24 =>
  if (r23 < r24) then
  (some (.inl (.inl (0, c18))))
  else
  (some (.inr (s19 + 1))))
  else
  (some (.inl (.inr ())))
def fn_Pays_makeOfTurn (c : zw_Ct) (pay1 : Int32) : Option (Int32 × zw_Ct) :=
  (zw_whl (fn_Pays_makeOfTurn_l1 pay1) zw_F (0, c)).bind fun c4 =>
  (fn_Pays_setMade c4 pay1).bind fun c18 =>
  (zw_whl (fn_Pays_makeOfTurn_l2 c18) zw_F 1).bind fun q => match q with
    | .inl w => some w
    | .inr _ =>
    some (1, c18)
set_option maxRecDepth 100000 in
theorem km_Pays_makeOfTurn {l : Launch} {g : zw_G} {rr : zw_RR} {sh : zw_Sh} {c : zw_Ct} {pay1 : Int32} {r : Int32} {c2 : zw_Ct} (hS : zw_Ok 0 101 sh rr) (hsem : fn_Pays_makeOfTurn c pay1 = some (r, c2)) : zw_Met l g y_Pays_makeOfTurn b_Pays_makeOfTurn 5 (some .boolean) 2 rr sh [.ref 45, .int pay1] c (some (.int r)) c2 := by
  unfold fn_Pays_makeOfTurn at hsem
  refine zw_Met.of (by decide +kernel) (Nat.le_of_ble_eq_true rfl) (fun p e s m args below meth cd X => ?_)
  refine zw_eL (L2 := [some (.ref 45), some (.int pay1), none, none, none]) rfl ?_
  refine r_iconst X (pc := 0) (v := 0) (zw_dg dk_Pays_makeOfTurn 0 rfl) (by decide) ?_
  refine r_istore_n X (pc := 1) (i := 2) (zw_dg dk_Pays_makeOfTurn 1 rfl) rfl (by decide) rfl ?_
  obtain ⟨c4, hl5, hsl5⟩ := zw_bd hsem
  refine r_loop (pc := 2) (pce := 96) hl5 (fun (saying2, c3) => [some (.ref 45), some (.int pay1), some (.int saying2), none, none] : Int32 × zw_Ct → zw_Lc) (fun (saying2, c3) => c3 : Int32 × zw_Ct → zw_Ct) (fun c4 => [some (.ref 45), some (.int pay1), none, none, none] : zw_Ct → zw_Lc) (fun c4 => c4 : zw_Ct → zw_Ct) ?_ rfl rfl ?_
  · rintro ⟨saying2, c3⟩ rr hsem hK hP
    try unfold fn_Pays_makeOfTurn_l1 at hsem
    refine r_iload_n X (pc := 2) (i := 2) (zw_dg dk_Pays_makeOfTurn 2 rfl) rfl rfl ?_
    refine r_aload_n X (pc := 3) (i := 0) (zw_dg dk_Pays_makeOfTurn 3 rfl) rfl rfl ?_
    refine r_getR X (pc := 4) (r := 1) ci_Pays (zo hS 45 rfl rfl) rfl (zr hS 45 0 rfl rfl) lk_Pays_38 (zw_dg dk_Pays_makeOfTurn 4 rfl) ?_
    refine r_getI X (pc := 7) ci_Sayings (zo hS 1 rfl rfl) rfl lk_Pays_69 (zw_dg dk_Pays_makeOfTurn 5 rfl) ?_
    refine r_icmp_ge X (pc := 10) (tgt := 96) (zw_dg dk_Pays_makeOfTurn 6 rfl) (by decide) (fun q7 => ?_) (fun q7 => ?_)
    · --
      have p6 : ¬ (saying2 < (c3.1 1 2)) := (Int32.not_lt.mpr q7)
      have hsem := zw_ifn p6 hsem
      have jj := hK _ (Option.some.inj hsem).symm
      exact (r_fgt [2] rfl jj)
    · --
      have p6 : (saying2 < (c3.1 1 2)) := (Int32.not_le.mp q7)
      have hsem := zw_ifp p6 hsem
      refine r_aload_n X (pc := 13) (i := 0) (zw_dg dk_Pays_makeOfTurn 7 rfl) rfl rfl ?_
      refine r_getR X (pc := 14) (r := 1) ci_Pays (zo hS 45 rfl rfl) rfl (zr hS 45 0 rfl rfl) lk_Pays_38 (zw_dg dk_Pays_makeOfTurn 8 rfl) ?_
      refine r_iload_n X (pc := 17) (i := 2) (zw_dg dk_Pays_makeOfTurn 9 rfl) rfl rfl ?_
      refine r_iconst X (pc := 18) (v := 1) (zw_dg dk_Pays_makeOfTurn 10 rfl) (by decide) ?_
      obtain ⟨r8, hr8, hsem⟩ := zw_bd hsem
      refine r_callVi X (pc := 19) (As := [_, _]) (st := []) (km_Sayings_partOf hS hr8) ce_Sayings_partOf kw_721 (zo hS 1 rfl rfl) rfl rfl ⟨Nat.le_of_ble_eq_true rfl, Nat.le_of_ble_eq_true rfl⟩ (Nat.le_of_ble_eq_true rfl) (zw_dg dk_Pays_makeOfTurn 11 rfl) ?_
      refine r_istore_n X (pc := 22) (i := 3) (zw_dg dk_Pays_makeOfTurn 12 rfl) rfl (by decide) rfl ?_
      refine r_iload_n X (pc := 23) (i := 2) (zw_dg dk_Pays_makeOfTurn 13 rfl) rfl rfl ?_
      refine r_iconst X (pc := 24) (v := 4) (zw_dg dk_Pays_makeOfTurn 14 rfl) (by decide) ?_
      refine r_imul X (pc := 25) (zw_dg dk_Pays_makeOfTurn 15 rfl)  ?_
      obtain ⟨at9, hat9, hsem⟩ := zw_bd hsem
      refine zw_topI hat9 ?_
      refine r_istore X (pc := 26) (i := 4) (zw_dg dk_Pays_makeOfTurn 16 rfl) (by decide) rfl ?_
      refine r_aload_n X (pc := 28) (i := 0) (zw_dg dk_Pays_makeOfTurn 17 rfl) rfl rfl ?_
      refine r_getR X (pc := 29) (r := 53) ci_Pays (zo hS 45 rfl rfl) rfl (zr hS 45 5 rfl rfl) lk_Pays_25 (zw_dg dk_Pays_makeOfTurn 18 rfl) ?_
      refine r_iload_n X (pc := 32) (i := 1) (zw_dg dk_Pays_makeOfTurn 19 rfl) rfl rfl ?_
      obtain ⟨r10, hr10, hsem⟩ := zw_bd hsem
      refine r_aald X (pc := 33) (t := 4) (zo hS 53 rfl rfl) (by decide) rfl rfl (zw_gr_in hr10) (zgr hS 53 hr10 rfl) (zw_dg dk_Pays_makeOfTurn 20 rfl) ?_
      refine r_iload X (pc := 34) (i := 4) (zw_dg dk_Pays_makeOfTurn 21 rfl) rfl ?_
      refine r_aload_n X (pc := 36) (i := 0) (zw_dg dk_Pays_makeOfTurn 22 rfl) rfl rfl ?_
      refine r_getR X (pc := 37) (r := 3) ci_Pays (zo hS 45 rfl rfl) rfl (zr hS 45 1 rfl rfl) lk_Pays_42 (zw_dg dk_Pays_makeOfTurn 23 rfl) ?_
      refine r_getR X (pc := 40) (r := 4) ci_Held (zo hS 3 rfl rfl) rfl (zr hS 3 0 rfl rfl) lk_Pays_78 (zw_dg dk_Pays_makeOfTurn 24 rfl) ?_
      refine r_iload_n X (pc := 43) (i := 3) (zw_dg dk_Pays_makeOfTurn 25 rfl) rfl rfl ?_
      obtain ⟨x11, hx11, hsem⟩ := zw_bd hsem
      refine r_iald X (pc := 44) (zo hS 4 rfl rfl) hx11 (zw_dg dk_Pays_makeOfTurn 26 rfl) ?_
      refine r_iload_n X (pc := 45) (i := 3) (zw_dg dk_Pays_makeOfTurn 27 rfl) rfl rfl ?_
      refine r_aload_n X (pc := 46) (i := 0) (zw_dg dk_Pays_makeOfTurn 28 rfl) rfl rfl ?_
      refine r_iload_n X (pc := 47) (i := 3) (zw_dg dk_Pays_makeOfTurn 29 rfl) rfl rfl ?_
      obtain ⟨r12, hr12, hsem⟩ := zw_bd hsem
      refine r_callVi X (pc := 48) (As := [_]) (st := [.int r8, .int x11, .int at9, .ref r10]) (km_Pays_slope hS hr12) ce_Pays_slope kw_878 (zo hS 45 rfl rfl) rfl rfl ⟨Nat.le_of_ble_eq_true rfl, Nat.le_of_ble_eq_true rfl⟩ (Nat.le_of_ble_eq_true rfl) (zw_dg dk_Pays_makeOfTurn 30 rfl) ?_
      refine r_imul X (pc := 51) (zw_dg dk_Pays_makeOfTurn 31 rfl)  ?_
      refine r_isub X (pc := 52) (zw_dg dk_Pays_makeOfTurn 32 rfl)  ?_
      obtain ⟨c13, hc13, hsem⟩ := zw_bd hsem
      obtain ⟨_, hnc13, hc13⟩ := zw_bd hc13
      refine r_iast X (pc := 53) (zd hS (zw_len_of hnc13)) hc13 (zw_dg dk_Pays_makeOfTurn 33 rfl) ?_
      refine r_aload_n X (pc := 54) (i := 0) (zw_dg dk_Pays_makeOfTurn 34 rfl) rfl rfl ?_
      refine r_getR X (pc := 55) (r := 53) ci_Pays (zo hS 45 rfl rfl) rfl (zr hS 45 5 rfl rfl) lk_Pays_25 (zw_dg dk_Pays_makeOfTurn 35 rfl) ?_
      refine r_iload_n X (pc := 58) (i := 1) (zw_dg dk_Pays_makeOfTurn 36 rfl) rfl rfl ?_
      obtain ⟨r14, hr14, hsem⟩ := zw_bd hsem
      refine r_aald X (pc := 59) (t := 4) (zo hS 53 rfl rfl) (by decide) rfl rfl (zw_gr_in hr14) (zgr hS 53 hr14 rfl) (zw_dg dk_Pays_makeOfTurn 37 rfl) ?_
      refine r_iload X (pc := 60) (i := 4) (zw_dg dk_Pays_makeOfTurn 38 rfl) rfl ?_
      refine r_iconst X (pc := 62) (v := 1) (zw_dg dk_Pays_makeOfTurn 39 rfl) (by decide) ?_
      refine r_iadd X (pc := 63) (zw_dg dk_Pays_makeOfTurn 40 rfl)  ?_
      refine r_aload_n X (pc := 64) (i := 0) (zw_dg dk_Pays_makeOfTurn 41 rfl) rfl rfl ?_
      refine r_getR X (pc := 65) (r := 3) ci_Pays (zo hS 45 rfl rfl) rfl (zr hS 45 1 rfl rfl) lk_Pays_42 (zw_dg dk_Pays_makeOfTurn 42 rfl) ?_
      refine r_getR X (pc := 68) (r := 4) ci_Held (zo hS 3 rfl rfl) rfl (zr hS 3 0 rfl rfl) lk_Pays_78 (zw_dg dk_Pays_makeOfTurn 43 rfl) ?_
      refine r_iload_n X (pc := 71) (i := 3) (zw_dg dk_Pays_makeOfTurn 44 rfl) rfl rfl ?_
      obtain ⟨x15, hx15, hsem⟩ := zw_bd hsem
      refine r_iald X (pc := 72) (zo hS 4 rfl rfl) hx15 (zw_dg dk_Pays_makeOfTurn 45 rfl) ?_
      refine r_aload_n X (pc := 73) (i := 0) (zw_dg dk_Pays_makeOfTurn 46 rfl) rfl rfl ?_
      refine r_getR X (pc := 74) (r := 1) ci_Pays (zo hS 45 rfl rfl) rfl (zr hS 45 0 rfl rfl) lk_Pays_38 (zw_dg dk_Pays_makeOfTurn 47 rfl) ?_
      refine r_getI X (pc := 77) ci_Sayings (zo hS 1 rfl rfl) rfl lk_Pays_87 (zw_dg dk_Pays_makeOfTurn 48 rfl) ?_
      refine r_iload_n X (pc := 80) (i := 3) (zw_dg dk_Pays_makeOfTurn 49 rfl) rfl rfl ?_
      refine r_isub X (pc := 81) (zw_dg dk_Pays_makeOfTurn 50 rfl)  ?_
      refine r_aload_n X (pc := 82) (i := 0) (zw_dg dk_Pays_makeOfTurn 51 rfl) rfl rfl ?_
      refine r_iload_n X (pc := 83) (i := 3) (zw_dg dk_Pays_makeOfTurn 52 rfl) rfl rfl ?_
      obtain ⟨r16, hr16, hsem⟩ := zw_bd hsem
      refine r_callVi X (pc := 84) (As := [_]) (st := [.int ((c13.1 1 1) - r8), .int x15, .int (at9 + 1), .ref r14]) (km_Pays_slope hS hr16) ce_Pays_slope kw_878 (zo hS 45 rfl rfl) rfl rfl ⟨Nat.le_of_ble_eq_true rfl, Nat.le_of_ble_eq_true rfl⟩ (Nat.le_of_ble_eq_true rfl) (zw_dg dk_Pays_makeOfTurn 53 rfl) ?_
      refine r_imul X (pc := 87) (zw_dg dk_Pays_makeOfTurn 54 rfl)  ?_
      refine r_iadd X (pc := 88) (zw_dg dk_Pays_makeOfTurn 55 rfl)  ?_
      obtain ⟨c17, hc17, hsem⟩ := zw_bd hsem
      obtain ⟨_, hnc17, hc17⟩ := zw_bd hc17
      refine r_iast X (pc := 89) (zd hS (zw_len_of hnc17)) hc17 (zw_dg dk_Pays_makeOfTurn 56 rfl) ?_
      refine r_iinc X (pc := 90) (i := 2) (k := 1) (zw_dg dk_Pays_makeOfTurn 57 rfl) rfl (by decide) (by decide) rfl ?_
      refine r_goto X (pc := 93) (tgt := 2) (zw_dg dk_Pays_makeOfTurn 58 rfl) (by decide) ?_
      have jj := hP _ (Option.some.inj hsem).symm
      exact (r_fgt [3, 4] rfl jj)
  have hsem := hsl5
  refine r_aload_n X (pc := 96) (i := 0) (zw_dg dk_Pays_makeOfTurn 59 rfl) rfl rfl ?_
  refine r_iload_n X (pc := 97) (i := 1) (zw_dg dk_Pays_makeOfTurn 60 rfl) rfl rfl ?_
  obtain ⟨c18, hc18, hsem⟩ := zw_bd hsem
  refine r_callVv X (pc := 98) (As := [_]) (st := []) (km_Pays_setMade hS hc18) ce_Pays_setMade kw_883 (zo hS 45 rfl rfl) rfl rfl ⟨Nat.le_of_ble_eq_true rfl, Nat.le_of_ble_eq_true rfl⟩ (Nat.le_of_ble_eq_true rfl) (zw_dg dk_Pays_makeOfTurn 61 rfl) ?_
  refine r_iconst X (pc := 101) (v := 1) (zw_dg dk_Pays_makeOfTurn 62 rfl) (by decide) ?_
  refine r_istore_n X (pc := 102) (i := 2) (zw_dg dk_Pays_makeOfTurn 63 rfl) rfl (by decide) rfl ?_
  obtain ⟨l20, hl20, hsl20⟩ := zw_bd hsem
  refine r_loopR (pc := 103) (pce := 137) hl20 (fun s19 => [some (.ref 45), some (.int pay1), some (.int s19), none, none] : Int32 → zw_Lc) (fun s19 => c18 : Int32 → zw_Ct) (fun (_ : Unit) => [some (.ref 45), some (.int pay1), none, none, none] : Unit → zw_Lc) (fun (_ : Unit) => c18 : Unit → zw_Ct) (fun w => w = (r, c2)) ?_ rfl rfl ?_ ?_
  · rintro s19 rr hsem hR hK hP
    try unfold fn_Pays_makeOfTurn_l2 at hsem
    refine r_iload_n X (pc := 103) (i := 2) (zw_dg dk_Pays_makeOfTurn 64 rfl) rfl rfl ?_
    refine r_aload_n X (pc := 104) (i := 0) (zw_dg dk_Pays_makeOfTurn 65 rfl) rfl rfl ?_
    refine r_getR X (pc := 105) (r := 1) ci_Pays (zo hS 45 rfl rfl) rfl (zr hS 45 0 rfl rfl) lk_Pays_38 (zw_dg dk_Pays_makeOfTurn 66 rfl) ?_
    refine r_getI X (pc := 108) ci_Sayings (zo hS 1 rfl rfl) rfl lk_Pays_87 (zw_dg dk_Pays_makeOfTurn 67 rfl) ?_
    refine r_icmp_ge X (pc := 111) (tgt := 137) (zw_dg dk_Pays_makeOfTurn 68 rfl) (by decide) (fun q22 => ?_) (fun q22 => ?_)
    · --
      have p21 : ¬ (s19 < (c18.1 1 1)) := (Int32.not_lt.mpr q22)
      have hsem := zw_ifn p21 hsem
      have jj := hK _ (Option.some.inj hsem).symm
      exact (r_fgt [2] rfl jj)
    · --
      have p21 : (s19 < (c18.1 1 1)) := (Int32.not_le.mp q22)
      have hsem := zw_ifp p21 hsem
      refine r_aload_n X (pc := 114) (i := 0) (zw_dg dk_Pays_makeOfTurn 69 rfl) rfl rfl ?_
      refine r_iload_n X (pc := 115) (i := 2) (zw_dg dk_Pays_makeOfTurn 70 rfl) rfl rfl ?_
      obtain ⟨r23, hr23, hsem⟩ := zw_bd hsem
      refine r_callVi X (pc := 116) (As := [_]) (st := []) (km_Pays_slope hS hr23) ce_Pays_slope kw_878 (zo hS 45 rfl rfl) rfl rfl ⟨Nat.le_of_ble_eq_true rfl, Nat.le_of_ble_eq_true rfl⟩ (Nat.le_of_ble_eq_true rfl) (zw_dg dk_Pays_makeOfTurn 71 rfl) ?_
      refine r_aload_n X (pc := 119) (i := 0) (zw_dg dk_Pays_makeOfTurn 72 rfl) rfl rfl ?_
      refine r_iload_n X (pc := 120) (i := 2) (zw_dg dk_Pays_makeOfTurn 73 rfl) rfl rfl ?_
      refine r_iconst X (pc := 121) (v := 1) (zw_dg dk_Pays_makeOfTurn 74 rfl) (by decide) ?_
      refine r_isub X (pc := 122) (zw_dg dk_Pays_makeOfTurn 75 rfl)  ?_
      obtain ⟨r24, hr24, hsem⟩ := zw_bd hsem
      refine r_callVi X (pc := 123) (As := [_]) (st := [.int r23]) (km_Pays_slope hS hr24) ce_Pays_slope kw_878 (zo hS 45 rfl rfl) rfl rfl ⟨Nat.le_of_ble_eq_true rfl, Nat.le_of_ble_eq_true rfl⟩ (Nat.le_of_ble_eq_true rfl) (zw_dg dk_Pays_makeOfTurn 76 rfl) ?_
      refine r_icmp_ge X (pc := 126) (tgt := 131) (zw_dg dk_Pays_makeOfTurn 77 rfl) (by decide) (fun q26 => ?_) (fun q26 => ?_)
      · --
        have p25 : ¬ (r23 < r24) := (Int32.not_lt.mpr q26)
        have hsem := zw_ifn p25 hsem
        refine r_iinc X (pc := 131) (i := 2) (k := 1) (zw_dg dk_Pays_makeOfTurn 80 rfl) rfl (by decide) (by decide) rfl ?_
        refine r_goto X (pc := 134) (tgt := 103) (zw_dg dk_Pays_makeOfTurn 81 rfl) (by decide) ?_
        have jj := hP _ (Option.some.inj hsem).symm
        exact (r_fgt [] rfl jj)
      · --
        have p25 : (r23 < r24) := (Int32.not_le.mp q26)
        have hsem := zw_ifp p25 hsem
        refine r_iconst X (pc := 129) (v := 0) (zw_dg dk_Pays_makeOfTurn 78 rfl) (by decide) ?_
        have hbz : (0 : Int32) = 0 ∨ (0 : Int32) = 1 := (by decide)
        have hret := hR _ (Option.some.inj hsem).symm
        cases hret
        exact r_zret X (pc := 130) rfl (zw_bzn hbz).1 (zw_dg dk_Pays_makeOfTurn 79 rfl)
  · intro w hw
    subst hw
    exact Option.some.inj hsl20
  rintro _u hw
  subst hw
  have hsem := hsl20
  refine r_iconst X (pc := 137) (v := 1) (zw_dg dk_Pays_makeOfTurn 82 rfl) (by decide) ?_
  have hbz : (1 : Int32) = 0 ∨ (1 : Int32) = 1 := (by decide)
  cases hsem
  exact r_zret X (pc := 138) rfl (zw_bzn hbz).1 (zw_dg dk_Pays_makeOfTurn 83 rfl)
def y_Pays_makeOfTwo : MethodName := ⟨R_Pays, "makeOfTwo", "(I[I[III)V"⟩
abbrev b_Pays_makeOfTwo : ByteArray := prog_8_method_11_code
def dl_Pays_makeOfTwo : List (Nat × Instr × Nat) := [(0, .aload_n 0, 1), (1, .getfield 25, 3), (4, .iload_n 1, 1), (5, .aaload, 1), (6, .astore 6, 2), (8, .iconst 0, 1), (9, .istore 7, 2), (11, .iload 7, 2), (13, .aload_n 0, 1), (14, .getfield 38, 3), (17, .getfield 69, 3), (20, .iconst 4, 1), (21, .imul, 1), (22, .if_icmp .ge 29, 3), (25, .aload 6, 2), (27, .iload 7, 2), (29, .iload 4, 2), (31, .aload_n 2, 1), (32, .iload 7, 2), (34, .iaload, 1), (35, .imul, 1), (36, .iload 5, 2), (38, .aload_n 3, 1), (39, .iload 7, 2), (41, .iaload, 1), (42, .imul, 1), (43, .iadd, 1), (44, .iastore, 1), (45, .iinc 7 1, 3), (48, .goto (-37), 3), (51, .aload_n 0, 1), (52, .iload_n 1, 1), (53, .invokevirtual 90, 3), (56, .return_, 1)]
theorem dk_Pays_makeOfTwo : zw_dk b_Pays_makeOfTwo dl_Pays_makeOfTwo = true := by decide +kernel
theorem ce_Pays_makeOfTwo : zw_cev y_Pays_makeOfTwo b_Pays_makeOfTwo 8 (none) 5 := ⟨⟨kt_in 918 (by decide +kernel) rfl, kt_in 92 (by decide +kernel) rfl, by decide +kernel⟩, kt_in 916 (by decide +kernel) rfl, kt_in 917 (by decide +kernel) rfl⟩
def fn_Pays_makeOfTwo_l1 (first2 : Nat) (second3 : Nat) (r6 : Nat) (a4 : Int32) (b5 : Int32) : Int32 × zw_Ct → Option ((zw_Ct) ⊕ (Int32 × zw_Ct)) := fun (at7, c8) =>
  if (at7 < ((c8.1 1 2) * 4)) then
  ((zw_dI SH 0 c8 first2 at7).bind fun x13 =>
  (zw_dI SH 0 c8 second3 at7).bind fun x14 =>
  (zw_eI SH 0 c8 r6 at7 ((a4 * x13) + (b5 * x14))).bind fun c15 =>
  some (.inr ((at7 + 1), c15)))
  else
  (some (.inl c8))
def fn_Pays_makeOfTwo (c : zw_Ct) (pay1 : Int32) (first2 : Nat) (second3 : Nat) (a4 : Int32) (b5 : Int32) : Option zw_Ct :=
  (zw_gr 54 4 1 pay1).bind fun r6 =>
  (zw_whl (fn_Pays_makeOfTwo_l1 first2 second3 r6 a4 b5) zw_F (0, c)).bind fun c9 =>
  (fn_Pays_setMade c9 pay1).bind fun c16 =>
  some c16
set_option maxRecDepth 100000 in
theorem km_Pays_makeOfTwo {l : Launch} {g : zw_G} {rr : zw_RR} {sh : zw_Sh} {c : zw_Ct} {pay1 : Int32} {first2 : Nat} {second3 : Nat} {a4 : Int32} {b5 : Int32} {c2 : zw_Ct} (hS : zw_Ok 0 101 sh rr) (hsem : fn_Pays_makeOfTwo c pay1 first2 second3 a4 b5 = some c2) : zw_Met l g y_Pays_makeOfTwo b_Pays_makeOfTwo 8 (none) 2 rr sh [.ref 45, .int pay1, .ref first2, .ref second3, .int a4, .int b5] c none c2 := by
  unfold fn_Pays_makeOfTwo at hsem
  refine zw_Met.of (by decide +kernel) (Nat.le_of_ble_eq_true rfl) (fun p e s m args below meth cd X => ?_)
  refine zw_eL (L2 := [some (.ref 45), some (.int pay1), some (.ref first2), some (.ref second3), some (.int a4), some (.int b5), none, none]) rfl ?_
  refine r_aload_n X (pc := 0) (i := 0) (zw_dg dk_Pays_makeOfTwo 0 rfl) rfl rfl ?_
  refine r_getR X (pc := 1) (r := 53) ci_Pays (zo hS 45 rfl rfl) rfl (zr hS 45 5 rfl rfl) lk_Pays_25 (zw_dg dk_Pays_makeOfTwo 1 rfl) ?_
  refine r_iload_n X (pc := 4) (i := 1) (zw_dg dk_Pays_makeOfTwo 2 rfl) rfl rfl ?_
  obtain ⟨r6, hr6, hsem⟩ := zw_bd hsem
  refine r_aald X (pc := 5) (t := 4) (zo hS 53 rfl rfl) (by decide) rfl rfl (zw_gr_in hr6) (zgr hS 53 hr6 rfl) (zw_dg dk_Pays_makeOfTwo 3 rfl) ?_
  refine r_astore X (pc := 6) (i := 6) (zw_dg dk_Pays_makeOfTwo 4 rfl) (by decide) rfl ?_
  refine r_iconst X (pc := 8) (v := 0) (zw_dg dk_Pays_makeOfTwo 5 rfl) (by decide) ?_
  refine r_istore X (pc := 9) (i := 7) (zw_dg dk_Pays_makeOfTwo 6 rfl) (by decide) rfl ?_
  obtain ⟨c9, hl10, hsl10⟩ := zw_bd hsem
  refine r_loop (pc := 11) (pce := 51) hl10 (fun (at7, c8) => [some (.ref 45), some (.int pay1), some (.ref first2), some (.ref second3), some (.int a4), some (.int b5), some (.ref r6), some (.int at7)] : Int32 × zw_Ct → zw_Lc) (fun (at7, c8) => c8 : Int32 × zw_Ct → zw_Ct) (fun c9 => [some (.ref 45), some (.int pay1), some (.ref first2), some (.ref second3), some (.int a4), some (.int b5), some (.ref r6), none] : zw_Ct → zw_Lc) (fun c9 => c9 : zw_Ct → zw_Ct) ?_ rfl rfl ?_
  · rintro ⟨at7, c8⟩ rr hsem hK hP
    try unfold fn_Pays_makeOfTwo_l1 at hsem
    refine r_iload X (pc := 11) (i := 7) (zw_dg dk_Pays_makeOfTwo 7 rfl) rfl ?_
    refine r_aload_n X (pc := 13) (i := 0) (zw_dg dk_Pays_makeOfTwo 8 rfl) rfl rfl ?_
    refine r_getR X (pc := 14) (r := 1) ci_Pays (zo hS 45 rfl rfl) rfl (zr hS 45 0 rfl rfl) lk_Pays_38 (zw_dg dk_Pays_makeOfTwo 9 rfl) ?_
    refine r_getI X (pc := 17) ci_Sayings (zo hS 1 rfl rfl) rfl lk_Pays_69 (zw_dg dk_Pays_makeOfTwo 10 rfl) ?_
    refine r_iconst X (pc := 20) (v := 4) (zw_dg dk_Pays_makeOfTwo 11 rfl) (by decide) ?_
    refine r_imul X (pc := 21) (zw_dg dk_Pays_makeOfTwo 12 rfl)  ?_
    refine r_icmp_ge X (pc := 22) (tgt := 51) (zw_dg dk_Pays_makeOfTwo 13 rfl) (by decide) (fun q12 => ?_) (fun q12 => ?_)
    · --
      have p11 : ¬ (at7 < ((c8.1 1 2) * 4)) := (Int32.not_lt.mpr q12)
      have hsem := zw_ifn p11 hsem
      have jj := hK _ (Option.some.inj hsem).symm
      exact (r_fgt [7] rfl jj)
    · --
      have p11 : (at7 < ((c8.1 1 2) * 4)) := (Int32.not_le.mp q12)
      have hsem := zw_ifp p11 hsem
      refine r_aload X (pc := 25) (i := 6) (zw_dg dk_Pays_makeOfTwo 14 rfl) rfl ?_
      refine r_iload X (pc := 27) (i := 7) (zw_dg dk_Pays_makeOfTwo 15 rfl) rfl ?_
      refine r_iload X (pc := 29) (i := 4) (zw_dg dk_Pays_makeOfTwo 16 rfl) rfl ?_
      refine r_aload_n X (pc := 31) (i := 2) (zw_dg dk_Pays_makeOfTwo 17 rfl) rfl rfl ?_
      refine r_iload X (pc := 32) (i := 7) (zw_dg dk_Pays_makeOfTwo 18 rfl) rfl ?_
      obtain ⟨x13, hx13, hsem⟩ := zw_bd hsem
      obtain ⟨_, hnx13, hx13⟩ := zw_bd hx13
      refine r_iald X (pc := 34) (zd hS (zw_len_of hnx13)) hx13 (zw_dg dk_Pays_makeOfTwo 19 rfl) ?_
      refine r_imul X (pc := 35) (zw_dg dk_Pays_makeOfTwo 20 rfl)  ?_
      refine r_iload X (pc := 36) (i := 5) (zw_dg dk_Pays_makeOfTwo 21 rfl) rfl ?_
      refine r_aload_n X (pc := 38) (i := 3) (zw_dg dk_Pays_makeOfTwo 22 rfl) rfl rfl ?_
      refine r_iload X (pc := 39) (i := 7) (zw_dg dk_Pays_makeOfTwo 23 rfl) rfl ?_
      obtain ⟨x14, hx14, hsem⟩ := zw_bd hsem
      obtain ⟨_, hnx14, hx14⟩ := zw_bd hx14
      refine r_iald X (pc := 41) (zd hS (zw_len_of hnx14)) hx14 (zw_dg dk_Pays_makeOfTwo 24 rfl) ?_
      refine r_imul X (pc := 42) (zw_dg dk_Pays_makeOfTwo 25 rfl)  ?_
      refine r_iadd X (pc := 43) (zw_dg dk_Pays_makeOfTwo 26 rfl)  ?_
      obtain ⟨c15, hc15, hsem⟩ := zw_bd hsem
      obtain ⟨_, hnc15, hc15⟩ := zw_bd hc15
      refine r_iast X (pc := 44) (zd hS (zw_len_of hnc15)) hc15 (zw_dg dk_Pays_makeOfTwo 27 rfl) ?_
      refine r_iinc X (pc := 45) (i := 7) (k := 1) (zw_dg dk_Pays_makeOfTwo 28 rfl) rfl (by decide) (by decide) rfl ?_
      refine r_goto X (pc := 48) (tgt := 11) (zw_dg dk_Pays_makeOfTwo 29 rfl) (by decide) ?_
      have jj := hP _ (Option.some.inj hsem).symm
      exact (r_fgt [] rfl jj)
  have hsem := hsl10
  refine r_aload_n X (pc := 51) (i := 0) (zw_dg dk_Pays_makeOfTwo 30 rfl) rfl rfl ?_
  refine r_iload_n X (pc := 52) (i := 1) (zw_dg dk_Pays_makeOfTwo 31 rfl) rfl rfl ?_
  obtain ⟨c16, hc16, hsem⟩ := zw_bd hsem
  refine r_callVv X (pc := 53) (As := [_]) (st := []) (km_Pays_setMade hS hc16) ce_Pays_setMade kw_883 (zo hS 45 rfl rfl) rfl rfl ⟨Nat.le_of_ble_eq_true rfl, Nat.le_of_ble_eq_true rfl⟩ (Nat.le_of_ble_eq_true rfl) (zw_dg dk_Pays_makeOfTwo 32 rfl) ?_
  cases hsem
  exact r_vret X (pc := 56) rfl (zw_dg dk_Pays_makeOfTwo 33 rfl)
def y_Pays_leastAt : MethodName := ⟨R_Pays, "leastAt", "([I)I"⟩
abbrev b_Pays_leastAt : ByteArray := prog_8_method_13_code
def dl_Pays_leastAt : List (Nat × Instr × Nat) := [(0, .iconst 0, 1), (1, .istore_n 2, 1), (2, .iconst 0, 1), (3, .istore_n 3, 1), (4, .iload_n 3, 1), (5, .aload_n 0, 1), (6, .getfield 38, 3), (9, .getfield 69, 3), (12, .if_icmp .ge 51, 3), (15, .iconst 0, 1), (16, .istore 4, 2), (18, .iload 4, 2), (20, .aload_n 0, 1), (21, .getfield 38, 3), (24, .getfield 102, 3), (27, .if_icmp .ge 30, 3), (30, .iload_n 3, 1), (31, .iconst 4, 1), (32, .imul, 1), (33, .iload 4, 2), (35, .iadd, 1), (36, .istore 5, 2), (38, .aload_n 1, 1), (39, .iload 5, 2), (41, .iaload, 1), (42, .aload_n 1, 1), (43, .iload_n 2, 1), (44, .iaload, 1), (45, .if_icmp .ge 6, 3), (48, .iload 5, 2), (50, .istore_n 2, 1), (51, .iinc 4 1, 3), (54, .goto (-36), 3), (57, .iinc 3 1, 3), (60, .goto (-56), 3), (63, .iload_n 2, 1), (64, .ireturn, 1)]
theorem dk_Pays_leastAt : zw_dk b_Pays_leastAt dl_Pays_leastAt = true := by decide +kernel
theorem ce_Pays_leastAt : zw_cev y_Pays_leastAt b_Pays_leastAt 6 (some .int) 1 := ⟨⟨kt_in 740 (by decide +kernel) rfl, kt_in 92 (by decide +kernel) rfl, by decide +kernel⟩, kt_in 738 (by decide +kernel) rfl, kt_in 739 (by decide +kernel) rfl⟩
def fn_Pays_leastAt_l2 (c : zw_Ct) (saying3 : Int32) (of1 : Nat) : Int32 × Int32 → Option ((Int32) ⊕ (Int32 × Int32)) := fun (least8, e9) =>
  if (e9 < (c.1 1 0)) then
  ((some (((saying3 * 4) + e9) : Int32)).bind fun at14 =>
  (zw_dI SH 0 c of1 at14).bind fun x15 =>
  (zw_dI SH 0 c of1 least8).bind fun x16 =>
  (if (x15 < x16) then
  (some (at14 : Int32))
  else
  (some (least8 : Int32))).bind fun least17 =>
  some (.inr (least17, (e9 + 1))))
  else
  (some (.inl least8))
def fn_Pays_leastAt_l1 (c : zw_Ct) (of1 : Nat) : Int32 × Int32 → Option ((Int32) ⊕ (Int32 × Int32)) := fun (least2, saying3) =>
  if (saying3 < (c.1 1 2)) then
  ((zw_whl (fn_Pays_leastAt_l2 c saying3 of1) zw_F (least2, 0)).bind fun least10 =>
  some (.inr (least10, (saying3 + 1))))
  else
  (some (.inl least2))
def fn_Pays_leastAt (c : zw_Ct) (of1 : Nat) : Option Int32 :=
  (zw_whl (fn_Pays_leastAt_l1 c of1) zw_F (0, 0)).bind fun least4 =>
  some least4
set_option maxRecDepth 100000 in
theorem km_Pays_leastAt {l : Launch} {g : zw_G} {rr : zw_RR} {sh : zw_Sh} {c : zw_Ct} {of1 : Nat} {r : Int32} (hS : zw_Ok 0 101 sh rr) (hsem : fn_Pays_leastAt c of1 = some r) : zw_Met l g y_Pays_leastAt b_Pays_leastAt 6 (some .int) 1 rr sh [.ref 45, .ref of1] c (some (.int r)) c := by
  unfold fn_Pays_leastAt at hsem
  refine zw_Met.of (by decide +kernel) (Nat.le_of_ble_eq_true rfl) (fun p e s m args below meth cd X => ?_)
  refine zw_eL (L2 := [some (.ref 45), some (.ref of1), none, none, none, none]) rfl ?_
  refine r_iconst X (pc := 0) (v := 0) (zw_dg dk_Pays_leastAt 0 rfl) (by decide) ?_
  refine r_istore_n X (pc := 1) (i := 2) (zw_dg dk_Pays_leastAt 1 rfl) rfl (by decide) rfl ?_
  refine r_iconst X (pc := 2) (v := 0) (zw_dg dk_Pays_leastAt 2 rfl) (by decide) ?_
  refine r_istore_n X (pc := 3) (i := 3) (zw_dg dk_Pays_leastAt 3 rfl) rfl (by decide) rfl ?_
  obtain ⟨least4, hl5, hsl5⟩ := zw_bd hsem
  refine r_loop (pc := 4) (pce := 63) hl5 (fun (least2, saying3) => [some (.ref 45), some (.ref of1), some (.int least2), some (.int saying3), none, none] : Int32 × Int32 → zw_Lc) (fun (least2, saying3) => c : Int32 × Int32 → zw_Ct) (fun least4 => [some (.ref 45), some (.ref of1), some (.int least4), none, none, none] : Int32 → zw_Lc) (fun least4 => c : Int32 → zw_Ct) ?_ rfl rfl ?_
  · rintro ⟨least2, saying3⟩ rr hsem hK hP
    try unfold fn_Pays_leastAt_l1 at hsem
    refine r_iload_n X (pc := 4) (i := 3) (zw_dg dk_Pays_leastAt 4 rfl) rfl rfl ?_
    refine r_aload_n X (pc := 5) (i := 0) (zw_dg dk_Pays_leastAt 5 rfl) rfl rfl ?_
    refine r_getR X (pc := 6) (r := 1) ci_Pays (zo hS 45 rfl rfl) rfl (zr hS 45 0 rfl rfl) lk_Pays_38 (zw_dg dk_Pays_leastAt 6 rfl) ?_
    refine r_getI X (pc := 9) ci_Sayings (zo hS 1 rfl rfl) rfl lk_Pays_69 (zw_dg dk_Pays_leastAt 7 rfl) ?_
    refine r_icmp_ge X (pc := 12) (tgt := 63) (zw_dg dk_Pays_leastAt 8 rfl) (by decide) (fun q7 => ?_) (fun q7 => ?_)
    · --
      have p6 : ¬ (saying3 < (c.1 1 2)) := (Int32.not_lt.mpr q7)
      have hsem := zw_ifn p6 hsem
      have jj := hK _ (Option.some.inj hsem).symm
      exact (r_fgt [3] rfl jj)
    · --
      have p6 : (saying3 < (c.1 1 2)) := (Int32.not_le.mp q7)
      have hsem := zw_ifp p6 hsem
      refine r_iconst X (pc := 15) (v := 0) (zw_dg dk_Pays_leastAt 9 rfl) (by decide) ?_
      refine r_istore X (pc := 16) (i := 4) (zw_dg dk_Pays_leastAt 10 rfl) (by decide) rfl ?_
      obtain ⟨least10, hl11, hsl11⟩ := zw_bd hsem
      refine r_loop (pc := 18) (pce := 57) hl11 (fun (least8, e9) => [some (.ref 45), some (.ref of1), some (.int least8), some (.int saying3), some (.int e9), none] : Int32 × Int32 → zw_Lc) (fun (least8, e9) => c : Int32 × Int32 → zw_Ct) (fun least10 => [some (.ref 45), some (.ref of1), some (.int least10), some (.int saying3), none, none] : Int32 → zw_Lc) (fun least10 => c : Int32 → zw_Ct) ?_ rfl rfl ?_
      · rintro ⟨least8, e9⟩ rr hsem hK hP
        try unfold fn_Pays_leastAt_l2 at hsem
        refine r_iload X (pc := 18) (i := 4) (zw_dg dk_Pays_leastAt 11 rfl) rfl ?_
        refine r_aload_n X (pc := 20) (i := 0) (zw_dg dk_Pays_leastAt 12 rfl) rfl rfl ?_
        refine r_getR X (pc := 21) (r := 1) ci_Pays (zo hS 45 rfl rfl) rfl (zr hS 45 0 rfl rfl) lk_Pays_38 (zw_dg dk_Pays_leastAt 13 rfl) ?_
        refine r_getI X (pc := 24) ci_Sayings (zo hS 1 rfl rfl) rfl lk_Pays_102 (zw_dg dk_Pays_leastAt 14 rfl) ?_
        refine r_icmp_ge X (pc := 27) (tgt := 57) (zw_dg dk_Pays_leastAt 15 rfl) (by decide) (fun q13 => ?_) (fun q13 => ?_)
        · --
          have p12 : ¬ (e9 < (c.1 1 0)) := (Int32.not_lt.mpr q13)
          have hsem := zw_ifn p12 hsem
          have jj := hK _ (Option.some.inj hsem).symm
          exact (r_fgt [4] rfl jj)
        · --
          have p12 : (e9 < (c.1 1 0)) := (Int32.not_le.mp q13)
          have hsem := zw_ifp p12 hsem
          refine r_iload_n X (pc := 30) (i := 3) (zw_dg dk_Pays_leastAt 16 rfl) rfl rfl ?_
          refine r_iconst X (pc := 31) (v := 4) (zw_dg dk_Pays_leastAt 17 rfl) (by decide) ?_
          refine r_imul X (pc := 32) (zw_dg dk_Pays_leastAt 18 rfl)  ?_
          refine r_iload X (pc := 33) (i := 4) (zw_dg dk_Pays_leastAt 19 rfl) rfl ?_
          refine r_iadd X (pc := 35) (zw_dg dk_Pays_leastAt 20 rfl)  ?_
          obtain ⟨at14, hat14, hsem⟩ := zw_bd hsem
          refine zw_topI hat14 ?_
          refine r_istore X (pc := 36) (i := 5) (zw_dg dk_Pays_leastAt 21 rfl) (by decide) rfl ?_
          refine r_aload_n X (pc := 38) (i := 1) (zw_dg dk_Pays_leastAt 22 rfl) rfl rfl ?_
          refine r_iload X (pc := 39) (i := 5) (zw_dg dk_Pays_leastAt 23 rfl) rfl ?_
          obtain ⟨x15, hx15, hsem⟩ := zw_bd hsem
          obtain ⟨_, hnx15, hx15⟩ := zw_bd hx15
          refine r_iald X (pc := 41) (zd hS (zw_len_of hnx15)) hx15 (zw_dg dk_Pays_leastAt 24 rfl) ?_
          refine r_aload_n X (pc := 42) (i := 1) (zw_dg dk_Pays_leastAt 25 rfl) rfl rfl ?_
          refine r_iload_n X (pc := 43) (i := 2) (zw_dg dk_Pays_leastAt 26 rfl) rfl rfl ?_
          obtain ⟨x16, hx16, hsem⟩ := zw_bd hsem
          obtain ⟨_, hnx16, hx16⟩ := zw_bd hx16
          refine r_iald X (pc := 44) (zd hS (zw_len_of hnx16)) hx16 (zw_dg dk_Pays_leastAt 27 rfl) ?_
          obtain ⟨least17, ht51, hs51⟩ := zw_bd hsem
          refine zw_jn (J := 51) (L2 := [some (.ref 45), some (.ref of1), some (.int least17), some (.int saying3), some (.int e9), some (.int at14)]) (c2 := c) (fun jj => ?_) ?_
          · have hsem := ht51
            refine r_icmp_ge X (pc := 45) (tgt := 51) (zw_dg dk_Pays_leastAt 28 rfl) (by decide) (fun q19 => ?_) (fun q19 => ?_)
            · --
              have p18 : ¬ (x15 < x16) := (Int32.not_lt.mpr q19)
              have hsem := zw_ifn p18 hsem
              cases hsem
              exact (r_fgt [] rfl jj)
            · --
              have p18 : (x15 < x16) := (Int32.not_le.mp q19)
              have hsem := zw_ifp p18 hsem
              refine r_iload X (pc := 48) (i := 5) (zw_dg dk_Pays_leastAt 29 rfl) rfl ?_
              refine r_istore_n X (pc := 50) (i := 2) (zw_dg dk_Pays_leastAt 30 rfl) rfl (by decide) rfl ?_
              cases hsem
              exact (r_fgt [] rfl jj)
          have hsem := hs51
          refine r_iinc X (pc := 51) (i := 4) (k := 1) (zw_dg dk_Pays_leastAt 31 rfl) rfl (by decide) (by decide) rfl ?_
          refine r_goto X (pc := 54) (tgt := 18) (zw_dg dk_Pays_leastAt 32 rfl) (by decide) ?_
          have jj := hP _ (Option.some.inj hsem).symm
          exact (r_fgt [5] rfl jj)
      have hsem := hsl11
      refine r_iinc X (pc := 57) (i := 3) (k := 1) (zw_dg dk_Pays_leastAt 33 rfl) rfl (by decide) (by decide) rfl ?_
      refine r_goto X (pc := 60) (tgt := 4) (zw_dg dk_Pays_leastAt 34 rfl) (by decide) ?_
      have jj := hP _ (Option.some.inj hsem).symm
      exact (r_fgt [] rfl jj)
  have hsem := hsl5
  refine r_iload_n X (pc := 63) (i := 2) (zw_dg dk_Pays_leastAt 35 rfl) rfl rfl ?_
  cases hsem
  exact r_iret X (pc := 64) rfl (zw_dg dk_Pays_leastAt 36 rfl)
def y_Pays_makeLifted : MethodName := ⟨R_Pays, "makeLifted", "(I[I)I"⟩
abbrev b_Pays_makeLifted : ByteArray := prog_8_method_12_code
def dl_Pays_makeLifted : List (Nat × Instr × Nat) := [(0, .aload_n 2, 1), (1, .aload_n 0, 1), (2, .aload_n 2, 1), (3, .invokevirtual 98, 3), (6, .iaload, 1), (7, .istore_n 3, 1), (8, .aload_n 0, 1), (9, .getfield 25, 3), (12, .iload_n 1, 1), (13, .aaload, 1), (14, .astore 4, 2), (16, .iconst 0, 1), (17, .istore 5, 2), (19, .iload 5, 2), (21, .aload_n 0, 1), (22, .getfield 38, 3), (25, .getfield 69, 3), (28, .iconst 4, 1), (29, .imul, 1), (30, .if_icmp .ge 20, 3), (33, .aload 4, 2), (35, .iload 5, 2), (37, .aload_n 2, 1), (38, .iload 5, 2), (40, .iaload, 1), (41, .iload_n 3, 1), (42, .isub, 1), (43, .iastore, 1), (44, .iinc 5 1, 3), (47, .goto (-28), 3), (50, .aload_n 0, 1), (51, .iload_n 1, 1), (52, .invokevirtual 90, 3), (55, .iload_n 3, 1), (56, .ineg, 1), (57, .ireturn, 1)]
theorem dk_Pays_makeLifted : zw_dk b_Pays_makeLifted dl_Pays_makeLifted = true := by decide +kernel
theorem ce_Pays_makeLifted : zw_cev y_Pays_makeLifted b_Pays_makeLifted 6 (some .int) 2 := ⟨⟨kt_in 926 (by decide +kernel) rfl, kt_in 92 (by decide +kernel) rfl, by decide +kernel⟩, kt_in 924 (by decide +kernel) rfl, kt_in 925 (by decide +kernel) rfl⟩
def fn_Pays_makeLifted_l1 (from2 : Nat) (r5 : Nat) (x4 : Int32) : Int32 × zw_Ct → Option ((zw_Ct) ⊕ (Int32 × zw_Ct)) := fun (at6, c7) =>
  if (at6 < ((c7.1 1 2) * 4)) then
  ((zw_dI SH 0 c7 from2 at6).bind fun x12 =>
  (zw_eI SH 0 c7 r5 at6 (x12 - x4)).bind fun c13 =>
  some (.inr ((at6 + 1), c13)))
  else
  (some (.inl c7))
def fn_Pays_makeLifted (c : zw_Ct) (pay1 : Int32) (from2 : Nat) : Option (Int32 × zw_Ct) :=
  (fn_Pays_leastAt c from2).bind fun r3 =>
  (zw_dI SH 0 c from2 r3).bind fun x4 =>
  (zw_gr 54 4 1 pay1).bind fun r5 =>
  (zw_whl (fn_Pays_makeLifted_l1 from2 r5 x4) zw_F (0, c)).bind fun c8 =>
  (fn_Pays_setMade c8 pay1).bind fun c14 =>
  some ((-x4), c14)
set_option maxRecDepth 100000 in
theorem km_Pays_makeLifted {l : Launch} {g : zw_G} {rr : zw_RR} {sh : zw_Sh} {c : zw_Ct} {pay1 : Int32} {from2 : Nat} {r : Int32} {c2 : zw_Ct} (hS : zw_Ok 0 101 sh rr) (hsem : fn_Pays_makeLifted c pay1 from2 = some (r, c2)) : zw_Met l g y_Pays_makeLifted b_Pays_makeLifted 6 (some .int) 2 rr sh [.ref 45, .int pay1, .ref from2] c (some (.int r)) c2 := by
  unfold fn_Pays_makeLifted at hsem
  refine zw_Met.of (by decide +kernel) (Nat.le_of_ble_eq_true rfl) (fun p e s m args below meth cd X => ?_)
  refine zw_eL (L2 := [some (.ref 45), some (.int pay1), some (.ref from2), none, none, none]) rfl ?_
  refine r_aload_n X (pc := 0) (i := 2) (zw_dg dk_Pays_makeLifted 0 rfl) rfl rfl ?_
  refine r_aload_n X (pc := 1) (i := 0) (zw_dg dk_Pays_makeLifted 1 rfl) rfl rfl ?_
  refine r_aload_n X (pc := 2) (i := 2) (zw_dg dk_Pays_makeLifted 2 rfl) rfl rfl ?_
  obtain ⟨r3, hr3, hsem⟩ := zw_bd hsem
  refine r_callVi X (pc := 3) (As := [_]) (st := [.ref from2]) (km_Pays_leastAt hS hr3) ce_Pays_leastAt kw_927 (zo hS 45 rfl rfl) rfl rfl ⟨Nat.le_of_ble_eq_true rfl, Nat.le_of_ble_eq_true rfl⟩ (Nat.le_of_ble_eq_true rfl) (zw_dg dk_Pays_makeLifted 3 rfl) ?_
  obtain ⟨x4, hx4, hsem⟩ := zw_bd hsem
  obtain ⟨_, hnx4, hx4⟩ := zw_bd hx4
  refine r_iald X (pc := 6) (zd hS (zw_len_of hnx4)) hx4 (zw_dg dk_Pays_makeLifted 4 rfl) ?_
  refine r_istore_n X (pc := 7) (i := 3) (zw_dg dk_Pays_makeLifted 5 rfl) rfl (by decide) rfl ?_
  refine r_aload_n X (pc := 8) (i := 0) (zw_dg dk_Pays_makeLifted 6 rfl) rfl rfl ?_
  refine r_getR X (pc := 9) (r := 53) ci_Pays (zo hS 45 rfl rfl) rfl (zr hS 45 5 rfl rfl) lk_Pays_25 (zw_dg dk_Pays_makeLifted 7 rfl) ?_
  refine r_iload_n X (pc := 12) (i := 1) (zw_dg dk_Pays_makeLifted 8 rfl) rfl rfl ?_
  obtain ⟨r5, hr5, hsem⟩ := zw_bd hsem
  refine r_aald X (pc := 13) (t := 4) (zo hS 53 rfl rfl) (by decide) rfl rfl (zw_gr_in hr5) (zgr hS 53 hr5 rfl) (zw_dg dk_Pays_makeLifted 9 rfl) ?_
  refine r_astore X (pc := 14) (i := 4) (zw_dg dk_Pays_makeLifted 10 rfl) (by decide) rfl ?_
  refine r_iconst X (pc := 16) (v := 0) (zw_dg dk_Pays_makeLifted 11 rfl) (by decide) ?_
  refine r_istore X (pc := 17) (i := 5) (zw_dg dk_Pays_makeLifted 12 rfl) (by decide) rfl ?_
  obtain ⟨c8, hl9, hsl9⟩ := zw_bd hsem
  refine r_loop (pc := 19) (pce := 50) hl9 (fun (at6, c7) => [some (.ref 45), some (.int pay1), some (.ref from2), some (.int x4), some (.ref r5), some (.int at6)] : Int32 × zw_Ct → zw_Lc) (fun (at6, c7) => c7 : Int32 × zw_Ct → zw_Ct) (fun c8 => [some (.ref 45), some (.int pay1), some (.ref from2), some (.int x4), some (.ref r5), none] : zw_Ct → zw_Lc) (fun c8 => c8 : zw_Ct → zw_Ct) ?_ rfl rfl ?_
  · rintro ⟨at6, c7⟩ rr hsem hK hP
    try unfold fn_Pays_makeLifted_l1 at hsem
    refine r_iload X (pc := 19) (i := 5) (zw_dg dk_Pays_makeLifted 13 rfl) rfl ?_
    refine r_aload_n X (pc := 21) (i := 0) (zw_dg dk_Pays_makeLifted 14 rfl) rfl rfl ?_
    refine r_getR X (pc := 22) (r := 1) ci_Pays (zo hS 45 rfl rfl) rfl (zr hS 45 0 rfl rfl) lk_Pays_38 (zw_dg dk_Pays_makeLifted 15 rfl) ?_
    refine r_getI X (pc := 25) ci_Sayings (zo hS 1 rfl rfl) rfl lk_Pays_69 (zw_dg dk_Pays_makeLifted 16 rfl) ?_
    refine r_iconst X (pc := 28) (v := 4) (zw_dg dk_Pays_makeLifted 17 rfl) (by decide) ?_
    refine r_imul X (pc := 29) (zw_dg dk_Pays_makeLifted 18 rfl)  ?_
    refine r_icmp_ge X (pc := 30) (tgt := 50) (zw_dg dk_Pays_makeLifted 19 rfl) (by decide) (fun q11 => ?_) (fun q11 => ?_)
    · --
      have p10 : ¬ (at6 < ((c7.1 1 2) * 4)) := (Int32.not_lt.mpr q11)
      have hsem := zw_ifn p10 hsem
      have jj := hK _ (Option.some.inj hsem).symm
      exact (r_fgt [5] rfl jj)
    · --
      have p10 : (at6 < ((c7.1 1 2) * 4)) := (Int32.not_le.mp q11)
      have hsem := zw_ifp p10 hsem
      refine r_aload X (pc := 33) (i := 4) (zw_dg dk_Pays_makeLifted 20 rfl) rfl ?_
      refine r_iload X (pc := 35) (i := 5) (zw_dg dk_Pays_makeLifted 21 rfl) rfl ?_
      refine r_aload_n X (pc := 37) (i := 2) (zw_dg dk_Pays_makeLifted 22 rfl) rfl rfl ?_
      refine r_iload X (pc := 38) (i := 5) (zw_dg dk_Pays_makeLifted 23 rfl) rfl ?_
      obtain ⟨x12, hx12, hsem⟩ := zw_bd hsem
      obtain ⟨_, hnx12, hx12⟩ := zw_bd hx12
      refine r_iald X (pc := 40) (zd hS (zw_len_of hnx12)) hx12 (zw_dg dk_Pays_makeLifted 24 rfl) ?_
      refine r_iload_n X (pc := 41) (i := 3) (zw_dg dk_Pays_makeLifted 25 rfl) rfl rfl ?_
      refine r_isub X (pc := 42) (zw_dg dk_Pays_makeLifted 26 rfl)  ?_
      obtain ⟨c13, hc13, hsem⟩ := zw_bd hsem
      obtain ⟨_, hnc13, hc13⟩ := zw_bd hc13
      refine r_iast X (pc := 43) (zd hS (zw_len_of hnc13)) hc13 (zw_dg dk_Pays_makeLifted 27 rfl) ?_
      refine r_iinc X (pc := 44) (i := 5) (k := 1) (zw_dg dk_Pays_makeLifted 28 rfl) rfl (by decide) (by decide) rfl ?_
      refine r_goto X (pc := 47) (tgt := 19) (zw_dg dk_Pays_makeLifted 29 rfl) (by decide) ?_
      have jj := hP _ (Option.some.inj hsem).symm
      exact (r_fgt [] rfl jj)
  have hsem := hsl9
  refine r_aload_n X (pc := 50) (i := 0) (zw_dg dk_Pays_makeLifted 30 rfl) rfl rfl ?_
  refine r_iload_n X (pc := 51) (i := 1) (zw_dg dk_Pays_makeLifted 31 rfl) rfl rfl ?_
  obtain ⟨c14, hc14, hsem⟩ := zw_bd hsem
  refine r_callVv X (pc := 52) (As := [_]) (st := []) (km_Pays_setMade hS hc14) ce_Pays_setMade kw_883 (zo hS 45 rfl rfl) rfl rfl ⟨Nat.le_of_ble_eq_true rfl, Nat.le_of_ble_eq_true rfl⟩ (Nat.le_of_ble_eq_true rfl) (zw_dg dk_Pays_makeLifted 32 rfl) ?_
  refine r_iload_n X (pc := 55) (i := 3) (zw_dg dk_Pays_makeLifted 33 rfl) rfl rfl ?_
  refine r_ineg X (pc := 56) (zw_dg dk_Pays_makeLifted 34 rfl)  ?_
  cases hsem
  exact r_iret X (pc := 57) rfl (zw_dg dk_Pays_makeLifted 35 rfl)
def y_Pays_greatestOf : MethodName := ⟨R_Pays, "greatestOf", "([I)I"⟩
abbrev b_Pays_greatestOf : ByteArray := prog_8_method_14_code
def dl_Pays_greatestOf : List (Nat × Instr × Nat) := [(0, .aload_n 1, 1), (1, .iconst 0, 1), (2, .iaload, 1), (3, .istore_n 2, 1), (4, .iconst 0, 1), (5, .istore_n 3, 1), (6, .iload_n 3, 1), (7, .aload_n 0, 1), (8, .getfield 38, 3), (11, .getfield 69, 3), (14, .if_icmp .ge 43, 3), (17, .iconst 0, 1), (18, .istore 4, 2), (20, .iload 4, 2), (22, .aload_n 0, 1), (23, .getfield 38, 3), (26, .getfield 102, 3), (29, .if_icmp .ge 22, 3), (32, .iload_n 2, 1), (33, .aload_n 1, 1), (34, .iload_n 3, 1), (35, .iconst 4, 1), (36, .imul, 1), (37, .iload 4, 2), (39, .iadd, 1), (40, .iaload, 1), (41, .invokestatic 105, 3), (44, .istore_n 2, 1), (45, .iinc 4 1, 3), (48, .goto (-28), 3), (51, .iinc 3 1, 3), (54, .goto (-48), 3), (57, .iload_n 2, 1), (58, .ireturn, 1)]
theorem dk_Pays_greatestOf : zw_dk b_Pays_greatestOf dl_Pays_greatestOf = true := by decide +kernel
theorem ce_Pays_greatestOf : zw_cev y_Pays_greatestOf b_Pays_greatestOf 5 (some .int) 1 := ⟨⟨kt_in 752 (by decide +kernel) rfl, kt_in 92 (by decide +kernel) rfl, by decide +kernel⟩, kt_in 750 (by decide +kernel) rfl, kt_in 751 (by decide +kernel) rfl⟩
def fn_Pays_greatestOf_l2 (c : zw_Ct) (of1 : Nat) (saying4 : Int32) : Int32 × Int32 → Option ((Int32) ⊕ (Int32 × Int32)) := fun (greatest9, e10) =>
  if (e10 < (c.1 1 0)) then
  ((zw_dI SH 0 c of1 ((saying4 * 4) + e10)).bind fun x15 =>
  (some ((if greatest9 < x15 then x15 else greatest9) : Int32)).bind fun greatest16 =>
  some (.inr (greatest16, (e10 + 1))))
  else
  (some (.inl greatest9))
def fn_Pays_greatestOf_l1 (c : zw_Ct) (of1 : Nat) : Int32 × Int32 → Option ((Int32) ⊕ (Int32 × Int32)) := fun (greatest3, saying4) =>
  if (saying4 < (c.1 1 2)) then
  ((zw_whl (fn_Pays_greatestOf_l2 c of1 saying4) zw_F (greatest3, 0)).bind fun greatest11 =>
  some (.inr (greatest11, (saying4 + 1))))
  else
  (some (.inl greatest3))
def fn_Pays_greatestOf (c : zw_Ct) (of1 : Nat) : Option Int32 :=
  (zw_dI SH 0 c of1 0).bind fun x2 =>
  (zw_whl (fn_Pays_greatestOf_l1 c of1) zw_F (x2, 0)).bind fun greatest5 =>
  some greatest5
set_option maxRecDepth 100000 in
theorem km_Pays_greatestOf {l : Launch} {g : zw_G} {rr : zw_RR} {sh : zw_Sh} {c : zw_Ct} {of1 : Nat} {r : Int32} (hS : zw_Ok 0 101 sh rr) (hsem : fn_Pays_greatestOf c of1 = some r) : zw_Met l g y_Pays_greatestOf b_Pays_greatestOf 5 (some .int) 1 rr sh [.ref 45, .ref of1] c (some (.int r)) c := by
  unfold fn_Pays_greatestOf at hsem
  refine zw_Met.of (by decide +kernel) (Nat.le_of_ble_eq_true rfl) (fun p e s m args below meth cd X => ?_)
  refine zw_eL (L2 := [some (.ref 45), some (.ref of1), none, none, none]) rfl ?_
  refine r_aload_n X (pc := 0) (i := 1) (zw_dg dk_Pays_greatestOf 0 rfl) rfl rfl ?_
  refine r_iconst X (pc := 1) (v := 0) (zw_dg dk_Pays_greatestOf 1 rfl) (by decide) ?_
  obtain ⟨x2, hx2, hsem⟩ := zw_bd hsem
  obtain ⟨_, hnx2, hx2⟩ := zw_bd hx2
  refine r_iald X (pc := 2) (zd hS (zw_len_of hnx2)) hx2 (zw_dg dk_Pays_greatestOf 2 rfl) ?_
  refine r_istore_n X (pc := 3) (i := 2) (zw_dg dk_Pays_greatestOf 3 rfl) rfl (by decide) rfl ?_
  refine r_iconst X (pc := 4) (v := 0) (zw_dg dk_Pays_greatestOf 4 rfl) (by decide) ?_
  refine r_istore_n X (pc := 5) (i := 3) (zw_dg dk_Pays_greatestOf 5 rfl) rfl (by decide) rfl ?_
  obtain ⟨greatest5, hl6, hsl6⟩ := zw_bd hsem
  refine r_loop (pc := 6) (pce := 57) hl6 (fun (greatest3, saying4) => [some (.ref 45), some (.ref of1), some (.int greatest3), some (.int saying4), none] : Int32 × Int32 → zw_Lc) (fun (greatest3, saying4) => c : Int32 × Int32 → zw_Ct) (fun greatest5 => [some (.ref 45), some (.ref of1), some (.int greatest5), none, none] : Int32 → zw_Lc) (fun greatest5 => c : Int32 → zw_Ct) ?_ rfl rfl ?_
  · rintro ⟨greatest3, saying4⟩ rr hsem hK hP
    try unfold fn_Pays_greatestOf_l1 at hsem
    refine r_iload_n X (pc := 6) (i := 3) (zw_dg dk_Pays_greatestOf 6 rfl) rfl rfl ?_
    refine r_aload_n X (pc := 7) (i := 0) (zw_dg dk_Pays_greatestOf 7 rfl) rfl rfl ?_
    refine r_getR X (pc := 8) (r := 1) ci_Pays (zo hS 45 rfl rfl) rfl (zr hS 45 0 rfl rfl) lk_Pays_38 (zw_dg dk_Pays_greatestOf 8 rfl) ?_
    refine r_getI X (pc := 11) ci_Sayings (zo hS 1 rfl rfl) rfl lk_Pays_69 (zw_dg dk_Pays_greatestOf 9 rfl) ?_
    refine r_icmp_ge X (pc := 14) (tgt := 57) (zw_dg dk_Pays_greatestOf 10 rfl) (by decide) (fun q8 => ?_) (fun q8 => ?_)
    · --
      have p7 : ¬ (saying4 < (c.1 1 2)) := (Int32.not_lt.mpr q8)
      have hsem := zw_ifn p7 hsem
      have jj := hK _ (Option.some.inj hsem).symm
      exact (r_fgt [3] rfl jj)
    · --
      have p7 : (saying4 < (c.1 1 2)) := (Int32.not_le.mp q8)
      have hsem := zw_ifp p7 hsem
      refine r_iconst X (pc := 17) (v := 0) (zw_dg dk_Pays_greatestOf 11 rfl) (by decide) ?_
      refine r_istore X (pc := 18) (i := 4) (zw_dg dk_Pays_greatestOf 12 rfl) (by decide) rfl ?_
      obtain ⟨greatest11, hl12, hsl12⟩ := zw_bd hsem
      refine r_loop (pc := 20) (pce := 51) hl12 (fun (greatest9, e10) => [some (.ref 45), some (.ref of1), some (.int greatest9), some (.int saying4), some (.int e10)] : Int32 × Int32 → zw_Lc) (fun (greatest9, e10) => c : Int32 × Int32 → zw_Ct) (fun greatest11 => [some (.ref 45), some (.ref of1), some (.int greatest11), some (.int saying4), none] : Int32 → zw_Lc) (fun greatest11 => c : Int32 → zw_Ct) ?_ rfl rfl ?_
      · rintro ⟨greatest9, e10⟩ rr hsem hK hP
        try unfold fn_Pays_greatestOf_l2 at hsem
        refine r_iload X (pc := 20) (i := 4) (zw_dg dk_Pays_greatestOf 13 rfl) rfl ?_
        refine r_aload_n X (pc := 22) (i := 0) (zw_dg dk_Pays_greatestOf 14 rfl) rfl rfl ?_
        refine r_getR X (pc := 23) (r := 1) ci_Pays (zo hS 45 rfl rfl) rfl (zr hS 45 0 rfl rfl) lk_Pays_38 (zw_dg dk_Pays_greatestOf 15 rfl) ?_
        refine r_getI X (pc := 26) ci_Sayings (zo hS 1 rfl rfl) rfl lk_Pays_102 (zw_dg dk_Pays_greatestOf 16 rfl) ?_
        refine r_icmp_ge X (pc := 29) (tgt := 51) (zw_dg dk_Pays_greatestOf 17 rfl) (by decide) (fun q14 => ?_) (fun q14 => ?_)
        · --
          have p13 : ¬ (e10 < (c.1 1 0)) := (Int32.not_lt.mpr q14)
          have hsem := zw_ifn p13 hsem
          have jj := hK _ (Option.some.inj hsem).symm
          exact (r_fgt [4] rfl jj)
        · --
          have p13 : (e10 < (c.1 1 0)) := (Int32.not_le.mp q14)
          have hsem := zw_ifp p13 hsem
          refine r_iload_n X (pc := 32) (i := 2) (zw_dg dk_Pays_greatestOf 18 rfl) rfl rfl ?_
          refine r_aload_n X (pc := 33) (i := 1) (zw_dg dk_Pays_greatestOf 19 rfl) rfl rfl ?_
          refine r_iload_n X (pc := 34) (i := 3) (zw_dg dk_Pays_greatestOf 20 rfl) rfl rfl ?_
          refine r_iconst X (pc := 35) (v := 4) (zw_dg dk_Pays_greatestOf 21 rfl) (by decide) ?_
          refine r_imul X (pc := 36) (zw_dg dk_Pays_greatestOf 22 rfl)  ?_
          refine r_iload X (pc := 37) (i := 4) (zw_dg dk_Pays_greatestOf 23 rfl) rfl ?_
          refine r_iadd X (pc := 39) (zw_dg dk_Pays_greatestOf 24 rfl)  ?_
          obtain ⟨x15, hx15, hsem⟩ := zw_bd hsem
          obtain ⟨_, hnx15, hx15⟩ := zw_bd hx15
          refine r_iald X (pc := 40) (zd hS (zw_len_of hnx15)) hx15 (zw_dg dk_Pays_greatestOf 25 rfl) ?_
          refine r_mmax X (pc := 41) kw_753 mws_max kw_88 mwc_max ⟨Nat.le_of_ble_eq_true rfl, Nat.le_of_ble_eq_true rfl⟩ (st := []) (Nat.le_of_ble_eq_true rfl) (zw_dg dk_Pays_greatestOf 26 rfl) ?_
          obtain ⟨greatest16, hgreatest16, hsem⟩ := zw_bd hsem
          refine zw_topI hgreatest16 ?_
          refine r_istore_n X (pc := 44) (i := 2) (zw_dg dk_Pays_greatestOf 27 rfl) rfl (by decide) rfl ?_
          refine r_iinc X (pc := 45) (i := 4) (k := 1) (zw_dg dk_Pays_greatestOf 28 rfl) rfl (by decide) (by decide) rfl ?_
          refine r_goto X (pc := 48) (tgt := 20) (zw_dg dk_Pays_greatestOf 29 rfl) (by decide) ?_
          have jj := hP _ (Option.some.inj hsem).symm
          exact (r_fgt [] rfl jj)
      have hsem := hsl12
      refine r_iinc X (pc := 51) (i := 3) (k := 1) (zw_dg dk_Pays_greatestOf 30 rfl) rfl (by decide) (by decide) rfl ?_
      refine r_goto X (pc := 54) (tgt := 6) (zw_dg dk_Pays_greatestOf 31 rfl) (by decide) ?_
      have jj := hP _ (Option.some.inj hsem).symm
      exact (r_fgt [] rfl jj)
  have hsem := hsl6
  refine r_iload_n X (pc := 57) (i := 2) (zw_dg dk_Pays_greatestOf 32 rfl) rfl rfl ?_
  cases hsem
  exact r_iret X (pc := 58) rfl (zw_dg dk_Pays_greatestOf 33 rfl)
