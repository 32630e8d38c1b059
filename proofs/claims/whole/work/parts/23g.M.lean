/-! PaidForThinkingModel: names, functions, contracts (by program: wip/whole/gen) -/
def y_M_count : MethodName := ⟨R_M, "count", "(I)I"⟩
abbrev b_M_count : ByteArray := prog_14_method_103_code
def dl_M_count : List (Nat × Instr × Nat) := [(0, .aload_n 0, 1), (1, .iconst 0, 1), (2, .putfield 97, 3), (5, .iconst 0, 1), (6, .istore_n 2, 1), (7, .iload_n 1, 1), (8, .tableswitch 125 0 8 #[52, 57, 62, 67, 100, 105, 110, 115, 120], 52), (60, .aload_n 0, 1), (61, .getfield 9, 3), (64, .ireturn, 1), (65, .aload_n 0, 1), (66, .getfield 13, 3), (69, .ireturn, 1), (70, .aload_n 0, 1), (71, .getfield 113, 3), (74, .ireturn, 1), (75, .iconst 0, 1), (76, .istore_n 3, 1), (77, .iload_n 3, 1), (78, .iconst 4, 1), (79, .if_icmp .ge 27, 3), (82, .iload_n 2, 1), (83, .aload_n 0, 1), (84, .iload_n 3, 1), (85, .invokevirtual 222, 3), (88, .ifCond .eq 9, 3), (91, .iconst 1, 1), (92, .iload_n 3, 1), (93, .ishl, 1), (94, .goto 4, 3), (97, .iconst 0, 1), (98, .ior, 1), (99, .istore_n 2, 1), (100, .iinc 3 1, 3), (103, .goto (-26), 3), (106, .iload_n 2, 1), (107, .ireturn, 1), (108, .aload_n 0, 1), (109, .getfield 130, 3), (112, .ireturn, 1), (113, .aload_n 0, 1), (114, .getfield 133, 3), (117, .ireturn, 1), (118, .aload_n 0, 1), (119, .getfield 136, 3), (122, .ireturn, 1), (123, .aload_n 0, 1), (124, .getfield 100, 3), (127, .ireturn, 1), (128, .aload_n 0, 1), (129, .getfield 166, 3), (132, .ireturn, 1), (133, .iconst (-1), 1), (134, .ireturn, 1)]
theorem dk_M_count : zw_dk b_M_count dl_M_count = true := by decide +kernel
theorem ce_M_count : zw_cev y_M_count b_M_count 4 (some .int) 1 := ⟨⟨kt_in 2013 (by decide +kernel) rfl, kt_in 98 (by decide +kernel) rfl, by decide +kernel⟩, kt_in 2011 (by decide +kernel) rfl, kt_in 2012 (by decide +kernel) rfl⟩
def fn_M_count_l1 (c3 : zw_Ct) : Int32 × Int32 → Option ((Int32) ⊕ (Int32 × Int32)) := fun (n8, p9) =>
  if (p9 < 4) then
  ((fn_M_isPay c3 p9).bind fun r14 =>
  (some ((n8 ||| (if (¬ r14 = 0) then ((1 <<< (p9 &&& 31)) : Int32) else 0)) : Int32)).bind fun n16 =>
  some (.inr (n16, (p9 + 1))))
  else
  (some (.inl n8))
def fn_M_count (c : zw_Ct) (what1 : Int32) : Option (Int32 × zw_Ct) :=
  (some (zw_wI c 71 9 0)).bind fun c3 =>
  if what1 = 0 then
  (some ((c3.1 71 0), c3))
  else
  (if what1 = 1 then
  (some ((c3.1 71 1), c3))
  else
  (if what1 = 2 then
  (some ((c3.1 71 2), c3))
  else
  (if what1 = 3 then
  ((zw_whl (fn_M_count_l1 c3) zw_F (0, 0)).bind fun n10 =>
  some (n10, c3))
  else
  (if what1 = 4 then
  (some ((c3.1 71 26), c3))
  else
  (if what1 = 5 then
  (some ((c3.1 71 33), c3))
  else
  (if what1 = 6 then
  (some ((c3.1 71 30), c3))
  else
  (if what1 = 7 then
  (some ((c3.1 71 8), c3))
  else
  (if what1 = 8 then
  (some ((c3.1 71 6), c3))
  else
  (some ((-1), c3))))))))))
set_option maxRecDepth 100000 in
theorem km_M_count {l : Launch} {g : zw_G} {rr : zw_RR} {sh : zw_Sh} {c : zw_Ct} {what1 : Int32} {r : Int32} {c2 : zw_Ct} (hS : zw_Ok 0 101 sh rr) (hsem : fn_M_count c what1 = some (r, c2)) : zw_Met l g y_M_count b_M_count 4 (some .int) 3 rr sh [.ref 71, .int what1] c (some (.int r)) c2 := by
  unfold fn_M_count at hsem
  refine zw_Met.of (by decide +kernel) (Nat.le_of_ble_eq_true rfl) (fun p e s m args below meth cd X => ?_)
  refine zw_eL (L2 := [some (.ref 71), some (.int what1), none, none]) rfl ?_
  refine r_aload_n X (pc := 0) (i := 0) (zw_dg dk_M_count 0 rfl) rfl rfl ?_
  refine r_iconst X (pc := 1) (v := 0) (zw_dg dk_M_count 1 rfl) (by decide) ?_
  refine r_putI X (pc := 2) ci_M (zo hS 71 rfl rfl) rfl lk_M_97 rfl ⟨rfl, rfl⟩ (zw_dg dk_M_count 2 rfl) ?_
  obtain ⟨c3, hc3, hsem⟩ := zw_bd hsem
  refine zw_topC hc3 ?_
  refine r_iconst X (pc := 5) (v := 0) (zw_dg dk_M_count 3 rfl) (by decide) ?_
  refine r_istore_n X (pc := 6) (i := 2) (zw_dg dk_M_count 4 rfl) rfl (by decide) rfl ?_
  refine r_iload_n X (pc := 7) (i := 1) (zw_dg dk_M_count 5 rfl) rfl rfl ?_
  by_cases k4 : what1 = 0
  · have hsem := zw_ifp k4 hsem
    refine zw_eqtI k4 ?_
    refine r_tableIn X (pc := 8) (tgt := 60) (off := 52) (zw_dg dk_M_count 6 rfl) (by decide) (by decide) (by decide) (by decide) ?_
    refine r_aload_n X (pc := 60) (i := 0) (zw_dg dk_M_count 7 rfl) rfl rfl ?_
    refine r_getI X (pc := 61) ci_M (zo hS 71 rfl rfl) rfl lk_M_9 (zw_dg dk_M_count 8 rfl) ?_
    obtain ⟨rfl, rfl⟩ := zw_in2 hsem
    exact r_iret X (pc := 64) rfl (zw_dg dk_M_count 9 rfl)
  · have hsem := zw_ifn k4 hsem
    by_cases k5 : what1 = 1
    · have hsem := zw_ifp k5 hsem
      refine zw_eqtI k5 ?_
      refine r_tableIn X (pc := 8) (tgt := 65) (off := 57) (zw_dg dk_M_count 6 rfl) (by decide) (by decide) (by decide) (by decide) ?_
      refine r_aload_n X (pc := 65) (i := 0) (zw_dg dk_M_count 10 rfl) rfl rfl ?_
      refine r_getI X (pc := 66) ci_M (zo hS 71 rfl rfl) rfl lk_M_13 (zw_dg dk_M_count 11 rfl) ?_
      obtain ⟨rfl, rfl⟩ := zw_in2 hsem
      exact r_iret X (pc := 69) rfl (zw_dg dk_M_count 12 rfl)
    · have hsem := zw_ifn k5 hsem
      by_cases k6 : what1 = 2
      · have hsem := zw_ifp k6 hsem
        refine zw_eqtI k6 ?_
        refine r_tableIn X (pc := 8) (tgt := 70) (off := 62) (zw_dg dk_M_count 6 rfl) (by decide) (by decide) (by decide) (by decide) ?_
        refine r_aload_n X (pc := 70) (i := 0) (zw_dg dk_M_count 13 rfl) rfl rfl ?_
        refine r_getI X (pc := 71) ci_M (zo hS 71 rfl rfl) rfl lk_M_113 (zw_dg dk_M_count 14 rfl) ?_
        obtain ⟨rfl, rfl⟩ := zw_in2 hsem
        exact r_iret X (pc := 74) rfl (zw_dg dk_M_count 15 rfl)
      · have hsem := zw_ifn k6 hsem
        by_cases k7 : what1 = 3
        · have hsem := zw_ifp k7 hsem
          refine zw_eqtI k7 ?_
          refine r_tableIn X (pc := 8) (tgt := 75) (off := 67) (zw_dg dk_M_count 6 rfl) (by decide) (by decide) (by decide) (by decide) ?_
          refine r_iconst X (pc := 75) (v := 0) (zw_dg dk_M_count 16 rfl) (by decide) ?_
          refine r_istore_n X (pc := 76) (i := 3) (zw_dg dk_M_count 17 rfl) rfl (by decide) rfl ?_
          obtain ⟨n10, hl11, hsl11⟩ := zw_bd hsem
          refine r_loop (pc := 77) (pce := 106) hl11 (fun (n8, p9) => [some (.ref 71), some (.int what1), some (.int n8), some (.int p9)] : Int32 × Int32 → zw_Lc) (fun (n8, p9) => c3 : Int32 × Int32 → zw_Ct) (fun n10 => [some (.ref 71), some (.int what1), some (.int n10), none] : Int32 → zw_Lc) (fun n10 => c3 : Int32 → zw_Ct) ?_ rfl rfl ?_
          · rintro ⟨n8, p9⟩ rr hsem hK hP
            try unfold fn_M_count_l1 at hsem
            refine r_iload_n X (pc := 77) (i := 3) (zw_dg dk_M_count 18 rfl) rfl rfl ?_
            refine r_iconst X (pc := 78) (v := 4) (zw_dg dk_M_count 19 rfl) (by decide) ?_
            refine r_icmp_ge X (pc := 79) (tgt := 106) (zw_dg dk_M_count 20 rfl) (by decide) (fun q13 => ?_) (fun q13 => ?_)
            · --
              have p12 : ¬ (p9 < 4) := (Int32.not_lt.mpr q13)
              have hsem := zw_ifn p12 hsem
              have jj := hK _ (Option.some.inj hsem).symm
              exact (r_fgt [3] rfl jj)
            · --
              have p12 : (p9 < 4) := (Int32.not_le.mp q13)
              have hsem := zw_ifp p12 hsem
              refine r_iload_n X (pc := 82) (i := 2) (zw_dg dk_M_count 21 rfl) rfl rfl ?_
              refine r_aload_n X (pc := 83) (i := 0) (zw_dg dk_M_count 22 rfl) rfl rfl ?_
              refine r_iload_n X (pc := 84) (i := 3) (zw_dg dk_M_count 23 rfl) rfl rfl ?_
              obtain ⟨r14, hr14, hsem⟩ := zw_bd hsem
              refine r_callVi X (pc := 85) (As := [_]) (st := [.int n8]) (km_M_isPay hS hr14) ce_M_isPay kw_1688 (zo hS 71 rfl rfl) rfl rfl ⟨Nat.le_of_ble_eq_true rfl, Nat.le_of_ble_eq_true rfl⟩ (Nat.le_of_ble_eq_true rfl) (zw_dg dk_M_count 24 rfl) ?_
              refine zw_ter (P := (¬ r14 = 0)) (f := Value.int) (x := (1 <<< (p9 &&& 31))) (y := 0) (J := 98) (st2 := [.int n8]) (fun jT jF => ?_) ?_
              · --
                refine r_if_eq X (pc := 88) (tgt := 97) (zw_dg dk_M_count 25 rfl) (by decide) (fun q15 => ?_) (fun q15 => ?_)
                · --
                  refine r_iconst X (pc := 97) (v := 0) (zw_dg dk_M_count 30 rfl) (by decide) ?_
                  exact jF (fun z => z q15)
                · --
                  refine r_iconst X (pc := 91) (v := 1) (zw_dg dk_M_count 26 rfl) (by decide) ?_
                  refine r_iload_n X (pc := 92) (i := 3) (zw_dg dk_M_count 27 rfl) rfl rfl ?_
                  refine r_ishl X (pc := 93) (zw_dg dk_M_count 28 rfl)  ?_
                  refine r_goto X (pc := 94) (tgt := 98) (zw_dg dk_M_count 29 rfl) (by decide) ?_
                  exact jT q15
              refine r_ior X (pc := 98) (zw_dg dk_M_count 31 rfl)  ?_
              obtain ⟨n16, hn16, hsem⟩ := zw_bd hsem
              refine zw_topI hn16 ?_
              refine r_istore_n X (pc := 99) (i := 2) (zw_dg dk_M_count 32 rfl) rfl (by decide) rfl ?_
              refine r_iinc X (pc := 100) (i := 3) (k := 1) (zw_dg dk_M_count 33 rfl) rfl (by decide) (by decide) rfl ?_
              refine r_goto X (pc := 103) (tgt := 77) (zw_dg dk_M_count 34 rfl) (by decide) ?_
              have jj := hP _ (Option.some.inj hsem).symm
              exact (r_fgt [] rfl jj)
          have hsem := hsl11
          refine r_iload_n X (pc := 106) (i := 2) (zw_dg dk_M_count 35 rfl) rfl rfl ?_
          obtain ⟨rfl, rfl⟩ := zw_in2 hsem
          exact r_iret X (pc := 107) rfl (zw_dg dk_M_count 36 rfl)
        · have hsem := zw_ifn k7 hsem
          by_cases k17 : what1 = 4
          · have hsem := zw_ifp k17 hsem
            refine zw_eqtI k17 ?_
            refine r_tableIn X (pc := 8) (tgt := 108) (off := 100) (zw_dg dk_M_count 6 rfl) (by decide) (by decide) (by decide) (by decide) ?_
            refine r_aload_n X (pc := 108) (i := 0) (zw_dg dk_M_count 37 rfl) rfl rfl ?_
            refine r_getI X (pc := 109) ci_M (zo hS 71 rfl rfl) rfl lk_M_130 (zw_dg dk_M_count 38 rfl) ?_
            obtain ⟨rfl, rfl⟩ := zw_in2 hsem
            exact r_iret X (pc := 112) rfl (zw_dg dk_M_count 39 rfl)
          · have hsem := zw_ifn k17 hsem
            by_cases k18 : what1 = 5
            · have hsem := zw_ifp k18 hsem
              refine zw_eqtI k18 ?_
              refine r_tableIn X (pc := 8) (tgt := 113) (off := 105) (zw_dg dk_M_count 6 rfl) (by decide) (by decide) (by decide) (by decide) ?_
              refine r_aload_n X (pc := 113) (i := 0) (zw_dg dk_M_count 40 rfl) rfl rfl ?_
              refine r_getI X (pc := 114) ci_M (zo hS 71 rfl rfl) rfl lk_M_133 (zw_dg dk_M_count 41 rfl) ?_
              obtain ⟨rfl, rfl⟩ := zw_in2 hsem
              exact r_iret X (pc := 117) rfl (zw_dg dk_M_count 42 rfl)
            · have hsem := zw_ifn k18 hsem
              by_cases k19 : what1 = 6
              · have hsem := zw_ifp k19 hsem
                refine zw_eqtI k19 ?_
                refine r_tableIn X (pc := 8) (tgt := 118) (off := 110) (zw_dg dk_M_count 6 rfl) (by decide) (by decide) (by decide) (by decide) ?_
                refine r_aload_n X (pc := 118) (i := 0) (zw_dg dk_M_count 43 rfl) rfl rfl ?_
                refine r_getI X (pc := 119) ci_M (zo hS 71 rfl rfl) rfl lk_M_136 (zw_dg dk_M_count 44 rfl) ?_
                obtain ⟨rfl, rfl⟩ := zw_in2 hsem
                exact r_iret X (pc := 122) rfl (zw_dg dk_M_count 45 rfl)
              · have hsem := zw_ifn k19 hsem
                by_cases k20 : what1 = 7
                · have hsem := zw_ifp k20 hsem
                  refine zw_eqtI k20 ?_
                  refine r_tableIn X (pc := 8) (tgt := 123) (off := 115) (zw_dg dk_M_count 6 rfl) (by decide) (by decide) (by decide) (by decide) ?_
                  refine r_aload_n X (pc := 123) (i := 0) (zw_dg dk_M_count 46 rfl) rfl rfl ?_
                  refine r_getI X (pc := 124) ci_M (zo hS 71 rfl rfl) rfl lk_M_100 (zw_dg dk_M_count 47 rfl) ?_
                  obtain ⟨rfl, rfl⟩ := zw_in2 hsem
                  exact r_iret X (pc := 127) rfl (zw_dg dk_M_count 48 rfl)
                · have hsem := zw_ifn k20 hsem
                  by_cases k21 : what1 = 8
                  · have hsem := zw_ifp k21 hsem
                    refine zw_eqtI k21 ?_
                    refine r_tableIn X (pc := 8) (tgt := 128) (off := 120) (zw_dg dk_M_count 6 rfl) (by decide) (by decide) (by decide) (by decide) ?_
                    refine r_aload_n X (pc := 128) (i := 0) (zw_dg dk_M_count 49 rfl) rfl rfl ?_
                    refine r_getI X (pc := 129) ci_M (zo hS 71 rfl rfl) rfl lk_M_166 (zw_dg dk_M_count 50 rfl) ?_
                    obtain ⟨rfl, rfl⟩ := zw_in2 hsem
                    exact r_iret X (pc := 132) rfl (zw_dg dk_M_count 51 rfl)
                  · have hsem := zw_ifn k21 hsem
                    have e0 := lv_neT (fun z => k4 z) (show (0 : Int32).toInt = 0 from by decide)
                    have e1 := lv_neT (fun z => k5 z) (show (1 : Int32).toInt = 1 from by decide)
                    have e2 := lv_neT (fun z => k6 z) (show (2 : Int32).toInt = 2 from by decide)
                    have e3 := lv_neT (fun z => k7 z) (show (3 : Int32).toInt = 3 from by decide)
                    have e4 := lv_neT (fun z => k17 z) (show (4 : Int32).toInt = 4 from by decide)
                    have e5 := lv_neT (fun z => k18 z) (show (5 : Int32).toInt = 5 from by decide)
                    have e6 := lv_neT (fun z => k19 z) (show (6 : Int32).toInt = 6 from by decide)
                    have e7 := lv_neT (fun z => k20 z) (show (7 : Int32).toInt = 7 from by decide)
                    have e8 := lv_neT (fun z => k21 z) (show (8 : Int32).toInt = 8 from by decide)
                    refine r_tableOut X (pc := 8) (tgt := 133) (zw_dg dk_M_count 6 rfl) (by omega) (by decide) ?_
                    refine r_iconst X (pc := 133) (v := (-1)) (zw_dg dk_M_count 52 rfl) (by decide) ?_
                    obtain ⟨rfl, rfl⟩ := zw_in2 hsem
                    exact r_iret X (pc := 134) rfl (zw_dg dk_M_count 53 rfl)
def y_M_row : MethodName := ⟨R_M, "row", "(I)J"⟩
abbrev b_M_row : ByteArray := prog_14_method_104_code
def dl_M_row : List (Nat × Instr × Nat) := [(0, .aload_n 0, 1), (1, .iconst 0, 1), (2, .putfield 97, 3), (5, .iload_n 1, 1), (6, .i2l, 1), (7, .lconst 0, 1), (8, .aload_n 0, 1), (9, .getfield 100, 3), (12, .iconst 1, 1), (13, .isub, 1), (14, .i2l, 1), (15, .invokestatic 120, 3), (18, .ifCond .eq 12, 3), (21, .aload_n 0, 1), (22, .getfield 27, 3), (25, .iload_n 1, 1), (26, .laload, 1), (27, .goto 8, 3), (30, .aload_n 0, 1), (31, .invokevirtual 149, 3), (34, .i2l, 1), (35, .lreturn, 1)]
theorem dk_M_row : zw_dk b_M_row dl_M_row = true := by decide +kernel
theorem ce_M_row : zw_cev y_M_row b_M_row 2 (some .long) 1 := ⟨⟨kt_in 2017 (by decide +kernel) rfl, kt_in 98 (by decide +kernel) rfl, by decide +kernel⟩, kt_in 2015 (by decide +kernel) rfl, kt_in 2016 (by decide +kernel) rfl⟩
def fn_M_row (c : zw_Ct) (i1 : Int32) : Option (Int64 × zw_Ct) :=
  (some (zw_wI c 71 9 0)).bind fun c3 =>
  (if (¬ (fn_M_in i1.toInt64 0 (((c3.1 71 8) - 1)).toInt64) = 0) then
  ((zw_aL 24 c3 75 i1).bind fun x10 =>
  some ((x10 : Int64), c3))
  else
  ((fn_M_lost c3).bind fun (r8, c9) =>
  some ((r8.toInt64 : Int64), c9))).bind fun (v4, c5) =>
  some (v4, c5)
set_option maxRecDepth 100000 in
theorem km_M_row {l : Launch} {g : zw_G} {rr : zw_RR} {sh : zw_Sh} {c : zw_Ct} {i1 : Int32} {r : Int64} {c2 : zw_Ct} (hS : zw_Ok 0 101 sh rr) (hsem : fn_M_row c i1 = some (r, c2)) : zw_Met l g y_M_row b_M_row 2 (some .long) 2 rr sh [.ref 71, .int i1] c (some (.long r)) c2 := by
  unfold fn_M_row at hsem
  refine zw_Met.of (by decide +kernel) (Nat.le_of_ble_eq_true rfl) (fun p e s m args below meth cd X => ?_)
  refine zw_eL (L2 := [some (.ref 71), some (.int i1)]) rfl ?_
  refine r_aload_n X (pc := 0) (i := 0) (zw_dg dk_M_row 0 rfl) rfl rfl ?_
  refine r_iconst X (pc := 1) (v := 0) (zw_dg dk_M_row 1 rfl) (by decide) ?_
  refine r_putI X (pc := 2) ci_M (zo hS 71 rfl rfl) rfl lk_M_97 rfl ⟨rfl, rfl⟩ (zw_dg dk_M_row 2 rfl) ?_
  obtain ⟨c3, hc3, hsem⟩ := zw_bd hsem
  refine zw_topC hc3 ?_
  obtain ⟨⟨v4, c5⟩, hv4, hsv4⟩ := zw_bd hsem
  refine zw_terO (f := Value.long) (v := v4) (J := 35) (st2 := []) (c2 := c5) (fun jj => ?_) ?_
  · have hsem := hv4
    refine r_iload_n X (pc := 5) (i := 1) (zw_dg dk_M_row 3 rfl) rfl rfl ?_
    refine r_i2l X (pc := 6) (zw_dg dk_M_row 4 rfl)  ?_
    refine r_lconst X (pc := 7) (v := 0) (zw_dg dk_M_row 5 rfl) (by decide) ?_
    refine r_aload_n X (pc := 8) (i := 0) (zw_dg dk_M_row 6 rfl) rfl rfl ?_
    refine r_getI X (pc := 9) ci_M (zo hS 71 rfl rfl) rfl lk_M_100 (zw_dg dk_M_row 7 rfl) ?_
    refine r_iconst X (pc := 12) (v := 1) (zw_dg dk_M_row 8 rfl) (by decide) ?_
    refine r_isub X (pc := 13) (zw_dg dk_M_row 9 rfl)  ?_
    refine r_i2l X (pc := 14) (zw_dg dk_M_row 10 rfl)  ?_
    refine r_callSi X (pc := 15) (As := [_, _, _]) (st := []) (km_M_in hS rfl) ce_M_in kw_1597 rfl ⟨Nat.le_of_ble_eq_true rfl, Nat.le_of_ble_eq_true rfl⟩ (Nat.le_of_ble_eq_true rfl) (zw_dg dk_M_row 11 rfl) ?_
    refine r_if_eq X (pc := 18) (tgt := 30) (zw_dg dk_M_row 12 rfl) (by decide) (fun q7 => ?_) (fun q7 => ?_)
    · --
      have p6 : ¬ (¬ (fn_M_in i1.toInt64 0 (((c3.1 71 8) - 1)).toInt64) = 0) := (fun z => z q7)
      have hsem := zw_ifn p6 hsem
      refine r_aload_n X (pc := 30) (i := 0) (zw_dg dk_M_row 18 rfl) rfl rfl ?_
      obtain ⟨⟨r8, c9⟩, hr8_c9, hsem⟩ := zw_bd hsem
      refine r_callVi X (pc := 31) (As := []) (st := []) (km_M_lost hS hr8_c9) ce_M_lost kw_1617 (zo hS 71 rfl rfl) rfl rfl ⟨Nat.le_of_ble_eq_true rfl, Nat.le_of_ble_eq_true rfl⟩ (Nat.le_of_ble_eq_true rfl) (zw_dg dk_M_row 19 rfl) ?_
      refine r_i2l X (pc := 34) (zw_dg dk_M_row 20 rfl)  ?_
      cases hsem; exact jj
    · --
      have p6 : (¬ (fn_M_in i1.toInt64 0 (((c3.1 71 8) - 1)).toInt64) = 0) := q7
      have hsem := zw_ifp p6 hsem
      refine r_aload_n X (pc := 21) (i := 0) (zw_dg dk_M_row 13 rfl) rfl rfl ?_
      refine r_getR X (pc := 22) (r := 75) ci_M (zo hS 71 rfl rfl) rfl (zr hS 71 7 rfl rfl) lk_M_27 (zw_dg dk_M_row 14 rfl) ?_
      refine r_iload_n X (pc := 25) (i := 1) (zw_dg dk_M_row 15 rfl) rfl rfl ?_
      obtain ⟨x10, hx10, hsem⟩ := zw_bd hsem
      refine r_lald X (pc := 26) (zo hS 75 rfl rfl) hx10 (zw_dg dk_M_row 16 rfl) ?_
      refine r_goto X (pc := 27) (tgt := 35) (zw_dg dk_M_row 17 rfl) (by decide) ?_
      cases hsem; exact jj
  have hsem := hsv4
  obtain ⟨rfl, rfl⟩ := zw_in2 hsem
  exact r_lret X (pc := 35) rfl (zw_dg dk_M_row 21 rfl)
