/-! PaidForThinkingModel: names, functions, contracts (by program: wip/whole/gen) -/
def y_M_gain : MethodName := ⟨R_M, "gain", "(I)I"⟩
abbrev b_M_gain : ByteArray := prog_14_method_77_code
def dl_M_gain : List (Nat × Instr × Nat) := [(0, .aload_n 0, 1), (1, .iconst 0, 1), (2, .putfield 97, 3), (5, .aload_n 0, 1), (6, .iload_n 1, 1), (7, .invokevirtual 222, 3), (10, .ifCond .ne 5, 3), (13, .iconst (-1), 1), (14, .ireturn, 1), (15, .aload_n 0, 1), (16, .getfield 113, 3), (19, .bipush 91, 2), (21, .if_icmp .le 6, 3), (24, .bipush (-3), 2), (26, .ireturn, 1), (27, .aload_n 0, 1), (28, .iload_n 1, 1), (29, .invokevirtual 229, 3), (32, .iconst 0, 1), (33, .istore_n 2, 1), (34, .aload_n 0, 1), (35, .iconst 0, 1), (36, .putfield 100, 3), (39, .iconst 0, 1), (40, .istore_n 3, 1), (41, .iload_n 3, 1), (42, .aload_n 0, 1), (43, .getfield 113, 3), (46, .if_icmp .ge 104, 3), (49, .iload_n 3, 1), (50, .iconst 1, 1), (51, .iadd, 1), (52, .istore 4, 2), (54, .iload 4, 2), (56, .aload_n 0, 1), (57, .getfield 113, 3), (60, .if_icmp .ge 84, 3), (63, .iconst 0, 1), (64, .istore 5, 2), (66, .iconst 0, 1), (67, .istore 6, 2), (69, .iload 6, 2), (71, .aload_n 0, 1), (72, .getfield 113, 3), (75, .if_icmp .ge 35, 3), (78, .iload 5, 2), (80, .ifCond .ne 30, 3), (83, .aload_n 0, 1), (84, .iload 6, 2), (86, .iload_n 3, 1), (87, .iload 4, 2), (89, .invokevirtual 316, 3), (92, .lconst 0, 1), (93, .lcmp, 1), (94, .ifCond .le 7, 3), (97, .iconst 1, 1), (98, .goto 4, 3), (101, .iconst 0, 1), (102, .istore 5, 2), (104, .iinc 6 1, 3), (107, .goto (-38), 3), (110, .iload 5, 2), (112, .ifCond .ne 6, 3), (115, .goto 23, 3), (118, .iload_n 2, 1), (119, .ifCond .ne 16, 3), (122, .aload_n 0, 1), (123, .iload_n 3, 1), (124, .i2l, 1), (125, .invokevirtual 109, 3), (128, .aload_n 0, 1), (129, .iload 4, 2), (131, .i2l, 1), (132, .invokevirtual 109, 3), (135, .iinc 2 1, 3), (138, .iinc 4 1, 3), (141, .goto (-87), 3), (144, .iinc 3 1, 3), (147, .goto (-106), 3), (150, .iload_n 2, 1), (151, .ireturn, 1)]
theorem dk_M_gain : zw_dk b_M_gain dl_M_gain = true := by decide +kernel
theorem ce_M_gain : zw_cev y_M_gain b_M_gain 7 (some .int) 1 := ⟨⟨kt_in 1906 (by decide +kernel) rfl, kt_in 98 (by decide +kernel) rfl, by decide +kernel⟩, kt_in 1904 (by decide +kernel) rfl, kt_in 1905 (by decide +kernel) rfl⟩
def fn_M_gain_l3 (c22 : zw_Ct) (a12 : Int32) (b21 : Int32) : Int32 × Int32 → Option ((Int32) ⊕ (Int32 × Int32)) := fun (is28, s29) =>
  if ((s29 < (c22.1 71 2)) ∧ (¬ (¬ is28 = 0))) then
  ((fn_M_moreTogether c22 s29 a12 b21).bind fun r35 =>
  (some ((if (0 < r35) then (1 : Int32) else 0) : Int32)).bind fun is37 =>
  some (.inr (is37, (s29 + 1))))
  else
  (some (.inl is28))
def fn_M_gain_l2 (a12 : Int32) : Int32 × Int32 × zw_Ct → Option ((Int32 × zw_Ct) ⊕ (Int32 × Int32 × zw_Ct)) := fun (n20, b21, c22) =>
  if (b21 < (c22.1 71 2)) then
  ((zw_whl (fn_M_gain_l3 c22 a12 b21) zw_F (0, 0)).bind fun is30 =>
  if (¬ (¬ is30 = 0)) then
  (some (.inr (n20, (b21 + 1), c22)))
  else
  ((if (n20 = 0) then
  ((fn_M_tell c22 a12.toInt64).bind fun c43 =>
  (fn_M_tell c43 b21.toInt64).bind fun c44 =>
  some c44)
  else
  (some c22)).bind fun c40 =>
  some (.inr ((n20 + 1), (b21 + 1), c40))))
  else
  (some (.inl (n20, c22)))
def fn_M_gain_l1  : Int32 × Int32 × zw_Ct → Option ((Int32 × zw_Ct) ⊕ (Int32 × Int32 × zw_Ct)) := fun (n11, a12, c13) =>
  if (a12 < (c13.1 71 2)) then
  ((some ((a12 + 1) : Int32)).bind fun b19 =>
  (zw_whl (fn_M_gain_l2 a12) zw_F (n11, b19, c13)).bind fun (n23, c24) =>
  some (.inr (n23, (a12 + 1), c24)))
  else
  (some (.inl (n11, c13)))
def fn_M_gain (c : zw_Ct) (p1 : Int32) : Option (Int32 × zw_Ct) :=
  (some (zw_wI c 71 9 0)).bind fun c3 =>
  (fn_M_isPay c3 p1).bind fun r4 =>
  if (¬ (¬ r4 = 0)) then
  (some ((-1), c3))
  else
  (if (91 < (c3.1 71 2)) then
  (some ((-3), c3))
  else
  ((fn_M_layPay c3 p1).bind fun c9 =>
  (some (zw_wI c9 71 8 0)).bind fun c10 =>
  (zw_whl (fn_M_gain_l1) zw_F (0, 0, c10)).bind fun (n14, c15) =>
  some (n14, c15)))
set_option maxRecDepth 100000 in
theorem km_M_gain {l : Launch} {g : zw_G} {rr : zw_RR} {sh : zw_Sh} {c : zw_Ct} {p1 : Int32} {r : Int32} {c2 : zw_Ct} (hS : zw_Ok 0 101 sh rr) (hsem : fn_M_gain c p1 = some (r, c2)) : zw_Met l g y_M_gain b_M_gain 7 (some .int) 107 rr sh [.ref 71, .int p1] c (some (.int r)) c2 := by
  unfold fn_M_gain at hsem
  refine zw_Met.of (by decide +kernel) (Nat.le_of_ble_eq_true rfl) (fun p e s m args below meth cd X => ?_)
  refine zw_eL (L2 := [some (.ref 71), some (.int p1), none, none, none, none, none]) rfl ?_
  refine r_aload_n X (pc := 0) (i := 0) (zw_dg dk_M_gain 0 rfl) rfl rfl ?_
  refine r_iconst X (pc := 1) (v := 0) (zw_dg dk_M_gain 1 rfl) (by decide) ?_
  refine r_putI X (pc := 2) ci_M (zo hS 71 rfl rfl) rfl lk_M_97 rfl ⟨rfl, rfl⟩ (zw_dg dk_M_gain 2 rfl) ?_
  obtain ⟨c3, hc3, hsem⟩ := zw_bd hsem
  refine zw_topC hc3 ?_
  refine r_aload_n X (pc := 5) (i := 0) (zw_dg dk_M_gain 3 rfl) rfl rfl ?_
  refine r_iload_n X (pc := 6) (i := 1) (zw_dg dk_M_gain 4 rfl) rfl rfl ?_
  obtain ⟨r4, hr4, hsem⟩ := zw_bd hsem
  refine r_callVi X (pc := 7) (As := [_]) (st := []) (km_M_isPay hS hr4) ce_M_isPay kw_1688 (zo hS 71 rfl rfl) rfl rfl ⟨Nat.le_of_ble_eq_true rfl, Nat.le_of_ble_eq_true rfl⟩ (Nat.le_of_ble_eq_true rfl) (zw_dg dk_M_gain 5 rfl) ?_
  refine r_if_ne X (pc := 10) (tgt := 15) (zw_dg dk_M_gain 6 rfl) (by decide) (fun q6 => ?_) (fun q6 => ?_)
  · --
    have p5 : ¬ (¬ (¬ r4 = 0)) := (fun q => q q6)
    have hsem := zw_ifn p5 hsem
    refine r_aload_n X (pc := 15) (i := 0) (zw_dg dk_M_gain 9 rfl) rfl rfl ?_
    refine r_getI X (pc := 16) ci_M (zo hS 71 rfl rfl) rfl lk_M_113 (zw_dg dk_M_gain 10 rfl) ?_
    refine r_bipush X (pc := 19) (v := 91) (zw_dg dk_M_gain 11 rfl) (by decide) ?_
    refine r_icmp_le X (pc := 21) (tgt := 27) (zw_dg dk_M_gain 12 rfl) (by decide) (fun q8 => ?_) (fun q8 => ?_)
    · --
      have p7 : ¬ (91 < (c3.1 71 2)) := (Int32.not_lt.mpr q8)
      have hsem := zw_ifn p7 hsem
      refine r_aload_n X (pc := 27) (i := 0) (zw_dg dk_M_gain 15 rfl) rfl rfl ?_
      refine r_iload_n X (pc := 28) (i := 1) (zw_dg dk_M_gain 16 rfl) rfl rfl ?_
      obtain ⟨c9, hc9, hsem⟩ := zw_bd hsem
      refine r_callVv X (pc := 29) (As := [_]) (st := []) (km_M_layPay hS hc9) ce_M_layPay kw_1700 (zo hS 71 rfl rfl) rfl rfl ⟨Nat.le_of_ble_eq_true rfl, Nat.le_of_ble_eq_true rfl⟩ (Nat.le_of_ble_eq_true rfl) (zw_dg dk_M_gain 17 rfl) ?_
      refine r_iconst X (pc := 32) (v := 0) (zw_dg dk_M_gain 18 rfl) (by decide) ?_
      refine r_istore_n X (pc := 33) (i := 2) (zw_dg dk_M_gain 19 rfl) rfl (by decide) rfl ?_
      refine r_aload_n X (pc := 34) (i := 0) (zw_dg dk_M_gain 20 rfl) rfl rfl ?_
      refine r_iconst X (pc := 35) (v := 0) (zw_dg dk_M_gain 21 rfl) (by decide) ?_
      refine r_putI X (pc := 36) ci_M (zo hS 71 rfl rfl) rfl lk_M_100 rfl ⟨rfl, rfl⟩ (zw_dg dk_M_gain 22 rfl) ?_
      obtain ⟨c10, hc10, hsem⟩ := zw_bd hsem
      refine zw_topC hc10 ?_
      refine r_iconst X (pc := 39) (v := 0) (zw_dg dk_M_gain 23 rfl) (by decide) ?_
      refine r_istore_n X (pc := 40) (i := 3) (zw_dg dk_M_gain 24 rfl) rfl (by decide) rfl ?_
      obtain ⟨l16, hl16, hsl16⟩ := zw_bd hsem
      refine r_loop (pc := 41) (pce := 150) hl16 (fun (n11, a12, c13) => [some (.ref 71), some (.int p1), some (.int n11), some (.int a12), none, none, none] : Int32 × Int32 × zw_Ct → zw_Lc) (fun (n11, a12, c13) => c13 : Int32 × Int32 × zw_Ct → zw_Ct) (fun (n14, c15) => [some (.ref 71), some (.int p1), some (.int n14), none, none, none, none] : Int32 × zw_Ct → zw_Lc) (fun (n14, c15) => c15 : Int32 × zw_Ct → zw_Ct) ?_ rfl rfl ?_
      · rintro ⟨n11, a12, c13⟩ rr hsem hK hP
        try unfold fn_M_gain_l1 at hsem
        refine r_iload_n X (pc := 41) (i := 3) (zw_dg dk_M_gain 25 rfl) rfl rfl ?_
        refine r_aload_n X (pc := 42) (i := 0) (zw_dg dk_M_gain 26 rfl) rfl rfl ?_
        refine r_getI X (pc := 43) ci_M (zo hS 71 rfl rfl) rfl lk_M_113 (zw_dg dk_M_gain 27 rfl) ?_
        refine r_icmp_ge X (pc := 46) (tgt := 150) (zw_dg dk_M_gain 28 rfl) (by decide) (fun q18 => ?_) (fun q18 => ?_)
        · --
          have p17 : ¬ (a12 < (c13.1 71 2)) := (Int32.not_lt.mpr q18)
          have hsem := zw_ifn p17 hsem
          have jj := hK _ (Option.some.inj hsem).symm
          exact (r_fgt [3] rfl jj)
        · --
          have p17 : (a12 < (c13.1 71 2)) := (Int32.not_le.mp q18)
          have hsem := zw_ifp p17 hsem
          refine r_iload_n X (pc := 49) (i := 3) (zw_dg dk_M_gain 29 rfl) rfl rfl ?_
          refine r_iconst X (pc := 50) (v := 1) (zw_dg dk_M_gain 30 rfl) (by decide) ?_
          refine r_iadd X (pc := 51) (zw_dg dk_M_gain 31 rfl)  ?_
          obtain ⟨b19, hb19, hsem⟩ := zw_bd hsem
          refine zw_topI hb19 ?_
          refine r_istore X (pc := 52) (i := 4) (zw_dg dk_M_gain 32 rfl) (by decide) rfl ?_
          obtain ⟨l25, hl25, hsl25⟩ := zw_bd hsem
          refine r_loop (pc := 54) (pce := 144) hl25 (fun (n20, b21, c22) => [some (.ref 71), some (.int p1), some (.int n20), some (.int a12), some (.int b21), none, none] : Int32 × Int32 × zw_Ct → zw_Lc) (fun (n20, b21, c22) => c22 : Int32 × Int32 × zw_Ct → zw_Ct) (fun (n23, c24) => [some (.ref 71), some (.int p1), some (.int n23), some (.int a12), none, none, none] : Int32 × zw_Ct → zw_Lc) (fun (n23, c24) => c24 : Int32 × zw_Ct → zw_Ct) ?_ rfl rfl ?_
          · rintro ⟨n20, b21, c22⟩ rr hsem hK hP
            try unfold fn_M_gain_l2 at hsem
            refine r_iload X (pc := 54) (i := 4) (zw_dg dk_M_gain 33 rfl) rfl ?_
            refine r_aload_n X (pc := 56) (i := 0) (zw_dg dk_M_gain 34 rfl) rfl rfl ?_
            refine r_getI X (pc := 57) ci_M (zo hS 71 rfl rfl) rfl lk_M_113 (zw_dg dk_M_gain 35 rfl) ?_
            refine r_icmp_ge X (pc := 60) (tgt := 144) (zw_dg dk_M_gain 36 rfl) (by decide) (fun q27 => ?_) (fun q27 => ?_)
            · --
              have p26 : ¬ (b21 < (c22.1 71 2)) := (Int32.not_lt.mpr q27)
              have hsem := zw_ifn p26 hsem
              have jj := hK _ (Option.some.inj hsem).symm
              exact (r_fgt [4] rfl jj)
            · --
              have p26 : (b21 < (c22.1 71 2)) := (Int32.not_le.mp q27)
              have hsem := zw_ifp p26 hsem
              refine r_iconst X (pc := 63) (v := 0) (zw_dg dk_M_gain 37 rfl) (by decide) ?_
              refine r_istore X (pc := 64) (i := 5) (zw_dg dk_M_gain 38 rfl) (by decide) rfl ?_
              refine r_iconst X (pc := 66) (v := 0) (zw_dg dk_M_gain 39 rfl) (by decide) ?_
              refine r_istore X (pc := 67) (i := 6) (zw_dg dk_M_gain 40 rfl) (by decide) rfl ?_
              obtain ⟨is30, hl31, hsl31⟩ := zw_bd hsem
              refine r_loop (pc := 69) (pce := 110) hl31 (fun (is28, s29) => [some (.ref 71), some (.int p1), some (.int n20), some (.int a12), some (.int b21), some (.int is28), some (.int s29)] : Int32 × Int32 → zw_Lc) (fun (is28, s29) => c22 : Int32 × Int32 → zw_Ct) (fun is30 => [some (.ref 71), some (.int p1), some (.int n20), some (.int a12), some (.int b21), some (.int is30), none] : Int32 → zw_Lc) (fun is30 => c22 : Int32 → zw_Ct) ?_ rfl rfl ?_
              · rintro ⟨is28, s29⟩ rr hsem hK hP
                try unfold fn_M_gain_l3 at hsem
                refine zw_cnd (P := ((s29 < (c22.1 71 2)) ∧ (¬ (¬ is28 = 0)))) (J1 := 83) (J2 := 110) (st2 := []) (fun jT jF => ?_) (fun p32 => ?_) (fun p32 => ?_)
                · --
                  refine r_iload X (pc := 69) (i := 6) (zw_dg dk_M_gain 41 rfl) rfl ?_
                  refine r_aload_n X (pc := 71) (i := 0) (zw_dg dk_M_gain 42 rfl) rfl rfl ?_
                  refine r_getI X (pc := 72) ci_M (zo hS 71 rfl rfl) rfl lk_M_113 (zw_dg dk_M_gain 43 rfl) ?_
                  refine r_icmp_ge X (pc := 75) (tgt := 110) (zw_dg dk_M_gain 44 rfl) (by decide) (fun q33 => ?_) (fun q33 => ?_)
                  · --
                    exact jF (fun q => (Int32.not_lt.mpr q33) q.1)
                  · --
                    refine r_iload X (pc := 78) (i := 5) (zw_dg dk_M_gain 45 rfl) rfl ?_
                    refine r_if_ne X (pc := 80) (tgt := 110) (zw_dg dk_M_gain 46 rfl) (by decide) (fun q34 => ?_) (fun q34 => ?_)
                    · --
                      exact jF (fun q => (fun q => q q34) q.2)
                    · --
                      exact jT ⟨(Int32.not_le.mp q33), (fun z => z q34)⟩
                · --
                  have hsem := zw_ifp p32 hsem
                  refine r_aload_n X (pc := 83) (i := 0) (zw_dg dk_M_gain 47 rfl) rfl rfl ?_
                  refine r_iload X (pc := 84) (i := 6) (zw_dg dk_M_gain 48 rfl) rfl ?_
                  refine r_iload_n X (pc := 86) (i := 3) (zw_dg dk_M_gain 49 rfl) rfl rfl ?_
                  refine r_iload X (pc := 87) (i := 4) (zw_dg dk_M_gain 50 rfl) rfl ?_
                  obtain ⟨r35, hr35, hsem⟩ := zw_bd hsem
                  refine r_callVl X (pc := 89) (As := [_, _, _]) (st := []) (km_M_moreTogether hS hr35) ce_M_moreTogether kw_1899 (zo hS 71 rfl rfl) rfl rfl ⟨Nat.le_of_ble_eq_true rfl, Nat.le_of_ble_eq_true rfl⟩ (Nat.le_of_ble_eq_true rfl) (zw_dg dk_M_gain 51 rfl) ?_
                  refine r_lconst X (pc := 92) (v := 0) (zw_dg dk_M_gain 52 rfl) (by decide) ?_
                  refine zw_ter (P := (0 < r35)) (f := Value.int) (x := 1) (y := 0) (J := 102) (st2 := []) (fun jT jF => ?_) ?_
                  · --
                    refine r_lcmp_le X (pc := 93) (tgt := 101) (zw_dg dk_M_gain 53 rfl) (zw_dg dk_M_gain 54 rfl) (by decide) (fun q36 => ?_) (fun q36 => ?_)
                    · --
                      refine r_iconst X (pc := 101) (v := 0) (zw_dg dk_M_gain 57 rfl) (by decide) ?_
                      exact jF (Int64.not_lt.mpr q36)
                    · --
                      refine r_iconst X (pc := 97) (v := 1) (zw_dg dk_M_gain 55 rfl) (by decide) ?_
                      refine r_goto X (pc := 98) (tgt := 102) (zw_dg dk_M_gain 56 rfl) (by decide) ?_
                      exact jT (Int64.not_le.mp q36)
                  obtain ⟨is37, his37, hsem⟩ := zw_bd hsem
                  refine zw_topI his37 ?_
                  refine r_istore X (pc := 102) (i := 5) (zw_dg dk_M_gain 58 rfl) (by decide) rfl ?_
                  refine r_iinc X (pc := 104) (i := 6) (k := 1) (zw_dg dk_M_gain 59 rfl) rfl (by decide) (by decide) rfl ?_
                  refine r_goto X (pc := 107) (tgt := 69) (zw_dg dk_M_gain 60 rfl) (by decide) ?_
                  have jj := hP _ (Option.some.inj hsem).symm
                  exact (r_fgt [] rfl jj)
                · --
                  have hsem := zw_ifn p32 hsem
                  have jj := hK _ (Option.some.inj hsem).symm
                  exact (r_fgt [6] rfl jj)
              have hsem := hsl31
              refine r_iload X (pc := 110) (i := 5) (zw_dg dk_M_gain 61 rfl) rfl ?_
              refine r_if_ne X (pc := 112) (tgt := 118) (zw_dg dk_M_gain 62 rfl) (by decide) (fun q39 => ?_) (fun q39 => ?_)
              · --
                have p38 : ¬ (¬ (¬ is30 = 0)) := (fun q => q q39)
                have hsem := zw_ifn p38 hsem
                obtain ⟨c40, ht135, hs135⟩ := zw_bd hsem
                refine zw_jn (J := 135) (L2 := [some (.ref 71), some (.int p1), some (.int n20), some (.int a12), some (.int b21), some (.int is30), none]) (c2 := c40) (fun jj => ?_) ?_
                · have hsem := ht135
                  refine r_iload_n X (pc := 118) (i := 2) (zw_dg dk_M_gain 64 rfl) rfl rfl ?_
                  refine r_if_ne X (pc := 119) (tgt := 135) (zw_dg dk_M_gain 65 rfl) (by decide) (fun q42 => ?_) (fun q42 => ?_)
                  · --
                    have p41 : ¬ (n20 = 0) := q42
                    have hsem := zw_ifn p41 hsem
                    cases hsem
                    exact (r_fgt [] rfl jj)
                  · --
                    have p41 : (n20 = 0) := q42
                    have hsem := zw_ifp p41 hsem
                    refine r_aload_n X (pc := 122) (i := 0) (zw_dg dk_M_gain 66 rfl) rfl rfl ?_
                    refine r_iload_n X (pc := 123) (i := 3) (zw_dg dk_M_gain 67 rfl) rfl rfl ?_
                    refine r_i2l X (pc := 124) (zw_dg dk_M_gain 68 rfl)  ?_
                    obtain ⟨c43, hc43, hsem⟩ := zw_bd hsem
                    refine r_callVv X (pc := 125) (As := [_]) (st := []) (km_M_tell hS hc43) ce_M_tell kw_1704 (zo hS 71 rfl rfl) rfl rfl ⟨Nat.le_of_ble_eq_true rfl, Nat.le_of_ble_eq_true rfl⟩ (Nat.le_of_ble_eq_true rfl) (zw_dg dk_M_gain 69 rfl) ?_
                    refine r_aload_n X (pc := 128) (i := 0) (zw_dg dk_M_gain 70 rfl) rfl rfl ?_
                    refine r_iload X (pc := 129) (i := 4) (zw_dg dk_M_gain 71 rfl) rfl ?_
                    refine r_i2l X (pc := 131) (zw_dg dk_M_gain 72 rfl)  ?_
                    obtain ⟨c44, hc44, hsem⟩ := zw_bd hsem
                    refine r_callVv X (pc := 132) (As := [_]) (st := []) (km_M_tell hS hc44) ce_M_tell kw_1704 (zo hS 71 rfl rfl) rfl rfl ⟨Nat.le_of_ble_eq_true rfl, Nat.le_of_ble_eq_true rfl⟩ (Nat.le_of_ble_eq_true rfl) (zw_dg dk_M_gain 73 rfl) ?_
                    cases hsem
                    exact (r_fgt [] rfl jj)
                have hsem := hs135
                refine r_iinc X (pc := 135) (i := 2) (k := 1) (zw_dg dk_M_gain 74 rfl) rfl (by decide) (by decide) rfl ?_
                refine r_iinc X (pc := 138) (i := 4) (k := 1) (zw_dg dk_M_gain 75 rfl) rfl (by decide) (by decide) rfl ?_
                refine r_goto X (pc := 141) (tgt := 54) (zw_dg dk_M_gain 76 rfl) (by decide) ?_
                have jj := hP _ (Option.some.inj hsem).symm
                exact (r_fgt [5] rfl jj)
              · --
                have p38 : (¬ (¬ is30 = 0)) := (fun z => z q39)
                have hsem := zw_ifp p38 hsem
                refine r_goto X (pc := 115) (tgt := 138) (zw_dg dk_M_gain 63 rfl) (by decide) ?_
                refine r_iinc X (pc := 138) (i := 4) (k := 1) (zw_dg dk_M_gain 75 rfl) rfl (by decide) (by decide) rfl ?_
                refine r_goto X (pc := 141) (tgt := 54) (zw_dg dk_M_gain 76 rfl) (by decide) ?_
                have jj := hP _ (Option.some.inj hsem).symm
                exact (r_fgt [5] rfl jj)
          obtain ⟨n23, c24⟩ := l25
          have hsem := hsl25
          refine r_iinc X (pc := 144) (i := 3) (k := 1) (zw_dg dk_M_gain 77 rfl) rfl (by decide) (by decide) rfl ?_
          refine r_goto X (pc := 147) (tgt := 41) (zw_dg dk_M_gain 78 rfl) (by decide) ?_
          have jj := hP _ (Option.some.inj hsem).symm
          exact (r_fgt [] rfl jj)
      obtain ⟨n14, c15⟩ := l16
      have hsem := hsl16
      refine r_iload_n X (pc := 150) (i := 2) (zw_dg dk_M_gain 79 rfl) rfl rfl ?_
      obtain ⟨rfl, rfl⟩ := zw_in2 hsem
      exact r_iret X (pc := 151) rfl (zw_dg dk_M_gain 80 rfl)
    · --
      have p7 : (91 < (c3.1 71 2)) := (Int32.not_le.mp q8)
      have hsem := zw_ifp p7 hsem
      refine r_bipush X (pc := 24) (v := (-3)) (zw_dg dk_M_gain 13 rfl) (by decide) ?_
      obtain ⟨rfl, rfl⟩ := zw_in2 hsem
      exact r_iret X (pc := 26) rfl (zw_dg dk_M_gain 14 rfl)
  · --
    have p5 : (¬ (¬ r4 = 0)) := (fun z => z q6)
    have hsem := zw_ifp p5 hsem
    refine r_iconst X (pc := 13) (v := (-1)) (zw_dg dk_M_gain 7 rfl) (by decide) ?_
    obtain ⟨rfl, rfl⟩ := zw_in2 hsem
    exact r_iret X (pc := 14) rfl (zw_dg dk_M_gain 8 rfl)
def y_M_mode : MethodName := ⟨R_M, "mode", "(I)I"⟩
abbrev b_M_mode : ByteArray := prog_14_method_78_code
def dl_M_mode : List (Nat × Instr × Nat) := [(0, .iconst 0, 1), (1, .istore_n 2, 1), (2, .iconst 1, 1), (3, .istore_n 3, 1), (4, .iload_n 3, 1), (5, .aload_n 0, 1), (6, .getfield 9, 3), (9, .if_icmp .ge 34, 3), (12, .aload_n 0, 1), (13, .getfield 16, 3), (16, .iconst 4, 1), (17, .iload_n 1, 1), (18, .imul, 1), (19, .iload_n 3, 1), (20, .iadd, 1), (21, .iaload, 1), (22, .aload_n 0, 1), (23, .getfield 16, 3), (26, .iconst 4, 1), (27, .iload_n 1, 1), (28, .imul, 1), (29, .iload_n 2, 1), (30, .iadd, 1), (31, .iaload, 1), (32, .if_icmp .le 5, 3), (35, .iload_n 3, 1), (36, .istore_n 2, 1), (37, .iinc 3 1, 3), (40, .goto (-36), 3), (43, .iload_n 2, 1), (44, .ireturn, 1)]
theorem dk_M_mode : zw_dk b_M_mode dl_M_mode = true := by decide +kernel
theorem ce_M_mode : zw_cev y_M_mode b_M_mode 4 (some .int) 1 := ⟨⟨kt_in 1914 (by decide +kernel) rfl, kt_in 98 (by decide +kernel) rfl, by decide +kernel⟩, kt_in 1913 (by decide +kernel) rfl, kt_in 75 (by decide +kernel) rfl⟩
def fn_M_mode_l1 (c : zw_Ct) (s1 : Int32) : Int32 × Int32 → Option ((Int32) ⊕ (Int32 × Int32)) := fun (best2, e3) =>
  if (e3 < (c.1 71 0)) then
  ((zw_aI 1820 c 72 ((4 * s1) + e3)).bind fun x8 =>
  (zw_aI 1820 c 72 ((4 * s1) + best2)).bind fun x9 =>
  (if (x9 < x8) then
  (some (e3 : Int32))
  else
  (some (best2 : Int32))).bind fun best10 =>
  some (.inr (best10, (e3 + 1))))
  else
  (some (.inl best2))
def fn_M_mode (c : zw_Ct) (s1 : Int32) : Option Int32 :=
  (zw_whl (fn_M_mode_l1 c s1) zw_F (0, 1)).bind fun best4 =>
  some best4
set_option maxRecDepth 100000 in
theorem km_M_mode {l : Launch} {g : zw_G} {rr : zw_RR} {sh : zw_Sh} {c : zw_Ct} {s1 : Int32} {r : Int32} (hS : zw_Ok 0 101 sh rr) (hsem : fn_M_mode c s1 = some r) : zw_Met l g y_M_mode b_M_mode 4 (some .int) 1 rr sh [.ref 71, .int s1] c (some (.int r)) c := by
  unfold fn_M_mode at hsem
  refine zw_Met.of (by decide +kernel) (Nat.le_of_ble_eq_true rfl) (fun p e s m args below meth cd X => ?_)
  refine zw_eL (L2 := [some (.ref 71), some (.int s1), none, none]) rfl ?_
  refine r_iconst X (pc := 0) (v := 0) (zw_dg dk_M_mode 0 rfl) (by decide) ?_
  refine r_istore_n X (pc := 1) (i := 2) (zw_dg dk_M_mode 1 rfl) rfl (by decide) rfl ?_
  refine r_iconst X (pc := 2) (v := 1) (zw_dg dk_M_mode 2 rfl) (by decide) ?_
  refine r_istore_n X (pc := 3) (i := 3) (zw_dg dk_M_mode 3 rfl) rfl (by decide) rfl ?_
  obtain ⟨best4, hl5, hsl5⟩ := zw_bd hsem
  refine r_loop (pc := 4) (pce := 43) hl5 (fun (best2, e3) => [some (.ref 71), some (.int s1), some (.int best2), some (.int e3)] : Int32 × Int32 → zw_Lc) (fun (best2, e3) => c : Int32 × Int32 → zw_Ct) (fun best4 => [some (.ref 71), some (.int s1), some (.int best4), none] : Int32 → zw_Lc) (fun best4 => c : Int32 → zw_Ct) ?_ rfl rfl ?_
  · rintro ⟨best2, e3⟩ rr hsem hK hP
    try unfold fn_M_mode_l1 at hsem
    refine r_iload_n X (pc := 4) (i := 3) (zw_dg dk_M_mode 4 rfl) rfl rfl ?_
    refine r_aload_n X (pc := 5) (i := 0) (zw_dg dk_M_mode 5 rfl) rfl rfl ?_
    refine r_getI X (pc := 6) ci_M (zo hS 71 rfl rfl) rfl lk_M_9 (zw_dg dk_M_mode 6 rfl) ?_
    refine r_icmp_ge X (pc := 9) (tgt := 43) (zw_dg dk_M_mode 7 rfl) (by decide) (fun q7 => ?_) (fun q7 => ?_)
    · --
      have p6 : ¬ (e3 < (c.1 71 0)) := (Int32.not_lt.mpr q7)
      have hsem := zw_ifn p6 hsem
      have jj := hK _ (Option.some.inj hsem).symm
      exact (r_fgt [3] rfl jj)
    · --
      have p6 : (e3 < (c.1 71 0)) := (Int32.not_le.mp q7)
      have hsem := zw_ifp p6 hsem
      refine r_aload_n X (pc := 12) (i := 0) (zw_dg dk_M_mode 8 rfl) rfl rfl ?_
      refine r_getR X (pc := 13) (r := 72) ci_M (zo hS 71 rfl rfl) rfl (zr hS 71 3 rfl rfl) lk_M_16 (zw_dg dk_M_mode 9 rfl) ?_
      refine r_iconst X (pc := 16) (v := 4) (zw_dg dk_M_mode 10 rfl) (by decide) ?_
      refine r_iload_n X (pc := 17) (i := 1) (zw_dg dk_M_mode 11 rfl) rfl rfl ?_
      refine r_imul X (pc := 18) (zw_dg dk_M_mode 12 rfl)  ?_
      refine r_iload_n X (pc := 19) (i := 3) (zw_dg dk_M_mode 13 rfl) rfl rfl ?_
      refine r_iadd X (pc := 20) (zw_dg dk_M_mode 14 rfl)  ?_
      obtain ⟨x8, hx8, hsem⟩ := zw_bd hsem
      refine r_iald X (pc := 21) (zo hS 72 rfl rfl) hx8 (zw_dg dk_M_mode 15 rfl) ?_
      refine r_aload_n X (pc := 22) (i := 0) (zw_dg dk_M_mode 16 rfl) rfl rfl ?_
      refine r_getR X (pc := 23) (r := 72) ci_M (zo hS 71 rfl rfl) rfl (zr hS 71 3 rfl rfl) lk_M_16 (zw_dg dk_M_mode 17 rfl) ?_
      refine r_iconst X (pc := 26) (v := 4) (zw_dg dk_M_mode 18 rfl) (by decide) ?_
      refine r_iload_n X (pc := 27) (i := 1) (zw_dg dk_M_mode 19 rfl) rfl rfl ?_
      refine r_imul X (pc := 28) (zw_dg dk_M_mode 20 rfl)  ?_
      refine r_iload_n X (pc := 29) (i := 2) (zw_dg dk_M_mode 21 rfl) rfl rfl ?_
      refine r_iadd X (pc := 30) (zw_dg dk_M_mode 22 rfl)  ?_
      obtain ⟨x9, hx9, hsem⟩ := zw_bd hsem
      refine r_iald X (pc := 31) (zo hS 72 rfl rfl) hx9 (zw_dg dk_M_mode 23 rfl) ?_
      obtain ⟨best10, ht37, hs37⟩ := zw_bd hsem
      refine zw_jn (J := 37) (L2 := [some (.ref 71), some (.int s1), some (.int best10), some (.int e3)]) (c2 := c) (fun jj => ?_) ?_
      · have hsem := ht37
        refine r_icmp_le X (pc := 32) (tgt := 37) (zw_dg dk_M_mode 24 rfl) (by decide) (fun q12 => ?_) (fun q12 => ?_)
        · --
          have p11 : ¬ (x9 < x8) := (Int32.not_lt.mpr q12)
          have hsem := zw_ifn p11 hsem
          cases hsem
          exact (r_fgt [] rfl jj)
        · --
          have p11 : (x9 < x8) := (Int32.not_le.mp q12)
          have hsem := zw_ifp p11 hsem
          refine r_iload_n X (pc := 35) (i := 3) (zw_dg dk_M_mode 25 rfl) rfl rfl ?_
          refine r_istore_n X (pc := 36) (i := 2) (zw_dg dk_M_mode 26 rfl) rfl (by decide) rfl ?_
          cases hsem
          exact (r_fgt [] rfl jj)
      have hsem := hs37
      refine r_iinc X (pc := 37) (i := 3) (k := 1) (zw_dg dk_M_mode 27 rfl) rfl (by decide) (by decide) rfl ?_
      refine r_goto X (pc := 40) (tgt := 4) (zw_dg dk_M_mode 28 rfl) (by decide) ?_
      have jj := hP _ (Option.some.inj hsem).symm
      exact (r_fgt [] rfl jj)
  have hsem := hsl5
  refine r_iload_n X (pc := 43) (i := 2) (zw_dg dk_M_mode 29 rfl) rfl rfl ?_
  cases hsem
  exact r_iret X (pc := 44) rfl (zw_dg dk_M_mode 30 rfl)
def y_M_peers : MethodName := ⟨R_M, "peers", "(III)I"⟩
abbrev b_M_peers : ByteArray := prog_14_method_79_code
def dl_M_peers : List (Nat × Instr × Nat) := [(0, .aload_n 0, 1), (1, .iconst 0, 1), (2, .putfield 97, 3), (5, .aload_n 0, 1), (6, .iload_n 1, 1), (7, .invokevirtual 222, 3), (10, .ifCond .eq 19, 3), (13, .aload_n 0, 1), (14, .iload_n 2, 1), (15, .invokevirtual 142, 3), (18, .ifCond .eq 11, 3), (21, .aload_n 0, 1), (22, .iload_n 3, 1), (23, .invokevirtual 142, 3), (26, .ifCond .ne 5, 3), (29, .iconst (-1), 1), (30, .ireturn, 1), (31, .aload_n 0, 1), (32, .getfield 113, 3), (35, .bipush 91, 2), (37, .if_icmp .le 6, 3), (40, .bipush (-3), 2), (42, .ireturn, 1), (43, .aload_n 0, 1), (44, .iload_n 1, 1), (45, .invokevirtual 229, 3), (48, .aload_n 0, 1), (49, .getfield 67, 3), (52, .astore 4, 2), (54, .iconst 0, 1), (55, .istore 5, 2), (57, .iload 5, 2), (59, .aload_n 0, 1), (60, .getfield 9, 3), (63, .if_icmp .ge 66, 3), (66, .aload 4, 2), (68, .iload 5, 2), (70, .aload_n 0, 1), (71, .getfield 46, 3), (74, .iload 5, 2), (76, .iaload, 1), (77, .i2l, 1), (78, .lastore, 1), (79, .iconst 1, 1), (80, .istore 6, 2), (82, .iload 6, 2), (84, .aload_n 0, 1), (85, .getfield 113, 3), (88, .if_icmp .ge 35, 3), (91, .aload 4, 2), (93, .iload 5, 2), (95, .aload 4, 2), (97, .iload 5, 2), (99, .laload, 1), (100, .aload_n 0, 1), (101, .getfield 46, 3), (104, .iconst 4, 1), (105, .iload 6, 2), (107, .imul, 1), (108, .iload 5, 2), (110, .iadd, 1), (111, .iaload, 1), (112, .i2l, 1), (113, .invokestatic 237, 3), (116, .lastore, 1), (117, .iinc 6 1, 3), (120, .goto (-38), 3), (123, .iinc 5 1, 3), (126, .goto (-69), 3), (129, .iconst 0, 1), (130, .istore 5, 2), (132, .iconst 0, 1), (133, .istore 6, 2), (135, .iconst (-1), 1), (136, .istore 7, 2), (138, .iconst (-1), 1), (139, .istore 8, 2), (141, .iconst 0, 1), (142, .istore 9, 2), (144, .iconst 0, 1), (145, .istore 10, 2), (147, .iload 10, 2), (149, .aload_n 0, 1), (150, .getfield 113, 3), (153, .if_icmp .ge 147, 3), (156, .iconst 0, 1), (157, .istore 11, 2), (159, .iload 11, 2), (161, .aload_n 0, 1), (162, .getfield 113, 3), (165, .if_icmp .ge 129, 3), (168, .aload_n 0, 1), (169, .getfield 46, 3), (172, .iconst 4, 1), (173, .iload 10, 2), (175, .imul, 1), (176, .aload_n 0, 1), (177, .iload 11, 2), (179, .invokevirtual 319, 3), (182, .iadd, 1), (183, .iaload, 1), (184, .i2l, 1), (185, .aload 4, 2), (187, .aload_n 0, 1), (188, .iload 11, 2), (190, .invokevirtual 319, 3), (193, .laload, 1), (194, .lcmp, 1), (195, .ifCond .ne 93, 3), (198, .aload_n 0, 1), (199, .getfield 46, 3), (202, .iconst 4, 1), (203, .iload 11, 2), (205, .imul, 1), (206, .aload_n 0, 1), (207, .iload 10, 2), (209, .invokevirtual 319, 3), (212, .iadd, 1), (213, .iaload, 1), (214, .i2l, 1), (215, .aload 4, 2), (217, .aload_n 0, 1), (218, .iload 10, 2), (220, .invokevirtual 319, 3), (223, .laload, 1), (224, .lcmp, 1), (225, .ifCond .eq 6, 3), (228, .goto 60, 3), (231, .iload 5, 2), (233, .ifCond .ne 11, 3), (236, .iload 10, 2), (238, .istore 7, 2), (240, .iload 11, 2), (242, .istore 8, 2), (244, .iinc 5 1, 3), (247, .iload 6, 2), (249, .iload 10, 2), (251, .iload 11, 2), (253, .if_icmp .ne 7, 3), (256, .iconst 1, 1), (257, .goto 4, 3), (260, .iconst 0, 1), (261, .iadd, 1), (262, .istore 6, 2), (264, .iload 9, 2), (266, .ifCond .ne 15, 3), (269, .iload 10, 2), (271, .iload_n 2, 1), (272, .if_icmp .ne 13, 3), (275, .iload 11, 2), (277, .iload_n 3, 1), (278, .if_icmp .ne 7, 3), (281, .iconst 1, 1), (282, .goto 4, 3), (285, .iconst 0, 1), (286, .istore 9, 2), (288, .iinc 11 1, 3), (291, .goto (-132), 3), (294, .iinc 10 1, 3), (297, .goto (-150), 3), (300, .aload_n 0, 1), (301, .iconst 0, 1), (302, .putfield 100, 3), (305, .aload_n 0, 1), (306, .iload 7, 2), (308, .i2l, 1), (309, .invokevirtual 109, 3), (312, .aload_n 0, 1), (313, .iload 8, 2), (315, .i2l, 1), (316, .invokevirtual 109, 3), (319, .aload_n 0, 1), (320, .iload 6, 2), (322, .i2l, 1), (323, .invokevirtual 109, 3), (326, .aload_n 0, 1), (327, .iload 9, 2), (329, .ifCond .eq 7, 3), (332, .lconst 1, 1), (333, .goto 4, 3), (336, .lconst 0, 1), (337, .invokevirtual 109, 3), (340, .iload 5, 2), (342, .ireturn, 1)]
theorem dk_M_peers : zw_dk b_M_peers dl_M_peers = true := by decide +kernel
theorem ce_M_peers : zw_cev y_M_peers b_M_peers 12 (some .int) 3 := ⟨⟨kt_in 1910 (by decide +kernel) rfl, kt_in 98 (by decide +kernel) rfl, by decide +kernel⟩, kt_in 1908 (by decide +kernel) rfl, kt_in 1909 (by decide +kernel) rfl⟩
def fn_M_peers_l2 (e13 : Int32) : Int32 × zw_Ct → Option ((zw_Ct) ⊕ (Int32 × zw_Ct)) := fun (s21, c22) =>
  if (s21 < (c22.1 71 2)) then
  ((zw_aL 4 c22 91 e13).bind fun x27 =>
  (zw_aI 1820 c22 84 ((4 * s21) + e13)).bind fun x28 =>
  (zw_uL 4 c22 91 e13 (if x28.toInt64 < x27 then x27 else x28.toInt64)).bind fun c29 =>
  some (.inr ((s21 + 1), c29)))
  else
  (some (.inl c22))
def fn_M_peers_l1  : Int32 × zw_Ct → Option ((zw_Ct) ⊕ (Int32 × zw_Ct)) := fun (e13, c14) =>
  if (e13 < (c14.1 71 0)) then
  ((zw_aI 1820 c14 84 e13).bind fun x19 =>
  (zw_uL 4 c14 91 e13 x19.toInt64).bind fun c20 =>
  (zw_whl (fn_M_peers_l2 e13) zw_F (1, c20)).bind fun c23 =>
  some (.inr ((e13 + 1), c23)))
  else
  (some (.inl c14))
def fn_M_peers_l4 (c15 : zw_Ct) (a35 : Int32) (one2 : Int32) (other3 : Int32) : Int32 × Int32 × Int32 × Int32 × Int32 × Int32 → Option ((Int32 × Int32 × Int32 × Int32 × Int32) ⊕ (Int32 × Int32 × Int32 × Int32 × Int32 × Int32)) := fun (firstA44, firstB45, n46, alike47, isTold48, b49) =>
  if (b49 < (c15.1 71 2)) then
  ((fn_M_mode c15 b49).bind fun r58 =>
  (zw_aI 1820 c15 84 ((4 * a35) + r58)).bind fun x59 =>
  (fn_M_mode c15 b49).bind fun r60 =>
  (zw_aL 4 c15 91 r60).bind fun x61 =>
  if (¬ x59.toInt64 = x61) then
  (some (.inr (firstA44, firstB45, n46, alike47, isTold48, (b49 + 1))))
  else
  ((fn_M_mode c15 a35).bind fun r64 =>
  (zw_aI 1820 c15 84 ((4 * b49) + r64)).bind fun x65 =>
  (fn_M_mode c15 a35).bind fun r66 =>
  (zw_aL 4 c15 91 r66).bind fun x67 =>
  if (¬ x65.toInt64 = x67) then
  (some (.inr (firstA44, firstB45, n46, alike47, isTold48, (b49 + 1))))
  else
  ((if (n46 = 0) then
  (some ((a35 : Int32), (b49 : Int32)))
  else
  (some ((firstA44 : Int32), (firstB45 : Int32)))).bind fun (firstA70, firstB71) =>
  (some ((alike47 + (if (a35 = b49) then (1 : Int32) else 0)) : Int32)).bind fun alike75 =>
  (some ((if ((¬ isTold48 = 0) ∨ ((a35 = one2) ∧ (b49 = other3))) then (1 : Int32) else 0) : Int32)).bind fun isTold79 =>
  some (.inr (firstA70, firstB71, (n46 + 1), alike75, isTold79, (b49 + 1))))))
  else
  (some (.inl (firstA44, firstB45, n46, alike47, isTold48)))
def fn_M_peers_l3 (c15 : zw_Ct) (one2 : Int32) (other3 : Int32) : Int32 × Int32 × Int32 × Int32 × Int32 × Int32 → Option ((Int32 × Int32 × Int32 × Int32 × Int32) ⊕ (Int32 × Int32 × Int32 × Int32 × Int32 × Int32)) := fun (firstA30, firstB31, n32, alike33, isTold34, a35) =>
  if (a35 < (c15.1 71 2)) then
  ((zw_whl (fn_M_peers_l4 c15 a35 one2 other3) zw_F (firstA30, firstB31, n32, alike33, isTold34, 0)).bind fun (firstA50, firstB51, n52, alike53, isTold54) =>
  some (.inr (firstA50, firstB51, n52, alike53, isTold54, (a35 + 1))))
  else
  (some (.inl (firstA30, firstB31, n32, alike33, isTold34)))
def fn_M_peers (c : zw_Ct) (p1 : Int32) (one2 : Int32) (other3 : Int32) : Option (Int32 × zw_Ct) :=
  (some (zw_wI c 71 9 0)).bind fun c4 =>
  (fn_M_isPay c4 p1).bind fun r5 =>
  if (((¬ (¬ r5 = 0)) ∨ (¬ (¬ (fn_M_isSaying c4 one2) = 0))) ∨ (¬ (¬ (fn_M_isSaying c4 other3) = 0))) then
  (some ((-1), c4))
  else
  (if (91 < (c4.1 71 2)) then
  (some ((-3), c4))
  else
  ((fn_M_layPay c4 p1).bind fun c12 =>
  (zw_whl (fn_M_peers_l1) zw_F (0, c12)).bind fun c15 =>
  (zw_whl (fn_M_peers_l3 c15 one2 other3) zw_F ((-1), (-1), 0, 0, 0, 0)).bind fun (firstA36, firstB37, n38, alike39, isTold40) =>
  (some (zw_wI c15 71 8 0)).bind fun c80 =>
  (fn_M_tell c80 firstA36.toInt64).bind fun c81 =>
  (fn_M_tell c81 firstB37.toInt64).bind fun c82 =>
  (fn_M_tell c82 alike39.toInt64).bind fun c83 =>
  (fn_M_tell c83 (if (¬ isTold40 = 0) then (1 : Int64) else 0)).bind fun c85 =>
  some (n38, c85)))
set_option maxRecDepth 100000 in
theorem km_M_peers {l : Launch} {g : zw_G} {rr : zw_RR} {sh : zw_Sh} {c : zw_Ct} {p1 : Int32} {one2 : Int32} {other3 : Int32} {r : Int32} {c2 : zw_Ct} (hS : zw_Ok 0 101 sh rr) (hsem : fn_M_peers c p1 one2 other3 = some (r, c2)) : zw_Met l g y_M_peers b_M_peers 12 (some .int) 107 rr sh [.ref 71, .int p1, .int one2, .int other3] c (some (.int r)) c2 := by
  unfold fn_M_peers at hsem
  refine zw_Met.of (by decide +kernel) (Nat.le_of_ble_eq_true rfl) (fun p e s m args below meth cd X => ?_)
  refine zw_eL (L2 := [some (.ref 71), some (.int p1), some (.int one2), some (.int other3), none, none, none, none, none, none, none, none]) rfl ?_
  refine r_aload_n X (pc := 0) (i := 0) (zw_dg dk_M_peers 0 rfl) rfl rfl ?_
  refine r_iconst X (pc := 1) (v := 0) (zw_dg dk_M_peers 1 rfl) (by decide) ?_
  refine r_putI X (pc := 2) ci_M (zo hS 71 rfl rfl) rfl lk_M_97 rfl ⟨rfl, rfl⟩ (zw_dg dk_M_peers 2 rfl) ?_
  obtain ⟨c4, hc4, hsem⟩ := zw_bd hsem
  refine zw_topC hc4 ?_
  refine r_aload_n X (pc := 5) (i := 0) (zw_dg dk_M_peers 3 rfl) rfl rfl ?_
  refine r_iload_n X (pc := 6) (i := 1) (zw_dg dk_M_peers 4 rfl) rfl rfl ?_
  obtain ⟨r5, hr5, hsem⟩ := zw_bd hsem
  refine r_callVi X (pc := 7) (As := [_]) (st := []) (km_M_isPay hS hr5) ce_M_isPay kw_1688 (zo hS 71 rfl rfl) rfl rfl ⟨Nat.le_of_ble_eq_true rfl, Nat.le_of_ble_eq_true rfl⟩ (Nat.le_of_ble_eq_true rfl) (zw_dg dk_M_peers 5 rfl) ?_
  refine zw_cnd (P := (((¬ (¬ r5 = 0)) ∨ (¬ (¬ (fn_M_isSaying c4 one2) = 0))) ∨ (¬ (¬ (fn_M_isSaying c4 other3) = 0)))) (J1 := 29) (J2 := 31) (st2 := []) (fun jT jF => ?_) (fun p6 => ?_) (fun p6 => ?_)
  · --
    refine r_if_eq X (pc := 10) (tgt := 29) (zw_dg dk_M_peers 6 rfl) (by decide) (fun q7 => ?_) (fun q7 => ?_)
    · --
      exact jT (Or.inl (Or.inl (fun z => z q7)))
    · --
      refine r_aload_n X (pc := 13) (i := 0) (zw_dg dk_M_peers 7 rfl) rfl rfl ?_
      refine r_iload_n X (pc := 14) (i := 2) (zw_dg dk_M_peers 8 rfl) rfl rfl ?_
      refine r_callVi X (pc := 15) (As := [_]) (st := []) (km_M_isSaying hS rfl) ce_M_isSaying kw_1609 (zo hS 71 rfl rfl) rfl rfl ⟨Nat.le_of_ble_eq_true rfl, Nat.le_of_ble_eq_true rfl⟩ (Nat.le_of_ble_eq_true rfl) (zw_dg dk_M_peers 9 rfl) ?_
      refine r_if_eq X (pc := 18) (tgt := 29) (zw_dg dk_M_peers 10 rfl) (by decide) (fun q8 => ?_) (fun q8 => ?_)
      · --
        exact jT (Or.inl (Or.inr (fun z => z q8)))
      · --
        refine r_aload_n X (pc := 21) (i := 0) (zw_dg dk_M_peers 11 rfl) rfl rfl ?_
        refine r_iload_n X (pc := 22) (i := 3) (zw_dg dk_M_peers 12 rfl) rfl rfl ?_
        refine r_callVi X (pc := 23) (As := [_]) (st := []) (km_M_isSaying hS rfl) ce_M_isSaying kw_1609 (zo hS 71 rfl rfl) rfl rfl ⟨Nat.le_of_ble_eq_true rfl, Nat.le_of_ble_eq_true rfl⟩ (Nat.le_of_ble_eq_true rfl) (zw_dg dk_M_peers 13 rfl) ?_
        refine r_if_ne X (pc := 26) (tgt := 31) (zw_dg dk_M_peers 14 rfl) (by decide) (fun q9 => ?_) (fun q9 => ?_)
        · --
          exact jF (fun q => q.elim (fun q => q.elim (fun q => q q7) (fun q => q q8)) (fun q => q q9))
        · --
          exact jT (Or.inr (fun z => z q9))
  · --
    have hsem := zw_ifp p6 hsem
    refine r_iconst X (pc := 29) (v := (-1)) (zw_dg dk_M_peers 15 rfl) (by decide) ?_
    obtain ⟨rfl, rfl⟩ := zw_in2 hsem
    exact r_iret X (pc := 30) rfl (zw_dg dk_M_peers 16 rfl)
  · --
    have hsem := zw_ifn p6 hsem
    refine r_aload_n X (pc := 31) (i := 0) (zw_dg dk_M_peers 17 rfl) rfl rfl ?_
    refine r_getI X (pc := 32) ci_M (zo hS 71 rfl rfl) rfl lk_M_113 (zw_dg dk_M_peers 18 rfl) ?_
    refine r_bipush X (pc := 35) (v := 91) (zw_dg dk_M_peers 19 rfl) (by decide) ?_
    refine r_icmp_le X (pc := 37) (tgt := 43) (zw_dg dk_M_peers 20 rfl) (by decide) (fun q11 => ?_) (fun q11 => ?_)
    · --
      have p10 : ¬ (91 < (c4.1 71 2)) := (Int32.not_lt.mpr q11)
      have hsem := zw_ifn p10 hsem
      refine r_aload_n X (pc := 43) (i := 0) (zw_dg dk_M_peers 23 rfl) rfl rfl ?_
      refine r_iload_n X (pc := 44) (i := 1) (zw_dg dk_M_peers 24 rfl) rfl rfl ?_
      obtain ⟨c12, hc12, hsem⟩ := zw_bd hsem
      refine r_callVv X (pc := 45) (As := [_]) (st := []) (km_M_layPay hS hc12) ce_M_layPay kw_1700 (zo hS 71 rfl rfl) rfl rfl ⟨Nat.le_of_ble_eq_true rfl, Nat.le_of_ble_eq_true rfl⟩ (Nat.le_of_ble_eq_true rfl) (zw_dg dk_M_peers 25 rfl) ?_
      refine r_aload_n X (pc := 48) (i := 0) (zw_dg dk_M_peers 26 rfl) rfl rfl ?_
      refine r_getR X (pc := 49) (r := 91) ci_M (zo hS 71 rfl rfl) rfl (zr hS 71 29 rfl rfl) lk_M_67 (zw_dg dk_M_peers 27 rfl) ?_
      refine r_astore X (pc := 52) (i := 4) (zw_dg dk_M_peers 28 rfl) (by decide) rfl ?_
      refine r_iconst X (pc := 54) (v := 0) (zw_dg dk_M_peers 29 rfl) (by decide) ?_
      refine r_istore X (pc := 55) (i := 5) (zw_dg dk_M_peers 30 rfl) (by decide) rfl ?_
      obtain ⟨c15, hl16, hsl16⟩ := zw_bd hsem
      refine r_loop (pc := 57) (pce := 129) hl16 (fun (e13, c14) => [some (.ref 71), some (.int p1), some (.int one2), some (.int other3), some (.ref 91), some (.int e13), none, none, none, none, none, none] : Int32 × zw_Ct → zw_Lc) (fun (e13, c14) => c14 : Int32 × zw_Ct → zw_Ct) (fun c15 => [some (.ref 71), some (.int p1), some (.int one2), some (.int other3), some (.ref 91), none, none, none, none, none, none, none] : zw_Ct → zw_Lc) (fun c15 => c15 : zw_Ct → zw_Ct) ?_ rfl rfl ?_
      · rintro ⟨e13, c14⟩ rr hsem hK hP
        try unfold fn_M_peers_l1 at hsem
        refine r_iload X (pc := 57) (i := 5) (zw_dg dk_M_peers 31 rfl) rfl ?_
        refine r_aload_n X (pc := 59) (i := 0) (zw_dg dk_M_peers 32 rfl) rfl rfl ?_
        refine r_getI X (pc := 60) ci_M (zo hS 71 rfl rfl) rfl lk_M_9 (zw_dg dk_M_peers 33 rfl) ?_
        refine r_icmp_ge X (pc := 63) (tgt := 129) (zw_dg dk_M_peers 34 rfl) (by decide) (fun q18 => ?_) (fun q18 => ?_)
        · --
          have p17 : ¬ (e13 < (c14.1 71 0)) := (Int32.not_lt.mpr q18)
          have hsem := zw_ifn p17 hsem
          have jj := hK _ (Option.some.inj hsem).symm
          exact (r_fgt [5] rfl jj)
        · --
          have p17 : (e13 < (c14.1 71 0)) := (Int32.not_le.mp q18)
          have hsem := zw_ifp p17 hsem
          refine r_aload X (pc := 66) (i := 4) (zw_dg dk_M_peers 35 rfl) rfl ?_
          refine r_iload X (pc := 68) (i := 5) (zw_dg dk_M_peers 36 rfl) rfl ?_
          refine r_aload_n X (pc := 70) (i := 0) (zw_dg dk_M_peers 37 rfl) rfl rfl ?_
          refine r_getR X (pc := 71) (r := 84) ci_M (zo hS 71 rfl rfl) rfl (zr hS 71 21 rfl rfl) lk_M_46 (zw_dg dk_M_peers 38 rfl) ?_
          refine r_iload X (pc := 74) (i := 5) (zw_dg dk_M_peers 39 rfl) rfl ?_
          obtain ⟨x19, hx19, hsem⟩ := zw_bd hsem
          refine r_iald X (pc := 76) (zo hS 84 rfl rfl) hx19 (zw_dg dk_M_peers 40 rfl) ?_
          refine r_i2l X (pc := 77) (zw_dg dk_M_peers 41 rfl)  ?_
          obtain ⟨c20, hc20, hsem⟩ := zw_bd hsem
          refine r_last X (pc := 78) (zo hS 91 rfl rfl) hc20 (zw_dg dk_M_peers 42 rfl) ?_
          refine r_iconst X (pc := 79) (v := 1) (zw_dg dk_M_peers 43 rfl) (by decide) ?_
          refine r_istore X (pc := 80) (i := 6) (zw_dg dk_M_peers 44 rfl) (by decide) rfl ?_
          obtain ⟨c23, hl24, hsl24⟩ := zw_bd hsem
          refine r_loop (pc := 82) (pce := 123) hl24 (fun (s21, c22) => [some (.ref 71), some (.int p1), some (.int one2), some (.int other3), some (.ref 91), some (.int e13), some (.int s21), none, none, none, none, none] : Int32 × zw_Ct → zw_Lc) (fun (s21, c22) => c22 : Int32 × zw_Ct → zw_Ct) (fun c23 => [some (.ref 71), some (.int p1), some (.int one2), some (.int other3), some (.ref 91), some (.int e13), none, none, none, none, none, none] : zw_Ct → zw_Lc) (fun c23 => c23 : zw_Ct → zw_Ct) ?_ rfl rfl ?_
          · rintro ⟨s21, c22⟩ rr hsem hK hP
            try unfold fn_M_peers_l2 at hsem
            refine r_iload X (pc := 82) (i := 6) (zw_dg dk_M_peers 45 rfl) rfl ?_
            refine r_aload_n X (pc := 84) (i := 0) (zw_dg dk_M_peers 46 rfl) rfl rfl ?_
            refine r_getI X (pc := 85) ci_M (zo hS 71 rfl rfl) rfl lk_M_113 (zw_dg dk_M_peers 47 rfl) ?_
            refine r_icmp_ge X (pc := 88) (tgt := 123) (zw_dg dk_M_peers 48 rfl) (by decide) (fun q26 => ?_) (fun q26 => ?_)
            · --
              have p25 : ¬ (s21 < (c22.1 71 2)) := (Int32.not_lt.mpr q26)
              have hsem := zw_ifn p25 hsem
              have jj := hK _ (Option.some.inj hsem).symm
              exact (r_fgt [6] rfl jj)
            · --
              have p25 : (s21 < (c22.1 71 2)) := (Int32.not_le.mp q26)
              have hsem := zw_ifp p25 hsem
              refine r_aload X (pc := 91) (i := 4) (zw_dg dk_M_peers 49 rfl) rfl ?_
              refine r_iload X (pc := 93) (i := 5) (zw_dg dk_M_peers 50 rfl) rfl ?_
              refine r_aload X (pc := 95) (i := 4) (zw_dg dk_M_peers 51 rfl) rfl ?_
              refine r_iload X (pc := 97) (i := 5) (zw_dg dk_M_peers 52 rfl) rfl ?_
              obtain ⟨x27, hx27, hsem⟩ := zw_bd hsem
              refine r_lald X (pc := 99) (zo hS 91 rfl rfl) hx27 (zw_dg dk_M_peers 53 rfl) ?_
              refine r_aload_n X (pc := 100) (i := 0) (zw_dg dk_M_peers 54 rfl) rfl rfl ?_
              refine r_getR X (pc := 101) (r := 84) ci_M (zo hS 71 rfl rfl) rfl (zr hS 71 21 rfl rfl) lk_M_46 (zw_dg dk_M_peers 55 rfl) ?_
              refine r_iconst X (pc := 104) (v := 4) (zw_dg dk_M_peers 56 rfl) (by decide) ?_
              refine r_iload X (pc := 105) (i := 6) (zw_dg dk_M_peers 57 rfl) rfl ?_
              refine r_imul X (pc := 107) (zw_dg dk_M_peers 58 rfl)  ?_
              refine r_iload X (pc := 108) (i := 5) (zw_dg dk_M_peers 59 rfl) rfl ?_
              refine r_iadd X (pc := 110) (zw_dg dk_M_peers 60 rfl)  ?_
              obtain ⟨x28, hx28, hsem⟩ := zw_bd hsem
              refine r_iald X (pc := 111) (zo hS 84 rfl rfl) hx28 (zw_dg dk_M_peers 61 rfl) ?_
              refine r_i2l X (pc := 112) (zw_dg dk_M_peers 62 rfl)  ?_
              refine r_mmaxl X (pc := 113) kw_1731 mws_maxl kw_88 mwc_maxl ⟨Nat.le_of_ble_eq_true rfl, Nat.le_of_ble_eq_true rfl⟩ (st := [.int e13, .ref 91]) (Nat.le_of_ble_eq_true rfl) (zw_dg dk_M_peers 63 rfl) ?_
              obtain ⟨c29, hc29, hsem⟩ := zw_bd hsem
              refine r_last X (pc := 116) (zo hS 91 rfl rfl) hc29 (zw_dg dk_M_peers 64 rfl) ?_
              refine r_iinc X (pc := 117) (i := 6) (k := 1) (zw_dg dk_M_peers 65 rfl) rfl (by decide) (by decide) rfl ?_
              refine r_goto X (pc := 120) (tgt := 82) (zw_dg dk_M_peers 66 rfl) (by decide) ?_
              have jj := hP _ (Option.some.inj hsem).symm
              exact (r_fgt [] rfl jj)
          have hsem := hsl24
          refine r_iinc X (pc := 123) (i := 5) (k := 1) (zw_dg dk_M_peers 67 rfl) rfl (by decide) (by decide) rfl ?_
          refine r_goto X (pc := 126) (tgt := 57) (zw_dg dk_M_peers 68 rfl) (by decide) ?_
          have jj := hP _ (Option.some.inj hsem).symm
          exact (r_fgt [] rfl jj)
      have hsem := hsl16
      refine r_iconst X (pc := 129) (v := 0) (zw_dg dk_M_peers 69 rfl) (by decide) ?_
      refine r_istore X (pc := 130) (i := 5) (zw_dg dk_M_peers 70 rfl) (by decide) rfl ?_
      refine r_iconst X (pc := 132) (v := 0) (zw_dg dk_M_peers 71 rfl) (by decide) ?_
      refine r_istore X (pc := 133) (i := 6) (zw_dg dk_M_peers 72 rfl) (by decide) rfl ?_
      refine r_iconst X (pc := 135) (v := (-1)) (zw_dg dk_M_peers 73 rfl) (by decide) ?_
      refine r_istore X (pc := 136) (i := 7) (zw_dg dk_M_peers 74 rfl) (by decide) rfl ?_
      refine r_iconst X (pc := 138) (v := (-1)) (zw_dg dk_M_peers 75 rfl) (by decide) ?_
      refine r_istore X (pc := 139) (i := 8) (zw_dg dk_M_peers 76 rfl) (by decide) rfl ?_
      refine r_iconst X (pc := 141) (v := 0) (zw_dg dk_M_peers 77 rfl) (by decide) ?_
      refine r_istore X (pc := 142) (i := 9) (zw_dg dk_M_peers 78 rfl) (by decide) rfl ?_
      refine r_iconst X (pc := 144) (v := 0) (zw_dg dk_M_peers 79 rfl) (by decide) ?_
      refine r_istore X (pc := 145) (i := 10) (zw_dg dk_M_peers 80 rfl) (by decide) rfl ?_
      obtain ⟨l41, hl41, hsl41⟩ := zw_bd hsem
      refine r_loop (pc := 147) (pce := 300) hl41 (fun (firstA30, firstB31, n32, alike33, isTold34, a35) => [some (.ref 71), some (.int p1), some (.int one2), some (.int other3), some (.ref 91), some (.int n32), some (.int alike33), some (.int firstA30), some (.int firstB31), some (.int isTold34), some (.int a35), none] : Int32 × Int32 × Int32 × Int32 × Int32 × Int32 → zw_Lc) (fun (firstA30, firstB31, n32, alike33, isTold34, a35) => c15 : Int32 × Int32 × Int32 × Int32 × Int32 × Int32 → zw_Ct) (fun (firstA36, firstB37, n38, alike39, isTold40) => [some (.ref 71), some (.int p1), some (.int one2), some (.int other3), some (.ref 91), some (.int n38), some (.int alike39), some (.int firstA36), some (.int firstB37), some (.int isTold40), none, none] : Int32 × Int32 × Int32 × Int32 × Int32 → zw_Lc) (fun (firstA36, firstB37, n38, alike39, isTold40) => c15 : Int32 × Int32 × Int32 × Int32 × Int32 → zw_Ct) ?_ rfl rfl ?_
      · rintro ⟨firstA30, firstB31, n32, alike33, isTold34, a35⟩ rr hsem hK hP
        try unfold fn_M_peers_l3 at hsem
        refine r_iload X (pc := 147) (i := 10) (zw_dg dk_M_peers 81 rfl) rfl ?_
        refine r_aload_n X (pc := 149) (i := 0) (zw_dg dk_M_peers 82 rfl) rfl rfl ?_
        refine r_getI X (pc := 150) ci_M (zo hS 71 rfl rfl) rfl lk_M_113 (zw_dg dk_M_peers 83 rfl) ?_
        refine r_icmp_ge X (pc := 153) (tgt := 300) (zw_dg dk_M_peers 84 rfl) (by decide) (fun q43 => ?_) (fun q43 => ?_)
        · --
          have p42 : ¬ (a35 < (c15.1 71 2)) := (Int32.not_lt.mpr q43)
          have hsem := zw_ifn p42 hsem
          have jj := hK _ (Option.some.inj hsem).symm
          exact (r_fgt [10] rfl jj)
        · --
          have p42 : (a35 < (c15.1 71 2)) := (Int32.not_le.mp q43)
          have hsem := zw_ifp p42 hsem
          refine r_iconst X (pc := 156) (v := 0) (zw_dg dk_M_peers 85 rfl) (by decide) ?_
          refine r_istore X (pc := 157) (i := 11) (zw_dg dk_M_peers 86 rfl) (by decide) rfl ?_
          obtain ⟨l55, hl55, hsl55⟩ := zw_bd hsem
          refine r_loop (pc := 159) (pce := 294) hl55 (fun (firstA44, firstB45, n46, alike47, isTold48, b49) => [some (.ref 71), some (.int p1), some (.int one2), some (.int other3), some (.ref 91), some (.int n46), some (.int alike47), some (.int firstA44), some (.int firstB45), some (.int isTold48), some (.int a35), some (.int b49)] : Int32 × Int32 × Int32 × Int32 × Int32 × Int32 → zw_Lc) (fun (firstA44, firstB45, n46, alike47, isTold48, b49) => c15 : Int32 × Int32 × Int32 × Int32 × Int32 × Int32 → zw_Ct) (fun (firstA50, firstB51, n52, alike53, isTold54) => [some (.ref 71), some (.int p1), some (.int one2), some (.int other3), some (.ref 91), some (.int n52), some (.int alike53), some (.int firstA50), some (.int firstB51), some (.int isTold54), some (.int a35), none] : Int32 × Int32 × Int32 × Int32 × Int32 → zw_Lc) (fun (firstA50, firstB51, n52, alike53, isTold54) => c15 : Int32 × Int32 × Int32 × Int32 × Int32 → zw_Ct) ?_ rfl rfl ?_
          · rintro ⟨firstA44, firstB45, n46, alike47, isTold48, b49⟩ rr hsem hK hP
            try unfold fn_M_peers_l4 at hsem
            refine r_iload X (pc := 159) (i := 11) (zw_dg dk_M_peers 87 rfl) rfl ?_
            refine r_aload_n X (pc := 161) (i := 0) (zw_dg dk_M_peers 88 rfl) rfl rfl ?_
            refine r_getI X (pc := 162) ci_M (zo hS 71 rfl rfl) rfl lk_M_113 (zw_dg dk_M_peers 89 rfl) ?_
            refine r_icmp_ge X (pc := 165) (tgt := 294) (zw_dg dk_M_peers 90 rfl) (by decide) (fun q57 => ?_) (fun q57 => ?_)
            · --
              have p56 : ¬ (b49 < (c15.1 71 2)) := (Int32.not_lt.mpr q57)
              have hsem := zw_ifn p56 hsem
              have jj := hK _ (Option.some.inj hsem).symm
              exact (r_fgt [11] rfl jj)
            · --
              have p56 : (b49 < (c15.1 71 2)) := (Int32.not_le.mp q57)
              have hsem := zw_ifp p56 hsem
              refine r_aload_n X (pc := 168) (i := 0) (zw_dg dk_M_peers 91 rfl) rfl rfl ?_
              refine r_getR X (pc := 169) (r := 84) ci_M (zo hS 71 rfl rfl) rfl (zr hS 71 21 rfl rfl) lk_M_46 (zw_dg dk_M_peers 92 rfl) ?_
              refine r_iconst X (pc := 172) (v := 4) (zw_dg dk_M_peers 93 rfl) (by decide) ?_
              refine r_iload X (pc := 173) (i := 10) (zw_dg dk_M_peers 94 rfl) rfl ?_
              refine r_imul X (pc := 175) (zw_dg dk_M_peers 95 rfl)  ?_
              refine r_aload_n X (pc := 176) (i := 0) (zw_dg dk_M_peers 96 rfl) rfl rfl ?_
              refine r_iload X (pc := 177) (i := 11) (zw_dg dk_M_peers 97 rfl) rfl ?_
              obtain ⟨r58, hr58, hsem⟩ := zw_bd hsem
              refine r_callVi X (pc := 179) (As := [_]) (st := [.int (4 * a35), .ref 84]) (km_M_mode hS hr58) ce_M_mode kw_1911 (zo hS 71 rfl rfl) rfl rfl ⟨Nat.le_of_ble_eq_true rfl, Nat.le_of_ble_eq_true rfl⟩ (Nat.le_of_ble_eq_true rfl) (zw_dg dk_M_peers 98 rfl) ?_
              refine r_iadd X (pc := 182) (zw_dg dk_M_peers 99 rfl)  ?_
              obtain ⟨x59, hx59, hsem⟩ := zw_bd hsem
              refine r_iald X (pc := 183) (zo hS 84 rfl rfl) hx59 (zw_dg dk_M_peers 100 rfl) ?_
              refine r_i2l X (pc := 184) (zw_dg dk_M_peers 101 rfl)  ?_
              refine r_aload X (pc := 185) (i := 4) (zw_dg dk_M_peers 102 rfl) rfl ?_
              refine r_aload_n X (pc := 187) (i := 0) (zw_dg dk_M_peers 103 rfl) rfl rfl ?_
              refine r_iload X (pc := 188) (i := 11) (zw_dg dk_M_peers 104 rfl) rfl ?_
              obtain ⟨r60, hr60, hsem⟩ := zw_bd hsem
              refine r_callVi X (pc := 190) (As := [_]) (st := [.ref 91, .long x59.toInt64]) (km_M_mode hS hr60) ce_M_mode kw_1911 (zo hS 71 rfl rfl) rfl rfl ⟨Nat.le_of_ble_eq_true rfl, Nat.le_of_ble_eq_true rfl⟩ (Nat.le_of_ble_eq_true rfl) (zw_dg dk_M_peers 105 rfl) ?_
              obtain ⟨x61, hx61, hsem⟩ := zw_bd hsem
              refine r_lald X (pc := 193) (zo hS 91 rfl rfl) hx61 (zw_dg dk_M_peers 106 rfl) ?_
              refine r_lcmp_ne X (pc := 194) (tgt := 288) (zw_dg dk_M_peers 107 rfl) (zw_dg dk_M_peers 108 rfl) (by decide) (fun q63 => ?_) (fun q63 => ?_)
              · --
                have p62 : (¬ x59.toInt64 = x61) := q63
                have hsem := zw_ifp p62 hsem
                refine r_iinc X (pc := 288) (i := 11) (k := 1) (zw_dg dk_M_peers 156 rfl) rfl (by decide) (by decide) rfl ?_
                refine r_goto X (pc := 291) (tgt := 159) (zw_dg dk_M_peers 157 rfl) (by decide) ?_
                have jj := hP _ (Option.some.inj hsem).symm
                exact (r_fgt [] rfl jj)
              · --
                have p62 : ¬ (¬ x59.toInt64 = x61) := (fun z => z q63)
                have hsem := zw_ifn p62 hsem
                refine r_aload_n X (pc := 198) (i := 0) (zw_dg dk_M_peers 109 rfl) rfl rfl ?_
                refine r_getR X (pc := 199) (r := 84) ci_M (zo hS 71 rfl rfl) rfl (zr hS 71 21 rfl rfl) lk_M_46 (zw_dg dk_M_peers 110 rfl) ?_
                refine r_iconst X (pc := 202) (v := 4) (zw_dg dk_M_peers 111 rfl) (by decide) ?_
                refine r_iload X (pc := 203) (i := 11) (zw_dg dk_M_peers 112 rfl) rfl ?_
                refine r_imul X (pc := 205) (zw_dg dk_M_peers 113 rfl)  ?_
                refine r_aload_n X (pc := 206) (i := 0) (zw_dg dk_M_peers 114 rfl) rfl rfl ?_
                refine r_iload X (pc := 207) (i := 10) (zw_dg dk_M_peers 115 rfl) rfl ?_
                obtain ⟨r64, hr64, hsem⟩ := zw_bd hsem
                refine r_callVi X (pc := 209) (As := [_]) (st := [.int (4 * b49), .ref 84]) (km_M_mode hS hr64) ce_M_mode kw_1911 (zo hS 71 rfl rfl) rfl rfl ⟨Nat.le_of_ble_eq_true rfl, Nat.le_of_ble_eq_true rfl⟩ (Nat.le_of_ble_eq_true rfl) (zw_dg dk_M_peers 116 rfl) ?_
                refine r_iadd X (pc := 212) (zw_dg dk_M_peers 117 rfl)  ?_
                obtain ⟨x65, hx65, hsem⟩ := zw_bd hsem
                refine r_iald X (pc := 213) (zo hS 84 rfl rfl) hx65 (zw_dg dk_M_peers 118 rfl) ?_
                refine r_i2l X (pc := 214) (zw_dg dk_M_peers 119 rfl)  ?_
                refine r_aload X (pc := 215) (i := 4) (zw_dg dk_M_peers 120 rfl) rfl ?_
                refine r_aload_n X (pc := 217) (i := 0) (zw_dg dk_M_peers 121 rfl) rfl rfl ?_
                refine r_iload X (pc := 218) (i := 10) (zw_dg dk_M_peers 122 rfl) rfl ?_
                obtain ⟨r66, hr66, hsem⟩ := zw_bd hsem
                refine r_callVi X (pc := 220) (As := [_]) (st := [.ref 91, .long x65.toInt64]) (km_M_mode hS hr66) ce_M_mode kw_1911 (zo hS 71 rfl rfl) rfl rfl ⟨Nat.le_of_ble_eq_true rfl, Nat.le_of_ble_eq_true rfl⟩ (Nat.le_of_ble_eq_true rfl) (zw_dg dk_M_peers 123 rfl) ?_
                obtain ⟨x67, hx67, hsem⟩ := zw_bd hsem
                refine r_lald X (pc := 223) (zo hS 91 rfl rfl) hx67 (zw_dg dk_M_peers 124 rfl) ?_
                refine r_lcmp_eq X (pc := 224) (tgt := 231) (zw_dg dk_M_peers 125 rfl) (zw_dg dk_M_peers 126 rfl) (by decide) (fun q69 => ?_) (fun q69 => ?_)
                · --
                  have p68 : ¬ (¬ x65.toInt64 = x67) := (fun z => z q69)
                  have hsem := zw_ifn p68 hsem
                  obtain ⟨⟨firstA70, firstB71⟩, ht244, hs244⟩ := zw_bd hsem
                  refine zw_jn (J := 244) (L2 := [some (.ref 71), some (.int p1), some (.int one2), some (.int other3), some (.ref 91), some (.int n46), some (.int alike47), some (.int firstA70), some (.int firstB71), some (.int isTold48), some (.int a35), some (.int b49)]) (c2 := c15) (fun jj => ?_) ?_
                  · have hsem := ht244
                    refine r_iload X (pc := 231) (i := 5) (zw_dg dk_M_peers 128 rfl) rfl ?_
                    refine r_if_ne X (pc := 233) (tgt := 244) (zw_dg dk_M_peers 129 rfl) (by decide) (fun q73 => ?_) (fun q73 => ?_)
                    · --
                      have p72 : ¬ (n46 = 0) := q73
                      have hsem := zw_ifn p72 hsem
                      obtain ⟨rfl, rfl⟩ := zw_in2 hsem
                      exact (r_fgt [] rfl jj)
                    · --
                      have p72 : (n46 = 0) := q73
                      have hsem := zw_ifp p72 hsem
                      refine r_iload X (pc := 236) (i := 10) (zw_dg dk_M_peers 130 rfl) rfl ?_
                      refine r_istore X (pc := 238) (i := 7) (zw_dg dk_M_peers 131 rfl) (by decide) rfl ?_
                      refine r_iload X (pc := 240) (i := 11) (zw_dg dk_M_peers 132 rfl) rfl ?_
                      refine r_istore X (pc := 242) (i := 8) (zw_dg dk_M_peers 133 rfl) (by decide) rfl ?_
                      obtain ⟨rfl, rfl⟩ := zw_in2 hsem
                      exact (r_fgt [] rfl jj)
                  have hsem := hs244
                  refine r_iinc X (pc := 244) (i := 5) (k := 1) (zw_dg dk_M_peers 134 rfl) rfl (by decide) (by decide) rfl ?_
                  refine r_iload X (pc := 247) (i := 6) (zw_dg dk_M_peers 135 rfl) rfl ?_
                  refine zw_ter (P := (a35 = b49)) (f := Value.int) (x := 1) (y := 0) (J := 261) (st2 := [.int alike47]) (fun jT jF => ?_) ?_
                  · --
                    refine r_iload X (pc := 249) (i := 10) (zw_dg dk_M_peers 136 rfl) rfl ?_
                    refine r_iload X (pc := 251) (i := 11) (zw_dg dk_M_peers 137 rfl) rfl ?_
                    refine r_icmp_ne X (pc := 253) (tgt := 260) (zw_dg dk_M_peers 138 rfl) (by decide) (fun q74 => ?_) (fun q74 => ?_)
                    · --
                      refine r_iconst X (pc := 260) (v := 0) (zw_dg dk_M_peers 141 rfl) (by decide) ?_
                      exact jF q74
                    · --
                      refine r_iconst X (pc := 256) (v := 1) (zw_dg dk_M_peers 139 rfl) (by decide) ?_
                      refine r_goto X (pc := 257) (tgt := 261) (zw_dg dk_M_peers 140 rfl) (by decide) ?_
                      exact jT q74
                  refine r_iadd X (pc := 261) (zw_dg dk_M_peers 142 rfl)  ?_
                  obtain ⟨alike75, halike75, hsem⟩ := zw_bd hsem
                  refine zw_topI halike75 ?_
                  refine r_istore X (pc := 262) (i := 6) (zw_dg dk_M_peers 143 rfl) (by decide) rfl ?_
                  refine zw_ter (P := ((¬ isTold48 = 0) ∨ ((a35 = one2) ∧ (b49 = other3)))) (f := Value.int) (x := 1) (y := 0) (J := 286) (st2 := []) (fun jT jF => ?_) ?_
                  · --
                    refine r_iload X (pc := 264) (i := 9) (zw_dg dk_M_peers 144 rfl) rfl ?_
                    refine r_if_ne X (pc := 266) (tgt := 281) (zw_dg dk_M_peers 145 rfl) (by decide) (fun q76 => ?_) (fun q76 => ?_)
                    · --
                      refine r_iconst X (pc := 281) (v := 1) (zw_dg dk_M_peers 152 rfl) (by decide) ?_
                      refine r_goto X (pc := 282) (tgt := 286) (zw_dg dk_M_peers 153 rfl) (by decide) ?_
                      exact jT (Or.inl q76)
                    · --
                      refine r_iload X (pc := 269) (i := 10) (zw_dg dk_M_peers 146 rfl) rfl ?_
                      refine r_iload_n X (pc := 271) (i := 2) (zw_dg dk_M_peers 147 rfl) rfl rfl ?_
                      refine r_icmp_ne X (pc := 272) (tgt := 285) (zw_dg dk_M_peers 148 rfl) (by decide) (fun q77 => ?_) (fun q77 => ?_)
                      · --
                        refine r_iconst X (pc := 285) (v := 0) (zw_dg dk_M_peers 154 rfl) (by decide) ?_
                        exact jF (fun q => q.elim (fun z => z q76) (fun q => q77 q.1))
                      · --
                        refine r_iload X (pc := 275) (i := 11) (zw_dg dk_M_peers 149 rfl) rfl ?_
                        refine r_iload_n X (pc := 277) (i := 3) (zw_dg dk_M_peers 150 rfl) rfl rfl ?_
                        refine r_icmp_ne X (pc := 278) (tgt := 285) (zw_dg dk_M_peers 151 rfl) (by decide) (fun q78 => ?_) (fun q78 => ?_)
                        · --
                          refine r_iconst X (pc := 285) (v := 0) (zw_dg dk_M_peers 154 rfl) (by decide) ?_
                          exact jF (fun q => q.elim (fun z => z q76) (fun q => q78 q.2))
                        · --
                          refine r_iconst X (pc := 281) (v := 1) (zw_dg dk_M_peers 152 rfl) (by decide) ?_
                          refine r_goto X (pc := 282) (tgt := 286) (zw_dg dk_M_peers 153 rfl) (by decide) ?_
                          exact jT (Or.inr ⟨q77, q78⟩)
                  obtain ⟨isTold79, hisTold79, hsem⟩ := zw_bd hsem
                  refine zw_topI hisTold79 ?_
                  refine r_istore X (pc := 286) (i := 9) (zw_dg dk_M_peers 155 rfl) (by decide) rfl ?_
                  refine r_iinc X (pc := 288) (i := 11) (k := 1) (zw_dg dk_M_peers 156 rfl) rfl (by decide) (by decide) rfl ?_
                  refine r_goto X (pc := 291) (tgt := 159) (zw_dg dk_M_peers 157 rfl) (by decide) ?_
                  have jj := hP _ (Option.some.inj hsem).symm
                  exact (r_fgt [] rfl jj)
                · --
                  have p68 : (¬ x65.toInt64 = x67) := q69
                  have hsem := zw_ifp p68 hsem
                  refine r_goto X (pc := 228) (tgt := 288) (zw_dg dk_M_peers 127 rfl) (by decide) ?_
                  refine r_iinc X (pc := 288) (i := 11) (k := 1) (zw_dg dk_M_peers 156 rfl) rfl (by decide) (by decide) rfl ?_
                  refine r_goto X (pc := 291) (tgt := 159) (zw_dg dk_M_peers 157 rfl) (by decide) ?_
                  have jj := hP _ (Option.some.inj hsem).symm
                  exact (r_fgt [] rfl jj)
          obtain ⟨firstA50, firstB51, n52, alike53, isTold54⟩ := l55
          have hsem := hsl55
          refine r_iinc X (pc := 294) (i := 10) (k := 1) (zw_dg dk_M_peers 158 rfl) rfl (by decide) (by decide) rfl ?_
          refine r_goto X (pc := 297) (tgt := 147) (zw_dg dk_M_peers 159 rfl) (by decide) ?_
          have jj := hP _ (Option.some.inj hsem).symm
          exact (r_fgt [] rfl jj)
      obtain ⟨firstA36, firstB37, n38, alike39, isTold40⟩ := l41
      have hsem := hsl41
      refine r_aload_n X (pc := 300) (i := 0) (zw_dg dk_M_peers 160 rfl) rfl rfl ?_
      refine r_iconst X (pc := 301) (v := 0) (zw_dg dk_M_peers 161 rfl) (by decide) ?_
      refine r_putI X (pc := 302) ci_M (zo hS 71 rfl rfl) rfl lk_M_100 rfl ⟨rfl, rfl⟩ (zw_dg dk_M_peers 162 rfl) ?_
      obtain ⟨c80, hc80, hsem⟩ := zw_bd hsem
      refine zw_topC hc80 ?_
      refine r_aload_n X (pc := 305) (i := 0) (zw_dg dk_M_peers 163 rfl) rfl rfl ?_
      refine r_iload X (pc := 306) (i := 7) (zw_dg dk_M_peers 164 rfl) rfl ?_
      refine r_i2l X (pc := 308) (zw_dg dk_M_peers 165 rfl)  ?_
      obtain ⟨c81, hc81, hsem⟩ := zw_bd hsem
      refine r_callVv X (pc := 309) (As := [_]) (st := []) (km_M_tell hS hc81) ce_M_tell kw_1704 (zo hS 71 rfl rfl) rfl rfl ⟨Nat.le_of_ble_eq_true rfl, Nat.le_of_ble_eq_true rfl⟩ (Nat.le_of_ble_eq_true rfl) (zw_dg dk_M_peers 166 rfl) ?_
      refine r_aload_n X (pc := 312) (i := 0) (zw_dg dk_M_peers 167 rfl) rfl rfl ?_
      refine r_iload X (pc := 313) (i := 8) (zw_dg dk_M_peers 168 rfl) rfl ?_
      refine r_i2l X (pc := 315) (zw_dg dk_M_peers 169 rfl)  ?_
      obtain ⟨c82, hc82, hsem⟩ := zw_bd hsem
      refine r_callVv X (pc := 316) (As := [_]) (st := []) (km_M_tell hS hc82) ce_M_tell kw_1704 (zo hS 71 rfl rfl) rfl rfl ⟨Nat.le_of_ble_eq_true rfl, Nat.le_of_ble_eq_true rfl⟩ (Nat.le_of_ble_eq_true rfl) (zw_dg dk_M_peers 170 rfl) ?_
      refine r_aload_n X (pc := 319) (i := 0) (zw_dg dk_M_peers 171 rfl) rfl rfl ?_
      refine r_iload X (pc := 320) (i := 6) (zw_dg dk_M_peers 172 rfl) rfl ?_
      refine r_i2l X (pc := 322) (zw_dg dk_M_peers 173 rfl)  ?_
      obtain ⟨c83, hc83, hsem⟩ := zw_bd hsem
      refine r_callVv X (pc := 323) (As := [_]) (st := []) (km_M_tell hS hc83) ce_M_tell kw_1704 (zo hS 71 rfl rfl) rfl rfl ⟨Nat.le_of_ble_eq_true rfl, Nat.le_of_ble_eq_true rfl⟩ (Nat.le_of_ble_eq_true rfl) (zw_dg dk_M_peers 174 rfl) ?_
      refine r_aload_n X (pc := 326) (i := 0) (zw_dg dk_M_peers 175 rfl) rfl rfl ?_
      refine zw_ter (P := (¬ isTold40 = 0)) (f := Value.long) (x := 1) (y := 0) (J := 337) (st2 := [.ref 71]) (fun jT jF => ?_) ?_
      · --
        refine r_iload X (pc := 327) (i := 9) (zw_dg dk_M_peers 176 rfl) rfl ?_
        refine r_if_eq X (pc := 329) (tgt := 336) (zw_dg dk_M_peers 177 rfl) (by decide) (fun q84 => ?_) (fun q84 => ?_)
        · --
          refine r_lconst X (pc := 336) (v := 0) (zw_dg dk_M_peers 180 rfl) (by decide) ?_
          exact jF (fun z => z q84)
        · --
          refine r_lconst X (pc := 332) (v := 1) (zw_dg dk_M_peers 178 rfl) (by decide) ?_
          refine r_goto X (pc := 333) (tgt := 337) (zw_dg dk_M_peers 179 rfl) (by decide) ?_
          exact jT q84
      obtain ⟨c85, hc85, hsem⟩ := zw_bd hsem
      refine r_callVv X (pc := 337) (As := [_]) (st := []) (km_M_tell hS hc85) ce_M_tell kw_1704 (zo hS 71 rfl rfl) rfl rfl ⟨Nat.le_of_ble_eq_true rfl, Nat.le_of_ble_eq_true rfl⟩ (Nat.le_of_ble_eq_true rfl) (zw_dg dk_M_peers 181 rfl) ?_
      refine r_iload X (pc := 340) (i := 5) (zw_dg dk_M_peers 182 rfl) rfl ?_
      obtain ⟨rfl, rfl⟩ := zw_in2 hsem
      exact r_iret X (pc := 342) rfl (zw_dg dk_M_peers 183 rfl)
    · --
      have p10 : (91 < (c4.1 71 2)) := (Int32.not_le.mp q11)
      have hsem := zw_ifp p10 hsem
      refine r_bipush X (pc := 40) (v := (-3)) (zw_dg dk_M_peers 21 rfl) (by decide) ?_
      obtain ⟨rfl, rfl⟩ := zw_in2 hsem
      exact r_iret X (pc := 42) rfl (zw_dg dk_M_peers 22 rfl)
def y_M_isAsked : MethodName := ⟨R_M, "isAsked", "(IIII)Z"⟩
abbrev b_M_isAsked : ByteArray := prog_14_method_80_code
def dl_M_isAsked : List (Nat × Instr × Nat) := [(0, .aload_n 0, 1), (1, .iload_n 1, 1), (2, .invokevirtual 222, 3), (5, .ifCond .eq 36, 3), (8, .iload_n 2, 1), (9, .i2l, 1), (10, .lconst 0, 1), (11, .ldc2_w 128, 3), (14, .invokestatic 120, 3), (17, .ifCond .eq 24, 3), (20, .aload_n 0, 1), (21, .iload_n 3, 1), (22, .invokevirtual 142, 3), (25, .ifCond .eq 16, 3), (28, .aload_n 0, 1), (29, .iload 4, 2), (31, .invokevirtual 142, 3), (34, .ifCond .eq 7, 3), (37, .iconst 1, 1), (38, .goto 4, 3), (41, .iconst 0, 1), (42, .ireturn, 1)]
theorem dk_M_isAsked : zw_dk b_M_isAsked dl_M_isAsked = true := by decide +kernel
theorem ce_M_isAsked : zw_cev y_M_isAsked b_M_isAsked 5 (some .boolean) 4 := ⟨⟨kt_in 1922 (by decide +kernel) rfl, kt_in 98 (by decide +kernel) rfl, by decide +kernel⟩, kt_in 1921 (by decide +kernel) rfl, kt_in 76 (by decide +kernel) rfl⟩
def fn_M_isAsked (c : zw_Ct) (p1 : Int32) (least2 : Int32) (then3 : Int32) (otherwise4 : Int32) : Option Int32 :=
  (fn_M_isPay c p1).bind fun r5 =>
  some (if ((((¬ r5 = 0) ∧ (¬ (fn_M_in least2.toInt64 0 12) = 0)) ∧ (¬ (fn_M_isSaying c then3) = 0)) ∧ (¬ (fn_M_isSaying c otherwise4) = 0)) then (1 : Int32) else 0)
set_option maxRecDepth 100000 in
theorem km_M_isAsked {l : Launch} {g : zw_G} {rr : zw_RR} {sh : zw_Sh} {c : zw_Ct} {p1 : Int32} {least2 : Int32} {then3 : Int32} {otherwise4 : Int32} {r : Int32} (hS : zw_Ok 0 101 sh rr) (hsem : fn_M_isAsked c p1 least2 then3 otherwise4 = some r) : zw_Met l g y_M_isAsked b_M_isAsked 5 (some .boolean) 3 rr sh [.ref 71, .int p1, .int least2, .int then3, .int otherwise4] c (some (.int r)) c := by
  unfold fn_M_isAsked at hsem
  refine zw_Met.of (by decide +kernel) (Nat.le_of_ble_eq_true rfl) (fun p e s m args below meth cd X => ?_)
  refine zw_eL (L2 := [some (.ref 71), some (.int p1), some (.int least2), some (.int then3), some (.int otherwise4)]) rfl ?_
  refine r_aload_n X (pc := 0) (i := 0) (zw_dg dk_M_isAsked 0 rfl) rfl rfl ?_
  refine r_iload_n X (pc := 1) (i := 1) (zw_dg dk_M_isAsked 1 rfl) rfl rfl ?_
  obtain ⟨r5, hr5, hsem⟩ := zw_bd hsem
  refine r_callVi X (pc := 2) (As := [_]) (st := []) (km_M_isPay hS hr5) ce_M_isPay kw_1688 (zo hS 71 rfl rfl) rfl rfl ⟨Nat.le_of_ble_eq_true rfl, Nat.le_of_ble_eq_true rfl⟩ (Nat.le_of_ble_eq_true rfl) (zw_dg dk_M_isAsked 2 rfl) ?_
  refine zw_ter (P := ((((¬ r5 = 0) ∧ (¬ (fn_M_in least2.toInt64 0 12) = 0)) ∧ (¬ (fn_M_isSaying c then3) = 0)) ∧ (¬ (fn_M_isSaying c otherwise4) = 0))) (f := Value.int) (x := 1) (y := 0) (J := 42) (st2 := []) (fun jT jF => ?_) ?_
  · --
    refine r_if_eq X (pc := 5) (tgt := 41) (zw_dg dk_M_isAsked 3 rfl) (by decide) (fun q6 => ?_) (fun q6 => ?_)
    · --
      refine r_iconst X (pc := 41) (v := 0) (zw_dg dk_M_isAsked 20 rfl) (by decide) ?_
      exact jF (fun q => (fun q => (fun q => (fun z => z q6) q.1) q.1) q.1)
    · --
      refine r_iload_n X (pc := 8) (i := 2) (zw_dg dk_M_isAsked 4 rfl) rfl rfl ?_
      refine r_i2l X (pc := 9) (zw_dg dk_M_isAsked 5 rfl)  ?_
      refine r_lconst X (pc := 10) (v := 0) (zw_dg dk_M_isAsked 6 rfl) (by decide) ?_
      refine r_ldc2 X (pc := 11) (v := 12) kw_1600 (zw_dg dk_M_isAsked 7 rfl) ?_
      refine r_callSi X (pc := 14) (As := [_, _, _]) (st := []) (km_M_in hS rfl) ce_M_in kw_1597 rfl ⟨Nat.le_of_ble_eq_true rfl, Nat.le_of_ble_eq_true rfl⟩ (Nat.le_of_ble_eq_true rfl) (zw_dg dk_M_isAsked 8 rfl) ?_
      refine r_if_eq X (pc := 17) (tgt := 41) (zw_dg dk_M_isAsked 9 rfl) (by decide) (fun q7 => ?_) (fun q7 => ?_)
      · --
        refine r_iconst X (pc := 41) (v := 0) (zw_dg dk_M_isAsked 20 rfl) (by decide) ?_
        exact jF (fun q => (fun q => (fun q => (fun z => z q7) q.2) q.1) q.1)
      · --
        refine r_aload_n X (pc := 20) (i := 0) (zw_dg dk_M_isAsked 10 rfl) rfl rfl ?_
        refine r_iload_n X (pc := 21) (i := 3) (zw_dg dk_M_isAsked 11 rfl) rfl rfl ?_
        refine r_callVi X (pc := 22) (As := [_]) (st := []) (km_M_isSaying hS rfl) ce_M_isSaying kw_1609 (zo hS 71 rfl rfl) rfl rfl ⟨Nat.le_of_ble_eq_true rfl, Nat.le_of_ble_eq_true rfl⟩ (Nat.le_of_ble_eq_true rfl) (zw_dg dk_M_isAsked 12 rfl) ?_
        refine r_if_eq X (pc := 25) (tgt := 41) (zw_dg dk_M_isAsked 13 rfl) (by decide) (fun q8 => ?_) (fun q8 => ?_)
        · --
          refine r_iconst X (pc := 41) (v := 0) (zw_dg dk_M_isAsked 20 rfl) (by decide) ?_
          exact jF (fun q => (fun q => (fun z => z q8) q.2) q.1)
        · --
          refine r_aload_n X (pc := 28) (i := 0) (zw_dg dk_M_isAsked 14 rfl) rfl rfl ?_
          refine r_iload X (pc := 29) (i := 4) (zw_dg dk_M_isAsked 15 rfl) rfl ?_
          refine r_callVi X (pc := 31) (As := [_]) (st := []) (km_M_isSaying hS rfl) ce_M_isSaying kw_1609 (zo hS 71 rfl rfl) rfl rfl ⟨Nat.le_of_ble_eq_true rfl, Nat.le_of_ble_eq_true rfl⟩ (Nat.le_of_ble_eq_true rfl) (zw_dg dk_M_isAsked 16 rfl) ?_
          refine r_if_eq X (pc := 34) (tgt := 41) (zw_dg dk_M_isAsked 17 rfl) (by decide) (fun q9 => ?_) (fun q9 => ?_)
          · --
            refine r_iconst X (pc := 41) (v := 0) (zw_dg dk_M_isAsked 20 rfl) (by decide) ?_
            exact jF (fun q => (fun z => z q9) q.2)
          · --
            refine r_iconst X (pc := 37) (v := 1) (zw_dg dk_M_isAsked 18 rfl) (by decide) ?_
            refine r_goto X (pc := 38) (tgt := 42) (zw_dg dk_M_isAsked 19 rfl) (by decide) ?_
            exact jT ⟨⟨⟨q6, q7⟩, q8⟩, q9⟩
  have hbz : ((if ((((¬ r5 = 0) ∧ (¬ (fn_M_in least2.toInt64 0 12) = 0)) ∧ (¬ (fn_M_isSaying c then3) = 0)) ∧ (¬ (fn_M_isSaying c otherwise4) = 0)) then (1 : Int32) else 0) : Int32) = 0 ∨ ((if ((((¬ r5 = 0) ∧ (¬ (fn_M_in least2.toInt64 0 12) = 0)) ∧ (¬ (fn_M_isSaying c then3) = 0)) ∧ (¬ (fn_M_isSaying c otherwise4) = 0)) then (1 : Int32) else 0) : Int32) = 1 := zw_ite01
  cases hsem
  exact r_zret X (pc := 42) rfl (zw_bzn hbz).1 (zw_dg dk_M_isAsked 21 rfl)
def y_M_decide : MethodName := ⟨R_M, "decide", "(IIII)I"⟩
abbrev b_M_decide : ByteArray := prog_14_method_81_code
def dl_M_decide : List (Nat × Instr × Nat) := [(0, .aload_n 0, 1), (1, .iconst 0, 1), (2, .putfield 97, 3), (5, .aload_n 0, 1), (6, .iload_n 1, 1), (7, .iload_n 2, 1), (8, .iload_n 3, 1), (9, .iload 4, 2), (11, .invokevirtual 322, 3), (14, .ifCond .ne 5, 3), (17, .iconst (-1), 1), (18, .ireturn, 1), (19, .aload_n 0, 1), (20, .iload_n 1, 1), (21, .invokevirtual 229, 3), (24, .iconst 0, 1), (25, .istore 5, 2), (27, .lconst 0, 1), (28, .lstore 6, 2), (30, .iconst 0, 1), (31, .istore 8, 2), (33, .ldc2_w 326, 3), (36, .lstore 9, 2), (38, .iconst 0, 1), (39, .istore 11, 2), (41, .iconst 0, 1), (42, .istore 12, 2), (44, .iload 12, 2), (46, .aload_n 0, 1), (47, .getfield 113, 3), (50, .if_icmp .ge 105, 3), (53, .aload_n 0, 1), (54, .getfield 16, 3), (57, .iconst 4, 1), (58, .iload 12, 2), (60, .imul, 1), (61, .iaload, 1), (62, .iload_n 2, 1), (63, .if_icmp .lt 7, 3), (66, .iload_n 3, 1), (67, .goto 5, 3), (70, .iload 4, 2), (72, .istore 13, 2), (74, .aload_n 0, 1), (75, .iload 12, 2), (77, .iload 13, 2), (79, .invokevirtual 233, 3), (82, .lstore 14, 2), (84, .iload 12, 2), (86, .iload 13, 2), (88, .if_icmp .ne 23, 3), (91, .iload 11, 2), (93, .ifCond .eq 11, 3), (96, .lload 14, 2), (98, .lload 9, 2), (100, .lcmp, 1), (101, .ifCond .le 10, 3), (104, .lload 14, 2), (106, .lstore 9, 2), (108, .iconst 1, 1), (109, .istore 11, 2), (111, .iload 12, 2), (113, .ifCond .le 14, 3), (116, .lload 14, 2), (118, .lload 6, 2), (120, .lcmp, 1), (121, .ifCond .gt 6, 3), (124, .goto 25, 3), (127, .iload 12, 2), (129, .istore 5, 2), (131, .lload 14, 2), (133, .lstore 6, 2), (135, .iload 12, 2), (137, .iload 13, 2), (139, .if_icmp .ne 7, 3), (142, .iconst 1, 1), (143, .goto 4, 3), (146, .iconst 0, 1), (147, .istore 8, 2), (149, .iinc 12 1, 3), (152, .goto (-108), 3), (155, .aload_n 0, 1), (156, .iconst 0, 1), (157, .putfield 100, 3), (160, .aload_n 0, 1), (161, .iload 8, 2), (163, .ifCond .eq 7, 3), (166, .lconst 1, 1), (167, .goto 4, 3), (170, .lconst 0, 1), (171, .invokevirtual 109, 3), (174, .aload_n 0, 1), (175, .lload 6, 2), (177, .invokevirtual 109, 3), (180, .aload_n 0, 1), (181, .lload 9, 2), (183, .invokevirtual 109, 3), (186, .iload 5, 2), (188, .ireturn, 1)]
theorem dk_M_decide : zw_dk b_M_decide dl_M_decide = true := by decide +kernel
theorem ce_M_decide : zw_cev y_M_decide b_M_decide 16 (some .int) 4 := ⟨⟨kt_in 1918 (by decide +kernel) rfl, kt_in 98 (by decide +kernel) rfl, by decide +kernel⟩, kt_in 1916 (by decide +kernel) rfl, kt_in 1917 (by decide +kernel) rfl⟩
def fn_M_decide_l1 (c9 : zw_Ct) (least2 : Int32) (then3 : Int32) (otherwise4 : Int32) : Int64 × Int32 × Int32 × Int64 × Int32 × Int32 → Option ((Int64 × Int32 × Int32 × Int64 × Int32) ⊕ (Int64 × Int32 × Int32 × Int64 × Int32 × Int32)) := fun (mostJust10, anyJust11, best12, most13, isJust14, s15) =>
  if (s15 < (c9.1 71 2)) then
  ((zw_aI 1820 c9 72 (4 * s15)).bind fun x24 =>
  (some ((if (least2 ≤ x24) then (then3 : Int32) else otherwise4) : Int32)).bind fun comes26 =>
  (fn_M_worth c9 s15 comes26).bind fun r27 =>
  (if ((s15 = comes26) ∧ ((¬ (¬ anyJust11 = 0)) ∨ (mostJust10 < r27))) then
  (some ((r27 : Int64), (1 : Int32)))
  else
  (some ((mostJust10 : Int64), (anyJust11 : Int32)))).bind fun (mostJust28, anyJust29) =>
  if ((0 < s15) ∧ (r27 ≤ most13)) then
  (some (.inr (mostJust28, anyJust29, best12, most13, isJust14, (s15 + 1))))
  else
  ((some ((if (s15 = comes26) then (1 : Int32) else 0) : Int32)).bind fun isJust38 =>
  some (.inr (mostJust28, anyJust29, s15, r27, isJust38, (s15 + 1)))))
  else
  (some (.inl (mostJust10, anyJust11, best12, most13, isJust14)))
def fn_M_decide (c : zw_Ct) (p1 : Int32) (least2 : Int32) (then3 : Int32) (otherwise4 : Int32) : Option (Int32 × zw_Ct) :=
  (some (zw_wI c 71 9 0)).bind fun c5 =>
  (fn_M_isAsked c5 p1 least2 then3 otherwise4).bind fun r6 =>
  if (¬ (¬ r6 = 0)) then
  (some ((-1), c5))
  else
  ((fn_M_layPay c5 p1).bind fun c9 =>
  (zw_whl (fn_M_decide_l1 c9 least2 then3 otherwise4) zw_F ((-1000000000), 0, 0, 0, 0, 0)).bind fun (mostJust16, anyJust17, best18, most19, isJust20) =>
  (some (zw_wI c9 71 8 0)).bind fun c39 =>
  (fn_M_tell c39 (if (¬ isJust20 = 0) then (1 : Int64) else 0)).bind fun c41 =>
  (fn_M_tell c41 most19).bind fun c42 =>
  (fn_M_tell c42 mostJust16).bind fun c43 =>
  some (best18, c43))
set_option maxRecDepth 100000 in
theorem km_M_decide {l : Launch} {g : zw_G} {rr : zw_RR} {sh : zw_Sh} {c : zw_Ct} {p1 : Int32} {least2 : Int32} {then3 : Int32} {otherwise4 : Int32} {r : Int32} {c2 : zw_Ct} (hS : zw_Ok 0 101 sh rr) (hsem : fn_M_decide c p1 least2 then3 otherwise4 = some (r, c2)) : zw_Met l g y_M_decide b_M_decide 16 (some .int) 107 rr sh [.ref 71, .int p1, .int least2, .int then3, .int otherwise4] c (some (.int r)) c2 := by
  unfold fn_M_decide at hsem
  refine zw_Met.of (by decide +kernel) (Nat.le_of_ble_eq_true rfl) (fun p e s m args below meth cd X => ?_)
  refine zw_eL (L2 := [some (.ref 71), some (.int p1), some (.int least2), some (.int then3), some (.int otherwise4), none, none, none, none, none, none, none, none, none, none, none]) rfl ?_
  refine r_aload_n X (pc := 0) (i := 0) (zw_dg dk_M_decide 0 rfl) rfl rfl ?_
  refine r_iconst X (pc := 1) (v := 0) (zw_dg dk_M_decide 1 rfl) (by decide) ?_
  refine r_putI X (pc := 2) ci_M (zo hS 71 rfl rfl) rfl lk_M_97 rfl ⟨rfl, rfl⟩ (zw_dg dk_M_decide 2 rfl) ?_
  obtain ⟨c5, hc5, hsem⟩ := zw_bd hsem
  refine zw_topC hc5 ?_
  refine r_aload_n X (pc := 5) (i := 0) (zw_dg dk_M_decide 3 rfl) rfl rfl ?_
  refine r_iload_n X (pc := 6) (i := 1) (zw_dg dk_M_decide 4 rfl) rfl rfl ?_
  refine r_iload_n X (pc := 7) (i := 2) (zw_dg dk_M_decide 5 rfl) rfl rfl ?_
  refine r_iload_n X (pc := 8) (i := 3) (zw_dg dk_M_decide 6 rfl) rfl rfl ?_
  refine r_iload X (pc := 9) (i := 4) (zw_dg dk_M_decide 7 rfl) rfl ?_
  obtain ⟨r6, hr6, hsem⟩ := zw_bd hsem
  refine r_callVi X (pc := 11) (As := [_, _, _, _]) (st := []) (km_M_isAsked hS hr6) ce_M_isAsked kw_1919 (zo hS 71 rfl rfl) rfl rfl ⟨Nat.le_of_ble_eq_true rfl, Nat.le_of_ble_eq_true rfl⟩ (Nat.le_of_ble_eq_true rfl) (zw_dg dk_M_decide 8 rfl) ?_
  refine r_if_ne X (pc := 14) (tgt := 19) (zw_dg dk_M_decide 9 rfl) (by decide) (fun q8 => ?_) (fun q8 => ?_)
  · --
    have p7 : ¬ (¬ (¬ r6 = 0)) := (fun q => q q8)
    have hsem := zw_ifn p7 hsem
    refine r_aload_n X (pc := 19) (i := 0) (zw_dg dk_M_decide 12 rfl) rfl rfl ?_
    refine r_iload_n X (pc := 20) (i := 1) (zw_dg dk_M_decide 13 rfl) rfl rfl ?_
    obtain ⟨c9, hc9, hsem⟩ := zw_bd hsem
    refine r_callVv X (pc := 21) (As := [_]) (st := []) (km_M_layPay hS hc9) ce_M_layPay kw_1700 (zo hS 71 rfl rfl) rfl rfl ⟨Nat.le_of_ble_eq_true rfl, Nat.le_of_ble_eq_true rfl⟩ (Nat.le_of_ble_eq_true rfl) (zw_dg dk_M_decide 14 rfl) ?_
    refine r_iconst X (pc := 24) (v := 0) (zw_dg dk_M_decide 15 rfl) (by decide) ?_
    refine r_istore X (pc := 25) (i := 5) (zw_dg dk_M_decide 16 rfl) (by decide) rfl ?_
    refine r_lconst X (pc := 27) (v := 0) (zw_dg dk_M_decide 17 rfl) (by decide) ?_
    refine r_lstore X (pc := 28) (i := 6) (L2 := [some (.ref 71), some (.int p1), some (.int least2), some (.int then3), some (.int otherwise4), some (.int 0), some (.long 0), none, none, none, none, none, none, none, none, none]) (zw_dg dk_M_decide 18 rfl) (by decide) rfl ?_
    refine r_iconst X (pc := 30) (v := 0) (zw_dg dk_M_decide 19 rfl) (by decide) ?_
    refine r_istore X (pc := 31) (i := 8) (zw_dg dk_M_decide 20 rfl) (by decide) rfl ?_
    refine r_ldc2 X (pc := 33) (v := (-1000000000)) kw_1923 (zw_dg dk_M_decide 21 rfl) ?_
    refine r_lstore X (pc := 36) (i := 9) (L2 := [some (.ref 71), some (.int p1), some (.int least2), some (.int then3), some (.int otherwise4), some (.int 0), some (.long 0), none, some (.int 0), some (.long (-1000000000)), none, none, none, none, none, none]) (zw_dg dk_M_decide 22 rfl) (by decide) rfl ?_
    refine r_iconst X (pc := 38) (v := 0) (zw_dg dk_M_decide 23 rfl) (by decide) ?_
    refine r_istore X (pc := 39) (i := 11) (zw_dg dk_M_decide 24 rfl) (by decide) rfl ?_
    refine r_iconst X (pc := 41) (v := 0) (zw_dg dk_M_decide 25 rfl) (by decide) ?_
    refine r_istore X (pc := 42) (i := 12) (zw_dg dk_M_decide 26 rfl) (by decide) rfl ?_
    obtain ⟨l21, hl21, hsl21⟩ := zw_bd hsem
    refine r_loop (pc := 44) (pce := 155) hl21 (fun (mostJust10, anyJust11, best12, most13, isJust14, s15) => [some (.ref 71), some (.int p1), some (.int least2), some (.int then3), some (.int otherwise4), some (.int best12), some (.long most13), none, some (.int isJust14), some (.long mostJust10), none, some (.int anyJust11), some (.int s15), none, none, none] : Int64 × Int32 × Int32 × Int64 × Int32 × Int32 → zw_Lc) (fun (mostJust10, anyJust11, best12, most13, isJust14, s15) => c9 : Int64 × Int32 × Int32 × Int64 × Int32 × Int32 → zw_Ct) (fun (mostJust16, anyJust17, best18, most19, isJust20) => [some (.ref 71), some (.int p1), some (.int least2), some (.int then3), some (.int otherwise4), some (.int best18), some (.long most19), none, some (.int isJust20), some (.long mostJust16), none, some (.int anyJust17), none, none, none, none] : Int64 × Int32 × Int32 × Int64 × Int32 → zw_Lc) (fun (mostJust16, anyJust17, best18, most19, isJust20) => c9 : Int64 × Int32 × Int32 × Int64 × Int32 → zw_Ct) ?_ rfl rfl ?_
    · rintro ⟨mostJust10, anyJust11, best12, most13, isJust14, s15⟩ rr hsem hK hP
      try unfold fn_M_decide_l1 at hsem
      refine r_iload X (pc := 44) (i := 12) (zw_dg dk_M_decide 27 rfl) rfl ?_
      refine r_aload_n X (pc := 46) (i := 0) (zw_dg dk_M_decide 28 rfl) rfl rfl ?_
      refine r_getI X (pc := 47) ci_M (zo hS 71 rfl rfl) rfl lk_M_113 (zw_dg dk_M_decide 29 rfl) ?_
      refine r_icmp_ge X (pc := 50) (tgt := 155) (zw_dg dk_M_decide 30 rfl) (by decide) (fun q23 => ?_) (fun q23 => ?_)
      · --
        have p22 : ¬ (s15 < (c9.1 71 2)) := (Int32.not_lt.mpr q23)
        have hsem := zw_ifn p22 hsem
        have jj := hK _ (Option.some.inj hsem).symm
        exact (r_fgt [12] rfl jj)
      · --
        have p22 : (s15 < (c9.1 71 2)) := (Int32.not_le.mp q23)
        have hsem := zw_ifp p22 hsem
        refine r_aload_n X (pc := 53) (i := 0) (zw_dg dk_M_decide 31 rfl) rfl rfl ?_
        refine r_getR X (pc := 54) (r := 72) ci_M (zo hS 71 rfl rfl) rfl (zr hS 71 3 rfl rfl) lk_M_16 (zw_dg dk_M_decide 32 rfl) ?_
        refine r_iconst X (pc := 57) (v := 4) (zw_dg dk_M_decide 33 rfl) (by decide) ?_
        refine r_iload X (pc := 58) (i := 12) (zw_dg dk_M_decide 34 rfl) rfl ?_
        refine r_imul X (pc := 60) (zw_dg dk_M_decide 35 rfl)  ?_
        obtain ⟨x24, hx24, hsem⟩ := zw_bd hsem
        refine r_iald X (pc := 61) (zo hS 72 rfl rfl) hx24 (zw_dg dk_M_decide 36 rfl) ?_
        refine r_iload_n X (pc := 62) (i := 2) (zw_dg dk_M_decide 37 rfl) rfl rfl ?_
        refine zw_ter (P := (least2 ≤ x24)) (f := Value.int) (x := then3) (y := otherwise4) (J := 72) (st2 := []) (fun jT jF => ?_) ?_
        · --
          refine r_icmp_lt X (pc := 63) (tgt := 70) (zw_dg dk_M_decide 38 rfl) (by decide) (fun q25 => ?_) (fun q25 => ?_)
          · --
            refine r_iload X (pc := 70) (i := 4) (zw_dg dk_M_decide 41 rfl) rfl ?_
            exact jF (Int32.not_le.mpr q25)
          · --
            refine r_iload_n X (pc := 66) (i := 3) (zw_dg dk_M_decide 39 rfl) rfl rfl ?_
            refine r_goto X (pc := 67) (tgt := 72) (zw_dg dk_M_decide 40 rfl) (by decide) ?_
            exact jT (Int32.not_lt.mp q25)
        obtain ⟨comes26, hcomes26, hsem⟩ := zw_bd hsem
        refine zw_topI hcomes26 ?_
        refine r_istore X (pc := 72) (i := 13) (zw_dg dk_M_decide 42 rfl) (by decide) rfl ?_
        refine r_aload_n X (pc := 74) (i := 0) (zw_dg dk_M_decide 43 rfl) rfl rfl ?_
        refine r_iload X (pc := 75) (i := 12) (zw_dg dk_M_decide 44 rfl) rfl ?_
        refine r_iload X (pc := 77) (i := 13) (zw_dg dk_M_decide 45 rfl) rfl ?_
        obtain ⟨r27, hr27, hsem⟩ := zw_bd hsem
        refine r_callVl X (pc := 79) (As := [_, _]) (st := []) (km_M_worth hS hr27) ce_M_worth kw_1712 (zo hS 71 rfl rfl) rfl rfl ⟨Nat.le_of_ble_eq_true rfl, Nat.le_of_ble_eq_true rfl⟩ (Nat.le_of_ble_eq_true rfl) (zw_dg dk_M_decide 46 rfl) ?_
        refine r_lstore X (pc := 82) (i := 14) (L2 := [some (.ref 71), some (.int p1), some (.int least2), some (.int then3), some (.int otherwise4), some (.int best12), some (.long most13), none, some (.int isJust14), some (.long mostJust10), none, some (.int anyJust11), some (.int s15), some (.int comes26), some (.long r27), none]) (zw_dg dk_M_decide 47 rfl) (by decide) rfl ?_
        obtain ⟨⟨mostJust28, anyJust29⟩, ht111, hs111⟩ := zw_bd hsem
        refine zw_jn (J := 111) (L2 := [some (.ref 71), some (.int p1), some (.int least2), some (.int then3), some (.int otherwise4), some (.int best12), some (.long most13), none, some (.int isJust14), some (.long mostJust28), none, some (.int anyJust29), some (.int s15), some (.int comes26), some (.long r27), none]) (c2 := c9) (fun jj => ?_) ?_
        · have hsem := ht111
          refine zw_cnd (P := ((s15 = comes26) ∧ ((¬ (¬ anyJust11 = 0)) ∨ (mostJust10 < r27)))) (J1 := 104) (J2 := 111) (st2 := []) (fun jT jF => ?_) (fun p30 => ?_) (fun p30 => ?_)
          · --
            refine r_iload X (pc := 84) (i := 12) (zw_dg dk_M_decide 48 rfl) rfl ?_
            refine r_iload X (pc := 86) (i := 13) (zw_dg dk_M_decide 49 rfl) rfl ?_
            refine r_icmp_ne X (pc := 88) (tgt := 111) (zw_dg dk_M_decide 50 rfl) (by decide) (fun q31 => ?_) (fun q31 => ?_)
            · --
              exact jF (fun q => q31 q.1)
            · --
              refine r_iload X (pc := 91) (i := 11) (zw_dg dk_M_decide 51 rfl) rfl ?_
              refine r_if_eq X (pc := 93) (tgt := 104) (zw_dg dk_M_decide 52 rfl) (by decide) (fun q32 => ?_) (fun q32 => ?_)
              · --
                exact jT ⟨q31, (Or.inl (fun z => z q32))⟩
              · --
                refine r_lload X (pc := 96) (i := 14) (zw_dg dk_M_decide 53 rfl) rfl ?_
                refine r_lload X (pc := 98) (i := 9) (zw_dg dk_M_decide 54 rfl) rfl ?_
                refine r_lcmp_le X (pc := 100) (tgt := 111) (zw_dg dk_M_decide 55 rfl) (zw_dg dk_M_decide 56 rfl) (by decide) (fun q33 => ?_) (fun q33 => ?_)
                · --
                  exact jF (fun q => (fun q => q.elim (fun q => q q32) (Int64.not_lt.mpr q33)) q.2)
                · --
                  exact jT ⟨q31, (Or.inr (Int64.not_le.mp q33))⟩
          · --
            have hsem := zw_ifp p30 hsem
            refine r_lload X (pc := 104) (i := 14) (zw_dg dk_M_decide 57 rfl) rfl ?_
            refine r_lstore X (pc := 106) (i := 9) (L2 := [some (.ref 71), some (.int p1), some (.int least2), some (.int then3), some (.int otherwise4), some (.int best12), some (.long most13), none, some (.int isJust14), some (.long r27), none, some (.int anyJust11), some (.int s15), some (.int comes26), some (.long r27), none]) (zw_dg dk_M_decide 58 rfl) (by decide) rfl ?_
            refine r_iconst X (pc := 108) (v := 1) (zw_dg dk_M_decide 59 rfl) (by decide) ?_
            refine r_istore X (pc := 109) (i := 11) (zw_dg dk_M_decide 60 rfl) (by decide) rfl ?_
            obtain ⟨rfl, rfl⟩ := zw_in2 hsem
            exact (r_fgt [] rfl jj)
          · --
            have hsem := zw_ifn p30 hsem
            obtain ⟨rfl, rfl⟩ := zw_in2 hsem
            exact (r_fgt [] rfl jj)
        have hsem := hs111
        refine zw_cnd (P := ((0 < s15) ∧ (r27 ≤ most13))) (J1 := 124) (J2 := 127) (st2 := []) (fun jT jF => ?_) (fun p34 => ?_) (fun p34 => ?_)
        · --
          refine r_iload X (pc := 111) (i := 12) (zw_dg dk_M_decide 61 rfl) rfl ?_
          refine r_if_le X (pc := 113) (tgt := 127) (zw_dg dk_M_decide 62 rfl) (by decide) (fun q35 => ?_) (fun q35 => ?_)
          · --
            exact jF (fun q => (Int32.not_lt.mpr q35) q.1)
          · --
            refine r_lload X (pc := 116) (i := 14) (zw_dg dk_M_decide 63 rfl) rfl ?_
            refine r_lload X (pc := 118) (i := 6) (zw_dg dk_M_decide 64 rfl) rfl ?_
            refine r_lcmp_gt X (pc := 120) (tgt := 127) (zw_dg dk_M_decide 65 rfl) (zw_dg dk_M_decide 66 rfl) (by decide) (fun q36 => ?_) (fun q36 => ?_)
            · --
              exact jF (fun q => (Int64.not_le.mpr q36) q.2)
            · --
              exact jT ⟨(Int32.not_le.mp q35), (Int64.not_lt.mp q36)⟩
        · --
          have hsem := zw_ifp p34 hsem
          refine r_goto X (pc := 124) (tgt := 149) (zw_dg dk_M_decide 67 rfl) (by decide) ?_
          refine r_iinc X (pc := 149) (i := 12) (k := 1) (zw_dg dk_M_decide 79 rfl) rfl (by decide) (by decide) rfl ?_
          refine r_goto X (pc := 152) (tgt := 44) (zw_dg dk_M_decide 80 rfl) (by decide) ?_
          have jj := hP _ (Option.some.inj hsem).symm
          exact (r_fgt [13, 14] rfl jj)
        · --
          have hsem := zw_ifn p34 hsem
          refine r_iload X (pc := 127) (i := 12) (zw_dg dk_M_decide 68 rfl) rfl ?_
          refine r_istore X (pc := 129) (i := 5) (zw_dg dk_M_decide 69 rfl) (by decide) rfl ?_
          refine r_lload X (pc := 131) (i := 14) (zw_dg dk_M_decide 70 rfl) rfl ?_
          refine r_lstore X (pc := 133) (i := 6) (L2 := [some (.ref 71), some (.int p1), some (.int least2), some (.int then3), some (.int otherwise4), some (.int s15), some (.long r27), none, some (.int isJust14), some (.long mostJust28), none, some (.int anyJust29), some (.int s15), some (.int comes26), some (.long r27), none]) (zw_dg dk_M_decide 71 rfl) (by decide) rfl ?_
          refine zw_ter (P := (s15 = comes26)) (f := Value.int) (x := 1) (y := 0) (J := 147) (st2 := []) (fun jT jF => ?_) ?_
          · --
            refine r_iload X (pc := 135) (i := 12) (zw_dg dk_M_decide 72 rfl) rfl ?_
            refine r_iload X (pc := 137) (i := 13) (zw_dg dk_M_decide 73 rfl) rfl ?_
            refine r_icmp_ne X (pc := 139) (tgt := 146) (zw_dg dk_M_decide 74 rfl) (by decide) (fun q37 => ?_) (fun q37 => ?_)
            · --
              refine r_iconst X (pc := 146) (v := 0) (zw_dg dk_M_decide 77 rfl) (by decide) ?_
              exact jF q37
            · --
              refine r_iconst X (pc := 142) (v := 1) (zw_dg dk_M_decide 75 rfl) (by decide) ?_
              refine r_goto X (pc := 143) (tgt := 147) (zw_dg dk_M_decide 76 rfl) (by decide) ?_
              exact jT q37
          obtain ⟨isJust38, hisJust38, hsem⟩ := zw_bd hsem
          refine zw_topI hisJust38 ?_
          refine r_istore X (pc := 147) (i := 8) (zw_dg dk_M_decide 78 rfl) (by decide) rfl ?_
          refine r_iinc X (pc := 149) (i := 12) (k := 1) (zw_dg dk_M_decide 79 rfl) rfl (by decide) (by decide) rfl ?_
          refine r_goto X (pc := 152) (tgt := 44) (zw_dg dk_M_decide 80 rfl) (by decide) ?_
          have jj := hP _ (Option.some.inj hsem).symm
          exact (r_fgt [13, 14] rfl jj)
    obtain ⟨mostJust16, anyJust17, best18, most19, isJust20⟩ := l21
    have hsem := hsl21
    refine r_aload_n X (pc := 155) (i := 0) (zw_dg dk_M_decide 81 rfl) rfl rfl ?_
    refine r_iconst X (pc := 156) (v := 0) (zw_dg dk_M_decide 82 rfl) (by decide) ?_
    refine r_putI X (pc := 157) ci_M (zo hS 71 rfl rfl) rfl lk_M_100 rfl ⟨rfl, rfl⟩ (zw_dg dk_M_decide 83 rfl) ?_
    obtain ⟨c39, hc39, hsem⟩ := zw_bd hsem
    refine zw_topC hc39 ?_
    refine r_aload_n X (pc := 160) (i := 0) (zw_dg dk_M_decide 84 rfl) rfl rfl ?_
    refine zw_ter (P := (¬ isJust20 = 0)) (f := Value.long) (x := 1) (y := 0) (J := 171) (st2 := [.ref 71]) (fun jT jF => ?_) ?_
    · --
      refine r_iload X (pc := 161) (i := 8) (zw_dg dk_M_decide 85 rfl) rfl ?_
      refine r_if_eq X (pc := 163) (tgt := 170) (zw_dg dk_M_decide 86 rfl) (by decide) (fun q40 => ?_) (fun q40 => ?_)
      · --
        refine r_lconst X (pc := 170) (v := 0) (zw_dg dk_M_decide 89 rfl) (by decide) ?_
        exact jF (fun z => z q40)
      · --
        refine r_lconst X (pc := 166) (v := 1) (zw_dg dk_M_decide 87 rfl) (by decide) ?_
        refine r_goto X (pc := 167) (tgt := 171) (zw_dg dk_M_decide 88 rfl) (by decide) ?_
        exact jT q40
    obtain ⟨c41, hc41, hsem⟩ := zw_bd hsem
    refine r_callVv X (pc := 171) (As := [_]) (st := []) (km_M_tell hS hc41) ce_M_tell kw_1704 (zo hS 71 rfl rfl) rfl rfl ⟨Nat.le_of_ble_eq_true rfl, Nat.le_of_ble_eq_true rfl⟩ (Nat.le_of_ble_eq_true rfl) (zw_dg dk_M_decide 90 rfl) ?_
    refine r_aload_n X (pc := 174) (i := 0) (zw_dg dk_M_decide 91 rfl) rfl rfl ?_
    refine r_lload X (pc := 175) (i := 6) (zw_dg dk_M_decide 92 rfl) rfl ?_
    obtain ⟨c42, hc42, hsem⟩ := zw_bd hsem
    refine r_callVv X (pc := 177) (As := [_]) (st := []) (km_M_tell hS hc42) ce_M_tell kw_1704 (zo hS 71 rfl rfl) rfl rfl ⟨Nat.le_of_ble_eq_true rfl, Nat.le_of_ble_eq_true rfl⟩ (Nat.le_of_ble_eq_true rfl) (zw_dg dk_M_decide 93 rfl) ?_
    refine r_aload_n X (pc := 180) (i := 0) (zw_dg dk_M_decide 94 rfl) rfl rfl ?_
    refine r_lload X (pc := 181) (i := 9) (zw_dg dk_M_decide 95 rfl) rfl ?_
    obtain ⟨c43, hc43, hsem⟩ := zw_bd hsem
    refine r_callVv X (pc := 183) (As := [_]) (st := []) (km_M_tell hS hc43) ce_M_tell kw_1704 (zo hS 71 rfl rfl) rfl rfl ⟨Nat.le_of_ble_eq_true rfl, Nat.le_of_ble_eq_true rfl⟩ (Nat.le_of_ble_eq_true rfl) (zw_dg dk_M_decide 96 rfl) ?_
    refine r_iload X (pc := 186) (i := 5) (zw_dg dk_M_decide 97 rfl) rfl ?_
    obtain ⟨rfl, rfl⟩ := zw_in2 hsem
    exact r_iret X (pc := 188) rfl (zw_dg dk_M_decide 98 rfl)
  · --
    have p7 : (¬ (¬ r6 = 0)) := (fun z => z q8)
    have hsem := zw_ifp p7 hsem
    refine r_iconst X (pc := 17) (v := (-1)) (zw_dg dk_M_decide 10 rfl) (by decide) ?_
    obtain ⟨rfl, rfl⟩ := zw_in2 hsem
    exact r_iret X (pc := 18) rfl (zw_dg dk_M_decide 11 rfl)
def y_M_coin : MethodName := ⟨R_M, "coin", "(IIII)I"⟩
abbrev b_M_coin : ByteArray := prog_14_method_82_code
def dl_M_coin : List (Nat × Instr × Nat) := [(0, .aload_n 0, 1), (1, .iconst 0, 1), (2, .putfield 97, 3), (5, .aload_n 0, 1), (6, .iload_n 1, 1), (7, .iload_n 2, 1), (8, .iload_n 3, 1), (9, .iload 4, 2), (11, .invokevirtual 322, 3), (14, .ifCond .ne 5, 3), (17, .iconst (-1), 1), (18, .ireturn, 1), (19, .aload_n 0, 1), (20, .iload_n 1, 1), (21, .invokevirtual 229, 3), (24, .aload_n 0, 1), (25, .getfield 16, 3), (28, .iconst 4, 1), (29, .iload_n 3, 1), (30, .imul, 1), (31, .iaload, 1), (32, .iload_n 2, 1), (33, .if_icmp .lt 7, 3), (36, .iconst 1, 1), (37, .goto 4, 3), (40, .iconst 0, 1), (41, .istore 5, 2), (43, .aload_n 0, 1), (44, .iload_n 3, 1), (45, .iload_n 3, 1), (46, .invokevirtual 233, 3), (49, .lstore 6, 2), (51, .aload_n 0, 1), (52, .iload 4, 2), (54, .iload 4, 2), (56, .invokevirtual 233, 3), (59, .lstore 8, 2), (61, .iconst 0, 1), (62, .istore 10, 2), (64, .iconst 0, 1), (65, .istore 11, 2), (67, .lconst 0, 1), (68, .lstore 12, 2), (70, .lconst 0, 1), (71, .lstore 14, 2), (73, .iconst 0, 1), (74, .istore 16, 2), (76, .iload 16, 2), (78, .aload_n 0, 1), (79, .getfield 113, 3), (82, .if_icmp .ge 78, 3), (85, .aload_n 0, 1), (86, .iload 16, 2), (88, .iload_n 3, 1), (89, .invokevirtual 233, 3), (92, .lstore 17, 2), (94, .aload_n 0, 1), (95, .getfield 16, 3), (98, .iconst 4, 1), (99, .iload 16, 2), (101, .imul, 1), (102, .iaload, 1), (103, .iload_n 2, 1), (104, .if_icmp .lt 28, 3), (107, .iload 10, 2), (109, .ifCond .eq 13, 3), (112, .lload 12, 2), (114, .lload 17, 2), (116, .invokestatic 237, 3), (119, .goto 5, 3), (122, .lload 17, 2), (124, .lstore 12, 2), (126, .iconst 1, 1), (127, .istore 10, 2), (129, .goto 25, 3), (132, .iload 11, 2), (134, .ifCond .eq 13, 3), (137, .lload 14, 2), (139, .lload 17, 2), (141, .invokestatic 237, 3), (144, .goto 5, 3), (147, .lload 17, 2), (149, .lstore 14, 2), (151, .iconst 1, 1), (152, .istore 11, 2), (154, .iinc 16 1, 3), (157, .goto (-81), 3), (160, .aload_n 0, 1), (161, .iload 4, 2), (163, .invokevirtual 244, 3), (166, .lstore 16, 2), (168, .lconst 0, 1), (169, .lstore 18, 2), (171, .iconst 0, 1), (172, .istore 20, 2), (174, .iload 20, 2), (176, .bipush 20, 2), (178, .if_icmp .gt 150, 3), (181, .ldc2_w 328, 3), (184, .iload 20, 2), (186, .i2l, 1), (187, .lsub, 1), (188, .lload 12, 2), (190, .lmul, 1), (191, .iload 20, 2), (193, .i2l, 1), (194, .lload 16, 2), (196, .lmul, 1), (197, .ladd, 1), (198, .lstore 21, 2), (200, .iload 20, 2), (202, .i2l, 1), (203, .lload 14, 2), (205, .lmul, 1), (206, .ldc2_w 328, 3), (209, .iload 20, 2), (211, .i2l, 1), (212, .lsub, 1), (213, .lload 16, 2), (215, .lmul, 1), (216, .ladd, 1), (217, .lstore 23, 2), (219, .iload 11, 2), (221, .ifCond .ne 8, 3), (224, .lload 21, 2), (226, .goto 20, 3), (229, .iload 10, 2), (231, .ifCond .ne 8, 3), (234, .lload 23, 2), (236, .goto 10, 3), (239, .lload 21, 2), (241, .lload 23, 2), (243, .invokestatic 237, 3), (246, .lstore 25, 2), (248, .iload 20, 2), (250, .ifCond .ne 7, 3), (253, .lload 25, 2), (255, .lstore 18, 2), (257, .ldc2_w 328, 3), (260, .iconst 2, 1), (261, .iload 20, 2), (263, .imul, 1), (264, .i2l, 1), (265, .lsub, 1), (266, .iload 5, 2), (268, .ifCond .eq 8, 3), (271, .lload 6, 2), (273, .goto 5, 3), (276, .lload 8, 2), (278, .lmul, 1), (279, .iload 20, 2), (281, .i2l, 1), (282, .lload 6, 2), (284, .lload 8, 2), (286, .ladd, 1), (287, .lmul, 1), (288, .ladd, 1), (289, .lstore 27, 2), (291, .lload 27, 2), (293, .lload 25, 2), (295, .lcmp, 1), (296, .ifCond .ge 6, 3), (299, .goto 23, 3), (302, .aload_n 0, 1), (303, .iconst 0, 1), (304, .putfield 100, 3), (307, .aload_n 0, 1), (308, .lload 27, 2), (310, .invokevirtual 109, 3), (313, .aload_n 0, 1), (314, .lload 18, 2), (316, .invokevirtual 109, 3), (319, .iload 20, 2), (321, .ireturn, 1), (322, .iinc 20 1, 3), (325, .goto (-151), 3), (328, .bipush (-2), 2), (330, .ireturn, 1)]
theorem dk_M_coin : zw_dk b_M_coin dl_M_coin = true := by decide +kernel
theorem ce_M_coin : zw_cev y_M_coin b_M_coin 29 (some .int) 4 := ⟨⟨kt_in 1927 (by decide +kernel) rfl, kt_in 98 (by decide +kernel) rfl, by decide +kernel⟩, kt_in 1925 (by decide +kernel) rfl, kt_in 1926 (by decide +kernel) rfl⟩
def fn_M_coin_l1 (c9 : zw_Ct) (then3 : Int32) (least2 : Int32) : Int64 × Int32 × Int64 × Int32 × Int32 → Option ((Int64 × Int32 × Int64 × Int32) ⊕ (Int64 × Int32 × Int64 × Int32 × Int32)) := fun (mostFirst15, isFirst16, mostElse17, isElse18, s19) =>
  if (s19 < (c9.1 71 2)) then
  ((fn_M_worth c9 s19 then3).bind fun r27 =>
  (zw_aI 1820 c9 72 (4 * s19)).bind fun x28 =>
  (if (least2 ≤ x28) then
  ((some ((if (¬ isFirst16 = 0) then ((if r27 < mostFirst15 then mostFirst15 else r27) : Int64) else r27) : Int64)).bind fun mostFirst38 =>
  some ((mostFirst38 : Int64), (1 : Int32), (mostElse17 : Int64), (isElse18 : Int32)))
  else
  ((some ((if (¬ isElse18 = 0) then ((if r27 < mostElse17 then mostElse17 else r27) : Int64) else r27) : Int64)).bind fun mostElse36 =>
  some ((mostFirst15 : Int64), (isFirst16 : Int32), (mostElse36 : Int64), (1 : Int32)))).bind fun (mostFirst29, isFirst30, mostElse31, isElse32) =>
  some (.inr (mostFirst29, isFirst30, mostElse31, isElse32, (s19 + 1))))
  else
  (some (.inl (mostFirst15, isFirst16, mostElse17, isElse18)))
def fn_M_coin_l2 (mostFirst20 : Int64) (r39 : Int64) (mostElse22 : Int64) (isElse23 : Int32) (isFirst21 : Int32) (trueFirst12 : Int32) (r13 : Int64) (r14 : Int64) : Int64 × Int32 × zw_Ct → Option (((Int32 × zw_Ct) ⊕ (Int64 × zw_Ct)) ⊕ (Int64 × Int32 × zw_Ct)) := fun (top40, k41, c42) =>
  if (k41 ≤ 20) then
  ((some ((((40 - k41.toInt64) * mostFirst20) + (k41.toInt64 * r39)) : Int64)).bind fun a48 =>
  (some (((k41.toInt64 * mostElse22) + ((40 - k41.toInt64) * r39)) : Int64)).bind fun b49 =>
  (some ((if (¬ (¬ isElse23 = 0)) then (a48 : Int64) else (if (¬ (¬ isFirst21 = 0)) then (b49 : Int64) else (if b49 < a48 then a48 else b49))) : Int64)).bind fun most52 =>
  (if (k41 = 0) then
  (some (most52 : Int64))
  else
  (some (top40 : Int64))).bind fun top53 =>
  (some ((((40 - ((2 * k41)).toInt64) * (if (¬ trueFirst12 = 0) then (r13 : Int64) else r14)) + (k41.toInt64 * (r13 + r14))) : Int64)).bind fun truth57 =>
  if (truth57 < most52) then
  (some (.inr (top53, (k41 + 1), c42)))
  else
  ((some (zw_wI c42 71 8 0)).bind fun c60 =>
  (fn_M_tell c60 truth57).bind fun c61 =>
  (fn_M_tell c61 top53).bind fun c62 =>
  some (.inl (.inl (k41, c62)))))
  else
  (some (.inl (.inr (top40, c42))))
def fn_M_coin (c : zw_Ct) (p1 : Int32) (least2 : Int32) (then3 : Int32) (otherwise4 : Int32) : Option (Int32 × zw_Ct) :=
  (some (zw_wI c 71 9 0)).bind fun c5 =>
  (fn_M_isAsked c5 p1 least2 then3 otherwise4).bind fun r6 =>
  if (¬ (¬ r6 = 0)) then
  (some ((-1), c5))
  else
  ((fn_M_layPay c5 p1).bind fun c9 =>
  (zw_aI 1820 c9 72 (4 * then3)).bind fun x10 =>
  (some ((if (least2 ≤ x10) then (1 : Int32) else 0) : Int32)).bind fun trueFirst12 =>
  (fn_M_worth c9 then3 then3).bind fun r13 =>
  (fn_M_worth c9 otherwise4 otherwise4).bind fun r14 =>
  (zw_whl (fn_M_coin_l1 c9 then3 least2) zw_F (0, 0, 0, 0, 0)).bind fun (mostFirst20, isFirst21, mostElse22, isElse23) =>
  (fn_M_bestWorth c9 otherwise4).bind fun r39 =>
  (zw_whl (fn_M_coin_l2 mostFirst20 r39 mostElse22 isElse23 isFirst21 trueFirst12 r13 r14) zw_F (0, 0, c9)).bind fun q => match q with
    | .inl w => some w
    | .inr (top43, c44) =>
    some ((-2), c44))
set_option maxRecDepth 100000 in
theorem km_M_coin {l : Launch} {g : zw_G} {rr : zw_RR} {sh : zw_Sh} {c : zw_Ct} {p1 : Int32} {least2 : Int32} {then3 : Int32} {otherwise4 : Int32} {r : Int32} {c2 : zw_Ct} (hS : zw_Ok 0 101 sh rr) (hsem : fn_M_coin c p1 least2 then3 otherwise4 = some (r, c2)) : zw_Met l g y_M_coin b_M_coin 29 (some .int) 107 rr sh [.ref 71, .int p1, .int least2, .int then3, .int otherwise4] c (some (.int r)) c2 := by
  unfold fn_M_coin at hsem
  refine zw_Met.of (by decide +kernel) (Nat.le_of_ble_eq_true rfl) (fun p e s m args below meth cd X => ?_)
  refine zw_eL (L2 := [some (.ref 71), some (.int p1), some (.int least2), some (.int then3), some (.int otherwise4), none, none, none, none, none, none, none, none, none, none, none, none, none, none, none, none, none, none, none, none, none, none, none, none]) rfl ?_
  refine r_aload_n X (pc := 0) (i := 0) (zw_dg dk_M_coin 0 rfl) rfl rfl ?_
  refine r_iconst X (pc := 1) (v := 0) (zw_dg dk_M_coin 1 rfl) (by decide) ?_
  refine r_putI X (pc := 2) ci_M (zo hS 71 rfl rfl) rfl lk_M_97 rfl ⟨rfl, rfl⟩ (zw_dg dk_M_coin 2 rfl) ?_
  obtain ⟨c5, hc5, hsem⟩ := zw_bd hsem
  refine zw_topC hc5 ?_
  refine r_aload_n X (pc := 5) (i := 0) (zw_dg dk_M_coin 3 rfl) rfl rfl ?_
  refine r_iload_n X (pc := 6) (i := 1) (zw_dg dk_M_coin 4 rfl) rfl rfl ?_
  refine r_iload_n X (pc := 7) (i := 2) (zw_dg dk_M_coin 5 rfl) rfl rfl ?_
  refine r_iload_n X (pc := 8) (i := 3) (zw_dg dk_M_coin 6 rfl) rfl rfl ?_
  refine r_iload X (pc := 9) (i := 4) (zw_dg dk_M_coin 7 rfl) rfl ?_
  obtain ⟨r6, hr6, hsem⟩ := zw_bd hsem
  refine r_callVi X (pc := 11) (As := [_, _, _, _]) (st := []) (km_M_isAsked hS hr6) ce_M_isAsked kw_1919 (zo hS 71 rfl rfl) rfl rfl ⟨Nat.le_of_ble_eq_true rfl, Nat.le_of_ble_eq_true rfl⟩ (Nat.le_of_ble_eq_true rfl) (zw_dg dk_M_coin 8 rfl) ?_
  refine r_if_ne X (pc := 14) (tgt := 19) (zw_dg dk_M_coin 9 rfl) (by decide) (fun q8 => ?_) (fun q8 => ?_)
  · --
    have p7 : ¬ (¬ (¬ r6 = 0)) := (fun q => q q8)
    have hsem := zw_ifn p7 hsem
    refine r_aload_n X (pc := 19) (i := 0) (zw_dg dk_M_coin 12 rfl) rfl rfl ?_
    refine r_iload_n X (pc := 20) (i := 1) (zw_dg dk_M_coin 13 rfl) rfl rfl ?_
    obtain ⟨c9, hc9, hsem⟩ := zw_bd hsem
    refine r_callVv X (pc := 21) (As := [_]) (st := []) (km_M_layPay hS hc9) ce_M_layPay kw_1700 (zo hS 71 rfl rfl) rfl rfl ⟨Nat.le_of_ble_eq_true rfl, Nat.le_of_ble_eq_true rfl⟩ (Nat.le_of_ble_eq_true rfl) (zw_dg dk_M_coin 14 rfl) ?_
    refine r_aload_n X (pc := 24) (i := 0) (zw_dg dk_M_coin 15 rfl) rfl rfl ?_
    refine r_getR X (pc := 25) (r := 72) ci_M (zo hS 71 rfl rfl) rfl (zr hS 71 3 rfl rfl) lk_M_16 (zw_dg dk_M_coin 16 rfl) ?_
    refine r_iconst X (pc := 28) (v := 4) (zw_dg dk_M_coin 17 rfl) (by decide) ?_
    refine r_iload_n X (pc := 29) (i := 3) (zw_dg dk_M_coin 18 rfl) rfl rfl ?_
    refine r_imul X (pc := 30) (zw_dg dk_M_coin 19 rfl)  ?_
    obtain ⟨x10, hx10, hsem⟩ := zw_bd hsem
    refine r_iald X (pc := 31) (zo hS 72 rfl rfl) hx10 (zw_dg dk_M_coin 20 rfl) ?_
    refine r_iload_n X (pc := 32) (i := 2) (zw_dg dk_M_coin 21 rfl) rfl rfl ?_
    refine zw_ter (P := (least2 ≤ x10)) (f := Value.int) (x := 1) (y := 0) (J := 41) (st2 := []) (fun jT jF => ?_) ?_
    · --
      refine r_icmp_lt X (pc := 33) (tgt := 40) (zw_dg dk_M_coin 22 rfl) (by decide) (fun q11 => ?_) (fun q11 => ?_)
      · --
        refine r_iconst X (pc := 40) (v := 0) (zw_dg dk_M_coin 25 rfl) (by decide) ?_
        exact jF (Int32.not_le.mpr q11)
      · --
        refine r_iconst X (pc := 36) (v := 1) (zw_dg dk_M_coin 23 rfl) (by decide) ?_
        refine r_goto X (pc := 37) (tgt := 41) (zw_dg dk_M_coin 24 rfl) (by decide) ?_
        exact jT (Int32.not_lt.mp q11)
    obtain ⟨trueFirst12, htrueFirst12, hsem⟩ := zw_bd hsem
    refine zw_topI htrueFirst12 ?_
    refine r_istore X (pc := 41) (i := 5) (zw_dg dk_M_coin 26 rfl) (by decide) rfl ?_
    refine r_aload_n X (pc := 43) (i := 0) (zw_dg dk_M_coin 27 rfl) rfl rfl ?_
    refine r_iload_n X (pc := 44) (i := 3) (zw_dg dk_M_coin 28 rfl) rfl rfl ?_
    refine r_iload_n X (pc := 45) (i := 3) (zw_dg dk_M_coin 29 rfl) rfl rfl ?_
    obtain ⟨r13, hr13, hsem⟩ := zw_bd hsem
    refine r_callVl X (pc := 46) (As := [_, _]) (st := []) (km_M_worth hS hr13) ce_M_worth kw_1712 (zo hS 71 rfl rfl) rfl rfl ⟨Nat.le_of_ble_eq_true rfl, Nat.le_of_ble_eq_true rfl⟩ (Nat.le_of_ble_eq_true rfl) (zw_dg dk_M_coin 30 rfl) ?_
    refine r_lstore X (pc := 49) (i := 6) (L2 := [some (.ref 71), some (.int p1), some (.int least2), some (.int then3), some (.int otherwise4), some (.int trueFirst12), some (.long r13), none, none, none, none, none, none, none, none, none, none, none, none, none, none, none, none, none, none, none, none, none, none]) (zw_dg dk_M_coin 31 rfl) (by decide) rfl ?_
    refine r_aload_n X (pc := 51) (i := 0) (zw_dg dk_M_coin 32 rfl) rfl rfl ?_
    refine r_iload X (pc := 52) (i := 4) (zw_dg dk_M_coin 33 rfl) rfl ?_
    refine r_iload X (pc := 54) (i := 4) (zw_dg dk_M_coin 34 rfl) rfl ?_
    obtain ⟨r14, hr14, hsem⟩ := zw_bd hsem
    refine r_callVl X (pc := 56) (As := [_, _]) (st := []) (km_M_worth hS hr14) ce_M_worth kw_1712 (zo hS 71 rfl rfl) rfl rfl ⟨Nat.le_of_ble_eq_true rfl, Nat.le_of_ble_eq_true rfl⟩ (Nat.le_of_ble_eq_true rfl) (zw_dg dk_M_coin 35 rfl) ?_
    refine r_lstore X (pc := 59) (i := 8) (L2 := [some (.ref 71), some (.int p1), some (.int least2), some (.int then3), some (.int otherwise4), some (.int trueFirst12), some (.long r13), none, some (.long r14), none, none, none, none, none, none, none, none, none, none, none, none, none, none, none, none, none, none, none, none]) (zw_dg dk_M_coin 36 rfl) (by decide) rfl ?_
    refine r_iconst X (pc := 61) (v := 0) (zw_dg dk_M_coin 37 rfl) (by decide) ?_
    refine r_istore X (pc := 62) (i := 10) (zw_dg dk_M_coin 38 rfl) (by decide) rfl ?_
    refine r_iconst X (pc := 64) (v := 0) (zw_dg dk_M_coin 39 rfl) (by decide) ?_
    refine r_istore X (pc := 65) (i := 11) (zw_dg dk_M_coin 40 rfl) (by decide) rfl ?_
    refine r_lconst X (pc := 67) (v := 0) (zw_dg dk_M_coin 41 rfl) (by decide) ?_
    refine r_lstore X (pc := 68) (i := 12) (L2 := [some (.ref 71), some (.int p1), some (.int least2), some (.int then3), some (.int otherwise4), some (.int trueFirst12), some (.long r13), none, some (.long r14), none, some (.int 0), some (.int 0), some (.long 0), none, none, none, none, none, none, none, none, none, none, none, none, none, none, none, none]) (zw_dg dk_M_coin 42 rfl) (by decide) rfl ?_
    refine r_lconst X (pc := 70) (v := 0) (zw_dg dk_M_coin 43 rfl) (by decide) ?_
    refine r_lstore X (pc := 71) (i := 14) (L2 := [some (.ref 71), some (.int p1), some (.int least2), some (.int then3), some (.int otherwise4), some (.int trueFirst12), some (.long r13), none, some (.long r14), none, some (.int 0), some (.int 0), some (.long 0), none, some (.long 0), none, none, none, none, none, none, none, none, none, none, none, none, none, none]) (zw_dg dk_M_coin 44 rfl) (by decide) rfl ?_
    refine r_iconst X (pc := 73) (v := 0) (zw_dg dk_M_coin 45 rfl) (by decide) ?_
    refine r_istore X (pc := 74) (i := 16) (zw_dg dk_M_coin 46 rfl) (by decide) rfl ?_
    obtain ⟨l24, hl24, hsl24⟩ := zw_bd hsem
    refine r_loop (pc := 76) (pce := 160) hl24 (fun (mostFirst15, isFirst16, mostElse17, isElse18, s19) => [some (.ref 71), some (.int p1), some (.int least2), some (.int then3), some (.int otherwise4), some (.int trueFirst12), some (.long r13), none, some (.long r14), none, some (.int isFirst16), some (.int isElse18), some (.long mostFirst15), none, some (.long mostElse17), none, some (.int s19), none, none, none, none, none, none, none, none, none, none, none, none] : Int64 × Int32 × Int64 × Int32 × Int32 → zw_Lc) (fun (mostFirst15, isFirst16, mostElse17, isElse18, s19) => c9 : Int64 × Int32 × Int64 × Int32 × Int32 → zw_Ct) (fun (mostFirst20, isFirst21, mostElse22, isElse23) => [some (.ref 71), some (.int p1), some (.int least2), some (.int then3), some (.int otherwise4), some (.int trueFirst12), some (.long r13), none, some (.long r14), none, some (.int isFirst21), some (.int isElse23), some (.long mostFirst20), none, some (.long mostElse22), none, none, none, none, none, none, none, none, none, none, none, none, none, none] : Int64 × Int32 × Int64 × Int32 → zw_Lc) (fun (mostFirst20, isFirst21, mostElse22, isElse23) => c9 : Int64 × Int32 × Int64 × Int32 → zw_Ct) ?_ rfl rfl ?_
    · rintro ⟨mostFirst15, isFirst16, mostElse17, isElse18, s19⟩ rr hsem hK hP
      try unfold fn_M_coin_l1 at hsem
      refine r_iload X (pc := 76) (i := 16) (zw_dg dk_M_coin 47 rfl) rfl ?_
      refine r_aload_n X (pc := 78) (i := 0) (zw_dg dk_M_coin 48 rfl) rfl rfl ?_
      refine r_getI X (pc := 79) ci_M (zo hS 71 rfl rfl) rfl lk_M_113 (zw_dg dk_M_coin 49 rfl) ?_
      refine r_icmp_ge X (pc := 82) (tgt := 160) (zw_dg dk_M_coin 50 rfl) (by decide) (fun q26 => ?_) (fun q26 => ?_)
      · --
        have p25 : ¬ (s19 < (c9.1 71 2)) := (Int32.not_lt.mpr q26)
        have hsem := zw_ifn p25 hsem
        have jj := hK _ (Option.some.inj hsem).symm
        exact (r_fgt [16] rfl jj)
      · --
        have p25 : (s19 < (c9.1 71 2)) := (Int32.not_le.mp q26)
        have hsem := zw_ifp p25 hsem
        refine r_aload_n X (pc := 85) (i := 0) (zw_dg dk_M_coin 51 rfl) rfl rfl ?_
        refine r_iload X (pc := 86) (i := 16) (zw_dg dk_M_coin 52 rfl) rfl ?_
        refine r_iload_n X (pc := 88) (i := 3) (zw_dg dk_M_coin 53 rfl) rfl rfl ?_
        obtain ⟨r27, hr27, hsem⟩ := zw_bd hsem
        refine r_callVl X (pc := 89) (As := [_, _]) (st := []) (km_M_worth hS hr27) ce_M_worth kw_1712 (zo hS 71 rfl rfl) rfl rfl ⟨Nat.le_of_ble_eq_true rfl, Nat.le_of_ble_eq_true rfl⟩ (Nat.le_of_ble_eq_true rfl) (zw_dg dk_M_coin 54 rfl) ?_
        refine r_lstore X (pc := 92) (i := 17) (L2 := [some (.ref 71), some (.int p1), some (.int least2), some (.int then3), some (.int otherwise4), some (.int trueFirst12), some (.long r13), none, some (.long r14), none, some (.int isFirst16), some (.int isElse18), some (.long mostFirst15), none, some (.long mostElse17), none, some (.int s19), some (.long r27), none, none, none, none, none, none, none, none, none, none, none]) (zw_dg dk_M_coin 55 rfl) (by decide) rfl ?_
        refine r_aload_n X (pc := 94) (i := 0) (zw_dg dk_M_coin 56 rfl) rfl rfl ?_
        refine r_getR X (pc := 95) (r := 72) ci_M (zo hS 71 rfl rfl) rfl (zr hS 71 3 rfl rfl) lk_M_16 (zw_dg dk_M_coin 57 rfl) ?_
        refine r_iconst X (pc := 98) (v := 4) (zw_dg dk_M_coin 58 rfl) (by decide) ?_
        refine r_iload X (pc := 99) (i := 16) (zw_dg dk_M_coin 59 rfl) rfl ?_
        refine r_imul X (pc := 101) (zw_dg dk_M_coin 60 rfl)  ?_
        obtain ⟨x28, hx28, hsem⟩ := zw_bd hsem
        refine r_iald X (pc := 102) (zo hS 72 rfl rfl) hx28 (zw_dg dk_M_coin 61 rfl) ?_
        refine r_iload_n X (pc := 103) (i := 2) (zw_dg dk_M_coin 62 rfl) rfl rfl ?_
        obtain ⟨⟨mostFirst29, isFirst30, mostElse31, isElse32⟩, ht154, hs154⟩ := zw_bd hsem
        refine zw_jn (J := 154) (L2 := [some (.ref 71), some (.int p1), some (.int least2), some (.int then3), some (.int otherwise4), some (.int trueFirst12), some (.long r13), none, some (.long r14), none, some (.int isFirst30), some (.int isElse32), some (.long mostFirst29), none, some (.long mostElse31), none, some (.int s19), some (.long r27), none, none, none, none, none, none, none, none, none, none, none]) (c2 := c9) (fun jj => ?_) ?_
        · have hsem := ht154
          refine r_icmp_lt X (pc := 104) (tgt := 132) (zw_dg dk_M_coin 63 rfl) (by decide) (fun q34 => ?_) (fun q34 => ?_)
          · --
            have p33 : ¬ (least2 ≤ x28) := (Int32.not_le.mpr q34)
            have hsem := zw_ifn p33 hsem
            refine zw_ter (P := (¬ isElse18 = 0)) (f := Value.long) (x := (if r27 < mostElse17 then mostElse17 else r27)) (y := r27) (J := 149) (st2 := []) (fun jT jF => ?_) ?_
            · --
              refine r_iload X (pc := 132) (i := 11) (zw_dg dk_M_coin 75 rfl) rfl ?_
              refine r_if_eq X (pc := 134) (tgt := 147) (zw_dg dk_M_coin 76 rfl) (by decide) (fun q35 => ?_) (fun q35 => ?_)
              · --
                refine r_lload X (pc := 147) (i := 17) (zw_dg dk_M_coin 81 rfl) rfl ?_
                exact jF (fun z => z q35)
              · --
                refine r_lload X (pc := 137) (i := 14) (zw_dg dk_M_coin 77 rfl) rfl ?_
                refine r_lload X (pc := 139) (i := 17) (zw_dg dk_M_coin 78 rfl) rfl ?_
                refine r_mmaxl X (pc := 141) kw_1731 mws_maxl kw_88 mwc_maxl ⟨Nat.le_of_ble_eq_true rfl, Nat.le_of_ble_eq_true rfl⟩ (st := []) (Nat.le_of_ble_eq_true rfl) (zw_dg dk_M_coin 79 rfl) ?_
                refine r_goto X (pc := 144) (tgt := 149) (zw_dg dk_M_coin 80 rfl) (by decide) ?_
                exact jT q35
            obtain ⟨mostElse36, hmostElse36, hsem⟩ := zw_bd hsem
            refine zw_topJ hmostElse36 ?_
            refine r_lstore X (pc := 149) (i := 14) (L2 := [some (.ref 71), some (.int p1), some (.int least2), some (.int then3), some (.int otherwise4), some (.int trueFirst12), some (.long r13), none, some (.long r14), none, some (.int isFirst16), some (.int isElse18), some (.long mostFirst15), none, some (.long mostElse36), none, some (.int s19), some (.long r27), none, none, none, none, none, none, none, none, none, none, none]) (zw_dg dk_M_coin 82 rfl) (by decide) rfl ?_
            refine r_iconst X (pc := 151) (v := 1) (zw_dg dk_M_coin 83 rfl) (by decide) ?_
            refine r_istore X (pc := 152) (i := 11) (zw_dg dk_M_coin 84 rfl) (by decide) rfl ?_
            obtain ⟨rfl, rfl, rfl, rfl⟩ := zw_in4 hsem
            exact (r_fgt [] rfl jj)
          · --
            have p33 : (least2 ≤ x28) := (Int32.not_lt.mp q34)
            have hsem := zw_ifp p33 hsem
            refine zw_ter (P := (¬ isFirst16 = 0)) (f := Value.long) (x := (if r27 < mostFirst15 then mostFirst15 else r27)) (y := r27) (J := 124) (st2 := []) (fun jT jF => ?_) ?_
            · --
              refine r_iload X (pc := 107) (i := 10) (zw_dg dk_M_coin 64 rfl) rfl ?_
              refine r_if_eq X (pc := 109) (tgt := 122) (zw_dg dk_M_coin 65 rfl) (by decide) (fun q37 => ?_) (fun q37 => ?_)
              · --
                refine r_lload X (pc := 122) (i := 17) (zw_dg dk_M_coin 70 rfl) rfl ?_
                exact jF (fun z => z q37)
              · --
                refine r_lload X (pc := 112) (i := 12) (zw_dg dk_M_coin 66 rfl) rfl ?_
                refine r_lload X (pc := 114) (i := 17) (zw_dg dk_M_coin 67 rfl) rfl ?_
                refine r_mmaxl X (pc := 116) kw_1731 mws_maxl kw_88 mwc_maxl ⟨Nat.le_of_ble_eq_true rfl, Nat.le_of_ble_eq_true rfl⟩ (st := []) (Nat.le_of_ble_eq_true rfl) (zw_dg dk_M_coin 68 rfl) ?_
                refine r_goto X (pc := 119) (tgt := 124) (zw_dg dk_M_coin 69 rfl) (by decide) ?_
                exact jT q37
            obtain ⟨mostFirst38, hmostFirst38, hsem⟩ := zw_bd hsem
            refine zw_topJ hmostFirst38 ?_
            refine r_lstore X (pc := 124) (i := 12) (L2 := [some (.ref 71), some (.int p1), some (.int least2), some (.int then3), some (.int otherwise4), some (.int trueFirst12), some (.long r13), none, some (.long r14), none, some (.int isFirst16), some (.int isElse18), some (.long mostFirst38), none, some (.long mostElse17), none, some (.int s19), some (.long r27), none, none, none, none, none, none, none, none, none, none, none]) (zw_dg dk_M_coin 71 rfl) (by decide) rfl ?_
            refine r_iconst X (pc := 126) (v := 1) (zw_dg dk_M_coin 72 rfl) (by decide) ?_
            refine r_istore X (pc := 127) (i := 10) (zw_dg dk_M_coin 73 rfl) (by decide) rfl ?_
            refine r_goto X (pc := 129) (tgt := 154) (zw_dg dk_M_coin 74 rfl) (by decide) ?_
            obtain ⟨rfl, rfl, rfl, rfl⟩ := zw_in4 hsem
            exact (r_fgt [] rfl jj)
        have hsem := hs154
        refine r_iinc X (pc := 154) (i := 16) (k := 1) (zw_dg dk_M_coin 85 rfl) rfl (by decide) (by decide) rfl ?_
        refine r_goto X (pc := 157) (tgt := 76) (zw_dg dk_M_coin 86 rfl) (by decide) ?_
        have jj := hP _ (Option.some.inj hsem).symm
        exact (r_fgt [17] rfl jj)
    obtain ⟨mostFirst20, isFirst21, mostElse22, isElse23⟩ := l24
    have hsem := hsl24
    refine r_aload_n X (pc := 160) (i := 0) (zw_dg dk_M_coin 87 rfl) rfl rfl ?_
    refine r_iload X (pc := 161) (i := 4) (zw_dg dk_M_coin 88 rfl) rfl ?_
    obtain ⟨r39, hr39, hsem⟩ := zw_bd hsem
    refine r_callVl X (pc := 163) (As := [_]) (st := []) (km_M_bestWorth hS hr39) ce_M_bestWorth kw_1727 (zo hS 71 rfl rfl) rfl rfl ⟨Nat.le_of_ble_eq_true rfl, Nat.le_of_ble_eq_true rfl⟩ (Nat.le_of_ble_eq_true rfl) (zw_dg dk_M_coin 89 rfl) ?_
    refine r_lstore X (pc := 166) (i := 16) (L2 := [some (.ref 71), some (.int p1), some (.int least2), some (.int then3), some (.int otherwise4), some (.int trueFirst12), some (.long r13), none, some (.long r14), none, some (.int isFirst21), some (.int isElse23), some (.long mostFirst20), none, some (.long mostElse22), none, some (.long r39), none, none, none, none, none, none, none, none, none, none, none, none]) (zw_dg dk_M_coin 90 rfl) (by decide) rfl ?_
    refine r_lconst X (pc := 168) (v := 0) (zw_dg dk_M_coin 91 rfl) (by decide) ?_
    refine r_lstore X (pc := 169) (i := 18) (L2 := [some (.ref 71), some (.int p1), some (.int least2), some (.int then3), some (.int otherwise4), some (.int trueFirst12), some (.long r13), none, some (.long r14), none, some (.int isFirst21), some (.int isElse23), some (.long mostFirst20), none, some (.long mostElse22), none, some (.long r39), none, some (.long 0), none, none, none, none, none, none, none, none, none, none]) (zw_dg dk_M_coin 92 rfl) (by decide) rfl ?_
    refine r_iconst X (pc := 171) (v := 0) (zw_dg dk_M_coin 93 rfl) (by decide) ?_
    refine r_istore X (pc := 172) (i := 20) (zw_dg dk_M_coin 94 rfl) (by decide) rfl ?_
    obtain ⟨l45, hl45, hsl45⟩ := zw_bd hsem
    refine r_loopR (pc := 174) (pce := 328) hl45 (fun (top40, k41, c42) => [some (.ref 71), some (.int p1), some (.int least2), some (.int then3), some (.int otherwise4), some (.int trueFirst12), some (.long r13), none, some (.long r14), none, some (.int isFirst21), some (.int isElse23), some (.long mostFirst20), none, some (.long mostElse22), none, some (.long r39), none, some (.long top40), none, some (.int k41), none, none, none, none, none, none, none, none] : Int64 × Int32 × zw_Ct → zw_Lc) (fun (top40, k41, c42) => c42 : Int64 × Int32 × zw_Ct → zw_Ct) (fun (top43, c44) => [some (.ref 71), some (.int p1), some (.int least2), some (.int then3), some (.int otherwise4), some (.int trueFirst12), some (.long r13), none, some (.long r14), none, some (.int isFirst21), some (.int isElse23), some (.long mostFirst20), none, some (.long mostElse22), none, some (.long r39), none, some (.long top43), none, none, none, none, none, none, none, none, none, none] : Int64 × zw_Ct → zw_Lc) (fun (top43, c44) => c44 : Int64 × zw_Ct → zw_Ct) (fun w => w = (r, c2)) ?_ rfl rfl ?_ ?_
    · rintro ⟨top40, k41, c42⟩ rr hsem hR hK hP
      try unfold fn_M_coin_l2 at hsem
      refine r_iload X (pc := 174) (i := 20) (zw_dg dk_M_coin 95 rfl) rfl ?_
      refine r_bipush X (pc := 176) (v := 20) (zw_dg dk_M_coin 96 rfl) (by decide) ?_
      refine r_icmp_gt X (pc := 178) (tgt := 328) (zw_dg dk_M_coin 97 rfl) (by decide) (fun q47 => ?_) (fun q47 => ?_)
      · --
        have p46 : ¬ (k41 ≤ 20) := (Int32.not_le.mpr q47)
        have hsem := zw_ifn p46 hsem
        have jj := hK _ (Option.some.inj hsem).symm
        exact (r_fgt [20] rfl jj)
      · --
        have p46 : (k41 ≤ 20) := (Int32.not_lt.mp q47)
        have hsem := zw_ifp p46 hsem
        refine r_ldc2 X (pc := 181) (v := 40) kw_1928 (zw_dg dk_M_coin 98 rfl) ?_
        refine r_iload X (pc := 184) (i := 20) (zw_dg dk_M_coin 99 rfl) rfl ?_
        refine r_i2l X (pc := 186) (zw_dg dk_M_coin 100 rfl)  ?_
        refine r_lsub X (pc := 187) (zw_dg dk_M_coin 101 rfl)  ?_
        refine r_lload X (pc := 188) (i := 12) (zw_dg dk_M_coin 102 rfl) rfl ?_
        refine r_lmul X (pc := 190) (zw_dg dk_M_coin 103 rfl)  ?_
        refine r_iload X (pc := 191) (i := 20) (zw_dg dk_M_coin 104 rfl) rfl ?_
        refine r_i2l X (pc := 193) (zw_dg dk_M_coin 105 rfl)  ?_
        refine r_lload X (pc := 194) (i := 16) (zw_dg dk_M_coin 106 rfl) rfl ?_
        refine r_lmul X (pc := 196) (zw_dg dk_M_coin 107 rfl)  ?_
        refine r_ladd X (pc := 197) (zw_dg dk_M_coin 108 rfl)  ?_
        obtain ⟨a48, ha48, hsem⟩ := zw_bd hsem
        refine zw_topJ ha48 ?_
        refine r_lstore X (pc := 198) (i := 21) (L2 := [some (.ref 71), some (.int p1), some (.int least2), some (.int then3), some (.int otherwise4), some (.int trueFirst12), some (.long r13), none, some (.long r14), none, some (.int isFirst21), some (.int isElse23), some (.long mostFirst20), none, some (.long mostElse22), none, some (.long r39), none, some (.long top40), none, some (.int k41), some (.long a48), none, none, none, none, none, none, none]) (zw_dg dk_M_coin 109 rfl) (by decide) rfl ?_
        refine r_iload X (pc := 200) (i := 20) (zw_dg dk_M_coin 110 rfl) rfl ?_
        refine r_i2l X (pc := 202) (zw_dg dk_M_coin 111 rfl)  ?_
        refine r_lload X (pc := 203) (i := 14) (zw_dg dk_M_coin 112 rfl) rfl ?_
        refine r_lmul X (pc := 205) (zw_dg dk_M_coin 113 rfl)  ?_
        refine r_ldc2 X (pc := 206) (v := 40) kw_1928 (zw_dg dk_M_coin 114 rfl) ?_
        refine r_iload X (pc := 209) (i := 20) (zw_dg dk_M_coin 115 rfl) rfl ?_
        refine r_i2l X (pc := 211) (zw_dg dk_M_coin 116 rfl)  ?_
        refine r_lsub X (pc := 212) (zw_dg dk_M_coin 117 rfl)  ?_
        refine r_lload X (pc := 213) (i := 16) (zw_dg dk_M_coin 118 rfl) rfl ?_
        refine r_lmul X (pc := 215) (zw_dg dk_M_coin 119 rfl)  ?_
        refine r_ladd X (pc := 216) (zw_dg dk_M_coin 120 rfl)  ?_
        obtain ⟨b49, hb49, hsem⟩ := zw_bd hsem
        refine zw_topJ hb49 ?_
        refine r_lstore X (pc := 217) (i := 23) (L2 := [some (.ref 71), some (.int p1), some (.int least2), some (.int then3), some (.int otherwise4), some (.int trueFirst12), some (.long r13), none, some (.long r14), none, some (.int isFirst21), some (.int isElse23), some (.long mostFirst20), none, some (.long mostElse22), none, some (.long r39), none, some (.long top40), none, some (.int k41), some (.long a48), none, some (.long b49), none, none, none, none, none]) (zw_dg dk_M_coin 121 rfl) (by decide) rfl ?_
        refine zw_ter (P := (¬ (¬ isElse23 = 0))) (f := Value.long) (x := a48) (y := (if (¬ (¬ isFirst21 = 0)) then (b49 : Int64) else (if b49 < a48 then a48 else b49))) (J := 246) (st2 := []) (fun jT jF => ?_) ?_
        · --
          refine r_iload X (pc := 219) (i := 11) (zw_dg dk_M_coin 122 rfl) rfl ?_
          refine r_if_ne X (pc := 221) (tgt := 229) (zw_dg dk_M_coin 123 rfl) (by decide) (fun q50 => ?_) (fun q50 => ?_)
          · --
            refine zw_ter (P := (¬ (¬ isFirst21 = 0))) (f := Value.long) (x := b49) (y := (if b49 < a48 then a48 else b49)) (J := 246) (st2 := []) (fun jT jF => ?_) ?_
            · --
              refine r_iload X (pc := 229) (i := 10) (zw_dg dk_M_coin 126 rfl) rfl ?_
              refine r_if_ne X (pc := 231) (tgt := 239) (zw_dg dk_M_coin 127 rfl) (by decide) (fun q51 => ?_) (fun q51 => ?_)
              · --
                refine r_lload X (pc := 239) (i := 21) (zw_dg dk_M_coin 130 rfl) rfl ?_
                refine r_lload X (pc := 241) (i := 23) (zw_dg dk_M_coin 131 rfl) rfl ?_
                refine r_mmaxl X (pc := 243) kw_1731 mws_maxl kw_88 mwc_maxl ⟨Nat.le_of_ble_eq_true rfl, Nat.le_of_ble_eq_true rfl⟩ (st := []) (Nat.le_of_ble_eq_true rfl) (zw_dg dk_M_coin 132 rfl) ?_
                exact jF (fun q => q q51)
              · --
                refine r_lload X (pc := 234) (i := 23) (zw_dg dk_M_coin 128 rfl) rfl ?_
                refine r_goto X (pc := 236) (tgt := 246) (zw_dg dk_M_coin 129 rfl) (by decide) ?_
                exact jT (fun z => z q51)
            exact jF (fun q => q q50)
          · --
            refine r_lload X (pc := 224) (i := 21) (zw_dg dk_M_coin 124 rfl) rfl ?_
            refine r_goto X (pc := 226) (tgt := 246) (zw_dg dk_M_coin 125 rfl) (by decide) ?_
            exact jT (fun z => z q50)
        obtain ⟨most52, hmost52, hsem⟩ := zw_bd hsem
        refine zw_topJ hmost52 ?_
        refine r_lstore X (pc := 246) (i := 25) (L2 := [some (.ref 71), some (.int p1), some (.int least2), some (.int then3), some (.int otherwise4), some (.int trueFirst12), some (.long r13), none, some (.long r14), none, some (.int isFirst21), some (.int isElse23), some (.long mostFirst20), none, some (.long mostElse22), none, some (.long r39), none, some (.long top40), none, some (.int k41), some (.long a48), none, some (.long b49), none, some (.long most52), none, none, none]) (zw_dg dk_M_coin 133 rfl) (by decide) rfl ?_
        obtain ⟨top53, ht257, hs257⟩ := zw_bd hsem
        refine zw_jn (J := 257) (L2 := [some (.ref 71), some (.int p1), some (.int least2), some (.int then3), some (.int otherwise4), some (.int trueFirst12), some (.long r13), none, some (.long r14), none, some (.int isFirst21), some (.int isElse23), some (.long mostFirst20), none, some (.long mostElse22), none, some (.long r39), none, some (.long top53), none, some (.int k41), some (.long a48), none, some (.long b49), none, some (.long most52), none, none, none]) (c2 := c42) (fun jj => ?_) ?_
        · have hsem := ht257
          refine r_iload X (pc := 248) (i := 20) (zw_dg dk_M_coin 134 rfl) rfl ?_
          refine r_if_ne X (pc := 250) (tgt := 257) (zw_dg dk_M_coin 135 rfl) (by decide) (fun q55 => ?_) (fun q55 => ?_)
          · --
            have p54 : ¬ (k41 = 0) := q55
            have hsem := zw_ifn p54 hsem
            cases hsem
            exact (r_fgt [] rfl jj)
          · --
            have p54 : (k41 = 0) := q55
            have hsem := zw_ifp p54 hsem
            refine r_lload X (pc := 253) (i := 25) (zw_dg dk_M_coin 136 rfl) rfl ?_
            refine r_lstore X (pc := 255) (i := 18) (L2 := [some (.ref 71), some (.int p1), some (.int least2), some (.int then3), some (.int otherwise4), some (.int trueFirst12), some (.long r13), none, some (.long r14), none, some (.int isFirst21), some (.int isElse23), some (.long mostFirst20), none, some (.long mostElse22), none, some (.long r39), none, some (.long most52), none, some (.int k41), some (.long a48), none, some (.long b49), none, some (.long most52), none, none, none]) (zw_dg dk_M_coin 137 rfl) (by decide) rfl ?_
            cases hsem
            exact (r_fgt [] rfl jj)
        have hsem := hs257
        refine r_ldc2 X (pc := 257) (v := 40) kw_1928 (zw_dg dk_M_coin 138 rfl) ?_
        refine r_iconst X (pc := 260) (v := 2) (zw_dg dk_M_coin 139 rfl) (by decide) ?_
        refine r_iload X (pc := 261) (i := 20) (zw_dg dk_M_coin 140 rfl) rfl ?_
        refine r_imul X (pc := 263) (zw_dg dk_M_coin 141 rfl)  ?_
        refine r_i2l X (pc := 264) (zw_dg dk_M_coin 142 rfl)  ?_
        refine r_lsub X (pc := 265) (zw_dg dk_M_coin 143 rfl)  ?_
        refine zw_ter (P := (¬ trueFirst12 = 0)) (f := Value.long) (x := r13) (y := r14) (J := 278) (st2 := [.long (40 - ((2 * k41)).toInt64)]) (fun jT jF => ?_) ?_
        · --
          refine r_iload X (pc := 266) (i := 5) (zw_dg dk_M_coin 144 rfl) rfl ?_
          refine r_if_eq X (pc := 268) (tgt := 276) (zw_dg dk_M_coin 145 rfl) (by decide) (fun q56 => ?_) (fun q56 => ?_)
          · --
            refine r_lload X (pc := 276) (i := 8) (zw_dg dk_M_coin 148 rfl) rfl ?_
            exact jF (fun z => z q56)
          · --
            refine r_lload X (pc := 271) (i := 6) (zw_dg dk_M_coin 146 rfl) rfl ?_
            refine r_goto X (pc := 273) (tgt := 278) (zw_dg dk_M_coin 147 rfl) (by decide) ?_
            exact jT q56
        refine r_lmul X (pc := 278) (zw_dg dk_M_coin 149 rfl)  ?_
        refine r_iload X (pc := 279) (i := 20) (zw_dg dk_M_coin 150 rfl) rfl ?_
        refine r_i2l X (pc := 281) (zw_dg dk_M_coin 151 rfl)  ?_
        refine r_lload X (pc := 282) (i := 6) (zw_dg dk_M_coin 152 rfl) rfl ?_
        refine r_lload X (pc := 284) (i := 8) (zw_dg dk_M_coin 153 rfl) rfl ?_
        refine r_ladd X (pc := 286) (zw_dg dk_M_coin 154 rfl)  ?_
        refine r_lmul X (pc := 287) (zw_dg dk_M_coin 155 rfl)  ?_
        refine r_ladd X (pc := 288) (zw_dg dk_M_coin 156 rfl)  ?_
        obtain ⟨truth57, htruth57, hsem⟩ := zw_bd hsem
        refine zw_topJ htruth57 ?_
        refine r_lstore X (pc := 289) (i := 27) (L2 := [some (.ref 71), some (.int p1), some (.int least2), some (.int then3), some (.int otherwise4), some (.int trueFirst12), some (.long r13), none, some (.long r14), none, some (.int isFirst21), some (.int isElse23), some (.long mostFirst20), none, some (.long mostElse22), none, some (.long r39), none, some (.long top53), none, some (.int k41), some (.long a48), none, some (.long b49), none, some (.long most52), none, some (.long truth57), none]) (zw_dg dk_M_coin 157 rfl) (by decide) rfl ?_
        refine r_lload X (pc := 291) (i := 27) (zw_dg dk_M_coin 158 rfl) rfl ?_
        refine r_lload X (pc := 293) (i := 25) (zw_dg dk_M_coin 159 rfl) rfl ?_
        refine r_lcmp_ge X (pc := 295) (tgt := 302) (zw_dg dk_M_coin 160 rfl) (zw_dg dk_M_coin 161 rfl) (by decide) (fun q59 => ?_) (fun q59 => ?_)
        · --
          have p58 : ¬ (truth57 < most52) := (Int64.not_lt.mpr q59)
          have hsem := zw_ifn p58 hsem
          refine r_aload_n X (pc := 302) (i := 0) (zw_dg dk_M_coin 163 rfl) rfl rfl ?_
          refine r_iconst X (pc := 303) (v := 0) (zw_dg dk_M_coin 164 rfl) (by decide) ?_
          refine r_putI X (pc := 304) ci_M (zo hS 71 rfl rfl) rfl lk_M_100 rfl ⟨rfl, rfl⟩ (zw_dg dk_M_coin 165 rfl) ?_
          obtain ⟨c60, hc60, hsem⟩ := zw_bd hsem
          refine zw_topC hc60 ?_
          refine r_aload_n X (pc := 307) (i := 0) (zw_dg dk_M_coin 166 rfl) rfl rfl ?_
          refine r_lload X (pc := 308) (i := 27) (zw_dg dk_M_coin 167 rfl) rfl ?_
          obtain ⟨c61, hc61, hsem⟩ := zw_bd hsem
          refine r_callVv X (pc := 310) (As := [_]) (st := []) (km_M_tell hS hc61) ce_M_tell kw_1704 (zo hS 71 rfl rfl) rfl rfl ⟨Nat.le_of_ble_eq_true rfl, Nat.le_of_ble_eq_true rfl⟩ (Nat.le_of_ble_eq_true rfl) (zw_dg dk_M_coin 168 rfl) ?_
          refine r_aload_n X (pc := 313) (i := 0) (zw_dg dk_M_coin 169 rfl) rfl rfl ?_
          refine r_lload X (pc := 314) (i := 18) (zw_dg dk_M_coin 170 rfl) rfl ?_
          obtain ⟨c62, hc62, hsem⟩ := zw_bd hsem
          refine r_callVv X (pc := 316) (As := [_]) (st := []) (km_M_tell hS hc62) ce_M_tell kw_1704 (zo hS 71 rfl rfl) rfl rfl ⟨Nat.le_of_ble_eq_true rfl, Nat.le_of_ble_eq_true rfl⟩ (Nat.le_of_ble_eq_true rfl) (zw_dg dk_M_coin 171 rfl) ?_
          refine r_iload X (pc := 319) (i := 20) (zw_dg dk_M_coin 172 rfl) rfl ?_
          have hret := hR _ (Option.some.inj hsem).symm
          cases hret
          exact r_iret X (pc := 321) rfl (zw_dg dk_M_coin 173 rfl)
        · --
          have p58 : (truth57 < most52) := (Int64.not_le.mp q59)
          have hsem := zw_ifp p58 hsem
          refine r_goto X (pc := 299) (tgt := 322) (zw_dg dk_M_coin 162 rfl) (by decide) ?_
          refine r_iinc X (pc := 322) (i := 20) (k := 1) (zw_dg dk_M_coin 174 rfl) rfl (by decide) (by decide) rfl ?_
          refine r_goto X (pc := 325) (tgt := 174) (zw_dg dk_M_coin 175 rfl) (by decide) ?_
          have jj := hP _ (Option.some.inj hsem).symm
          exact (r_fgt [21, 23, 25, 27] rfl jj)
    · intro w hw
      subst hw
      exact Option.some.inj hsl45
    rintro ⟨top43, c44⟩ hw
    subst hw
    have hsem := hsl45
    refine r_bipush X (pc := 328) (v := (-2)) (zw_dg dk_M_coin 176 rfl) (by decide) ?_
    obtain ⟨rfl, rfl⟩ := zw_in2 hsem
    exact r_iret X (pc := 330) rfl (zw_dg dk_M_coin 177 rfl)
  · --
    have p7 : (¬ (¬ r6 = 0)) := (fun z => z q8)
    have hsem := zw_ifp p7 hsem
    refine r_iconst X (pc := 17) (v := (-1)) (zw_dg dk_M_coin 10 rfl) (by decide) ?_
    obtain ⟨rfl, rfl⟩ := zw_in2 hsem
    exact r_iret X (pc := 18) rfl (zw_dg dk_M_coin 11 rfl)
def y_M_allTo : MethodName := ⟨R_M, "allTo", "(I)I"⟩
abbrev b_M_allTo : ByteArray := prog_14_method_84_code
def dl_M_allTo : List (Nat × Instr × Nat) := [(0, .iconst 0, 1), (1, .istore_n 2, 1), (2, .aload_n 0, 1), (3, .getfield 16, 3), (6, .iconst 4, 1), (7, .iload_n 2, 1), (8, .imul, 1), (9, .iload_n 1, 1), (10, .iadd, 1), (11, .iaload, 1), (12, .aload_n 0, 1), (13, .getfield 13, 3), (16, .if_icmp .ge 9, 3), (19, .iinc 2 1, 3), (22, .goto (-20), 3), (25, .iload_n 2, 1), (26, .ireturn, 1)]
theorem dk_M_allTo : zw_dk b_M_allTo dl_M_allTo = true := by decide +kernel
theorem ce_M_allTo : zw_cev y_M_allTo b_M_allTo 3 (some .int) 1 := ⟨⟨kt_in 1936 (by decide +kernel) rfl, kt_in 98 (by decide +kernel) rfl, by decide +kernel⟩, kt_in 1935 (by decide +kernel) rfl, kt_in 77 (by decide +kernel) rfl⟩
def fn_M_allTo_l1 (c : zw_Ct) (r1 : Int32) : Int32 → Option ((Int32) ⊕ (Int32)) := fun s2 =>
  (zw_aI 1820 c 72 ((4 * s2) + r1)).bind fun x5 =>
  if (x5 < (c.1 71 1)) then
  (some (.inr (s2 + 1)))
  else
  (some (.inl s2))
def fn_M_allTo (c : zw_Ct) (r1 : Int32) : Option Int32 :=
  (zw_whl (fn_M_allTo_l1 c r1) zw_F 0).bind fun s3 =>
  some s3
set_option maxRecDepth 100000 in
theorem km_M_allTo {l : Launch} {g : zw_G} {rr : zw_RR} {sh : zw_Sh} {c : zw_Ct} {r1 : Int32} {r : Int32} (hS : zw_Ok 0 101 sh rr) (hsem : fn_M_allTo c r1 = some r) : zw_Met l g y_M_allTo b_M_allTo 3 (some .int) 1 rr sh [.ref 71, .int r1] c (some (.int r)) c := by
  unfold fn_M_allTo at hsem
  refine zw_Met.of (by decide +kernel) (Nat.le_of_ble_eq_true rfl) (fun p e s m args below meth cd X => ?_)
  refine zw_eL (L2 := [some (.ref 71), some (.int r1), none]) rfl ?_
  refine r_iconst X (pc := 0) (v := 0) (zw_dg dk_M_allTo 0 rfl) (by decide) ?_
  refine r_istore_n X (pc := 1) (i := 2) (zw_dg dk_M_allTo 1 rfl) rfl (by decide) rfl ?_
  obtain ⟨s3, hl4, hsl4⟩ := zw_bd hsem
  refine r_loop (pc := 2) (pce := 25) hl4 (fun s2 => [some (.ref 71), some (.int r1), some (.int s2)] : Int32 → zw_Lc) (fun s2 => c : Int32 → zw_Ct) (fun s3 => [some (.ref 71), some (.int r1), some (.int s3)] : Int32 → zw_Lc) (fun s3 => c : Int32 → zw_Ct) ?_ rfl rfl ?_
  · rintro s2 rr hsem hK hP
    try unfold fn_M_allTo_l1 at hsem
    refine r_aload_n X (pc := 2) (i := 0) (zw_dg dk_M_allTo 2 rfl) rfl rfl ?_
    refine r_getR X (pc := 3) (r := 72) ci_M (zo hS 71 rfl rfl) rfl (zr hS 71 3 rfl rfl) lk_M_16 (zw_dg dk_M_allTo 3 rfl) ?_
    refine r_iconst X (pc := 6) (v := 4) (zw_dg dk_M_allTo 4 rfl) (by decide) ?_
    refine r_iload_n X (pc := 7) (i := 2) (zw_dg dk_M_allTo 5 rfl) rfl rfl ?_
    refine r_imul X (pc := 8) (zw_dg dk_M_allTo 6 rfl)  ?_
    refine r_iload_n X (pc := 9) (i := 1) (zw_dg dk_M_allTo 7 rfl) rfl rfl ?_
    refine r_iadd X (pc := 10) (zw_dg dk_M_allTo 8 rfl)  ?_
    obtain ⟨x5, hx5, hsem⟩ := zw_bd hsem
    refine r_iald X (pc := 11) (zo hS 72 rfl rfl) hx5 (zw_dg dk_M_allTo 9 rfl) ?_
    refine r_aload_n X (pc := 12) (i := 0) (zw_dg dk_M_allTo 10 rfl) rfl rfl ?_
    refine r_getI X (pc := 13) ci_M (zo hS 71 rfl rfl) rfl lk_M_13 (zw_dg dk_M_allTo 11 rfl) ?_
    refine r_icmp_ge X (pc := 16) (tgt := 25) (zw_dg dk_M_allTo 12 rfl) (by decide) (fun q7 => ?_) (fun q7 => ?_)
    · --
      have p6 : ¬ (x5 < (c.1 71 1)) := (Int32.not_lt.mpr q7)
      have hsem := zw_ifn p6 hsem
      have jj := hK _ (Option.some.inj hsem).symm
      exact (r_fgt [] rfl jj)
    · --
      have p6 : (x5 < (c.1 71 1)) := (Int32.not_le.mp q7)
      have hsem := zw_ifp p6 hsem
      refine r_iinc X (pc := 19) (i := 2) (k := 1) (zw_dg dk_M_allTo 13 rfl) rfl (by decide) (by decide) rfl ?_
      refine r_goto X (pc := 22) (tgt := 2) (zw_dg dk_M_allTo 14 rfl) (by decide) ?_
      have jj := hP _ (Option.some.inj hsem).symm
      exact (r_fgt [] rfl jj)
  have hsem := hsl4
  refine r_iload_n X (pc := 25) (i := 2) (zw_dg dk_M_allTo 15 rfl) rfl rfl ?_
  cases hsem
  exact r_iret X (pc := 26) rfl (zw_dg dk_M_allTo 16 rfl)
def y_M_says : MethodName := ⟨R_M, "says", "(II)I"⟩
abbrev b_M_says : ByteArray := prog_14_method_83_code
def dl_M_says : List (Nat × Instr × Nat) := [(0, .aload_n 0, 1), (1, .iconst 0, 1), (2, .putfield 97, 3), (5, .aload_n 0, 1), (6, .iload_n 1, 1), (7, .invokevirtual 222, 3), (10, .ifCond .eq 11, 3), (13, .aload_n 0, 1), (14, .iload_n 2, 1), (15, .invokevirtual 142, 3), (18, .ifCond .ne 5, 3), (21, .iconst (-1), 1), (22, .ireturn, 1), (23, .aload_n 0, 1), (24, .iload_n 1, 1), (25, .invokevirtual 229, 3), (28, .iconst (-1), 1), (29, .istore_n 3, 1), (30, .lconst 0, 1), (31, .lstore 4, 2), (33, .iconst 0, 1), (34, .istore 6, 2), (36, .iload 6, 2), (38, .aload_n 0, 1), (39, .getfield 9, 3), (42, .if_icmp .ge 45, 3), (45, .aload_n 0, 1), (46, .aload_n 0, 1), (47, .iload 6, 2), (49, .invokevirtual 330, 3), (52, .iload_n 2, 1), (53, .invokevirtual 233, 3), (56, .lstore 7, 2), (58, .iload_n 3, 1), (59, .iconst (-1), 1), (60, .if_icmp .eq 14, 3), (63, .lload 7, 2), (65, .lload 4, 2), (67, .lcmp, 1), (68, .ifCond .gt 6, 3), (71, .goto 10, 3), (74, .iload 6, 2), (76, .istore_n 3, 1), (77, .lload 7, 2), (79, .lstore 4, 2), (81, .iinc 6 1, 3), (84, .goto (-48), 3), (87, .iconst 0, 1), (88, .istore 6, 2), (90, .aload_n 0, 1), (91, .getfield 16, 3), (94, .iconst 4, 1), (95, .iload_n 2, 1), (96, .imul, 1), (97, .iaload, 1), (98, .istore 7, 2), (100, .iconst 2, 1), (101, .iload 7, 2), (103, .imul, 1), (104, .aload_n 0, 1), (105, .getfield 13, 3), (108, .if_icmp .ge 25, 3), (111, .iinc 6 1, 3), (114, .iload 7, 2), (116, .aload_n 0, 1), (117, .getfield 16, 3), (120, .iconst 4, 1), (121, .iload_n 2, 1), (122, .imul, 1), (123, .iload 6, 2), (125, .iadd, 1), (126, .iaload, 1), (127, .iadd, 1), (128, .istore 7, 2), (130, .goto (-30), 3), (133, .aload_n 0, 1), (134, .iconst 0, 1), (135, .putfield 100, 3), (138, .aload_n 0, 1), (139, .iload 6, 2), (141, .i2l, 1), (142, .invokevirtual 109, 3), (145, .aload_n 0, 1), (146, .aload_n 0, 1), (147, .iload_n 2, 1), (148, .invokevirtual 319, 3), (151, .i2l, 1), (152, .invokevirtual 109, 3), (155, .iload_n 3, 1), (156, .ireturn, 1)]
theorem dk_M_says : zw_dk b_M_says dl_M_says = true := by decide +kernel
theorem ce_M_says : zw_cev y_M_says b_M_says 9 (some .int) 2 := ⟨⟨kt_in 1932 (by decide +kernel) rfl, kt_in 98 (by decide +kernel) rfl, by decide +kernel⟩, kt_in 1930 (by decide +kernel) rfl, kt_in 1931 (by decide +kernel) rfl⟩
def fn_M_says_l1 (c8 : zw_Ct) (t2 : Int32) : Int32 × Int64 × Int32 → Option ((Int32 × Int64) ⊕ (Int32 × Int64 × Int32)) := fun (best9, most10, r11) =>
  if (r11 < (c8.1 71 0)) then
  ((fn_M_allTo c8 r11).bind fun r17 =>
  (fn_M_worth c8 r17 t2).bind fun r18 =>
  if ((¬ best9 = (-1)) ∧ (r18 ≤ most10)) then
  (some (.inr (best9, most10, (r11 + 1))))
  else
  (some (.inr (r11, r18, (r11 + 1)))))
  else
  (some (.inl (best9, most10)))
def fn_M_says_l2 (c8 : zw_Ct) (t2 : Int32) : Int32 × Int32 → Option ((Int32 × Int32) ⊕ (Int32 × Int32)) := fun (middle23, sum24) =>
  if ((2 * sum24) < (c8.1 71 1)) then
  ((zw_aI 1820 c8 72 ((4 * t2) + (middle23 + 1))).bind fun x30 =>
  (some ((sum24 + x30) : Int32)).bind fun sum31 =>
  some (.inr ((middle23 + 1), sum31)))
  else
  (some (.inl (middle23, sum24)))
def fn_M_says (c : zw_Ct) (p1 : Int32) (t2 : Int32) : Option (Int32 × zw_Ct) :=
  (some (zw_wI c 71 9 0)).bind fun c3 =>
  (fn_M_isPay c3 p1).bind fun r4 =>
  if ((¬ (¬ r4 = 0)) ∨ (¬ (¬ (fn_M_isSaying c3 t2) = 0))) then
  (some ((-1), c3))
  else
  ((fn_M_layPay c3 p1).bind fun c8 =>
  (zw_whl (fn_M_says_l1 c8 t2) zw_F ((-1), 0, 0)).bind fun (best12, most13) =>
  (zw_aI 1820 c8 72 (4 * t2)).bind fun x22 =>
  (zw_whl (fn_M_says_l2 c8 t2) zw_F (0, x22)).bind fun (middle25, sum26) =>
  (some (zw_wI c8 71 8 0)).bind fun c32 =>
  (fn_M_tell c32 middle25.toInt64).bind fun c33 =>
  (fn_M_mode c33 t2).bind fun r34 =>
  (fn_M_tell c33 r34.toInt64).bind fun c35 =>
  some (best12, c35))
set_option maxRecDepth 100000 in
theorem km_M_says {l : Launch} {g : zw_G} {rr : zw_RR} {sh : zw_Sh} {c : zw_Ct} {p1 : Int32} {t2 : Int32} {r : Int32} {c2 : zw_Ct} (hS : zw_Ok 0 101 sh rr) (hsem : fn_M_says c p1 t2 = some (r, c2)) : zw_Met l g y_M_says b_M_says 9 (some .int) 107 rr sh [.ref 71, .int p1, .int t2] c (some (.int r)) c2 := by
  unfold fn_M_says at hsem
  refine zw_Met.of (by decide +kernel) (Nat.le_of_ble_eq_true rfl) (fun p e s m args below meth cd X => ?_)
  refine zw_eL (L2 := [some (.ref 71), some (.int p1), some (.int t2), none, none, none, none, none, none]) rfl ?_
  refine r_aload_n X (pc := 0) (i := 0) (zw_dg dk_M_says 0 rfl) rfl rfl ?_
  refine r_iconst X (pc := 1) (v := 0) (zw_dg dk_M_says 1 rfl) (by decide) ?_
  refine r_putI X (pc := 2) ci_M (zo hS 71 rfl rfl) rfl lk_M_97 rfl ⟨rfl, rfl⟩ (zw_dg dk_M_says 2 rfl) ?_
  obtain ⟨c3, hc3, hsem⟩ := zw_bd hsem
  refine zw_topC hc3 ?_
  refine r_aload_n X (pc := 5) (i := 0) (zw_dg dk_M_says 3 rfl) rfl rfl ?_
  refine r_iload_n X (pc := 6) (i := 1) (zw_dg dk_M_says 4 rfl) rfl rfl ?_
  obtain ⟨r4, hr4, hsem⟩ := zw_bd hsem
  refine r_callVi X (pc := 7) (As := [_]) (st := []) (km_M_isPay hS hr4) ce_M_isPay kw_1688 (zo hS 71 rfl rfl) rfl rfl ⟨Nat.le_of_ble_eq_true rfl, Nat.le_of_ble_eq_true rfl⟩ (Nat.le_of_ble_eq_true rfl) (zw_dg dk_M_says 5 rfl) ?_
  refine zw_cnd (P := ((¬ (¬ r4 = 0)) ∨ (¬ (¬ (fn_M_isSaying c3 t2) = 0)))) (J1 := 21) (J2 := 23) (st2 := []) (fun jT jF => ?_) (fun p5 => ?_) (fun p5 => ?_)
  · --
    refine r_if_eq X (pc := 10) (tgt := 21) (zw_dg dk_M_says 6 rfl) (by decide) (fun q6 => ?_) (fun q6 => ?_)
    · --
      exact jT (Or.inl (fun z => z q6))
    · --
      refine r_aload_n X (pc := 13) (i := 0) (zw_dg dk_M_says 7 rfl) rfl rfl ?_
      refine r_iload_n X (pc := 14) (i := 2) (zw_dg dk_M_says 8 rfl) rfl rfl ?_
      refine r_callVi X (pc := 15) (As := [_]) (st := []) (km_M_isSaying hS rfl) ce_M_isSaying kw_1609 (zo hS 71 rfl rfl) rfl rfl ⟨Nat.le_of_ble_eq_true rfl, Nat.le_of_ble_eq_true rfl⟩ (Nat.le_of_ble_eq_true rfl) (zw_dg dk_M_says 9 rfl) ?_
      refine r_if_ne X (pc := 18) (tgt := 23) (zw_dg dk_M_says 10 rfl) (by decide) (fun q7 => ?_) (fun q7 => ?_)
      · --
        exact jF (fun q => q.elim (fun q => q q6) (fun q => q q7))
      · --
        exact jT (Or.inr (fun z => z q7))
  · --
    have hsem := zw_ifp p5 hsem
    refine r_iconst X (pc := 21) (v := (-1)) (zw_dg dk_M_says 11 rfl) (by decide) ?_
    obtain ⟨rfl, rfl⟩ := zw_in2 hsem
    exact r_iret X (pc := 22) rfl (zw_dg dk_M_says 12 rfl)
  · --
    have hsem := zw_ifn p5 hsem
    refine r_aload_n X (pc := 23) (i := 0) (zw_dg dk_M_says 13 rfl) rfl rfl ?_
    refine r_iload_n X (pc := 24) (i := 1) (zw_dg dk_M_says 14 rfl) rfl rfl ?_
    obtain ⟨c8, hc8, hsem⟩ := zw_bd hsem
    refine r_callVv X (pc := 25) (As := [_]) (st := []) (km_M_layPay hS hc8) ce_M_layPay kw_1700 (zo hS 71 rfl rfl) rfl rfl ⟨Nat.le_of_ble_eq_true rfl, Nat.le_of_ble_eq_true rfl⟩ (Nat.le_of_ble_eq_true rfl) (zw_dg dk_M_says 15 rfl) ?_
    refine r_iconst X (pc := 28) (v := (-1)) (zw_dg dk_M_says 16 rfl) (by decide) ?_
    refine r_istore_n X (pc := 29) (i := 3) (zw_dg dk_M_says 17 rfl) rfl (by decide) rfl ?_
    refine r_lconst X (pc := 30) (v := 0) (zw_dg dk_M_says 18 rfl) (by decide) ?_
    refine r_lstore X (pc := 31) (i := 4) (L2 := [some (.ref 71), some (.int p1), some (.int t2), some (.int (-1)), some (.long 0), none, none, none, none]) (zw_dg dk_M_says 19 rfl) (by decide) rfl ?_
    refine r_iconst X (pc := 33) (v := 0) (zw_dg dk_M_says 20 rfl) (by decide) ?_
    refine r_istore X (pc := 34) (i := 6) (zw_dg dk_M_says 21 rfl) (by decide) rfl ?_
    obtain ⟨l14, hl14, hsl14⟩ := zw_bd hsem
    refine r_loop (pc := 36) (pce := 87) hl14 (fun (best9, most10, r11) => [some (.ref 71), some (.int p1), some (.int t2), some (.int best9), some (.long most10), none, some (.int r11), none, none] : Int32 × Int64 × Int32 → zw_Lc) (fun (best9, most10, r11) => c8 : Int32 × Int64 × Int32 → zw_Ct) (fun (best12, most13) => [some (.ref 71), some (.int p1), some (.int t2), some (.int best12), some (.long most13), none, none, none, none] : Int32 × Int64 → zw_Lc) (fun (best12, most13) => c8 : Int32 × Int64 → zw_Ct) ?_ rfl rfl ?_
    · rintro ⟨best9, most10, r11⟩ rr hsem hK hP
      try unfold fn_M_says_l1 at hsem
      refine r_iload X (pc := 36) (i := 6) (zw_dg dk_M_says 22 rfl) rfl ?_
      refine r_aload_n X (pc := 38) (i := 0) (zw_dg dk_M_says 23 rfl) rfl rfl ?_
      refine r_getI X (pc := 39) ci_M (zo hS 71 rfl rfl) rfl lk_M_9 (zw_dg dk_M_says 24 rfl) ?_
      refine r_icmp_ge X (pc := 42) (tgt := 87) (zw_dg dk_M_says 25 rfl) (by decide) (fun q16 => ?_) (fun q16 => ?_)
      · --
        have p15 : ¬ (r11 < (c8.1 71 0)) := (Int32.not_lt.mpr q16)
        have hsem := zw_ifn p15 hsem
        have jj := hK _ (Option.some.inj hsem).symm
        exact (r_fgt [6] rfl jj)
      · --
        have p15 : (r11 < (c8.1 71 0)) := (Int32.not_le.mp q16)
        have hsem := zw_ifp p15 hsem
        refine r_aload_n X (pc := 45) (i := 0) (zw_dg dk_M_says 26 rfl) rfl rfl ?_
        refine r_aload_n X (pc := 46) (i := 0) (zw_dg dk_M_says 27 rfl) rfl rfl ?_
        refine r_iload X (pc := 47) (i := 6) (zw_dg dk_M_says 28 rfl) rfl ?_
        obtain ⟨r17, hr17, hsem⟩ := zw_bd hsem
        refine r_callVi X (pc := 49) (As := [_]) (st := [.ref 71]) (km_M_allTo hS hr17) ce_M_allTo kw_1933 (zo hS 71 rfl rfl) rfl rfl ⟨Nat.le_of_ble_eq_true rfl, Nat.le_of_ble_eq_true rfl⟩ (Nat.le_of_ble_eq_true rfl) (zw_dg dk_M_says 29 rfl) ?_
        refine r_iload_n X (pc := 52) (i := 2) (zw_dg dk_M_says 30 rfl) rfl rfl ?_
        obtain ⟨r18, hr18, hsem⟩ := zw_bd hsem
        refine r_callVl X (pc := 53) (As := [_, _]) (st := []) (km_M_worth hS hr18) ce_M_worth kw_1712 (zo hS 71 rfl rfl) rfl rfl ⟨Nat.le_of_ble_eq_true rfl, Nat.le_of_ble_eq_true rfl⟩ (Nat.le_of_ble_eq_true rfl) (zw_dg dk_M_says 31 rfl) ?_
        refine r_lstore X (pc := 56) (i := 7) (L2 := [some (.ref 71), some (.int p1), some (.int t2), some (.int best9), some (.long most10), none, some (.int r11), some (.long r18), none]) (zw_dg dk_M_says 32 rfl) (by decide) rfl ?_
        refine zw_cnd (P := ((¬ best9 = (-1)) ∧ (r18 ≤ most10))) (J1 := 71) (J2 := 74) (st2 := []) (fun jT jF => ?_) (fun p19 => ?_) (fun p19 => ?_)
        · --
          refine r_iload_n X (pc := 58) (i := 3) (zw_dg dk_M_says 33 rfl) rfl rfl ?_
          refine r_iconst X (pc := 59) (v := (-1)) (zw_dg dk_M_says 34 rfl) (by decide) ?_
          refine r_icmp_eq X (pc := 60) (tgt := 74) (zw_dg dk_M_says 35 rfl) (by decide) (fun q20 => ?_) (fun q20 => ?_)
          · --
            exact jF (fun q => (fun z => z q20) q.1)
          · --
            refine r_lload X (pc := 63) (i := 7) (zw_dg dk_M_says 36 rfl) rfl ?_
            refine r_lload X (pc := 65) (i := 4) (zw_dg dk_M_says 37 rfl) rfl ?_
            refine r_lcmp_gt X (pc := 67) (tgt := 74) (zw_dg dk_M_says 38 rfl) (zw_dg dk_M_says 39 rfl) (by decide) (fun q21 => ?_) (fun q21 => ?_)
            · --
              exact jF (fun q => (Int64.not_le.mpr q21) q.2)
            · --
              exact jT ⟨q20, (Int64.not_lt.mp q21)⟩
        · --
          have hsem := zw_ifp p19 hsem
          refine r_goto X (pc := 71) (tgt := 81) (zw_dg dk_M_says 40 rfl) (by decide) ?_
          refine r_iinc X (pc := 81) (i := 6) (k := 1) (zw_dg dk_M_says 45 rfl) rfl (by decide) (by decide) rfl ?_
          refine r_goto X (pc := 84) (tgt := 36) (zw_dg dk_M_says 46 rfl) (by decide) ?_
          have jj := hP _ (Option.some.inj hsem).symm
          exact (r_fgt [7] rfl jj)
        · --
          have hsem := zw_ifn p19 hsem
          refine r_iload X (pc := 74) (i := 6) (zw_dg dk_M_says 41 rfl) rfl ?_
          refine r_istore_n X (pc := 76) (i := 3) (zw_dg dk_M_says 42 rfl) rfl (by decide) rfl ?_
          refine r_lload X (pc := 77) (i := 7) (zw_dg dk_M_says 43 rfl) rfl ?_
          refine r_lstore X (pc := 79) (i := 4) (L2 := [some (.ref 71), some (.int p1), some (.int t2), some (.int r11), some (.long r18), none, some (.int r11), some (.long r18), none]) (zw_dg dk_M_says 44 rfl) (by decide) rfl ?_
          refine r_iinc X (pc := 81) (i := 6) (k := 1) (zw_dg dk_M_says 45 rfl) rfl (by decide) (by decide) rfl ?_
          refine r_goto X (pc := 84) (tgt := 36) (zw_dg dk_M_says 46 rfl) (by decide) ?_
          have jj := hP _ (Option.some.inj hsem).symm
          exact (r_fgt [7] rfl jj)
    obtain ⟨best12, most13⟩ := l14
    have hsem := hsl14
    refine r_iconst X (pc := 87) (v := 0) (zw_dg dk_M_says 47 rfl) (by decide) ?_
    refine r_istore X (pc := 88) (i := 6) (zw_dg dk_M_says 48 rfl) (by decide) rfl ?_
    refine r_aload_n X (pc := 90) (i := 0) (zw_dg dk_M_says 49 rfl) rfl rfl ?_
    refine r_getR X (pc := 91) (r := 72) ci_M (zo hS 71 rfl rfl) rfl (zr hS 71 3 rfl rfl) lk_M_16 (zw_dg dk_M_says 50 rfl) ?_
    refine r_iconst X (pc := 94) (v := 4) (zw_dg dk_M_says 51 rfl) (by decide) ?_
    refine r_iload_n X (pc := 95) (i := 2) (zw_dg dk_M_says 52 rfl) rfl rfl ?_
    refine r_imul X (pc := 96) (zw_dg dk_M_says 53 rfl)  ?_
    obtain ⟨x22, hx22, hsem⟩ := zw_bd hsem
    refine r_iald X (pc := 97) (zo hS 72 rfl rfl) hx22 (zw_dg dk_M_says 54 rfl) ?_
    refine r_istore X (pc := 98) (i := 7) (zw_dg dk_M_says 55 rfl) (by decide) rfl ?_
    obtain ⟨l27, hl27, hsl27⟩ := zw_bd hsem
    refine r_loop (pc := 100) (pce := 133) hl27 (fun (middle23, sum24) => [some (.ref 71), some (.int p1), some (.int t2), some (.int best12), some (.long most13), none, some (.int middle23), some (.int sum24), none] : Int32 × Int32 → zw_Lc) (fun (middle23, sum24) => c8 : Int32 × Int32 → zw_Ct) (fun (middle25, sum26) => [some (.ref 71), some (.int p1), some (.int t2), some (.int best12), some (.long most13), none, some (.int middle25), some (.int sum26), none] : Int32 × Int32 → zw_Lc) (fun (middle25, sum26) => c8 : Int32 × Int32 → zw_Ct) ?_ rfl rfl ?_
    · rintro ⟨middle23, sum24⟩ rr hsem hK hP
      try unfold fn_M_says_l2 at hsem
      refine r_iconst X (pc := 100) (v := 2) (zw_dg dk_M_says 56 rfl) (by decide) ?_
      refine r_iload X (pc := 101) (i := 7) (zw_dg dk_M_says 57 rfl) rfl ?_
      refine r_imul X (pc := 103) (zw_dg dk_M_says 58 rfl)  ?_
      refine r_aload_n X (pc := 104) (i := 0) (zw_dg dk_M_says 59 rfl) rfl rfl ?_
      refine r_getI X (pc := 105) ci_M (zo hS 71 rfl rfl) rfl lk_M_13 (zw_dg dk_M_says 60 rfl) ?_
      refine r_icmp_ge X (pc := 108) (tgt := 133) (zw_dg dk_M_says 61 rfl) (by decide) (fun q29 => ?_) (fun q29 => ?_)
      · --
        have p28 : ¬ ((2 * sum24) < (c8.1 71 1)) := (Int32.not_lt.mpr q29)
        have hsem := zw_ifn p28 hsem
        have jj := hK _ (Option.some.inj hsem).symm
        exact (r_fgt [] rfl jj)
      · --
        have p28 : ((2 * sum24) < (c8.1 71 1)) := (Int32.not_le.mp q29)
        have hsem := zw_ifp p28 hsem
        refine r_iinc X (pc := 111) (i := 6) (k := 1) (zw_dg dk_M_says 62 rfl) rfl (by decide) (by decide) rfl ?_
        refine r_iload X (pc := 114) (i := 7) (zw_dg dk_M_says 63 rfl) rfl ?_
        refine r_aload_n X (pc := 116) (i := 0) (zw_dg dk_M_says 64 rfl) rfl rfl ?_
        refine r_getR X (pc := 117) (r := 72) ci_M (zo hS 71 rfl rfl) rfl (zr hS 71 3 rfl rfl) lk_M_16 (zw_dg dk_M_says 65 rfl) ?_
        refine r_iconst X (pc := 120) (v := 4) (zw_dg dk_M_says 66 rfl) (by decide) ?_
        refine r_iload_n X (pc := 121) (i := 2) (zw_dg dk_M_says 67 rfl) rfl rfl ?_
        refine r_imul X (pc := 122) (zw_dg dk_M_says 68 rfl)  ?_
        refine r_iload X (pc := 123) (i := 6) (zw_dg dk_M_says 69 rfl) rfl ?_
        refine r_iadd X (pc := 125) (zw_dg dk_M_says 70 rfl)  ?_
        obtain ⟨x30, hx30, hsem⟩ := zw_bd hsem
        refine r_iald X (pc := 126) (zo hS 72 rfl rfl) hx30 (zw_dg dk_M_says 71 rfl) ?_
        refine r_iadd X (pc := 127) (zw_dg dk_M_says 72 rfl)  ?_
        obtain ⟨sum31, hsum31, hsem⟩ := zw_bd hsem
        refine zw_topI hsum31 ?_
        refine r_istore X (pc := 128) (i := 7) (zw_dg dk_M_says 73 rfl) (by decide) rfl ?_
        refine r_goto X (pc := 130) (tgt := 100) (zw_dg dk_M_says 74 rfl) (by decide) ?_
        have jj := hP _ (Option.some.inj hsem).symm
        exact (r_fgt [] rfl jj)
    obtain ⟨middle25, sum26⟩ := l27
    have hsem := hsl27
    refine r_aload_n X (pc := 133) (i := 0) (zw_dg dk_M_says 75 rfl) rfl rfl ?_
    refine r_iconst X (pc := 134) (v := 0) (zw_dg dk_M_says 76 rfl) (by decide) ?_
    refine r_putI X (pc := 135) ci_M (zo hS 71 rfl rfl) rfl lk_M_100 rfl ⟨rfl, rfl⟩ (zw_dg dk_M_says 77 rfl) ?_
    obtain ⟨c32, hc32, hsem⟩ := zw_bd hsem
    refine zw_topC hc32 ?_
    refine r_aload_n X (pc := 138) (i := 0) (zw_dg dk_M_says 78 rfl) rfl rfl ?_
    refine r_iload X (pc := 139) (i := 6) (zw_dg dk_M_says 79 rfl) rfl ?_
    refine r_i2l X (pc := 141) (zw_dg dk_M_says 80 rfl)  ?_
    obtain ⟨c33, hc33, hsem⟩ := zw_bd hsem
    refine r_callVv X (pc := 142) (As := [_]) (st := []) (km_M_tell hS hc33) ce_M_tell kw_1704 (zo hS 71 rfl rfl) rfl rfl ⟨Nat.le_of_ble_eq_true rfl, Nat.le_of_ble_eq_true rfl⟩ (Nat.le_of_ble_eq_true rfl) (zw_dg dk_M_says 81 rfl) ?_
    refine r_aload_n X (pc := 145) (i := 0) (zw_dg dk_M_says 82 rfl) rfl rfl ?_
    refine r_aload_n X (pc := 146) (i := 0) (zw_dg dk_M_says 83 rfl) rfl rfl ?_
    refine r_iload_n X (pc := 147) (i := 2) (zw_dg dk_M_says 84 rfl) rfl rfl ?_
    obtain ⟨r34, hr34, hsem⟩ := zw_bd hsem
    refine r_callVi X (pc := 148) (As := [_]) (st := [.ref 71]) (km_M_mode hS hr34) ce_M_mode kw_1911 (zo hS 71 rfl rfl) rfl rfl ⟨Nat.le_of_ble_eq_true rfl, Nat.le_of_ble_eq_true rfl⟩ (Nat.le_of_ble_eq_true rfl) (zw_dg dk_M_says 85 rfl) ?_
    refine r_i2l X (pc := 151) (zw_dg dk_M_says 86 rfl)  ?_
    obtain ⟨c35, hc35, hsem⟩ := zw_bd hsem
    refine r_callVv X (pc := 152) (As := [_]) (st := []) (km_M_tell hS hc35) ce_M_tell kw_1704 (zo hS 71 rfl rfl) rfl rfl ⟨Nat.le_of_ble_eq_true rfl, Nat.le_of_ble_eq_true rfl⟩ (Nat.le_of_ble_eq_true rfl) (zw_dg dk_M_says 87 rfl) ?_
    refine r_iload_n X (pc := 155) (i := 3) (zw_dg dk_M_says 88 rfl) rfl rfl ?_
    obtain ⟨rfl, rfl⟩ := zw_in2 hsem
    exact r_iret X (pc := 156) rfl (zw_dg dk_M_says 89 rfl)
def y_M_middle : MethodName := ⟨R_M, "middle", "(III)I"⟩
abbrev b_M_middle : ByteArray := prog_14_method_85_code
def dl_M_middle : List (Nat × Instr × Nat) := [(0, .aload_n 0, 1), (1, .iconst 0, 1), (2, .putfield 97, 3), (5, .aload_n 0, 1), (6, .iload_n 1, 1), (7, .invokevirtual 142, 3), (10, .ifCond .eq 27, 3), (13, .iload_n 2, 1), (14, .i2l, 1), (15, .lconst 0, 1), (16, .ldc2_w 264, 3), (19, .invokestatic 120, 3), (22, .ifCond .eq 15, 3), (25, .iload_n 3, 1), (26, .i2l, 1), (27, .lconst 0, 1), (28, .ldc2_w 264, 3), (31, .invokestatic 120, 3), (34, .ifCond .ne 5, 3), (37, .iconst (-1), 1), (38, .ireturn, 1), (39, .iconst (-1), 1), (40, .istore 4, 2), (42, .iconst 0, 1), (43, .istore 5, 2), (45, .iconst 0, 1), (46, .istore 6, 2), (48, .iconst 0, 1), (49, .istore 7, 2), (51, .iload 7, 2), (53, .aload_n 0, 1), (54, .getfield 9, 3), (57, .if_icmp .ge 112, 3), (60, .iconst 0, 1), (61, .istore 8, 2), (63, .iconst 0, 1), (64, .istore 9, 2), (66, .iload 9, 2), (68, .aload_n 0, 1), (69, .getfield 9, 3), (72, .if_icmp .ge 50, 3), (75, .iload 8, 2), (77, .aload_n 0, 1), (78, .getfield 16, 3), (81, .iconst 4, 1), (82, .iload_n 1, 1), (83, .imul, 1), (84, .iload 9, 2), (86, .iadd, 1), (87, .iaload, 1), (88, .iload 7, 2), (90, .iload 9, 2), (92, .if_icmp .ge 13, 3), (95, .iload_n 2, 1), (96, .iload 9, 2), (98, .iload 7, 2), (100, .isub, 1), (101, .imul, 1), (102, .goto 10, 3), (105, .iload_n 3, 1), (106, .iload 7, 2), (108, .iload 9, 2), (110, .isub, 1), (111, .imul, 1), (112, .imul, 1), (113, .iadd, 1), (114, .istore 8, 2), (116, .iinc 9 1, 3), (119, .goto (-53), 3), (122, .iload 4, 2), (124, .iconst (-1), 1), (125, .if_icmp .eq 10, 3), (128, .iload 8, 2), (130, .iload 5, 2), (132, .if_icmp .ge 14, 3), (135, .iload 7, 2), (137, .istore 4, 2), (139, .iload 8, 2), (141, .istore 5, 2), (143, .iconst 0, 1), (144, .istore 6, 2), (146, .iload 6, 2), (148, .iload 8, 2), (150, .iload 5, 2), (152, .if_icmp .ne 7, 3), (155, .iconst 1, 1), (156, .goto 4, 3), (159, .iconst 0, 1), (160, .iadd, 1), (161, .istore 6, 2), (163, .iinc 7 1, 3), (166, .goto (-115), 3), (169, .aload_n 0, 1), (170, .iconst 0, 1), (171, .putfield 100, 3), (174, .aload_n 0, 1), (175, .iload 5, 2), (177, .i2l, 1), (178, .invokevirtual 109, 3), (181, .aload_n 0, 1), (182, .iload 6, 2), (184, .i2l, 1), (185, .invokevirtual 109, 3), (188, .iload 4, 2), (190, .ireturn, 1)]
theorem dk_M_middle : zw_dk b_M_middle dl_M_middle = true := by decide +kernel
theorem ce_M_middle : zw_cev y_M_middle b_M_middle 10 (some .int) 3 := ⟨⟨kt_in 1940 (by decide +kernel) rfl, kt_in 98 (by decide +kernel) rfl, by decide +kernel⟩, kt_in 1938 (by decide +kernel) rfl, kt_in 1939 (by decide +kernel) rfl⟩
def fn_M_middle_l2 (c4 : zw_Ct) (t1 : Int32) (r12 : Int32) (a2 : Int32) (b3 : Int32) : Int32 × Int32 → Option ((Int32) ⊕ (Int32 × Int32)) := fun (v19, e20) =>
  if (e20 < (c4.1 71 0)) then
  ((zw_aI 1820 c4 72 ((4 * t1) + e20)).bind fun x25 =>
  (some ((v19 + (x25 * (if (r12 < e20) then ((a2 * (e20 - r12)) : Int32) else (b3 * (r12 - e20))))) : Int32)).bind fun v27 =>
  some (.inr (v27, (e20 + 1))))
  else
  (some (.inl v19))
def fn_M_middle_l1 (c4 : zw_Ct) (t1 : Int32) (a2 : Int32) (b3 : Int32) : Int32 × Int32 × Int32 × Int32 → Option ((Int32 × Int32 × Int32) ⊕ (Int32 × Int32 × Int32 × Int32)) := fun (best9, least10, n11, r12) =>
  if (r12 < (c4.1 71 0)) then
  ((zw_whl (fn_M_middle_l2 c4 t1 r12 a2 b3) zw_F (0, 0)).bind fun v21 =>
  (if ((best9 = (-1)) ∨ (v21 < least10)) then
  (some ((r12 : Int32), (v21 : Int32), (0 : Int32)))
  else
  (some ((best9 : Int32), (least10 : Int32), (n11 : Int32)))).bind fun (best28, least29, n30) =>
  (some ((n30 + (if (v21 = least29) then (1 : Int32) else 0)) : Int32)).bind fun n35 =>
  some (.inr (best28, least29, n35, (r12 + 1))))
  else
  (some (.inl (best9, least10, n11)))
def fn_M_middle (c : zw_Ct) (t1 : Int32) (a2 : Int32) (b3 : Int32) : Option (Int32 × zw_Ct) :=
  (some (zw_wI c 71 9 0)).bind fun c4 =>
  if (((¬ (¬ (fn_M_isSaying c4 t1) = 0)) ∨ (¬ (¬ (fn_M_in a2.toInt64 0 9) = 0))) ∨ (¬ (¬ (fn_M_in b3.toInt64 0 9) = 0))) then
  (some ((-1), c4))
  else
  ((zw_whl (fn_M_middle_l1 c4 t1 a2 b3) zw_F ((-1), 0, 0, 0)).bind fun (best13, least14, n15) =>
  (some (zw_wI c4 71 8 0)).bind fun c36 =>
  (fn_M_tell c36 least14.toInt64).bind fun c37 =>
  (fn_M_tell c37 n15.toInt64).bind fun c38 =>
  some (best13, c38))
set_option maxRecDepth 100000 in
theorem km_M_middle {l : Launch} {g : zw_G} {rr : zw_RR} {sh : zw_Sh} {c : zw_Ct} {t1 : Int32} {a2 : Int32} {b3 : Int32} {r : Int32} {c2 : zw_Ct} (hS : zw_Ok 0 101 sh rr) (hsem : fn_M_middle c t1 a2 b3 = some (r, c2)) : zw_Met l g y_M_middle b_M_middle 10 (some .int) 3 rr sh [.ref 71, .int t1, .int a2, .int b3] c (some (.int r)) c2 := by
  unfold fn_M_middle at hsem
  refine zw_Met.of (by decide +kernel) (Nat.le_of_ble_eq_true rfl) (fun p e s m args below meth cd X => ?_)
  refine zw_eL (L2 := [some (.ref 71), some (.int t1), some (.int a2), some (.int b3), none, none, none, none, none, none]) rfl ?_
  refine r_aload_n X (pc := 0) (i := 0) (zw_dg dk_M_middle 0 rfl) rfl rfl ?_
  refine r_iconst X (pc := 1) (v := 0) (zw_dg dk_M_middle 1 rfl) (by decide) ?_
  refine r_putI X (pc := 2) ci_M (zo hS 71 rfl rfl) rfl lk_M_97 rfl ⟨rfl, rfl⟩ (zw_dg dk_M_middle 2 rfl) ?_
  obtain ⟨c4, hc4, hsem⟩ := zw_bd hsem
  refine zw_topC hc4 ?_
  refine zw_cnd (P := (((¬ (¬ (fn_M_isSaying c4 t1) = 0)) ∨ (¬ (¬ (fn_M_in a2.toInt64 0 9) = 0))) ∨ (¬ (¬ (fn_M_in b3.toInt64 0 9) = 0)))) (J1 := 37) (J2 := 39) (st2 := []) (fun jT jF => ?_) (fun p5 => ?_) (fun p5 => ?_)
  · --
    refine r_aload_n X (pc := 5) (i := 0) (zw_dg dk_M_middle 3 rfl) rfl rfl ?_
    refine r_iload_n X (pc := 6) (i := 1) (zw_dg dk_M_middle 4 rfl) rfl rfl ?_
    refine r_callVi X (pc := 7) (As := [_]) (st := []) (km_M_isSaying hS rfl) ce_M_isSaying kw_1609 (zo hS 71 rfl rfl) rfl rfl ⟨Nat.le_of_ble_eq_true rfl, Nat.le_of_ble_eq_true rfl⟩ (Nat.le_of_ble_eq_true rfl) (zw_dg dk_M_middle 5 rfl) ?_
    refine r_if_eq X (pc := 10) (tgt := 37) (zw_dg dk_M_middle 6 rfl) (by decide) (fun q6 => ?_) (fun q6 => ?_)
    · --
      exact jT (Or.inl (Or.inl (fun z => z q6)))
    · --
      refine r_iload_n X (pc := 13) (i := 2) (zw_dg dk_M_middle 7 rfl) rfl rfl ?_
      refine r_i2l X (pc := 14) (zw_dg dk_M_middle 8 rfl)  ?_
      refine r_lconst X (pc := 15) (v := 0) (zw_dg dk_M_middle 9 rfl) (by decide) ?_
      refine r_ldc2 X (pc := 16) (v := 9) kw_1789 (zw_dg dk_M_middle 10 rfl) ?_
      refine r_callSi X (pc := 19) (As := [_, _, _]) (st := []) (km_M_in hS rfl) ce_M_in kw_1597 rfl ⟨Nat.le_of_ble_eq_true rfl, Nat.le_of_ble_eq_true rfl⟩ (Nat.le_of_ble_eq_true rfl) (zw_dg dk_M_middle 11 rfl) ?_
      refine r_if_eq X (pc := 22) (tgt := 37) (zw_dg dk_M_middle 12 rfl) (by decide) (fun q7 => ?_) (fun q7 => ?_)
      · --
        exact jT (Or.inl (Or.inr (fun z => z q7)))
      · --
        refine r_iload_n X (pc := 25) (i := 3) (zw_dg dk_M_middle 13 rfl) rfl rfl ?_
        refine r_i2l X (pc := 26) (zw_dg dk_M_middle 14 rfl)  ?_
        refine r_lconst X (pc := 27) (v := 0) (zw_dg dk_M_middle 15 rfl) (by decide) ?_
        refine r_ldc2 X (pc := 28) (v := 9) kw_1789 (zw_dg dk_M_middle 16 rfl) ?_
        refine r_callSi X (pc := 31) (As := [_, _, _]) (st := []) (km_M_in hS rfl) ce_M_in kw_1597 rfl ⟨Nat.le_of_ble_eq_true rfl, Nat.le_of_ble_eq_true rfl⟩ (Nat.le_of_ble_eq_true rfl) (zw_dg dk_M_middle 17 rfl) ?_
        refine r_if_ne X (pc := 34) (tgt := 39) (zw_dg dk_M_middle 18 rfl) (by decide) (fun q8 => ?_) (fun q8 => ?_)
        · --
          exact jF (fun q => q.elim (fun q => q.elim (fun q => q q6) (fun q => q q7)) (fun q => q q8))
        · --
          exact jT (Or.inr (fun z => z q8))
  · --
    have hsem := zw_ifp p5 hsem
    refine r_iconst X (pc := 37) (v := (-1)) (zw_dg dk_M_middle 19 rfl) (by decide) ?_
    obtain ⟨rfl, rfl⟩ := zw_in2 hsem
    exact r_iret X (pc := 38) rfl (zw_dg dk_M_middle 20 rfl)
  · --
    have hsem := zw_ifn p5 hsem
    refine r_iconst X (pc := 39) (v := (-1)) (zw_dg dk_M_middle 21 rfl) (by decide) ?_
    refine r_istore X (pc := 40) (i := 4) (zw_dg dk_M_middle 22 rfl) (by decide) rfl ?_
    refine r_iconst X (pc := 42) (v := 0) (zw_dg dk_M_middle 23 rfl) (by decide) ?_
    refine r_istore X (pc := 43) (i := 5) (zw_dg dk_M_middle 24 rfl) (by decide) rfl ?_
    refine r_iconst X (pc := 45) (v := 0) (zw_dg dk_M_middle 25 rfl) (by decide) ?_
    refine r_istore X (pc := 46) (i := 6) (zw_dg dk_M_middle 26 rfl) (by decide) rfl ?_
    refine r_iconst X (pc := 48) (v := 0) (zw_dg dk_M_middle 27 rfl) (by decide) ?_
    refine r_istore X (pc := 49) (i := 7) (zw_dg dk_M_middle 28 rfl) (by decide) rfl ?_
    obtain ⟨l16, hl16, hsl16⟩ := zw_bd hsem
    refine r_loop (pc := 51) (pce := 169) hl16 (fun (best9, least10, n11, r12) => [some (.ref 71), some (.int t1), some (.int a2), some (.int b3), some (.int best9), some (.int least10), some (.int n11), some (.int r12), none, none] : Int32 × Int32 × Int32 × Int32 → zw_Lc) (fun (best9, least10, n11, r12) => c4 : Int32 × Int32 × Int32 × Int32 → zw_Ct) (fun (best13, least14, n15) => [some (.ref 71), some (.int t1), some (.int a2), some (.int b3), some (.int best13), some (.int least14), some (.int n15), none, none, none] : Int32 × Int32 × Int32 → zw_Lc) (fun (best13, least14, n15) => c4 : Int32 × Int32 × Int32 → zw_Ct) ?_ rfl rfl ?_
    · rintro ⟨best9, least10, n11, r12⟩ rr hsem hK hP
      try unfold fn_M_middle_l1 at hsem
      refine r_iload X (pc := 51) (i := 7) (zw_dg dk_M_middle 29 rfl) rfl ?_
      refine r_aload_n X (pc := 53) (i := 0) (zw_dg dk_M_middle 30 rfl) rfl rfl ?_
      refine r_getI X (pc := 54) ci_M (zo hS 71 rfl rfl) rfl lk_M_9 (zw_dg dk_M_middle 31 rfl) ?_
      refine r_icmp_ge X (pc := 57) (tgt := 169) (zw_dg dk_M_middle 32 rfl) (by decide) (fun q18 => ?_) (fun q18 => ?_)
      · --
        have p17 : ¬ (r12 < (c4.1 71 0)) := (Int32.not_lt.mpr q18)
        have hsem := zw_ifn p17 hsem
        have jj := hK _ (Option.some.inj hsem).symm
        exact (r_fgt [7] rfl jj)
      · --
        have p17 : (r12 < (c4.1 71 0)) := (Int32.not_le.mp q18)
        have hsem := zw_ifp p17 hsem
        refine r_iconst X (pc := 60) (v := 0) (zw_dg dk_M_middle 33 rfl) (by decide) ?_
        refine r_istore X (pc := 61) (i := 8) (zw_dg dk_M_middle 34 rfl) (by decide) rfl ?_
        refine r_iconst X (pc := 63) (v := 0) (zw_dg dk_M_middle 35 rfl) (by decide) ?_
        refine r_istore X (pc := 64) (i := 9) (zw_dg dk_M_middle 36 rfl) (by decide) rfl ?_
        obtain ⟨v21, hl22, hsl22⟩ := zw_bd hsem
        refine r_loop (pc := 66) (pce := 122) hl22 (fun (v19, e20) => [some (.ref 71), some (.int t1), some (.int a2), some (.int b3), some (.int best9), some (.int least10), some (.int n11), some (.int r12), some (.int v19), some (.int e20)] : Int32 × Int32 → zw_Lc) (fun (v19, e20) => c4 : Int32 × Int32 → zw_Ct) (fun v21 => [some (.ref 71), some (.int t1), some (.int a2), some (.int b3), some (.int best9), some (.int least10), some (.int n11), some (.int r12), some (.int v21), none] : Int32 → zw_Lc) (fun v21 => c4 : Int32 → zw_Ct) ?_ rfl rfl ?_
        · rintro ⟨v19, e20⟩ rr hsem hK hP
          try unfold fn_M_middle_l2 at hsem
          refine r_iload X (pc := 66) (i := 9) (zw_dg dk_M_middle 37 rfl) rfl ?_
          refine r_aload_n X (pc := 68) (i := 0) (zw_dg dk_M_middle 38 rfl) rfl rfl ?_
          refine r_getI X (pc := 69) ci_M (zo hS 71 rfl rfl) rfl lk_M_9 (zw_dg dk_M_middle 39 rfl) ?_
          refine r_icmp_ge X (pc := 72) (tgt := 122) (zw_dg dk_M_middle 40 rfl) (by decide) (fun q24 => ?_) (fun q24 => ?_)
          · --
            have p23 : ¬ (e20 < (c4.1 71 0)) := (Int32.not_lt.mpr q24)
            have hsem := zw_ifn p23 hsem
            have jj := hK _ (Option.some.inj hsem).symm
            exact (r_fgt [9] rfl jj)
          · --
            have p23 : (e20 < (c4.1 71 0)) := (Int32.not_le.mp q24)
            have hsem := zw_ifp p23 hsem
            refine r_iload X (pc := 75) (i := 8) (zw_dg dk_M_middle 41 rfl) rfl ?_
            refine r_aload_n X (pc := 77) (i := 0) (zw_dg dk_M_middle 42 rfl) rfl rfl ?_
            refine r_getR X (pc := 78) (r := 72) ci_M (zo hS 71 rfl rfl) rfl (zr hS 71 3 rfl rfl) lk_M_16 (zw_dg dk_M_middle 43 rfl) ?_
            refine r_iconst X (pc := 81) (v := 4) (zw_dg dk_M_middle 44 rfl) (by decide) ?_
            refine r_iload_n X (pc := 82) (i := 1) (zw_dg dk_M_middle 45 rfl) rfl rfl ?_
            refine r_imul X (pc := 83) (zw_dg dk_M_middle 46 rfl)  ?_
            refine r_iload X (pc := 84) (i := 9) (zw_dg dk_M_middle 47 rfl) rfl ?_
            refine r_iadd X (pc := 86) (zw_dg dk_M_middle 48 rfl)  ?_
            obtain ⟨x25, hx25, hsem⟩ := zw_bd hsem
            refine r_iald X (pc := 87) (zo hS 72 rfl rfl) hx25 (zw_dg dk_M_middle 49 rfl) ?_
            refine zw_ter (P := (r12 < e20)) (f := Value.int) (x := (a2 * (e20 - r12))) (y := (b3 * (r12 - e20))) (J := 112) (st2 := [.int x25, .int v19]) (fun jT jF => ?_) ?_
            · --
              refine r_iload X (pc := 88) (i := 7) (zw_dg dk_M_middle 50 rfl) rfl ?_
              refine r_iload X (pc := 90) (i := 9) (zw_dg dk_M_middle 51 rfl) rfl ?_
              refine r_icmp_ge X (pc := 92) (tgt := 105) (zw_dg dk_M_middle 52 rfl) (by decide) (fun q26 => ?_) (fun q26 => ?_)
              · --
                refine r_iload_n X (pc := 105) (i := 3) (zw_dg dk_M_middle 59 rfl) rfl rfl ?_
                refine r_iload X (pc := 106) (i := 7) (zw_dg dk_M_middle 60 rfl) rfl ?_
                refine r_iload X (pc := 108) (i := 9) (zw_dg dk_M_middle 61 rfl) rfl ?_
                refine r_isub X (pc := 110) (zw_dg dk_M_middle 62 rfl)  ?_
                refine r_imul X (pc := 111) (zw_dg dk_M_middle 63 rfl)  ?_
                exact jF (Int32.not_lt.mpr q26)
              · --
                refine r_iload_n X (pc := 95) (i := 2) (zw_dg dk_M_middle 53 rfl) rfl rfl ?_
                refine r_iload X (pc := 96) (i := 9) (zw_dg dk_M_middle 54 rfl) rfl ?_
                refine r_iload X (pc := 98) (i := 7) (zw_dg dk_M_middle 55 rfl) rfl ?_
                refine r_isub X (pc := 100) (zw_dg dk_M_middle 56 rfl)  ?_
                refine r_imul X (pc := 101) (zw_dg dk_M_middle 57 rfl)  ?_
                refine r_goto X (pc := 102) (tgt := 112) (zw_dg dk_M_middle 58 rfl) (by decide) ?_
                exact jT (Int32.not_le.mp q26)
            refine r_imul X (pc := 112) (zw_dg dk_M_middle 64 rfl)  ?_
            refine r_iadd X (pc := 113) (zw_dg dk_M_middle 65 rfl)  ?_
            obtain ⟨v27, hv27, hsem⟩ := zw_bd hsem
            refine zw_topI hv27 ?_
            refine r_istore X (pc := 114) (i := 8) (zw_dg dk_M_middle 66 rfl) (by decide) rfl ?_
            refine r_iinc X (pc := 116) (i := 9) (k := 1) (zw_dg dk_M_middle 67 rfl) rfl (by decide) (by decide) rfl ?_
            refine r_goto X (pc := 119) (tgt := 66) (zw_dg dk_M_middle 68 rfl) (by decide) ?_
            have jj := hP _ (Option.some.inj hsem).symm
            exact (r_fgt [] rfl jj)
        have hsem := hsl22
        obtain ⟨⟨best28, least29, n30⟩, ht146, hs146⟩ := zw_bd hsem
        refine zw_jn (J := 146) (L2 := [some (.ref 71), some (.int t1), some (.int a2), some (.int b3), some (.int best28), some (.int least29), some (.int n30), some (.int r12), some (.int v21), none]) (c2 := c4) (fun jj => ?_) ?_
        · have hsem := ht146
          refine zw_cnd (P := ((best9 = (-1)) ∨ (v21 < least10))) (J1 := 135) (J2 := 146) (st2 := []) (fun jT jF => ?_) (fun p31 => ?_) (fun p31 => ?_)
          · --
            refine r_iload X (pc := 122) (i := 4) (zw_dg dk_M_middle 69 rfl) rfl ?_
            refine r_iconst X (pc := 124) (v := (-1)) (zw_dg dk_M_middle 70 rfl) (by decide) ?_
            refine r_icmp_eq X (pc := 125) (tgt := 135) (zw_dg dk_M_middle 71 rfl) (by decide) (fun q32 => ?_) (fun q32 => ?_)
            · --
              exact jT (Or.inl q32)
            · --
              refine r_iload X (pc := 128) (i := 8) (zw_dg dk_M_middle 72 rfl) rfl ?_
              refine r_iload X (pc := 130) (i := 5) (zw_dg dk_M_middle 73 rfl) rfl ?_
              refine r_icmp_ge X (pc := 132) (tgt := 146) (zw_dg dk_M_middle 74 rfl) (by decide) (fun q33 => ?_) (fun q33 => ?_)
              · --
                exact jF (fun q => q.elim q32 (Int32.not_lt.mpr q33))
              · --
                exact jT (Or.inr (Int32.not_le.mp q33))
          · --
            have hsem := zw_ifp p31 hsem
            refine r_iload X (pc := 135) (i := 7) (zw_dg dk_M_middle 75 rfl) rfl ?_
            refine r_istore X (pc := 137) (i := 4) (zw_dg dk_M_middle 76 rfl) (by decide) rfl ?_
            refine r_iload X (pc := 139) (i := 8) (zw_dg dk_M_middle 77 rfl) rfl ?_
            refine r_istore X (pc := 141) (i := 5) (zw_dg dk_M_middle 78 rfl) (by decide) rfl ?_
            refine r_iconst X (pc := 143) (v := 0) (zw_dg dk_M_middle 79 rfl) (by decide) ?_
            refine r_istore X (pc := 144) (i := 6) (zw_dg dk_M_middle 80 rfl) (by decide) rfl ?_
            obtain ⟨rfl, rfl, rfl⟩ := zw_in3 hsem
            exact (r_fgt [] rfl jj)
          · --
            have hsem := zw_ifn p31 hsem
            obtain ⟨rfl, rfl, rfl⟩ := zw_in3 hsem
            exact (r_fgt [] rfl jj)
        have hsem := hs146
        refine r_iload X (pc := 146) (i := 6) (zw_dg dk_M_middle 81 rfl) rfl ?_
        refine zw_ter (P := (v21 = least29)) (f := Value.int) (x := 1) (y := 0) (J := 160) (st2 := [.int n30]) (fun jT jF => ?_) ?_
        · --
          refine r_iload X (pc := 148) (i := 8) (zw_dg dk_M_middle 82 rfl) rfl ?_
          refine r_iload X (pc := 150) (i := 5) (zw_dg dk_M_middle 83 rfl) rfl ?_
          refine r_icmp_ne X (pc := 152) (tgt := 159) (zw_dg dk_M_middle 84 rfl) (by decide) (fun q34 => ?_) (fun q34 => ?_)
          · --
            refine r_iconst X (pc := 159) (v := 0) (zw_dg dk_M_middle 87 rfl) (by decide) ?_
            exact jF q34
          · --
            refine r_iconst X (pc := 155) (v := 1) (zw_dg dk_M_middle 85 rfl) (by decide) ?_
            refine r_goto X (pc := 156) (tgt := 160) (zw_dg dk_M_middle 86 rfl) (by decide) ?_
            exact jT q34
        refine r_iadd X (pc := 160) (zw_dg dk_M_middle 88 rfl)  ?_
        obtain ⟨n35, hn35, hsem⟩ := zw_bd hsem
        refine zw_topI hn35 ?_
        refine r_istore X (pc := 161) (i := 6) (zw_dg dk_M_middle 89 rfl) (by decide) rfl ?_
        refine r_iinc X (pc := 163) (i := 7) (k := 1) (zw_dg dk_M_middle 90 rfl) rfl (by decide) (by decide) rfl ?_
        refine r_goto X (pc := 166) (tgt := 51) (zw_dg dk_M_middle 91 rfl) (by decide) ?_
        have jj := hP _ (Option.some.inj hsem).symm
        exact (r_fgt [8] rfl jj)
    obtain ⟨best13, least14, n15⟩ := l16
    have hsem := hsl16
    refine r_aload_n X (pc := 169) (i := 0) (zw_dg dk_M_middle 92 rfl) rfl rfl ?_
    refine r_iconst X (pc := 170) (v := 0) (zw_dg dk_M_middle 93 rfl) (by decide) ?_
    refine r_putI X (pc := 171) ci_M (zo hS 71 rfl rfl) rfl lk_M_100 rfl ⟨rfl, rfl⟩ (zw_dg dk_M_middle 94 rfl) ?_
    obtain ⟨c36, hc36, hsem⟩ := zw_bd hsem
    refine zw_topC hc36 ?_
    refine r_aload_n X (pc := 174) (i := 0) (zw_dg dk_M_middle 95 rfl) rfl rfl ?_
    refine r_iload X (pc := 175) (i := 5) (zw_dg dk_M_middle 96 rfl) rfl ?_
    refine r_i2l X (pc := 177) (zw_dg dk_M_middle 97 rfl)  ?_
    obtain ⟨c37, hc37, hsem⟩ := zw_bd hsem
    refine r_callVv X (pc := 178) (As := [_]) (st := []) (km_M_tell hS hc37) ce_M_tell kw_1704 (zo hS 71 rfl rfl) rfl rfl ⟨Nat.le_of_ble_eq_true rfl, Nat.le_of_ble_eq_true rfl⟩ (Nat.le_of_ble_eq_true rfl) (zw_dg dk_M_middle 98 rfl) ?_
    refine r_aload_n X (pc := 181) (i := 0) (zw_dg dk_M_middle 99 rfl) rfl rfl ?_
    refine r_iload X (pc := 182) (i := 6) (zw_dg dk_M_middle 100 rfl) rfl ?_
    refine r_i2l X (pc := 184) (zw_dg dk_M_middle 101 rfl)  ?_
    obtain ⟨c38, hc38, hsem⟩ := zw_bd hsem
    refine r_callVv X (pc := 185) (As := [_]) (st := []) (km_M_tell hS hc38) ce_M_tell kw_1704 (zo hS 71 rfl rfl) rfl rfl ⟨Nat.le_of_ble_eq_true rfl, Nat.le_of_ble_eq_true rfl⟩ (Nat.le_of_ble_eq_true rfl) (zw_dg dk_M_middle 102 rfl) ?_
    refine r_iload X (pc := 188) (i := 4) (zw_dg dk_M_middle 103 rfl) rfl ?_
    obtain ⟨rfl, rfl⟩ := zw_in2 hsem
    exact r_iret X (pc := 190) rfl (zw_dg dk_M_middle 104 rfl)
