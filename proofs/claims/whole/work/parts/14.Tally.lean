/-! PaidForThinking$Tally: names, functions, contracts (by program: wip/whole/gen) -/
def y_Tally_topBut : MethodName := ⟨R_Tally, "topBut", "(I)I"⟩
abbrev b_Tally_topBut : ByteArray := prog_11_method_3_code
def dl_Tally_topBut : List (Nat × Instr × Nat) := [(0, .iload_n 1, 1), (1, .ifCond .ne 7, 3), (4, .iconst 1, 1), (5, .goto 4, 3), (8, .iconst 0, 1), (9, .istore_n 2, 1), (10, .iload_n 2, 1), (11, .iconst 1, 1), (12, .iadd, 1), (13, .istore_n 3, 1), (14, .iload_n 3, 1), (15, .aload_n 0, 1), (16, .getfield 15, 3), (19, .getfield 23, 3), (22, .if_icmp .ge 32, 3), (25, .iload_n 3, 1), (26, .iload_n 1, 1), (27, .if_icmp .eq 21, 3), (30, .aload_n 0, 1), (31, .getfield 9, 3), (34, .iload_n 3, 1), (35, .laload, 1), (36, .aload_n 0, 1), (37, .getfield 9, 3), (40, .iload_n 2, 1), (41, .laload, 1), (42, .lcmp, 1), (43, .ifCond .le 5, 3), (46, .iload_n 3, 1), (47, .istore_n 2, 1), (48, .iinc 3 1, 3), (51, .goto (-37), 3), (54, .iload_n 2, 1), (55, .ireturn, 1)]
theorem dk_Tally_topBut : zw_dk b_Tally_topBut dl_Tally_topBut = true := by decide +kernel
theorem ce_Tally_topBut : zw_cev y_Tally_topBut b_Tally_topBut 4 (some .int) 1 := ⟨⟨kt_in 812 (by decide +kernel) rfl, kt_in 89 (by decide +kernel) rfl, by decide +kernel⟩, kt_in 810 (by decide +kernel) rfl, kt_in 811 (by decide +kernel) rfl⟩
def fn_Tally_topBut_l1 (c : zw_Ct) (saying1 : Int32) : Int32 × Int32 → Option ((Int32) ⊕ (Int32 × Int32)) := fun (top5, s6) =>
  if (s6 < (c.1 1 2)) then
  (((if (¬ s6 = saying1) then
  ((zw_aL 455 c 12 s6).bind fun x14 =>
  (zw_aL 455 c 12 top5).bind fun x15 =>
  some (decide (x15 < x14)))
  else some false).bind fun b12 =>
  if b12 = true then
  (some (s6 : Int32))
  else
  (some (top5 : Int32))).bind fun top11 =>
  some (.inr (top11, (s6 + 1))))
  else
  (some (.inl top5))
def fn_Tally_topBut (c : zw_Ct) (saying1 : Int32) : Option Int32 :=
  (some ((if (saying1 = 0) then (1 : Int32) else 0) : Int32)).bind fun top3 =>
  (some ((top3 + 1) : Int32)).bind fun s4 =>
  (zw_whl (fn_Tally_topBut_l1 c saying1) zw_F (top3, s4)).bind fun top7 =>
  some top7
set_option maxRecDepth 100000 in
theorem km_Tally_topBut {l : Launch} {g : zw_G} {rr : zw_RR} {sh : zw_Sh} {c : zw_Ct} {saying1 : Int32} {r : Int32} (hS : zw_Ok 0 101 sh rr) (hsem : fn_Tally_topBut c saying1 = some r) : zw_Met l g y_Tally_topBut b_Tally_topBut 4 (some .int) 1 rr sh [.ref 11, .int saying1] c (some (.int r)) c := by
  unfold fn_Tally_topBut at hsem
  refine zw_Met.of (by decide +kernel) (Nat.le_of_ble_eq_true rfl) (fun p e s m args below meth cd X => ?_)
  refine zw_eL (L2 := [some (.ref 11), some (.int saying1), none, none]) rfl ?_
  refine zw_ter (P := (saying1 = 0)) (f := Value.int) (x := 1) (y := 0) (J := 9) (st2 := []) (fun jT jF => ?_) ?_
  · --
    refine r_iload_n X (pc := 0) (i := 1) (zw_dg dk_Tally_topBut 0 rfl) rfl rfl ?_
    refine r_if_ne X (pc := 1) (tgt := 8) (zw_dg dk_Tally_topBut 1 rfl) (by decide) (fun q2 => ?_) (fun q2 => ?_)
    · --
      refine r_iconst X (pc := 8) (v := 0) (zw_dg dk_Tally_topBut 4 rfl) (by decide) ?_
      exact jF q2
    · --
      refine r_iconst X (pc := 4) (v := 1) (zw_dg dk_Tally_topBut 2 rfl) (by decide) ?_
      refine r_goto X (pc := 5) (tgt := 9) (zw_dg dk_Tally_topBut 3 rfl) (by decide) ?_
      exact jT q2
  obtain ⟨top3, htop3, hsem⟩ := zw_bd hsem
  refine zw_topI htop3 ?_
  refine r_istore_n X (pc := 9) (i := 2) (zw_dg dk_Tally_topBut 5 rfl) rfl (by decide) rfl ?_
  refine r_iload_n X (pc := 10) (i := 2) (zw_dg dk_Tally_topBut 6 rfl) rfl rfl ?_
  refine r_iconst X (pc := 11) (v := 1) (zw_dg dk_Tally_topBut 7 rfl) (by decide) ?_
  refine r_iadd X (pc := 12) (zw_dg dk_Tally_topBut 8 rfl)  ?_
  obtain ⟨s4, hs4, hsem⟩ := zw_bd hsem
  refine zw_topI hs4 ?_
  refine r_istore_n X (pc := 13) (i := 3) (zw_dg dk_Tally_topBut 9 rfl) rfl (by decide) rfl ?_
  obtain ⟨top7, hl8, hsl8⟩ := zw_bd hsem
  refine r_loop (pc := 14) (pce := 54) hl8 (fun (top5, s6) => [some (.ref 11), some (.int saying1), some (.int top5), some (.int s6)] : Int32 × Int32 → zw_Lc) (fun (top5, s6) => c : Int32 × Int32 → zw_Ct) (fun top7 => [some (.ref 11), some (.int saying1), some (.int top7), none] : Int32 → zw_Lc) (fun top7 => c : Int32 → zw_Ct) ?_ rfl rfl ?_
  · rintro ⟨top5, s6⟩ rr hsem hK hP
    try unfold fn_Tally_topBut_l1 at hsem
    refine r_iload_n X (pc := 14) (i := 3) (zw_dg dk_Tally_topBut 10 rfl) rfl rfl ?_
    refine r_aload_n X (pc := 15) (i := 0) (zw_dg dk_Tally_topBut 11 rfl) rfl rfl ?_
    refine r_getR X (pc := 16) (r := 1) ci_Tally (zo hS 11 rfl rfl) rfl (zr hS 11 0 rfl rfl) lk_Tally_15 (zw_dg dk_Tally_topBut 12 rfl) ?_
    refine r_getI X (pc := 19) ci_Sayings (zo hS 1 rfl rfl) rfl lk_Tally_23 (zw_dg dk_Tally_topBut 13 rfl) ?_
    refine r_icmp_ge X (pc := 22) (tgt := 54) (zw_dg dk_Tally_topBut 14 rfl) (by decide) (fun q10 => ?_) (fun q10 => ?_)
    · --
      have p9 : ¬ (s6 < (c.1 1 2)) := (Int32.not_lt.mpr q10)
      have hsem := zw_ifn p9 hsem
      have jj := hK _ (Option.some.inj hsem).symm
      exact (r_fgt [3] rfl jj)
    · --
      have p9 : (s6 < (c.1 1 2)) := (Int32.not_le.mp q10)
      have hsem := zw_ifp p9 hsem
      obtain ⟨top11, ht48, hs48⟩ := zw_bd hsem
      refine zw_jn (J := 48) (L2 := [some (.ref 11), some (.int saying1), some (.int top11), some (.int s6)]) (c2 := c) (fun jj => ?_) ?_
      · have hsem := ht48
        obtain ⟨b12, hb12, hsb12⟩ := zw_bd hsem
        refine zw_cndB (b := b12) (J1 := 46) (J2 := 48) (st2 := []) (fun jT jF => ?_) (fun hbb12 => ?_) (fun hbb12 => ?_)
        · have hsem := hb12
          refine r_iload_n X (pc := 25) (i := 3) (zw_dg dk_Tally_topBut 15 rfl) rfl rfl ?_
          refine r_iload_n X (pc := 26) (i := 1) (zw_dg dk_Tally_topBut 16 rfl) rfl rfl ?_
          refine r_icmp_eq X (pc := 27) (tgt := 48) (zw_dg dk_Tally_topBut 17 rfl) (by decide) (fun q13 => ?_) (fun q13 => ?_)
          · --
            have hsem := zw_ifn (fun z => z q13) hsem
            exact jF (Option.some.inj hsem).symm
          · --
            have hsem := zw_ifp q13 hsem
            refine r_aload_n X (pc := 30) (i := 0) (zw_dg dk_Tally_topBut 18 rfl) rfl rfl ?_
            refine r_getR X (pc := 31) (r := 12) ci_Tally (zo hS 11 rfl rfl) rfl (zr hS 11 1 rfl rfl) lk_Tally_9 (zw_dg dk_Tally_topBut 19 rfl) ?_
            refine r_iload_n X (pc := 34) (i := 3) (zw_dg dk_Tally_topBut 20 rfl) rfl rfl ?_
            obtain ⟨x14, hx14, hsem⟩ := zw_bd hsem
            refine r_lald X (pc := 35) (zo hS 12 rfl rfl) hx14 (zw_dg dk_Tally_topBut 21 rfl) ?_
            refine r_aload_n X (pc := 36) (i := 0) (zw_dg dk_Tally_topBut 22 rfl) rfl rfl ?_
            refine r_getR X (pc := 37) (r := 12) ci_Tally (zo hS 11 rfl rfl) rfl (zr hS 11 1 rfl rfl) lk_Tally_9 (zw_dg dk_Tally_topBut 23 rfl) ?_
            refine r_iload_n X (pc := 40) (i := 2) (zw_dg dk_Tally_topBut 24 rfl) rfl rfl ?_
            obtain ⟨x15, hx15, hsem⟩ := zw_bd hsem
            refine r_lald X (pc := 41) (zo hS 12 rfl rfl) hx15 (zw_dg dk_Tally_topBut 25 rfl) ?_
            refine r_lcmp_le X (pc := 42) (tgt := 48) (zw_dg dk_Tally_topBut 26 rfl) (zw_dg dk_Tally_topBut 27 rfl) (by decide) (fun q16 => ?_) (fun q16 => ?_)
            · --
              exact jF (zw_dF hsem (Int64.not_lt.mpr q16))
            · --
              exact jT (zw_dT hsem (Int64.not_le.mp q16))
        · have hsem := zw_ifp hbb12 hsb12
          refine r_iload_n X (pc := 46) (i := 3) (zw_dg dk_Tally_topBut 28 rfl) rfl rfl ?_
          refine r_istore_n X (pc := 47) (i := 2) (zw_dg dk_Tally_topBut 29 rfl) rfl (by decide) rfl ?_
          cases hsem
          exact (r_fgt [] rfl jj)
        · have hsem := zw_ifn (by rw [hbb12]; exact Bool.false_ne_true) hsb12
          cases hsem
          exact (r_fgt [] rfl jj)
      have hsem := hs48
      refine r_iinc X (pc := 48) (i := 3) (k := 1) (zw_dg dk_Tally_topBut 30 rfl) rfl (by decide) (by decide) rfl ?_
      refine r_goto X (pc := 51) (tgt := 14) (zw_dg dk_Tally_topBut 31 rfl) (by decide) ?_
      have jj := hP _ (Option.some.inj hsem).symm
      exact (r_fgt [] rfl jj)
  have hsem := hsl8
  refine r_iload_n X (pc := 54) (i := 2) (zw_dg dk_Tally_topBut 32 rfl) rfl rfl ?_
  cases hsem
  exact r_iret X (pc := 55) rfl (zw_dg dk_Tally_topBut 33 rfl)
def y_Tally_top : MethodName := ⟨R_Tally, "top", "()I"⟩
abbrev b_Tally_top : ByteArray := prog_11_method_2_code
def dl_Tally_top : List (Nat × Instr × Nat) := [(0, .aload_n 0, 1), (1, .iconst (-1), 1), (2, .invokevirtual 19, 3), (5, .ireturn, 1)]
theorem dk_Tally_top : zw_dk b_Tally_top dl_Tally_top = true := by decide +kernel
theorem ce_Tally_top : zw_cev y_Tally_top b_Tally_top 1 (some .int) 0 := ⟨⟨kt_in 808 (by decide +kernel) rfl, kt_in 89 (by decide +kernel) rfl, by decide +kernel⟩, kt_in 806 (by decide +kernel) rfl, kt_in 807 (by decide +kernel) rfl⟩
def fn_Tally_top (c : zw_Ct) : Option Int32 :=
  (fn_Tally_topBut c (-1)).bind fun r1 =>
  some r1
set_option maxRecDepth 100000 in
theorem km_Tally_top {l : Launch} {g : zw_G} {rr : zw_RR} {sh : zw_Sh} {c : zw_Ct} {r : Int32} (hS : zw_Ok 0 101 sh rr) (hsem : fn_Tally_top c = some r) : zw_Met l g y_Tally_top b_Tally_top 1 (some .int) 2 rr sh [.ref 11] c (some (.int r)) c := by
  unfold fn_Tally_top at hsem
  refine zw_Met.of (by decide +kernel) (Nat.le_of_ble_eq_true rfl) (fun p e s m args below meth cd X => ?_)
  refine zw_eL (L2 := [some (.ref 11)]) rfl ?_
  refine r_aload_n X (pc := 0) (i := 0) (zw_dg dk_Tally_top 0 rfl) rfl rfl ?_
  refine r_iconst X (pc := 1) (v := (-1)) (zw_dg dk_Tally_top 1 rfl) (by decide) ?_
  obtain ⟨r1, hr1, hsem⟩ := zw_bd hsem
  refine r_callVi X (pc := 2) (As := [_]) (st := []) (km_Tally_topBut hS hr1) ce_Tally_topBut kw_809 (zo hS 11 rfl rfl) rfl rfl ⟨Nat.le_of_ble_eq_true rfl, Nat.le_of_ble_eq_true rfl⟩ (Nat.le_of_ble_eq_true rfl) (zw_dg dk_Tally_top 2 rfl) ?_
  cases hsem
  exact r_iret X (pc := 5) rfl (zw_dg dk_Tally_top 3 rfl)
def y_Tally_greatest : MethodName := ⟨R_Tally, "greatest", "()J"⟩
abbrev b_Tally_greatest : ByteArray := prog_11_method_4_code
def dl_Tally_greatest : List (Nat × Instr × Nat) := [(0, .aload_n 0, 1), (1, .getfield 9, 3), (4, .aload_n 0, 1), (5, .invokevirtual 29, 3), (8, .laload, 1), (9, .lreturn, 1)]
theorem dk_Tally_greatest : zw_dk b_Tally_greatest dl_Tally_greatest = true := by decide +kernel
theorem ce_Tally_greatest : zw_cev y_Tally_greatest b_Tally_greatest 1 (some .long) 0 := ⟨⟨kt_in 804 (by decide +kernel) rfl, kt_in 89 (by decide +kernel) rfl, by decide +kernel⟩, kt_in 802 (by decide +kernel) rfl, kt_in 803 (by decide +kernel) rfl⟩
def fn_Tally_greatest (c : zw_Ct) : Option Int64 :=
  (fn_Tally_top c).bind fun r1 =>
  (zw_aL 455 c 12 r1).bind fun x2 =>
  some x2
set_option maxRecDepth 100000 in
theorem km_Tally_greatest {l : Launch} {g : zw_G} {rr : zw_RR} {sh : zw_Sh} {c : zw_Ct} {r : Int64} (hS : zw_Ok 0 101 sh rr) (hsem : fn_Tally_greatest c = some r) : zw_Met l g y_Tally_greatest b_Tally_greatest 1 (some .long) 3 rr sh [.ref 11] c (some (.long r)) c := by
  unfold fn_Tally_greatest at hsem
  refine zw_Met.of (by decide +kernel) (Nat.le_of_ble_eq_true rfl) (fun p e s m args below meth cd X => ?_)
  refine zw_eL (L2 := [some (.ref 11)]) rfl ?_
  refine r_aload_n X (pc := 0) (i := 0) (zw_dg dk_Tally_greatest 0 rfl) rfl rfl ?_
  refine r_getR X (pc := 1) (r := 12) ci_Tally (zo hS 11 rfl rfl) rfl (zr hS 11 1 rfl rfl) lk_Tally_9 (zw_dg dk_Tally_greatest 1 rfl) ?_
  refine r_aload_n X (pc := 4) (i := 0) (zw_dg dk_Tally_greatest 2 rfl) rfl rfl ?_
  obtain ⟨r1, hr1, hsem⟩ := zw_bd hsem
  refine r_callVi X (pc := 5) (As := []) (st := [.ref 12]) (km_Tally_top hS hr1) ce_Tally_top kw_805 (zo hS 11 rfl rfl) rfl rfl ⟨Nat.le_of_ble_eq_true rfl, Nat.le_of_ble_eq_true rfl⟩ (Nat.le_of_ble_eq_true rfl) (zw_dg dk_Tally_greatest 3 rfl) ?_
  obtain ⟨x2, hx2, hsem⟩ := zw_bd hsem
  refine r_lald X (pc := 8) (zo hS 12 rfl rfl) hx2 (zw_dg dk_Tally_greatest 4 rfl) ?_
  cases hsem
  exact r_lret X (pc := 9) rfl (zw_dg dk_Tally_greatest 5 rfl)
def y_Tally_howMany : MethodName := ⟨R_Tally, "howMany", "(J)I"⟩
abbrev b_Tally_howMany : ByteArray := prog_11_method_5_code
def dl_Tally_howMany : List (Nat × Instr × Nat) := [(0, .iconst 0, 1), (1, .istore_n 3, 1), (2, .iconst 0, 1), (3, .istore 4, 2), (5, .iload 4, 2), (7, .aload_n 0, 1), (8, .getfield 15, 3), (11, .getfield 23, 3), (14, .if_icmp .ge 29, 3), (17, .iload_n 3, 1), (18, .aload_n 0, 1), (19, .getfield 9, 3), (22, .iload 4, 2), (24, .laload, 1), (25, .lload_n 1, 1), (26, .lcmp, 1), (27, .ifCond .ne 7, 3), (30, .iconst 1, 1), (31, .goto 4, 3), (34, .iconst 0, 1), (35, .iadd, 1), (36, .istore_n 3, 1), (37, .iinc 4 1, 3), (40, .goto (-35), 3), (43, .iload_n 3, 1), (44, .ireturn, 1)]
theorem dk_Tally_howMany : zw_dk b_Tally_howMany dl_Tally_howMany = true := by decide +kernel
theorem ce_Tally_howMany : zw_cev y_Tally_howMany b_Tally_howMany 5 (some .int) 1 := ⟨⟨kt_in 818 (by decide +kernel) rfl, kt_in 89 (by decide +kernel) rfl, by decide +kernel⟩, kt_in 816 (by decide +kernel) rfl, kt_in 817 (by decide +kernel) rfl⟩
def fn_Tally_howMany_l1 (c : zw_Ct) (number1 : Int64) : Int32 × Int32 → Option ((Int32) ⊕ (Int32 × Int32)) := fun (many2, s3) =>
  if (s3 < (c.1 1 2)) then
  ((zw_aL 455 c 12 s3).bind fun x8 =>
  (some ((many2 + (if (x8 = number1) then (1 : Int32) else 0)) : Int32)).bind fun many10 =>
  some (.inr (many10, (s3 + 1))))
  else
  (some (.inl many2))
def fn_Tally_howMany (c : zw_Ct) (number1 : Int64) : Option Int32 :=
  (zw_whl (fn_Tally_howMany_l1 c number1) zw_F (0, 0)).bind fun many4 =>
  some many4
set_option maxRecDepth 100000 in
theorem km_Tally_howMany {l : Launch} {g : zw_G} {rr : zw_RR} {sh : zw_Sh} {c : zw_Ct} {number1 : Int64} {r : Int32} (hS : zw_Ok 0 101 sh rr) (hsem : fn_Tally_howMany c number1 = some r) : zw_Met l g y_Tally_howMany b_Tally_howMany 5 (some .int) 1 rr sh [.ref 11, .long number1] c (some (.int r)) c := by
  unfold fn_Tally_howMany at hsem
  refine zw_Met.of (by decide +kernel) (Nat.le_of_ble_eq_true rfl) (fun p e s m args below meth cd X => ?_)
  refine zw_eL (L2 := [some (.ref 11), some (.long number1), none, none, none]) rfl ?_
  refine r_iconst X (pc := 0) (v := 0) (zw_dg dk_Tally_howMany 0 rfl) (by decide) ?_
  refine r_istore_n X (pc := 1) (i := 3) (zw_dg dk_Tally_howMany 1 rfl) rfl (by decide) rfl ?_
  refine r_iconst X (pc := 2) (v := 0) (zw_dg dk_Tally_howMany 2 rfl) (by decide) ?_
  refine r_istore X (pc := 3) (i := 4) (zw_dg dk_Tally_howMany 3 rfl) (by decide) rfl ?_
  obtain ⟨many4, hl5, hsl5⟩ := zw_bd hsem
  refine r_loop (pc := 5) (pce := 43) hl5 (fun (many2, s3) => [some (.ref 11), some (.long number1), none, some (.int many2), some (.int s3)] : Int32 × Int32 → zw_Lc) (fun (many2, s3) => c : Int32 × Int32 → zw_Ct) (fun many4 => [some (.ref 11), some (.long number1), none, some (.int many4), none] : Int32 → zw_Lc) (fun many4 => c : Int32 → zw_Ct) ?_ rfl rfl ?_
  · rintro ⟨many2, s3⟩ rr hsem hK hP
    try unfold fn_Tally_howMany_l1 at hsem
    refine r_iload X (pc := 5) (i := 4) (zw_dg dk_Tally_howMany 4 rfl) rfl ?_
    refine r_aload_n X (pc := 7) (i := 0) (zw_dg dk_Tally_howMany 5 rfl) rfl rfl ?_
    refine r_getR X (pc := 8) (r := 1) ci_Tally (zo hS 11 rfl rfl) rfl (zr hS 11 0 rfl rfl) lk_Tally_15 (zw_dg dk_Tally_howMany 6 rfl) ?_
    refine r_getI X (pc := 11) ci_Sayings (zo hS 1 rfl rfl) rfl lk_Tally_23 (zw_dg dk_Tally_howMany 7 rfl) ?_
    refine r_icmp_ge X (pc := 14) (tgt := 43) (zw_dg dk_Tally_howMany 8 rfl) (by decide) (fun q7 => ?_) (fun q7 => ?_)
    · --
      have p6 : ¬ (s3 < (c.1 1 2)) := (Int32.not_lt.mpr q7)
      have hsem := zw_ifn p6 hsem
      have jj := hK _ (Option.some.inj hsem).symm
      exact (r_fgt [4] rfl jj)
    · --
      have p6 : (s3 < (c.1 1 2)) := (Int32.not_le.mp q7)
      have hsem := zw_ifp p6 hsem
      refine r_iload_n X (pc := 17) (i := 3) (zw_dg dk_Tally_howMany 9 rfl) rfl rfl ?_
      refine r_aload_n X (pc := 18) (i := 0) (zw_dg dk_Tally_howMany 10 rfl) rfl rfl ?_
      refine r_getR X (pc := 19) (r := 12) ci_Tally (zo hS 11 rfl rfl) rfl (zr hS 11 1 rfl rfl) lk_Tally_9 (zw_dg dk_Tally_howMany 11 rfl) ?_
      refine r_iload X (pc := 22) (i := 4) (zw_dg dk_Tally_howMany 12 rfl) rfl ?_
      obtain ⟨x8, hx8, hsem⟩ := zw_bd hsem
      refine r_lald X (pc := 24) (zo hS 12 rfl rfl) hx8 (zw_dg dk_Tally_howMany 13 rfl) ?_
      refine r_lload_n X (pc := 25) (i := 1) (zw_dg dk_Tally_howMany 14 rfl) rfl rfl ?_
      refine zw_ter (P := (x8 = number1)) (f := Value.int) (x := 1) (y := 0) (J := 35) (st2 := [.int many2]) (fun jT jF => ?_) ?_
      · --
        refine r_lcmp_ne X (pc := 26) (tgt := 34) (zw_dg dk_Tally_howMany 15 rfl) (zw_dg dk_Tally_howMany 16 rfl) (by decide) (fun q9 => ?_) (fun q9 => ?_)
        · --
          refine r_iconst X (pc := 34) (v := 0) (zw_dg dk_Tally_howMany 19 rfl) (by decide) ?_
          exact jF q9
        · --
          refine r_iconst X (pc := 30) (v := 1) (zw_dg dk_Tally_howMany 17 rfl) (by decide) ?_
          refine r_goto X (pc := 31) (tgt := 35) (zw_dg dk_Tally_howMany 18 rfl) (by decide) ?_
          exact jT q9
      refine r_iadd X (pc := 35) (zw_dg dk_Tally_howMany 20 rfl)  ?_
      obtain ⟨many10, hmany10, hsem⟩ := zw_bd hsem
      refine zw_topI hmany10 ?_
      refine r_istore_n X (pc := 36) (i := 3) (zw_dg dk_Tally_howMany 21 rfl) rfl (by decide) rfl ?_
      refine r_iinc X (pc := 37) (i := 4) (k := 1) (zw_dg dk_Tally_howMany 22 rfl) rfl (by decide) (by decide) rfl ?_
      refine r_goto X (pc := 40) (tgt := 5) (zw_dg dk_Tally_howMany 23 rfl) (by decide) ?_
      have jj := hP _ (Option.some.inj hsem).symm
      exact (r_fgt [] rfl jj)
  have hsem := hsl5
  refine r_iload_n X (pc := 43) (i := 3) (zw_dg dk_Tally_howMany 24 rfl) rfl rfl ?_
  cases hsem
  exact r_iret X (pc := 44) rfl (zw_dg dk_Tally_howMany 25 rfl)
def y_Tally_numberAhead : MethodName := ⟨R_Tally, "numberAhead", "(I)I"⟩
abbrev b_Tally_numberAhead : ByteArray := prog_11_method_6_code
def dl_Tally_numberAhead : List (Nat × Instr × Nat) := [(0, .iconst 0, 1), (1, .istore_n 2, 1), (2, .iconst 0, 1), (3, .istore_n 3, 1), (4, .iload_n 3, 1), (5, .aload_n 0, 1), (6, .getfield 15, 3), (9, .getfield 23, 3), (12, .if_icmp .ge 66, 3), (15, .aload_n 0, 1), (16, .getfield 9, 3), (19, .iload_n 3, 1), (20, .laload, 1), (21, .aload_n 0, 1), (22, .getfield 9, 3), (25, .iload_n 1, 1), (26, .laload, 1), (27, .lcmp, 1), (28, .ifCond .gt 24, 3), (31, .aload_n 0, 1), (32, .getfield 9, 3), (35, .iload_n 3, 1), (36, .laload, 1), (37, .aload_n 0, 1), (38, .getfield 9, 3), (41, .iload_n 1, 1), (42, .laload, 1), (43, .lcmp, 1), (44, .ifCond .ne 12, 3), (47, .iload_n 3, 1), (48, .iload_n 1, 1), (49, .if_icmp .ge 7, 3), (52, .iconst 1, 1), (53, .goto 4, 3), (56, .iconst 0, 1), (57, .istore 4, 2), (59, .iload_n 2, 1), (60, .iload 4, 2), (62, .ifCond .eq 7, 3), (65, .iconst 1, 1), (66, .goto 4, 3), (69, .iconst 0, 1), (70, .iadd, 1), (71, .istore_n 2, 1), (72, .iinc 3 1, 3), (75, .goto (-71), 3), (78, .iload_n 2, 1), (79, .ireturn, 1)]
theorem dk_Tally_numberAhead : zw_dk b_Tally_numberAhead dl_Tally_numberAhead = true := by decide +kernel
theorem ce_Tally_numberAhead : zw_cev y_Tally_numberAhead b_Tally_numberAhead 5 (some .int) 1 := ⟨⟨kt_in 939 (by decide +kernel) rfl, kt_in 89 (by decide +kernel) rfl, by decide +kernel⟩, kt_in 937 (by decide +kernel) rfl, kt_in 938 (by decide +kernel) rfl⟩
def fn_Tally_numberAhead_l1 (c : zw_Ct) (saying1 : Int32) : Int32 × Int32 → Option ((Int32) ⊕ (Int32 × Int32)) := fun (ahead2, s3) =>
  if (s3 < (c.1 1 2)) then
  ((zw_aL 455 c 12 s3).bind fun x8 =>
  (zw_aL 455 c 12 saying1).bind fun x9 =>
  (if (x9 < x8) then some true else
  ((zw_aL 455 c 12 s3).bind fun x12 =>
  (zw_aL 455 c 12 saying1).bind fun x13 =>
  some (decide ((x12 = x13) ∧ (s3 < saying1))))).bind fun b10 =>
  (some ((if b10 = true then (1 : Int32) else 0) : Int32)).bind fun before16 =>
  (some ((ahead2 + (if (¬ before16 = 0) then (1 : Int32) else 0)) : Int32)).bind fun ahead18 =>
  some (.inr (ahead18, (s3 + 1))))
  else
  (some (.inl ahead2))
def fn_Tally_numberAhead (c : zw_Ct) (saying1 : Int32) : Option Int32 :=
  (zw_whl (fn_Tally_numberAhead_l1 c saying1) zw_F (0, 0)).bind fun ahead4 =>
  some ahead4
set_option maxRecDepth 100000 in
theorem km_Tally_numberAhead {l : Launch} {g : zw_G} {rr : zw_RR} {sh : zw_Sh} {c : zw_Ct} {saying1 : Int32} {r : Int32} (hS : zw_Ok 0 101 sh rr) (hsem : fn_Tally_numberAhead c saying1 = some r) : zw_Met l g y_Tally_numberAhead b_Tally_numberAhead 5 (some .int) 1 rr sh [.ref 11, .int saying1] c (some (.int r)) c := by
  unfold fn_Tally_numberAhead at hsem
  refine zw_Met.of (by decide +kernel) (Nat.le_of_ble_eq_true rfl) (fun p e s m args below meth cd X => ?_)
  refine zw_eL (L2 := [some (.ref 11), some (.int saying1), none, none, none]) rfl ?_
  refine r_iconst X (pc := 0) (v := 0) (zw_dg dk_Tally_numberAhead 0 rfl) (by decide) ?_
  refine r_istore_n X (pc := 1) (i := 2) (zw_dg dk_Tally_numberAhead 1 rfl) rfl (by decide) rfl ?_
  refine r_iconst X (pc := 2) (v := 0) (zw_dg dk_Tally_numberAhead 2 rfl) (by decide) ?_
  refine r_istore_n X (pc := 3) (i := 3) (zw_dg dk_Tally_numberAhead 3 rfl) rfl (by decide) rfl ?_
  obtain ⟨ahead4, hl5, hsl5⟩ := zw_bd hsem
  refine r_loop (pc := 4) (pce := 78) hl5 (fun (ahead2, s3) => [some (.ref 11), some (.int saying1), some (.int ahead2), some (.int s3), none] : Int32 × Int32 → zw_Lc) (fun (ahead2, s3) => c : Int32 × Int32 → zw_Ct) (fun ahead4 => [some (.ref 11), some (.int saying1), some (.int ahead4), none, none] : Int32 → zw_Lc) (fun ahead4 => c : Int32 → zw_Ct) ?_ rfl rfl ?_
  · rintro ⟨ahead2, s3⟩ rr hsem hK hP
    try unfold fn_Tally_numberAhead_l1 at hsem
    refine r_iload_n X (pc := 4) (i := 3) (zw_dg dk_Tally_numberAhead 4 rfl) rfl rfl ?_
    refine r_aload_n X (pc := 5) (i := 0) (zw_dg dk_Tally_numberAhead 5 rfl) rfl rfl ?_
    refine r_getR X (pc := 6) (r := 1) ci_Tally (zo hS 11 rfl rfl) rfl (zr hS 11 0 rfl rfl) lk_Tally_15 (zw_dg dk_Tally_numberAhead 6 rfl) ?_
    refine r_getI X (pc := 9) ci_Sayings (zo hS 1 rfl rfl) rfl lk_Tally_23 (zw_dg dk_Tally_numberAhead 7 rfl) ?_
    refine r_icmp_ge X (pc := 12) (tgt := 78) (zw_dg dk_Tally_numberAhead 8 rfl) (by decide) (fun q7 => ?_) (fun q7 => ?_)
    · --
      have p6 : ¬ (s3 < (c.1 1 2)) := (Int32.not_lt.mpr q7)
      have hsem := zw_ifn p6 hsem
      have jj := hK _ (Option.some.inj hsem).symm
      exact (r_fgt [3] rfl jj)
    · --
      have p6 : (s3 < (c.1 1 2)) := (Int32.not_le.mp q7)
      have hsem := zw_ifp p6 hsem
      refine r_aload_n X (pc := 15) (i := 0) (zw_dg dk_Tally_numberAhead 9 rfl) rfl rfl ?_
      refine r_getR X (pc := 16) (r := 12) ci_Tally (zo hS 11 rfl rfl) rfl (zr hS 11 1 rfl rfl) lk_Tally_9 (zw_dg dk_Tally_numberAhead 10 rfl) ?_
      refine r_iload_n X (pc := 19) (i := 3) (zw_dg dk_Tally_numberAhead 11 rfl) rfl rfl ?_
      obtain ⟨x8, hx8, hsem⟩ := zw_bd hsem
      refine r_lald X (pc := 20) (zo hS 12 rfl rfl) hx8 (zw_dg dk_Tally_numberAhead 12 rfl) ?_
      refine r_aload_n X (pc := 21) (i := 0) (zw_dg dk_Tally_numberAhead 13 rfl) rfl rfl ?_
      refine r_getR X (pc := 22) (r := 12) ci_Tally (zo hS 11 rfl rfl) rfl (zr hS 11 1 rfl rfl) lk_Tally_9 (zw_dg dk_Tally_numberAhead 14 rfl) ?_
      refine r_iload_n X (pc := 25) (i := 1) (zw_dg dk_Tally_numberAhead 15 rfl) rfl rfl ?_
      obtain ⟨x9, hx9, hsem⟩ := zw_bd hsem
      refine r_lald X (pc := 26) (zo hS 12 rfl rfl) hx9 (zw_dg dk_Tally_numberAhead 16 rfl) ?_
      obtain ⟨b10, hb10, hsb10⟩ := zw_bd hsem
      refine zw_terO (f := Value.int) (v := if b10 = true then 1 else 0) (J := 57) (st2 := []) (c2 := c) (fun jj => ?_) ?_
      · have hsem := hb10
        refine r_lcmp_gt X (pc := 27) (tgt := 52) (zw_dg dk_Tally_numberAhead 17 rfl) (zw_dg dk_Tally_numberAhead 18 rfl) (by decide) (fun q11 => ?_) (fun q11 => ?_)
        · --
          have hsem := zw_ifp q11 hsem
          have hb_ := (Option.some.inj hsem).symm
          refine r_iconst X (pc := 52) (v := 1) (zw_dg dk_Tally_numberAhead 32 rfl) (by decide) ?_
          refine r_goto X (pc := 53) (tgt := 57) (zw_dg dk_Tally_numberAhead 33 rfl) (by decide) ?_
          rw [hb_] at jj; exact jj
        · --
          have hsem := zw_ifn q11 hsem
          refine r_aload_n X (pc := 31) (i := 0) (zw_dg dk_Tally_numberAhead 19 rfl) rfl rfl ?_
          refine r_getR X (pc := 32) (r := 12) ci_Tally (zo hS 11 rfl rfl) rfl (zr hS 11 1 rfl rfl) lk_Tally_9 (zw_dg dk_Tally_numberAhead 20 rfl) ?_
          refine r_iload_n X (pc := 35) (i := 3) (zw_dg dk_Tally_numberAhead 21 rfl) rfl rfl ?_
          obtain ⟨x12, hx12, hsem⟩ := zw_bd hsem
          refine r_lald X (pc := 36) (zo hS 12 rfl rfl) hx12 (zw_dg dk_Tally_numberAhead 22 rfl) ?_
          refine r_aload_n X (pc := 37) (i := 0) (zw_dg dk_Tally_numberAhead 23 rfl) rfl rfl ?_
          refine r_getR X (pc := 38) (r := 12) ci_Tally (zo hS 11 rfl rfl) rfl (zr hS 11 1 rfl rfl) lk_Tally_9 (zw_dg dk_Tally_numberAhead 24 rfl) ?_
          refine r_iload_n X (pc := 41) (i := 1) (zw_dg dk_Tally_numberAhead 25 rfl) rfl rfl ?_
          obtain ⟨x13, hx13, hsem⟩ := zw_bd hsem
          refine r_lald X (pc := 42) (zo hS 12 rfl rfl) hx13 (zw_dg dk_Tally_numberAhead 26 rfl) ?_
          refine r_lcmp_ne X (pc := 43) (tgt := 56) (zw_dg dk_Tally_numberAhead 27 rfl) (zw_dg dk_Tally_numberAhead 28 rfl) (by decide) (fun q14 => ?_) (fun q14 => ?_)
          · --
            have hb_ := (zw_dF hsem (fun q => q14 q.1))
            refine r_iconst X (pc := 56) (v := 0) (zw_dg dk_Tally_numberAhead 34 rfl) (by decide) ?_
            rw [hb_] at jj; exact jj
          · --
            refine r_iload_n X (pc := 47) (i := 3) (zw_dg dk_Tally_numberAhead 29 rfl) rfl rfl ?_
            refine r_iload_n X (pc := 48) (i := 1) (zw_dg dk_Tally_numberAhead 30 rfl) rfl rfl ?_
            refine r_icmp_ge X (pc := 49) (tgt := 56) (zw_dg dk_Tally_numberAhead 31 rfl) (by decide) (fun q15 => ?_) (fun q15 => ?_)
            · --
              have hb_ := (zw_dF hsem (fun q => (Int32.not_lt.mpr q15) q.2))
              refine r_iconst X (pc := 56) (v := 0) (zw_dg dk_Tally_numberAhead 34 rfl) (by decide) ?_
              rw [hb_] at jj; exact jj
            · --
              have hb_ := (zw_dT hsem ⟨q14, (Int32.not_le.mp q15)⟩)
              refine r_iconst X (pc := 52) (v := 1) (zw_dg dk_Tally_numberAhead 32 rfl) (by decide) ?_
              refine r_goto X (pc := 53) (tgt := 57) (zw_dg dk_Tally_numberAhead 33 rfl) (by decide) ?_
              rw [hb_] at jj; exact jj
      have hsem := hsb10
      obtain ⟨before16, hbefore16, hsem⟩ := zw_bd hsem
      refine zw_topI hbefore16 ?_
      refine r_istore X (pc := 57) (i := 4) (zw_dg dk_Tally_numberAhead 35 rfl) (by decide) rfl ?_
      refine r_iload_n X (pc := 59) (i := 2) (zw_dg dk_Tally_numberAhead 36 rfl) rfl rfl ?_
      refine zw_ter (P := (¬ before16 = 0)) (f := Value.int) (x := 1) (y := 0) (J := 70) (st2 := [.int ahead2]) (fun jT jF => ?_) ?_
      · --
        refine r_iload X (pc := 60) (i := 4) (zw_dg dk_Tally_numberAhead 37 rfl) rfl ?_
        refine r_if_eq X (pc := 62) (tgt := 69) (zw_dg dk_Tally_numberAhead 38 rfl) (by decide) (fun q17 => ?_) (fun q17 => ?_)
        · --
          refine r_iconst X (pc := 69) (v := 0) (zw_dg dk_Tally_numberAhead 41 rfl) (by decide) ?_
          exact jF (fun z => z q17)
        · --
          refine r_iconst X (pc := 65) (v := 1) (zw_dg dk_Tally_numberAhead 39 rfl) (by decide) ?_
          refine r_goto X (pc := 66) (tgt := 70) (zw_dg dk_Tally_numberAhead 40 rfl) (by decide) ?_
          exact jT q17
      refine r_iadd X (pc := 70) (zw_dg dk_Tally_numberAhead 42 rfl)  ?_
      obtain ⟨ahead18, hahead18, hsem⟩ := zw_bd hsem
      refine zw_topI hahead18 ?_
      refine r_istore_n X (pc := 71) (i := 2) (zw_dg dk_Tally_numberAhead 43 rfl) rfl (by decide) rfl ?_
      refine r_iinc X (pc := 72) (i := 3) (k := 1) (zw_dg dk_Tally_numberAhead 44 rfl) rfl (by decide) (by decide) rfl ?_
      refine r_goto X (pc := 75) (tgt := 4) (zw_dg dk_Tally_numberAhead 45 rfl) (by decide) ?_
      have jj := hP _ (Option.some.inj hsem).symm
      exact (r_fgt [4] rfl jj)
  have hsem := hsl5
  refine r_iload_n X (pc := 78) (i := 2) (zw_dg dk_Tally_numberAhead 46 rfl) rfl rfl ?_
  cases hsem
  exact r_iret X (pc := 79) rfl (zw_dg dk_Tally_numberAhead 47 rfl)
