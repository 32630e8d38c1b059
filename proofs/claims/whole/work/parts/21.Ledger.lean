/-! PaidForThinking$Ledger: names, functions, contracts (by program: wip/whole/gen) -/
def y_Ledger_eveningsOf : MethodName := ⟨R_Ledger, "eveningsOf", "(I)I"⟩
abbrev b_Ledger_eveningsOf : ByteArray := prog_6_method_2_code
def dl_Ledger_eveningsOf : List (Nat × Instr × Nat) := [(0, .iconst 0, 1), (1, .istore_n 2, 1), (2, .iconst 0, 1), (3, .istore_n 3, 1), (4, .iload_n 3, 1), (5, .aload_n 0, 1), (6, .getfield 19, 3), (9, .getfield 31, 3), (12, .if_icmp .ge 30, 3), (15, .iload_n 2, 1), (16, .aload_n 0, 1), (17, .getfield 19, 3), (20, .getfield 37, 3), (23, .iload_n 3, 1), (24, .iaload, 1), (25, .iload_n 1, 1), (26, .if_icmp .ne 7, 3), (29, .iconst 1, 1), (30, .goto 4, 3), (33, .iconst 0, 1), (34, .iadd, 1), (35, .istore_n 2, 1), (36, .iinc 3 1, 3), (39, .goto (-35), 3), (42, .iload_n 2, 1), (43, .ireturn, 1)]
theorem dk_Ledger_eveningsOf : zw_dk b_Ledger_eveningsOf dl_Ledger_eveningsOf = true := by decide +kernel
theorem ce_Ledger_eveningsOf : zw_cev y_Ledger_eveningsOf b_Ledger_eveningsOf 4 (some .int) 1 := ⟨⟨kt_in 1285 (by decide +kernel) rfl, kt_in 97 (by decide +kernel) rfl, by decide +kernel⟩, kt_in 1284 (by decide +kernel) rfl, kt_in 35 (by decide +kernel) rfl⟩
def fn_Ledger_eveningsOf_l1 (c : zw_Ct) (who1 : Int32) : Int32 × Int32 → Option ((Int32) ⊕ (Int32 × Int32)) := fun (many2, i3) =>
  if (i3 < (c.1 3 6)) then
  ((zw_aI 40 c 6 i3).bind fun x8 =>
  (some ((many2 + (if (x8 = who1) then (1 : Int32) else 0)) : Int32)).bind fun many10 =>
  some (.inr (many10, (i3 + 1))))
  else
  (some (.inl many2))
def fn_Ledger_eveningsOf (c : zw_Ct) (who1 : Int32) : Option Int32 :=
  (zw_whl (fn_Ledger_eveningsOf_l1 c who1) zw_F (0, 0)).bind fun many4 =>
  some many4
set_option maxRecDepth 100000 in
theorem km_Ledger_eveningsOf {l : Launch} {g : zw_G} {rr : zw_RR} {sh : zw_Sh} {c : zw_Ct} {who1 : Int32} {r : Int32} (hS : zw_Ok 0 101 sh rr) (hsem : fn_Ledger_eveningsOf c who1 = some r) : zw_Met l g y_Ledger_eveningsOf b_Ledger_eveningsOf 4 (some .int) 1 rr sh [.ref 69, .int who1] c (some (.int r)) c := by
  unfold fn_Ledger_eveningsOf at hsem
  refine zw_Met.of (by decide +kernel) (Nat.le_of_ble_eq_true rfl) (fun p e s m args below meth cd X => ?_)
  refine zw_eL (L2 := [some (.ref 69), some (.int who1), none, none]) rfl ?_
  refine r_iconst X (pc := 0) (v := 0) (zw_dg dk_Ledger_eveningsOf 0 rfl) (by decide) ?_
  refine r_istore_n X (pc := 1) (i := 2) (zw_dg dk_Ledger_eveningsOf 1 rfl) rfl (by decide) rfl ?_
  refine r_iconst X (pc := 2) (v := 0) (zw_dg dk_Ledger_eveningsOf 2 rfl) (by decide) ?_
  refine r_istore_n X (pc := 3) (i := 3) (zw_dg dk_Ledger_eveningsOf 3 rfl) rfl (by decide) rfl ?_
  obtain ⟨many4, hl5, hsl5⟩ := zw_bd hsem
  refine r_loop (pc := 4) (pce := 42) hl5 (fun (many2, i3) => [some (.ref 69), some (.int who1), some (.int many2), some (.int i3)] : Int32 × Int32 → zw_Lc) (fun (many2, i3) => c : Int32 × Int32 → zw_Ct) (fun many4 => [some (.ref 69), some (.int who1), some (.int many4), none] : Int32 → zw_Lc) (fun many4 => c : Int32 → zw_Ct) ?_ rfl rfl ?_
  · rintro ⟨many2, i3⟩ rr hsem hK hP
    try unfold fn_Ledger_eveningsOf_l1 at hsem
    refine r_iload_n X (pc := 4) (i := 3) (zw_dg dk_Ledger_eveningsOf 4 rfl) rfl rfl ?_
    refine r_aload_n X (pc := 5) (i := 0) (zw_dg dk_Ledger_eveningsOf 5 rfl) rfl rfl ?_
    refine r_getR X (pc := 6) (r := 3) ci_Ledger (zo hS 69 rfl rfl) rfl (zr hS 69 1 rfl rfl) lk_Ledger_19 (zw_dg dk_Ledger_eveningsOf 6 rfl) ?_
    refine r_getI X (pc := 9) ci_Held (zo hS 3 rfl rfl) rfl lk_Ledger_31 (zw_dg dk_Ledger_eveningsOf 7 rfl) ?_
    refine r_icmp_ge X (pc := 12) (tgt := 42) (zw_dg dk_Ledger_eveningsOf 8 rfl) (by decide) (fun q7 => ?_) (fun q7 => ?_)
    · --
      have p6 : ¬ (i3 < (c.1 3 6)) := (Int32.not_lt.mpr q7)
      have hsem := zw_ifn p6 hsem
      have jj := hK _ (Option.some.inj hsem).symm
      exact (r_fgt [3] rfl jj)
    · --
      have p6 : (i3 < (c.1 3 6)) := (Int32.not_le.mp q7)
      have hsem := zw_ifp p6 hsem
      refine r_iload_n X (pc := 15) (i := 2) (zw_dg dk_Ledger_eveningsOf 9 rfl) rfl rfl ?_
      refine r_aload_n X (pc := 16) (i := 0) (zw_dg dk_Ledger_eveningsOf 10 rfl) rfl rfl ?_
      refine r_getR X (pc := 17) (r := 3) ci_Ledger (zo hS 69 rfl rfl) rfl (zr hS 69 1 rfl rfl) lk_Ledger_19 (zw_dg dk_Ledger_eveningsOf 11 rfl) ?_
      refine r_getR X (pc := 20) (r := 6) ci_Held (zo hS 3 rfl rfl) rfl (zr hS 3 3 rfl rfl) lk_Ledger_37 (zw_dg dk_Ledger_eveningsOf 12 rfl) ?_
      refine r_iload_n X (pc := 23) (i := 3) (zw_dg dk_Ledger_eveningsOf 13 rfl) rfl rfl ?_
      obtain ⟨x8, hx8, hsem⟩ := zw_bd hsem
      refine r_iald X (pc := 24) (zo hS 6 rfl rfl) hx8 (zw_dg dk_Ledger_eveningsOf 14 rfl) ?_
      refine r_iload_n X (pc := 25) (i := 1) (zw_dg dk_Ledger_eveningsOf 15 rfl) rfl rfl ?_
      refine zw_ter (P := (x8 = who1)) (f := Value.int) (x := 1) (y := 0) (J := 34) (st2 := [.int many2]) (fun jT jF => ?_) ?_
      · --
        refine r_icmp_ne X (pc := 26) (tgt := 33) (zw_dg dk_Ledger_eveningsOf 16 rfl) (by decide) (fun q9 => ?_) (fun q9 => ?_)
        · --
          refine r_iconst X (pc := 33) (v := 0) (zw_dg dk_Ledger_eveningsOf 19 rfl) (by decide) ?_
          exact jF q9
        · --
          refine r_iconst X (pc := 29) (v := 1) (zw_dg dk_Ledger_eveningsOf 17 rfl) (by decide) ?_
          refine r_goto X (pc := 30) (tgt := 34) (zw_dg dk_Ledger_eveningsOf 18 rfl) (by decide) ?_
          exact jT q9
      refine r_iadd X (pc := 34) (zw_dg dk_Ledger_eveningsOf 20 rfl)  ?_
      obtain ⟨many10, hmany10, hsem⟩ := zw_bd hsem
      refine zw_topI hmany10 ?_
      refine r_istore_n X (pc := 35) (i := 2) (zw_dg dk_Ledger_eveningsOf 21 rfl) rfl (by decide) rfl ?_
      refine r_iinc X (pc := 36) (i := 3) (k := 1) (zw_dg dk_Ledger_eveningsOf 22 rfl) rfl (by decide) (by decide) rfl ?_
      refine r_goto X (pc := 39) (tgt := 4) (zw_dg dk_Ledger_eveningsOf 23 rfl) (by decide) ?_
      have jj := hP _ (Option.some.inj hsem).symm
      exact (r_fgt [] rfl jj)
  have hsem := hsl5
  refine r_iload_n X (pc := 42) (i := 2) (zw_dg dk_Ledger_eveningsOf 24 rfl) rfl rfl ?_
  cases hsem
  exact r_iret X (pc := 43) rfl (zw_dg dk_Ledger_eveningsOf 25 rfl)
def y_Ledger_gotBy : MethodName := ⟨R_Ledger, "gotBy", "([II)J"⟩
abbrev b_Ledger_gotBy : ByteArray := prog_6_method_3_code
def dl_Ledger_gotBy : List (Nat × Instr × Nat) := [(0, .lconst 0, 1), (1, .lstore_n 3, 1), (2, .iconst 0, 1), (3, .istore 5, 2), (5, .iload 5, 2), (7, .aload_n 0, 1), (8, .getfield 19, 3), (11, .getfield 31, 3), (14, .if_icmp .ge 52, 3), (17, .aload_n 0, 1), (18, .getfield 19, 3), (21, .getfield 37, 3), (24, .iload 5, 2), (26, .iaload, 1), (27, .iload_n 2, 1), (28, .if_icmp .ne 32, 3), (31, .lload_n 3, 1), (32, .aload_n 1, 1), (33, .aload_n 0, 1), (34, .getfield 19, 3), (37, .getfield 40, 3), (40, .iload 5, 2), (42, .iaload, 1), (43, .iconst 4, 1), (44, .imul, 1), (45, .aload_n 0, 1), (46, .getfield 19, 3), (49, .getfield 43, 3), (52, .iload 5, 2), (54, .iaload, 1), (55, .iadd, 1), (56, .iaload, 1), (57, .i2l, 1), (58, .ladd, 1), (59, .lstore_n 3, 1), (60, .iinc 5 1, 3), (63, .goto (-58), 3), (66, .lload_n 3, 1), (67, .lreturn, 1)]
theorem dk_Ledger_gotBy : zw_dk b_Ledger_gotBy dl_Ledger_gotBy = true := by decide +kernel
theorem ce_Ledger_gotBy : zw_cev y_Ledger_gotBy b_Ledger_gotBy 6 (some .long) 2 := ⟨⟨kt_in 1280 (by decide +kernel) rfl, kt_in 97 (by decide +kernel) rfl, by decide +kernel⟩, kt_in 1279 (by decide +kernel) rfl, kt_in 34 (by decide +kernel) rfl⟩
def fn_Ledger_gotBy_l1 (c : zw_Ct) (who2 : Int32) (values1 : Nat) : Int64 × Int32 → Option ((Int64) ⊕ (Int64 × Int32)) := fun (sum3, i4) =>
  if (i4 < (c.1 3 6)) then
  ((zw_aI 40 c 6 i4).bind fun x9 =>
  (if (x9 = who2) then
  ((zw_aI 40 c 7 i4).bind fun x13 =>
  (zw_aI 40 c 8 i4).bind fun x14 =>
  (zw_dI SH 0 c values1 ((x13 * 4) + x14)).bind fun x15 =>
  (some ((sum3 + x15.toInt64) : Int64)).bind fun sum16 =>
  some (sum16 : Int64))
  else
  (some (sum3 : Int64))).bind fun sum10 =>
  some (.inr (sum10, (i4 + 1))))
  else
  (some (.inl sum3))
def fn_Ledger_gotBy (c : zw_Ct) (values1 : Nat) (who2 : Int32) : Option Int64 :=
  (zw_whl (fn_Ledger_gotBy_l1 c who2 values1) zw_F (0, 0)).bind fun sum5 =>
  some sum5
set_option maxRecDepth 100000 in
theorem km_Ledger_gotBy {l : Launch} {g : zw_G} {rr : zw_RR} {sh : zw_Sh} {c : zw_Ct} {values1 : Nat} {who2 : Int32} {r : Int64} (hS : zw_Ok 0 101 sh rr) (hsem : fn_Ledger_gotBy c values1 who2 = some r) : zw_Met l g y_Ledger_gotBy b_Ledger_gotBy 6 (some .long) 1 rr sh [.ref 69, .ref values1, .int who2] c (some (.long r)) c := by
  unfold fn_Ledger_gotBy at hsem
  refine zw_Met.of (by decide +kernel) (Nat.le_of_ble_eq_true rfl) (fun p e s m args below meth cd X => ?_)
  refine zw_eL (L2 := [some (.ref 69), some (.ref values1), some (.int who2), none, none, none]) rfl ?_
  refine r_lconst X (pc := 0) (v := 0) (zw_dg dk_Ledger_gotBy 0 rfl) (by decide) ?_
  refine r_lstore_n X (pc := 1) (i := 3) (L2 := [some (.ref 69), some (.ref values1), some (.int who2), some (.long 0), none, none]) (zw_dg dk_Ledger_gotBy 1 rfl) rfl (by decide) rfl ?_
  refine r_iconst X (pc := 2) (v := 0) (zw_dg dk_Ledger_gotBy 2 rfl) (by decide) ?_
  refine r_istore X (pc := 3) (i := 5) (zw_dg dk_Ledger_gotBy 3 rfl) (by decide) rfl ?_
  obtain ⟨sum5, hl6, hsl6⟩ := zw_bd hsem
  refine r_loop (pc := 5) (pce := 66) hl6 (fun (sum3, i4) => [some (.ref 69), some (.ref values1), some (.int who2), some (.long sum3), none, some (.int i4)] : Int64 × Int32 → zw_Lc) (fun (sum3, i4) => c : Int64 × Int32 → zw_Ct) (fun sum5 => [some (.ref 69), some (.ref values1), some (.int who2), some (.long sum5), none, none] : Int64 → zw_Lc) (fun sum5 => c : Int64 → zw_Ct) ?_ rfl rfl ?_
  · rintro ⟨sum3, i4⟩ rr hsem hK hP
    try unfold fn_Ledger_gotBy_l1 at hsem
    refine r_iload X (pc := 5) (i := 5) (zw_dg dk_Ledger_gotBy 4 rfl) rfl ?_
    refine r_aload_n X (pc := 7) (i := 0) (zw_dg dk_Ledger_gotBy 5 rfl) rfl rfl ?_
    refine r_getR X (pc := 8) (r := 3) ci_Ledger (zo hS 69 rfl rfl) rfl (zr hS 69 1 rfl rfl) lk_Ledger_19 (zw_dg dk_Ledger_gotBy 6 rfl) ?_
    refine r_getI X (pc := 11) ci_Held (zo hS 3 rfl rfl) rfl lk_Ledger_31 (zw_dg dk_Ledger_gotBy 7 rfl) ?_
    refine r_icmp_ge X (pc := 14) (tgt := 66) (zw_dg dk_Ledger_gotBy 8 rfl) (by decide) (fun q8 => ?_) (fun q8 => ?_)
    · --
      have p7 : ¬ (i4 < (c.1 3 6)) := (Int32.not_lt.mpr q8)
      have hsem := zw_ifn p7 hsem
      have jj := hK _ (Option.some.inj hsem).symm
      exact (r_fgt [5] rfl jj)
    · --
      have p7 : (i4 < (c.1 3 6)) := (Int32.not_le.mp q8)
      have hsem := zw_ifp p7 hsem
      refine r_aload_n X (pc := 17) (i := 0) (zw_dg dk_Ledger_gotBy 9 rfl) rfl rfl ?_
      refine r_getR X (pc := 18) (r := 3) ci_Ledger (zo hS 69 rfl rfl) rfl (zr hS 69 1 rfl rfl) lk_Ledger_19 (zw_dg dk_Ledger_gotBy 10 rfl) ?_
      refine r_getR X (pc := 21) (r := 6) ci_Held (zo hS 3 rfl rfl) rfl (zr hS 3 3 rfl rfl) lk_Ledger_37 (zw_dg dk_Ledger_gotBy 11 rfl) ?_
      refine r_iload X (pc := 24) (i := 5) (zw_dg dk_Ledger_gotBy 12 rfl) rfl ?_
      obtain ⟨x9, hx9, hsem⟩ := zw_bd hsem
      refine r_iald X (pc := 26) (zo hS 6 rfl rfl) hx9 (zw_dg dk_Ledger_gotBy 13 rfl) ?_
      refine r_iload_n X (pc := 27) (i := 2) (zw_dg dk_Ledger_gotBy 14 rfl) rfl rfl ?_
      obtain ⟨sum10, ht60, hs60⟩ := zw_bd hsem
      refine zw_jn (J := 60) (L2 := [some (.ref 69), some (.ref values1), some (.int who2), some (.long sum10), none, some (.int i4)]) (c2 := c) (fun jj => ?_) ?_
      · have hsem := ht60
        refine r_icmp_ne X (pc := 28) (tgt := 60) (zw_dg dk_Ledger_gotBy 15 rfl) (by decide) (fun q12 => ?_) (fun q12 => ?_)
        · --
          have p11 : ¬ (x9 = who2) := q12
          have hsem := zw_ifn p11 hsem
          cases hsem
          exact (r_fgt [] rfl jj)
        · --
          have p11 : (x9 = who2) := q12
          have hsem := zw_ifp p11 hsem
          refine r_lload_n X (pc := 31) (i := 3) (zw_dg dk_Ledger_gotBy 16 rfl) rfl rfl ?_
          refine r_aload_n X (pc := 32) (i := 1) (zw_dg dk_Ledger_gotBy 17 rfl) rfl rfl ?_
          refine r_aload_n X (pc := 33) (i := 0) (zw_dg dk_Ledger_gotBy 18 rfl) rfl rfl ?_
          refine r_getR X (pc := 34) (r := 3) ci_Ledger (zo hS 69 rfl rfl) rfl (zr hS 69 1 rfl rfl) lk_Ledger_19 (zw_dg dk_Ledger_gotBy 19 rfl) ?_
          refine r_getR X (pc := 37) (r := 7) ci_Held (zo hS 3 rfl rfl) rfl (zr hS 3 4 rfl rfl) lk_Ledger_40 (zw_dg dk_Ledger_gotBy 20 rfl) ?_
          refine r_iload X (pc := 40) (i := 5) (zw_dg dk_Ledger_gotBy 21 rfl) rfl ?_
          obtain ⟨x13, hx13, hsem⟩ := zw_bd hsem
          refine r_iald X (pc := 42) (zo hS 7 rfl rfl) hx13 (zw_dg dk_Ledger_gotBy 22 rfl) ?_
          refine r_iconst X (pc := 43) (v := 4) (zw_dg dk_Ledger_gotBy 23 rfl) (by decide) ?_
          refine r_imul X (pc := 44) (zw_dg dk_Ledger_gotBy 24 rfl)  ?_
          refine r_aload_n X (pc := 45) (i := 0) (zw_dg dk_Ledger_gotBy 25 rfl) rfl rfl ?_
          refine r_getR X (pc := 46) (r := 3) ci_Ledger (zo hS 69 rfl rfl) rfl (zr hS 69 1 rfl rfl) lk_Ledger_19 (zw_dg dk_Ledger_gotBy 26 rfl) ?_
          refine r_getR X (pc := 49) (r := 8) ci_Held (zo hS 3 rfl rfl) rfl (zr hS 3 5 rfl rfl) lk_Ledger_43 (zw_dg dk_Ledger_gotBy 27 rfl) ?_
          refine r_iload X (pc := 52) (i := 5) (zw_dg dk_Ledger_gotBy 28 rfl) rfl ?_
          obtain ⟨x14, hx14, hsem⟩ := zw_bd hsem
          refine r_iald X (pc := 54) (zo hS 8 rfl rfl) hx14 (zw_dg dk_Ledger_gotBy 29 rfl) ?_
          refine r_iadd X (pc := 55) (zw_dg dk_Ledger_gotBy 30 rfl)  ?_
          obtain ⟨x15, hx15, hsem⟩ := zw_bd hsem
          obtain ⟨_, hnx15, hx15⟩ := zw_bd hx15
          refine r_iald X (pc := 56) (zd hS (zw_len_of hnx15)) hx15 (zw_dg dk_Ledger_gotBy 31 rfl) ?_
          refine r_i2l X (pc := 57) (zw_dg dk_Ledger_gotBy 32 rfl)  ?_
          refine r_ladd X (pc := 58) (zw_dg dk_Ledger_gotBy 33 rfl)  ?_
          obtain ⟨sum16, hsum16, hsem⟩ := zw_bd hsem
          refine zw_topJ hsum16 ?_
          refine r_lstore_n X (pc := 59) (i := 3) (L2 := [some (.ref 69), some (.ref values1), some (.int who2), some (.long sum16), none, some (.int i4)]) (zw_dg dk_Ledger_gotBy 34 rfl) rfl (by decide) rfl ?_
          cases hsem
          exact (r_fgt [] rfl jj)
      have hsem := hs60
      refine r_iinc X (pc := 60) (i := 5) (k := 1) (zw_dg dk_Ledger_gotBy 35 rfl) rfl (by decide) (by decide) rfl ?_
      refine r_goto X (pc := 63) (tgt := 5) (zw_dg dk_Ledger_gotBy 36 rfl) (by decide) ?_
      have jj := hP _ (Option.some.inj hsem).symm
      exact (r_fgt [] rfl jj)
  have hsem := hsl6
  refine r_lload_n X (pc := 66) (i := 3) (zw_dg dk_Ledger_gotBy 37 rfl) rfl rfl ?_
  cases hsem
  exact r_lret X (pc := 67) rfl (zw_dg dk_Ledger_gotBy 38 rfl)
def y_Ledger_tellPaid : MethodName := ⟨R_Ledger, "tellPaid", "([IILPaidForThinking$Row;)I"⟩
abbrev b_Ledger_tellPaid : ByteArray := prog_6_method_4_code
def dl_Ledger_tellPaid : List (Nat × Instr × Nat) := [(0, .aload_n 0, 1), (1, .getfield 9, 3), (4, .iconst 0, 1), (5, .invokestatic 46, 3), (8, .iconst 0, 1), (9, .istore 4, 2), (11, .iload 4, 2), (13, .aload_n 0, 1), (14, .getfield 19, 3), (17, .getfield 31, 3), (20, .if_icmp .ge 46, 3), (23, .aload_n 0, 1), (24, .getfield 9, 3), (27, .aload_n 0, 1), (28, .getfield 19, 3), (31, .getfield 43, 3), (34, .iload 4, 2), (36, .iaload, 1), (37, .dup2, 1), (38, .iaload, 1), (39, .aload_n 0, 1), (40, .getfield 19, 3), (43, .getfield 37, 3), (46, .iload 4, 2), (48, .iaload, 1), (49, .iload_n 2, 1), (50, .if_icmp .ne 7, 3), (53, .iconst 1, 1), (54, .goto 4, 3), (57, .iconst 0, 1), (58, .iadd, 1), (59, .iastore, 1), (60, .iinc 4 1, 3), (63, .goto (-52), 3), (66, .aload_n 0, 1), (67, .getfield 27, 3), (70, .aload_n 1, 1), (71, .aload_n 0, 1), (72, .getfield 9, 3), (75, .iconst 0, 1), (76, .invokevirtual 52, 3), (79, .aload_n 0, 1), (80, .getfield 23, 3), (83, .invokevirtual 58, 3), (86, .istore 4, 2), (88, .aload_n 3, 1), (89, .invokevirtual 64, 3), (92, .aload_n 3, 1), (93, .aload_n 0, 1), (94, .aload_n 1, 1), (95, .iload_n 2, 1), (96, .invokevirtual 69, 3), (99, .invokevirtual 73, 3), (102, .aload_n 3, 1), (103, .aload_n 0, 1), (104, .getfield 23, 3), (107, .getfield 77, 3), (110, .iload 4, 2), (112, .laload, 1), (113, .invokevirtual 73, 3), (116, .aload_n 3, 1), (117, .iload 4, 2), (119, .i2l, 1), (120, .invokevirtual 73, 3), (123, .aload_n 0, 1), (124, .iload_n 2, 1), (125, .invokevirtual 81, 3), (128, .ireturn, 1)]
theorem dk_Ledger_tellPaid : zw_dk b_Ledger_tellPaid dl_Ledger_tellPaid = true := by decide +kernel
theorem ce_Ledger_tellPaid : zw_cev y_Ledger_tellPaid b_Ledger_tellPaid 5 (some .int) 3 := ⟨⟨kt_in 1270 (by decide +kernel) rfl, kt_in 97 (by decide +kernel) rfl, by decide +kernel⟩, kt_in 1268 (by decide +kernel) rfl, kt_in 1269 (by decide +kernel) rfl⟩
def fn_Ledger_tellPaid_l1 (who2 : Int32) : Int32 × zw_Ct → Option ((zw_Ct) ⊕ (Int32 × zw_Ct)) := fun (i4, c5) =>
  if (i4 < (c5.1 3 6)) then
  ((zw_aI 40 c5 8 i4).bind fun x10 =>
  (zw_aI 4 c5 70 x10).bind fun x11 =>
  (zw_aI 40 c5 6 i4).bind fun x12 =>
  (zw_uI 4 c5 70 x10 (x11 + (if (x12 = who2) then (1 : Int32) else 0))).bind fun c14 =>
  some (.inr ((i4 + 1), c14)))
  else
  (some (.inl c5))
def fn_Ledger_tellPaid (c : zw_Ct) (values1 : Nat) (who2 : Int32) : Option (Int32 × zw_Ct) :=
  (fn_Arrays_fill c 70 0).bind fun c3 =>
  (zw_whl (fn_Ledger_tellPaid_l1 who2) zw_F (0, c3)).bind fun c6 =>
  (fn_Judge_tallyWeighed c6 values1 70 0).bind fun c15 =>
  (fn_Tally_top c15).bind fun r16 =>
  (fn_Row_clear c15).bind fun c17 =>
  (fn_Ledger_gotBy c17 values1 who2).bind fun r18 =>
  (fn_Row_add c17 r18).bind fun c19 =>
  (zw_aL 455 c19 12 r16).bind fun x20 =>
  (fn_Row_add c19 x20).bind fun c21 =>
  (fn_Row_add c21 r16.toInt64).bind fun c22 =>
  (fn_Ledger_eveningsOf c22 who2).bind fun r23 =>
  some (r23, c22)
set_option maxRecDepth 100000 in
theorem km_Ledger_tellPaid {l : Launch} {g : zw_G} {rr : zw_RR} {sh : zw_Sh} {c : zw_Ct} {values1 : Nat} {who2 : Int32} {r : Int32} {c2 : zw_Ct} (hS : zw_Ok 0 101 sh rr) (hsem : fn_Ledger_tellPaid c values1 who2 = some (r, c2)) : zw_Met l g y_Ledger_tellPaid b_Ledger_tellPaid 5 (some .int) 3 rr sh [.ref 69, .ref values1, .int who2, .ref 61] c (some (.int r)) c2 := by
  unfold fn_Ledger_tellPaid at hsem
  refine zw_Met.of (by decide +kernel) (Nat.le_of_ble_eq_true rfl) (fun p e s m args below meth cd X => ?_)
  refine zw_eL (L2 := [some (.ref 69), some (.ref values1), some (.int who2), some (.ref 61), none]) rfl ?_
  refine r_aload_n X (pc := 0) (i := 0) (zw_dg dk_Ledger_tellPaid 0 rfl) rfl rfl ?_
  refine r_getR X (pc := 1) (r := 70) ci_Ledger (zo hS 69 rfl rfl) rfl (zr hS 69 4 rfl rfl) lk_Ledger_9 (zw_dg dk_Ledger_tellPaid 1 rfl) ?_
  refine r_iconst X (pc := 4) (v := 0) (zw_dg dk_Ledger_tellPaid 2 rfl) (by decide) ?_
  obtain ⟨c3, hc3, hsem⟩ := zw_bd hsem
  refine r_callSv X (pc := 5) (As := [_, _]) (st := []) (km_Arrays_fill hS hc3) ce_Arrays_fill kw_1271 rfl ⟨Nat.le_of_ble_eq_true rfl, Nat.le_of_ble_eq_true rfl⟩ (Nat.le_of_ble_eq_true rfl) (zw_dg dk_Ledger_tellPaid 3 rfl) ?_
  refine r_iconst X (pc := 8) (v := 0) (zw_dg dk_Ledger_tellPaid 4 rfl) (by decide) ?_
  refine r_istore X (pc := 9) (i := 4) (zw_dg dk_Ledger_tellPaid 5 rfl) (by decide) rfl ?_
  obtain ⟨c6, hl7, hsl7⟩ := zw_bd hsem
  refine r_loop (pc := 11) (pce := 66) hl7 (fun (i4, c5) => [some (.ref 69), some (.ref values1), some (.int who2), some (.ref 61), some (.int i4)] : Int32 × zw_Ct → zw_Lc) (fun (i4, c5) => c5 : Int32 × zw_Ct → zw_Ct) (fun c6 => [some (.ref 69), some (.ref values1), some (.int who2), some (.ref 61), none] : zw_Ct → zw_Lc) (fun c6 => c6 : zw_Ct → zw_Ct) ?_ rfl rfl ?_
  · rintro ⟨i4, c5⟩ rr hsem hK hP
    try unfold fn_Ledger_tellPaid_l1 at hsem
    refine r_iload X (pc := 11) (i := 4) (zw_dg dk_Ledger_tellPaid 6 rfl) rfl ?_
    refine r_aload_n X (pc := 13) (i := 0) (zw_dg dk_Ledger_tellPaid 7 rfl) rfl rfl ?_
    refine r_getR X (pc := 14) (r := 3) ci_Ledger (zo hS 69 rfl rfl) rfl (zr hS 69 1 rfl rfl) lk_Ledger_19 (zw_dg dk_Ledger_tellPaid 8 rfl) ?_
    refine r_getI X (pc := 17) ci_Held (zo hS 3 rfl rfl) rfl lk_Ledger_31 (zw_dg dk_Ledger_tellPaid 9 rfl) ?_
    refine r_icmp_ge X (pc := 20) (tgt := 66) (zw_dg dk_Ledger_tellPaid 10 rfl) (by decide) (fun q9 => ?_) (fun q9 => ?_)
    · --
      have p8 : ¬ (i4 < (c5.1 3 6)) := (Int32.not_lt.mpr q9)
      have hsem := zw_ifn p8 hsem
      have jj := hK _ (Option.some.inj hsem).symm
      exact (r_fgt [4] rfl jj)
    · --
      have p8 : (i4 < (c5.1 3 6)) := (Int32.not_le.mp q9)
      have hsem := zw_ifp p8 hsem
      refine r_aload_n X (pc := 23) (i := 0) (zw_dg dk_Ledger_tellPaid 11 rfl) rfl rfl ?_
      refine r_getR X (pc := 24) (r := 70) ci_Ledger (zo hS 69 rfl rfl) rfl (zr hS 69 4 rfl rfl) lk_Ledger_9 (zw_dg dk_Ledger_tellPaid 12 rfl) ?_
      refine r_aload_n X (pc := 27) (i := 0) (zw_dg dk_Ledger_tellPaid 13 rfl) rfl rfl ?_
      refine r_getR X (pc := 28) (r := 3) ci_Ledger (zo hS 69 rfl rfl) rfl (zr hS 69 1 rfl rfl) lk_Ledger_19 (zw_dg dk_Ledger_tellPaid 14 rfl) ?_
      refine r_getR X (pc := 31) (r := 8) ci_Held (zo hS 3 rfl rfl) rfl (zr hS 3 5 rfl rfl) lk_Ledger_43 (zw_dg dk_Ledger_tellPaid 15 rfl) ?_
      refine r_iload X (pc := 34) (i := 4) (zw_dg dk_Ledger_tellPaid 16 rfl) rfl ?_
      obtain ⟨x10, hx10, hsem⟩ := zw_bd hsem
      refine r_iald X (pc := 36) (zo hS 8 rfl rfl) hx10 (zw_dg dk_Ledger_tellPaid 17 rfl) ?_
      refine r_dup2 X (pc := 37) (zw_dg dk_Ledger_tellPaid 18 rfl) rfl rfl ?_
      obtain ⟨x11, hx11, hsem⟩ := zw_bd hsem
      refine r_iald X (pc := 38) (zo hS 70 rfl rfl) hx11 (zw_dg dk_Ledger_tellPaid 19 rfl) ?_
      refine r_aload_n X (pc := 39) (i := 0) (zw_dg dk_Ledger_tellPaid 20 rfl) rfl rfl ?_
      refine r_getR X (pc := 40) (r := 3) ci_Ledger (zo hS 69 rfl rfl) rfl (zr hS 69 1 rfl rfl) lk_Ledger_19 (zw_dg dk_Ledger_tellPaid 21 rfl) ?_
      refine r_getR X (pc := 43) (r := 6) ci_Held (zo hS 3 rfl rfl) rfl (zr hS 3 3 rfl rfl) lk_Ledger_37 (zw_dg dk_Ledger_tellPaid 22 rfl) ?_
      refine r_iload X (pc := 46) (i := 4) (zw_dg dk_Ledger_tellPaid 23 rfl) rfl ?_
      obtain ⟨x12, hx12, hsem⟩ := zw_bd hsem
      refine r_iald X (pc := 48) (zo hS 6 rfl rfl) hx12 (zw_dg dk_Ledger_tellPaid 24 rfl) ?_
      refine r_iload_n X (pc := 49) (i := 2) (zw_dg dk_Ledger_tellPaid 25 rfl) rfl rfl ?_
      refine zw_ter (P := (x12 = who2)) (f := Value.int) (x := 1) (y := 0) (J := 58) (st2 := [.int x11, .int x10, .ref 70]) (fun jT jF => ?_) ?_
      · --
        refine r_icmp_ne X (pc := 50) (tgt := 57) (zw_dg dk_Ledger_tellPaid 26 rfl) (by decide) (fun q13 => ?_) (fun q13 => ?_)
        · --
          refine r_iconst X (pc := 57) (v := 0) (zw_dg dk_Ledger_tellPaid 29 rfl) (by decide) ?_
          exact jF q13
        · --
          refine r_iconst X (pc := 53) (v := 1) (zw_dg dk_Ledger_tellPaid 27 rfl) (by decide) ?_
          refine r_goto X (pc := 54) (tgt := 58) (zw_dg dk_Ledger_tellPaid 28 rfl) (by decide) ?_
          exact jT q13
      refine r_iadd X (pc := 58) (zw_dg dk_Ledger_tellPaid 30 rfl)  ?_
      obtain ⟨c14, hc14, hsem⟩ := zw_bd hsem
      refine r_iast X (pc := 59) (zo hS 70 rfl rfl) hc14 (zw_dg dk_Ledger_tellPaid 31 rfl) ?_
      refine r_iinc X (pc := 60) (i := 4) (k := 1) (zw_dg dk_Ledger_tellPaid 32 rfl) rfl (by decide) (by decide) rfl ?_
      refine r_goto X (pc := 63) (tgt := 11) (zw_dg dk_Ledger_tellPaid 33 rfl) (by decide) ?_
      have jj := hP _ (Option.some.inj hsem).symm
      exact (r_fgt [] rfl jj)
  have hsem := hsl7
  refine r_aload_n X (pc := 66) (i := 0) (zw_dg dk_Ledger_tellPaid 34 rfl) rfl rfl ?_
  refine r_getR X (pc := 67) (r := 13) ci_Ledger (zo hS 69 rfl rfl) rfl (zr hS 69 3 rfl rfl) lk_Ledger_27 (zw_dg dk_Ledger_tellPaid 35 rfl) ?_
  refine r_aload_n X (pc := 70) (i := 1) (zw_dg dk_Ledger_tellPaid 36 rfl) rfl rfl ?_
  refine r_aload_n X (pc := 71) (i := 0) (zw_dg dk_Ledger_tellPaid 37 rfl) rfl rfl ?_
  refine r_getR X (pc := 72) (r := 70) ci_Ledger (zo hS 69 rfl rfl) rfl (zr hS 69 4 rfl rfl) lk_Ledger_9 (zw_dg dk_Ledger_tellPaid 38 rfl) ?_
  refine r_iconst X (pc := 75) (v := 0) (zw_dg dk_Ledger_tellPaid 39 rfl) (by decide) ?_
  obtain ⟨c15, hc15, hsem⟩ := zw_bd hsem
  refine r_callVv X (pc := 76) (As := [_, _, _]) (st := []) (km_Judge_tallyWeighed hS hc15) ce_Judge_tallyWeighed kw_1274 (zo hS 13 rfl rfl) rfl rfl ⟨Nat.le_of_ble_eq_true rfl, Nat.le_of_ble_eq_true rfl⟩ (Nat.le_of_ble_eq_true rfl) (zw_dg dk_Ledger_tellPaid 40 rfl) ?_
  refine r_aload_n X (pc := 79) (i := 0) (zw_dg dk_Ledger_tellPaid 41 rfl) rfl rfl ?_
  refine r_getR X (pc := 80) (r := 11) ci_Ledger (zo hS 69 rfl rfl) rfl (zr hS 69 2 rfl rfl) lk_Ledger_23 (zw_dg dk_Ledger_tellPaid 42 rfl) ?_
  obtain ⟨r16, hr16, hsem⟩ := zw_bd hsem
  refine r_callVi X (pc := 83) (As := []) (st := []) (km_Tally_top hS hr16) ce_Tally_top kw_1275 (zo hS 11 rfl rfl) rfl rfl ⟨Nat.le_of_ble_eq_true rfl, Nat.le_of_ble_eq_true rfl⟩ (Nat.le_of_ble_eq_true rfl) (zw_dg dk_Ledger_tellPaid 43 rfl) ?_
  refine r_istore X (pc := 86) (i := 4) (zw_dg dk_Ledger_tellPaid 44 rfl) (by decide) rfl ?_
  refine r_aload_n X (pc := 88) (i := 3) (zw_dg dk_Ledger_tellPaid 45 rfl) rfl rfl ?_
  obtain ⟨c17, hc17, hsem⟩ := zw_bd hsem
  refine r_callVv X (pc := 89) (As := []) (st := []) (km_Row_clear hS hc17) ce_Row_clear kw_1276 (zo hS 61 rfl rfl) rfl rfl ⟨Nat.le_of_ble_eq_true rfl, Nat.le_of_ble_eq_true rfl⟩ (Nat.le_of_ble_eq_true rfl) (zw_dg dk_Ledger_tellPaid 46 rfl) ?_
  refine r_aload_n X (pc := 92) (i := 3) (zw_dg dk_Ledger_tellPaid 47 rfl) rfl rfl ?_
  refine r_aload_n X (pc := 93) (i := 0) (zw_dg dk_Ledger_tellPaid 48 rfl) rfl rfl ?_
  refine r_aload_n X (pc := 94) (i := 1) (zw_dg dk_Ledger_tellPaid 49 rfl) rfl rfl ?_
  refine r_iload_n X (pc := 95) (i := 2) (zw_dg dk_Ledger_tellPaid 50 rfl) rfl rfl ?_
  obtain ⟨r18, hr18, hsem⟩ := zw_bd hsem
  refine r_callVl X (pc := 96) (As := [_, _]) (st := [.ref 61]) (km_Ledger_gotBy hS hr18) ce_Ledger_gotBy kw_1277 (zo hS 69 rfl rfl) rfl rfl ⟨Nat.le_of_ble_eq_true rfl, Nat.le_of_ble_eq_true rfl⟩ (Nat.le_of_ble_eq_true rfl) (zw_dg dk_Ledger_tellPaid 51 rfl) ?_
  obtain ⟨c19, hc19, hsem⟩ := zw_bd hsem
  refine r_callVv X (pc := 99) (As := [_]) (st := []) (km_Row_add hS hc19) ce_Row_add kw_1281 (zo hS 61 rfl rfl) rfl rfl ⟨Nat.le_of_ble_eq_true rfl, Nat.le_of_ble_eq_true rfl⟩ (Nat.le_of_ble_eq_true rfl) (zw_dg dk_Ledger_tellPaid 52 rfl) ?_
  refine r_aload_n X (pc := 102) (i := 3) (zw_dg dk_Ledger_tellPaid 53 rfl) rfl rfl ?_
  refine r_aload_n X (pc := 103) (i := 0) (zw_dg dk_Ledger_tellPaid 54 rfl) rfl rfl ?_
  refine r_getR X (pc := 104) (r := 11) ci_Ledger (zo hS 69 rfl rfl) rfl (zr hS 69 2 rfl rfl) lk_Ledger_23 (zw_dg dk_Ledger_tellPaid 55 rfl) ?_
  refine r_getR X (pc := 107) (r := 12) ci_Tally (zo hS 11 rfl rfl) rfl (zr hS 11 1 rfl rfl) lk_Ledger_77 (zw_dg dk_Ledger_tellPaid 56 rfl) ?_
  refine r_iload X (pc := 110) (i := 4) (zw_dg dk_Ledger_tellPaid 57 rfl) rfl ?_
  obtain ⟨x20, hx20, hsem⟩ := zw_bd hsem
  refine r_lald X (pc := 112) (zo hS 12 rfl rfl) hx20 (zw_dg dk_Ledger_tellPaid 58 rfl) ?_
  obtain ⟨c21, hc21, hsem⟩ := zw_bd hsem
  refine r_callVv X (pc := 113) (As := [_]) (st := []) (km_Row_add hS hc21) ce_Row_add kw_1281 (zo hS 61 rfl rfl) rfl rfl ⟨Nat.le_of_ble_eq_true rfl, Nat.le_of_ble_eq_true rfl⟩ (Nat.le_of_ble_eq_true rfl) (zw_dg dk_Ledger_tellPaid 59 rfl) ?_
  refine r_aload_n X (pc := 116) (i := 3) (zw_dg dk_Ledger_tellPaid 60 rfl) rfl rfl ?_
  refine r_iload X (pc := 117) (i := 4) (zw_dg dk_Ledger_tellPaid 61 rfl) rfl ?_
  refine r_i2l X (pc := 119) (zw_dg dk_Ledger_tellPaid 62 rfl)  ?_
  obtain ⟨c22, hc22, hsem⟩ := zw_bd hsem
  refine r_callVv X (pc := 120) (As := [_]) (st := []) (km_Row_add hS hc22) ce_Row_add kw_1281 (zo hS 61 rfl rfl) rfl rfl ⟨Nat.le_of_ble_eq_true rfl, Nat.le_of_ble_eq_true rfl⟩ (Nat.le_of_ble_eq_true rfl) (zw_dg dk_Ledger_tellPaid 63 rfl) ?_
  refine r_aload_n X (pc := 123) (i := 0) (zw_dg dk_Ledger_tellPaid 64 rfl) rfl rfl ?_
  refine r_iload_n X (pc := 124) (i := 2) (zw_dg dk_Ledger_tellPaid 65 rfl) rfl rfl ?_
  obtain ⟨r23, hr23, hsem⟩ := zw_bd hsem
  refine r_callVi X (pc := 125) (As := [_]) (st := []) (km_Ledger_eveningsOf hS hr23) ce_Ledger_eveningsOf kw_1282 (zo hS 69 rfl rfl) rfl rfl ⟨Nat.le_of_ble_eq_true rfl, Nat.le_of_ble_eq_true rfl⟩ (Nat.le_of_ble_eq_true rfl) (zw_dg dk_Ledger_tellPaid 66 rfl) ?_
  cases hsem
  exact r_iret X (pc := 128) rfl (zw_dg dk_Ledger_tellPaid 67 rfl)
def y_Ledger_tellFirst : MethodName := ⟨R_Ledger, "tellFirst", "([ILPaidForThinking$Row;)I"⟩
abbrev b_Ledger_tellFirst : ByteArray := prog_6_method_5_code
def dl_Ledger_tellFirst : List (Nat × Instr × Nat) := [(0, .bipush (-2), 2), (2, .istore_n 3, 1), (3, .lconst 0, 1), (4, .lstore 4, 2), (6, .lconst 1, 1), (7, .lstore 6, 2), (9, .iconst 0, 1), (10, .istore 8, 2), (12, .iload 8, 2), (14, .aload_n 0, 1), (15, .getfield 19, 3), (18, .getfield 85, 3), (21, .if_icmp .ge 65, 3), (24, .aload_n 0, 1), (25, .iload 8, 2), (27, .invokevirtual 81, 3), (30, .i2l, 1), (31, .lstore 9, 2), (33, .aload_n 0, 1), (34, .aload_n 1, 1), (35, .iload 8, 2), (37, .invokevirtual 69, 3), (40, .lstore 11, 2), (42, .lload 9, 2), (44, .lconst 0, 1), (45, .lcmp, 1), (46, .ifCond .le 34, 3), (49, .iload_n 3, 1), (50, .bipush (-2), 2), (52, .if_icmp .eq 17, 3), (55, .lload 11, 2), (57, .lload 6, 2), (59, .lmul, 1), (60, .lload 4, 2), (62, .lload 9, 2), (64, .lmul, 1), (65, .lcmp, 1), (66, .ifCond .le 14, 3), (69, .iload 8, 2), (71, .istore_n 3, 1), (72, .lload 11, 2), (74, .lstore 4, 2), (76, .lload 9, 2), (78, .lstore 6, 2), (80, .iinc 8 1, 3), (83, .goto (-71), 3), (86, .iload_n 3, 1), (87, .bipush (-2), 2), (89, .if_icmp .eq 15, 3), (92, .aload_n 2, 1), (93, .invokevirtual 64, 3), (96, .aload_n 2, 1), (97, .lload 4, 2), (99, .lload 6, 2), (101, .invokevirtual 88, 3), (104, .iload_n 3, 1), (105, .ireturn, 1)]
theorem dk_Ledger_tellFirst : zw_dk b_Ledger_tellFirst dl_Ledger_tellFirst = true := by decide +kernel
theorem ce_Ledger_tellFirst : zw_cev y_Ledger_tellFirst b_Ledger_tellFirst 13 (some .int) 2 := ⟨⟨kt_in 1293 (by decide +kernel) rfl, kt_in 97 (by decide +kernel) rfl, by decide +kernel⟩, kt_in 1291 (by decide +kernel) rfl, kt_in 1292 (by decide +kernel) rfl⟩
def fn_Ledger_tellFirst_l1 (c : zw_Ct) (values1 : Nat) : Int32 × Int64 × Int64 × Int32 → Option ((Int32 × Int64 × Int64) ⊕ (Int32 × Int64 × Int64 × Int32)) := fun (first2, most3, by4, who5) =>
  if (who5 < (c.1 3 2)) then
  ((fn_Ledger_eveningsOf c who5).bind fun r12 =>
  (some (r12.toInt64 : Int64)).bind fun many13 =>
  (fn_Ledger_gotBy c values1 who5).bind fun r14 =>
  (if ((0 < many13) ∧ ((first2 = (-2)) ∨ ((most3 * many13) < (r14 * by4)))) then
  (some ((who5 : Int32), (r14 : Int64), (many13 : Int64)))
  else
  (some ((first2 : Int32), (most3 : Int64), (by4 : Int64)))).bind fun (first15, most16, by17) =>
  some (.inr (first15, most16, by17, (who5 + 1))))
  else
  (some (.inl (first2, most3, by4)))
def fn_Ledger_tellFirst (c : zw_Ct) (values1 : Nat) : Option (Int32 × zw_Ct) :=
  (zw_whl (fn_Ledger_tellFirst_l1 c values1) zw_F ((-2), 0, 1, 0)).bind fun (first6, most7, by8) =>
  (if (¬ first6 = (-2)) then
  ((fn_Row_clear c).bind fun c25 =>
  (fn_Row_addFraction c25 most7 by8).bind fun c26 =>
  some c26)
  else
  (some c)).bind fun c22 =>
  some (first6, c22)
set_option maxRecDepth 100000 in
theorem km_Ledger_tellFirst {l : Launch} {g : zw_G} {rr : zw_RR} {sh : zw_Sh} {c : zw_Ct} {values1 : Nat} {r : Int32} {c2 : zw_Ct} (hS : zw_Ok 0 101 sh rr) (hsem : fn_Ledger_tellFirst c values1 = some (r, c2)) : zw_Met l g y_Ledger_tellFirst b_Ledger_tellFirst 13 (some .int) 3 rr sh [.ref 69, .ref values1, .ref 61] c (some (.int r)) c2 := by
  unfold fn_Ledger_tellFirst at hsem
  refine zw_Met.of (by decide +kernel) (Nat.le_of_ble_eq_true rfl) (fun p e s m args below meth cd X => ?_)
  refine zw_eL (L2 := [some (.ref 69), some (.ref values1), some (.ref 61), none, none, none, none, none, none, none, none, none, none]) rfl ?_
  refine r_bipush X (pc := 0) (v := (-2)) (zw_dg dk_Ledger_tellFirst 0 rfl) (by decide) ?_
  refine r_istore_n X (pc := 2) (i := 3) (zw_dg dk_Ledger_tellFirst 1 rfl) rfl (by decide) rfl ?_
  refine r_lconst X (pc := 3) (v := 0) (zw_dg dk_Ledger_tellFirst 2 rfl) (by decide) ?_
  refine r_lstore X (pc := 4) (i := 4) (L2 := [some (.ref 69), some (.ref values1), some (.ref 61), some (.int (-2)), some (.long 0), none, none, none, none, none, none, none, none]) (zw_dg dk_Ledger_tellFirst 3 rfl) (by decide) rfl ?_
  refine r_lconst X (pc := 6) (v := 1) (zw_dg dk_Ledger_tellFirst 4 rfl) (by decide) ?_
  refine r_lstore X (pc := 7) (i := 6) (L2 := [some (.ref 69), some (.ref values1), some (.ref 61), some (.int (-2)), some (.long 0), none, some (.long 1), none, none, none, none, none, none]) (zw_dg dk_Ledger_tellFirst 5 rfl) (by decide) rfl ?_
  refine r_iconst X (pc := 9) (v := 0) (zw_dg dk_Ledger_tellFirst 6 rfl) (by decide) ?_
  refine r_istore X (pc := 10) (i := 8) (zw_dg dk_Ledger_tellFirst 7 rfl) (by decide) rfl ?_
  obtain ⟨l9, hl9, hsl9⟩ := zw_bd hsem
  refine r_loop (pc := 12) (pce := 86) hl9 (fun (first2, most3, by4, who5) => [some (.ref 69), some (.ref values1), some (.ref 61), some (.int first2), some (.long most3), none, some (.long by4), none, some (.int who5), none, none, none, none] : Int32 × Int64 × Int64 × Int32 → zw_Lc) (fun (first2, most3, by4, who5) => c : Int32 × Int64 × Int64 × Int32 → zw_Ct) (fun (first6, most7, by8) => [some (.ref 69), some (.ref values1), some (.ref 61), some (.int first6), some (.long most7), none, some (.long by8), none, none, none, none, none, none] : Int32 × Int64 × Int64 → zw_Lc) (fun (first6, most7, by8) => c : Int32 × Int64 × Int64 → zw_Ct) ?_ rfl rfl ?_
  · rintro ⟨first2, most3, by4, who5⟩ rr hsem hK hP
    try unfold fn_Ledger_tellFirst_l1 at hsem
    refine r_iload X (pc := 12) (i := 8) (zw_dg dk_Ledger_tellFirst 8 rfl) rfl ?_
    refine r_aload_n X (pc := 14) (i := 0) (zw_dg dk_Ledger_tellFirst 9 rfl) rfl rfl ?_
    refine r_getR X (pc := 15) (r := 3) ci_Ledger (zo hS 69 rfl rfl) rfl (zr hS 69 1 rfl rfl) lk_Ledger_19 (zw_dg dk_Ledger_tellFirst 10 rfl) ?_
    refine r_getI X (pc := 18) ci_Held (zo hS 3 rfl rfl) rfl lk_Ledger_85 (zw_dg dk_Ledger_tellFirst 11 rfl) ?_
    refine r_icmp_ge X (pc := 21) (tgt := 86) (zw_dg dk_Ledger_tellFirst 12 rfl) (by decide) (fun q11 => ?_) (fun q11 => ?_)
    · --
      have p10 : ¬ (who5 < (c.1 3 2)) := (Int32.not_lt.mpr q11)
      have hsem := zw_ifn p10 hsem
      have jj := hK _ (Option.some.inj hsem).symm
      exact (r_fgt [8] rfl jj)
    · --
      have p10 : (who5 < (c.1 3 2)) := (Int32.not_le.mp q11)
      have hsem := zw_ifp p10 hsem
      refine r_aload_n X (pc := 24) (i := 0) (zw_dg dk_Ledger_tellFirst 13 rfl) rfl rfl ?_
      refine r_iload X (pc := 25) (i := 8) (zw_dg dk_Ledger_tellFirst 14 rfl) rfl ?_
      obtain ⟨r12, hr12, hsem⟩ := zw_bd hsem
      refine r_callVi X (pc := 27) (As := [_]) (st := []) (km_Ledger_eveningsOf hS hr12) ce_Ledger_eveningsOf kw_1282 (zo hS 69 rfl rfl) rfl rfl ⟨Nat.le_of_ble_eq_true rfl, Nat.le_of_ble_eq_true rfl⟩ (Nat.le_of_ble_eq_true rfl) (zw_dg dk_Ledger_tellFirst 15 rfl) ?_
      refine r_i2l X (pc := 30) (zw_dg dk_Ledger_tellFirst 16 rfl)  ?_
      obtain ⟨many13, hmany13, hsem⟩ := zw_bd hsem
      refine zw_topJ hmany13 ?_
      refine r_lstore X (pc := 31) (i := 9) (L2 := [some (.ref 69), some (.ref values1), some (.ref 61), some (.int first2), some (.long most3), none, some (.long by4), none, some (.int who5), some (.long many13), none, none, none]) (zw_dg dk_Ledger_tellFirst 17 rfl) (by decide) rfl ?_
      refine r_aload_n X (pc := 33) (i := 0) (zw_dg dk_Ledger_tellFirst 18 rfl) rfl rfl ?_
      refine r_aload_n X (pc := 34) (i := 1) (zw_dg dk_Ledger_tellFirst 19 rfl) rfl rfl ?_
      refine r_iload X (pc := 35) (i := 8) (zw_dg dk_Ledger_tellFirst 20 rfl) rfl ?_
      obtain ⟨r14, hr14, hsem⟩ := zw_bd hsem
      refine r_callVl X (pc := 37) (As := [_, _]) (st := []) (km_Ledger_gotBy hS hr14) ce_Ledger_gotBy kw_1277 (zo hS 69 rfl rfl) rfl rfl ⟨Nat.le_of_ble_eq_true rfl, Nat.le_of_ble_eq_true rfl⟩ (Nat.le_of_ble_eq_true rfl) (zw_dg dk_Ledger_tellFirst 21 rfl) ?_
      refine r_lstore X (pc := 40) (i := 11) (L2 := [some (.ref 69), some (.ref values1), some (.ref 61), some (.int first2), some (.long most3), none, some (.long by4), none, some (.int who5), some (.long many13), none, some (.long r14), none]) (zw_dg dk_Ledger_tellFirst 22 rfl) (by decide) rfl ?_
      obtain ⟨⟨first15, most16, by17⟩, ht80, hs80⟩ := zw_bd hsem
      refine zw_jn (J := 80) (L2 := [some (.ref 69), some (.ref values1), some (.ref 61), some (.int first15), some (.long most16), none, some (.long by17), none, some (.int who5), some (.long many13), none, some (.long r14), none]) (c2 := c) (fun jj => ?_) ?_
      · have hsem := ht80
        refine zw_cnd (P := ((0 < many13) ∧ ((first2 = (-2)) ∨ ((most3 * many13) < (r14 * by4))))) (J1 := 69) (J2 := 80) (st2 := []) (fun jT jF => ?_) (fun p18 => ?_) (fun p18 => ?_)
        · --
          refine r_lload X (pc := 42) (i := 9) (zw_dg dk_Ledger_tellFirst 23 rfl) rfl ?_
          refine r_lconst X (pc := 44) (v := 0) (zw_dg dk_Ledger_tellFirst 24 rfl) (by decide) ?_
          refine r_lcmp_le X (pc := 45) (tgt := 80) (zw_dg dk_Ledger_tellFirst 25 rfl) (zw_dg dk_Ledger_tellFirst 26 rfl) (by decide) (fun q19 => ?_) (fun q19 => ?_)
          · --
            exact jF (fun q => (Int64.not_lt.mpr q19) q.1)
          · --
            refine r_iload_n X (pc := 49) (i := 3) (zw_dg dk_Ledger_tellFirst 27 rfl) rfl rfl ?_
            refine r_bipush X (pc := 50) (v := (-2)) (zw_dg dk_Ledger_tellFirst 28 rfl) (by decide) ?_
            refine r_icmp_eq X (pc := 52) (tgt := 69) (zw_dg dk_Ledger_tellFirst 29 rfl) (by decide) (fun q20 => ?_) (fun q20 => ?_)
            · --
              exact jT ⟨(Int64.not_le.mp q19), (Or.inl q20)⟩
            · --
              refine r_lload X (pc := 55) (i := 11) (zw_dg dk_Ledger_tellFirst 30 rfl) rfl ?_
              refine r_lload X (pc := 57) (i := 6) (zw_dg dk_Ledger_tellFirst 31 rfl) rfl ?_
              refine r_lmul X (pc := 59) (zw_dg dk_Ledger_tellFirst 32 rfl)  ?_
              refine r_lload X (pc := 60) (i := 4) (zw_dg dk_Ledger_tellFirst 33 rfl) rfl ?_
              refine r_lload X (pc := 62) (i := 9) (zw_dg dk_Ledger_tellFirst 34 rfl) rfl ?_
              refine r_lmul X (pc := 64) (zw_dg dk_Ledger_tellFirst 35 rfl)  ?_
              refine r_lcmp_le X (pc := 65) (tgt := 80) (zw_dg dk_Ledger_tellFirst 36 rfl) (zw_dg dk_Ledger_tellFirst 37 rfl) (by decide) (fun q21 => ?_) (fun q21 => ?_)
              · --
                exact jF (fun q => (fun q => q.elim q20 (Int64.not_lt.mpr q21)) q.2)
              · --
                exact jT ⟨(Int64.not_le.mp q19), (Or.inr (Int64.not_le.mp q21))⟩
        · --
          have hsem := zw_ifp p18 hsem
          refine r_iload X (pc := 69) (i := 8) (zw_dg dk_Ledger_tellFirst 38 rfl) rfl ?_
          refine r_istore_n X (pc := 71) (i := 3) (zw_dg dk_Ledger_tellFirst 39 rfl) rfl (by decide) rfl ?_
          refine r_lload X (pc := 72) (i := 11) (zw_dg dk_Ledger_tellFirst 40 rfl) rfl ?_
          refine r_lstore X (pc := 74) (i := 4) (L2 := [some (.ref 69), some (.ref values1), some (.ref 61), some (.int who5), some (.long r14), none, some (.long by4), none, some (.int who5), some (.long many13), none, some (.long r14), none]) (zw_dg dk_Ledger_tellFirst 41 rfl) (by decide) rfl ?_
          refine r_lload X (pc := 76) (i := 9) (zw_dg dk_Ledger_tellFirst 42 rfl) rfl ?_
          refine r_lstore X (pc := 78) (i := 6) (L2 := [some (.ref 69), some (.ref values1), some (.ref 61), some (.int who5), some (.long r14), none, some (.long many13), none, some (.int who5), some (.long many13), none, some (.long r14), none]) (zw_dg dk_Ledger_tellFirst 43 rfl) (by decide) rfl ?_
          obtain ⟨rfl, rfl, rfl⟩ := zw_in3 hsem
          exact (r_fgt [] rfl jj)
        · --
          have hsem := zw_ifn p18 hsem
          obtain ⟨rfl, rfl, rfl⟩ := zw_in3 hsem
          exact (r_fgt [] rfl jj)
      have hsem := hs80
      refine r_iinc X (pc := 80) (i := 8) (k := 1) (zw_dg dk_Ledger_tellFirst 44 rfl) rfl (by decide) (by decide) rfl ?_
      refine r_goto X (pc := 83) (tgt := 12) (zw_dg dk_Ledger_tellFirst 45 rfl) (by decide) ?_
      have jj := hP _ (Option.some.inj hsem).symm
      exact (r_fgt [9, 11] rfl jj)
  obtain ⟨first6, most7, by8⟩ := l9
  have hsem := hsl9
  obtain ⟨c22, ht104, hs104⟩ := zw_bd hsem
  refine zw_jn (J := 104) (L2 := [some (.ref 69), some (.ref values1), some (.ref 61), some (.int first6), some (.long most7), none, some (.long by8), none, none, none, none, none, none]) (c2 := c22) (fun jj => ?_) ?_
  · have hsem := ht104
    refine r_iload_n X (pc := 86) (i := 3) (zw_dg dk_Ledger_tellFirst 46 rfl) rfl rfl ?_
    refine r_bipush X (pc := 87) (v := (-2)) (zw_dg dk_Ledger_tellFirst 47 rfl) (by decide) ?_
    refine r_icmp_eq X (pc := 89) (tgt := 104) (zw_dg dk_Ledger_tellFirst 48 rfl) (by decide) (fun q24 => ?_) (fun q24 => ?_)
    · --
      have p23 : ¬ (¬ first6 = (-2)) := (fun z => z q24)
      have hsem := zw_ifn p23 hsem
      cases hsem
      exact (r_fgt [] rfl jj)
    · --
      have p23 : (¬ first6 = (-2)) := q24
      have hsem := zw_ifp p23 hsem
      refine r_aload_n X (pc := 92) (i := 2) (zw_dg dk_Ledger_tellFirst 49 rfl) rfl rfl ?_
      obtain ⟨c25, hc25, hsem⟩ := zw_bd hsem
      refine r_callVv X (pc := 93) (As := []) (st := []) (km_Row_clear hS hc25) ce_Row_clear kw_1276 (zo hS 61 rfl rfl) rfl rfl ⟨Nat.le_of_ble_eq_true rfl, Nat.le_of_ble_eq_true rfl⟩ (Nat.le_of_ble_eq_true rfl) (zw_dg dk_Ledger_tellFirst 50 rfl) ?_
      refine r_aload_n X (pc := 96) (i := 2) (zw_dg dk_Ledger_tellFirst 51 rfl) rfl rfl ?_
      refine r_lload X (pc := 97) (i := 4) (zw_dg dk_Ledger_tellFirst 52 rfl) rfl ?_
      refine r_lload X (pc := 99) (i := 6) (zw_dg dk_Ledger_tellFirst 53 rfl) rfl ?_
      obtain ⟨c26, hc26, hsem⟩ := zw_bd hsem
      refine r_callVv X (pc := 101) (As := [_, _]) (st := []) (km_Row_addFraction hS hc26) ce_Row_addFraction kw_1294 (zo hS 61 rfl rfl) rfl rfl ⟨Nat.le_of_ble_eq_true rfl, Nat.le_of_ble_eq_true rfl⟩ (Nat.le_of_ble_eq_true rfl) (zw_dg dk_Ledger_tellFirst 54 rfl) ?_
      cases hsem
      exact (r_fgt [] rfl jj)
  have hsem := hs104
  refine r_iload_n X (pc := 104) (i := 3) (zw_dg dk_Ledger_tellFirst 55 rfl) rfl rfl ?_
  cases hsem
  exact r_iret X (pc := 105) rfl (zw_dg dk_Ledger_tellFirst 56 rfl)
def y_Ledger_saidSo : MethodName := ⟨R_Ledger, "saidSo", "(IIIZ)I"⟩
abbrev b_Ledger_saidSo : ByteArray := prog_6_method_6_code
def dl_Ledger_saidSo : List (Nat × Instr × Nat) := [(0, .iconst 0, 1), (1, .istore 5, 2), (3, .iconst 0, 1), (4, .istore 6, 2), (6, .iload 6, 2), (8, .aload_n 0, 1), (9, .getfield 19, 3), (12, .getfield 31, 3), (15, .if_icmp .ge 86, 3), (18, .aload_n 0, 1), (19, .getfield 19, 3), (22, .getfield 37, 3), (25, .iload 6, 2), (27, .iaload, 1), (28, .iload_n 1, 1), (29, .if_icmp .ne 29, 3), (32, .aload_n 0, 1), (33, .getfield 15, 3), (36, .aload_n 0, 1), (37, .getfield 19, 3), (40, .getfield 40, 3), (43, .iload 6, 2), (45, .iaload, 1), (46, .iload_n 2, 1), (47, .invokevirtual 92, 3), (50, .iload_n 3, 1), (51, .if_icmp .ne 7, 3), (54, .iconst 1, 1), (55, .goto 4, 3), (58, .iconst 0, 1), (59, .istore 7, 2), (61, .iload 5, 2), (63, .iload 7, 2), (65, .ifCond .eq 26, 3), (68, .iload 4, 2), (70, .ifCond .eq 17, 3), (73, .aload_n 0, 1), (74, .getfield 19, 3), (77, .getfield 43, 3), (80, .iload 6, 2), (82, .iaload, 1), (83, .iload_n 2, 1), (84, .if_icmp .ne 7, 3), (87, .iconst 1, 1), (88, .goto 4, 3), (91, .iconst 0, 1), (92, .iadd, 1), (93, .istore 5, 2), (95, .iinc 6 1, 3), (98, .goto (-92), 3), (101, .iload 5, 2), (103, .ireturn, 1)]
theorem dk_Ledger_saidSo : zw_dk b_Ledger_saidSo dl_Ledger_saidSo = true := by decide +kernel
theorem ce_Ledger_saidSo : zw_cev y_Ledger_saidSo b_Ledger_saidSo 8 (some .int) 4 := ⟨⟨kt_in 1306 (by decide +kernel) rfl, kt_in 97 (by decide +kernel) rfl, by decide +kernel⟩, kt_in 1305 (by decide +kernel) rfl, kt_in 36 (by decide +kernel) rfl⟩
def fn_Ledger_saidSo_l1 (c : zw_Ct) (who1 : Int32) (event2 : Int32) (k3 : Int32) (andCame4 : Int32) : Int32 × Int32 → Option ((Int32) ⊕ (Int32 × Int32)) := fun (many5, i6) =>
  if (i6 < (c.1 3 6)) then
  ((zw_aI 40 c 6 i6).bind fun x11 =>
  (if (x11 = who1) then
  ((zw_aI 40 c 7 i6).bind fun x14 =>
  (fn_Sayings_partOf c x14 event2).bind fun r15 =>
  some (decide (r15 = k3)))
  else some false).bind fun b12 =>
  (some ((if b12 = true then (1 : Int32) else 0) : Int32)).bind fun so17 =>
  ((if (¬ so17 = 0) then
  (if (¬ (¬ andCame4 = 0)) then some true else
  ((zw_aI 40 c 8 i6).bind fun x22 =>
  some (decide (x22 = event2))))
  else some false).bind fun b19 =>
  if b19 = true then
  (some (1 : Int32))
  else
  (some (0 : Int32))).bind fun v18 =>
  (some ((many5 + v18) : Int32)).bind fun many24 =>
  some (.inr (many24, (i6 + 1))))
  else
  (some (.inl many5))
def fn_Ledger_saidSo (c : zw_Ct) (who1 : Int32) (event2 : Int32) (k3 : Int32) (andCame4 : Int32) : Option Int32 :=
  (zw_whl (fn_Ledger_saidSo_l1 c who1 event2 k3 andCame4) zw_F (0, 0)).bind fun many7 =>
  some many7
set_option maxRecDepth 100000 in
theorem km_Ledger_saidSo {l : Launch} {g : zw_G} {rr : zw_RR} {sh : zw_Sh} {c : zw_Ct} {who1 : Int32} {event2 : Int32} {k3 : Int32} {andCame4 : Int32} {r : Int32} (hS : zw_Ok 0 101 sh rr) (hsem : fn_Ledger_saidSo c who1 event2 k3 andCame4 = some r) : zw_Met l g y_Ledger_saidSo b_Ledger_saidSo 8 (some .int) 2 rr sh [.ref 69, .int who1, .int event2, .int k3, .int andCame4] c (some (.int r)) c := by
  unfold fn_Ledger_saidSo at hsem
  refine zw_Met.of (by decide +kernel) (Nat.le_of_ble_eq_true rfl) (fun p e s m args below meth cd X => ?_)
  refine zw_eL (L2 := [some (.ref 69), some (.int who1), some (.int event2), some (.int k3), some (.int andCame4), none, none, none]) rfl ?_
  refine r_iconst X (pc := 0) (v := 0) (zw_dg dk_Ledger_saidSo 0 rfl) (by decide) ?_
  refine r_istore X (pc := 1) (i := 5) (zw_dg dk_Ledger_saidSo 1 rfl) (by decide) rfl ?_
  refine r_iconst X (pc := 3) (v := 0) (zw_dg dk_Ledger_saidSo 2 rfl) (by decide) ?_
  refine r_istore X (pc := 4) (i := 6) (zw_dg dk_Ledger_saidSo 3 rfl) (by decide) rfl ?_
  obtain ⟨many7, hl8, hsl8⟩ := zw_bd hsem
  refine r_loop (pc := 6) (pce := 101) hl8 (fun (many5, i6) => [some (.ref 69), some (.int who1), some (.int event2), some (.int k3), some (.int andCame4), some (.int many5), some (.int i6), none] : Int32 × Int32 → zw_Lc) (fun (many5, i6) => c : Int32 × Int32 → zw_Ct) (fun many7 => [some (.ref 69), some (.int who1), some (.int event2), some (.int k3), some (.int andCame4), some (.int many7), none, none] : Int32 → zw_Lc) (fun many7 => c : Int32 → zw_Ct) ?_ rfl rfl ?_
  · rintro ⟨many5, i6⟩ rr hsem hK hP
    try unfold fn_Ledger_saidSo_l1 at hsem
    refine r_iload X (pc := 6) (i := 6) (zw_dg dk_Ledger_saidSo 4 rfl) rfl ?_
    refine r_aload_n X (pc := 8) (i := 0) (zw_dg dk_Ledger_saidSo 5 rfl) rfl rfl ?_
    refine r_getR X (pc := 9) (r := 3) ci_Ledger (zo hS 69 rfl rfl) rfl (zr hS 69 1 rfl rfl) lk_Ledger_19 (zw_dg dk_Ledger_saidSo 6 rfl) ?_
    refine r_getI X (pc := 12) ci_Held (zo hS 3 rfl rfl) rfl lk_Ledger_31 (zw_dg dk_Ledger_saidSo 7 rfl) ?_
    refine r_icmp_ge X (pc := 15) (tgt := 101) (zw_dg dk_Ledger_saidSo 8 rfl) (by decide) (fun q10 => ?_) (fun q10 => ?_)
    · --
      have p9 : ¬ (i6 < (c.1 3 6)) := (Int32.not_lt.mpr q10)
      have hsem := zw_ifn p9 hsem
      have jj := hK _ (Option.some.inj hsem).symm
      exact (r_fgt [6] rfl jj)
    · --
      have p9 : (i6 < (c.1 3 6)) := (Int32.not_le.mp q10)
      have hsem := zw_ifp p9 hsem
      refine r_aload_n X (pc := 18) (i := 0) (zw_dg dk_Ledger_saidSo 9 rfl) rfl rfl ?_
      refine r_getR X (pc := 19) (r := 3) ci_Ledger (zo hS 69 rfl rfl) rfl (zr hS 69 1 rfl rfl) lk_Ledger_19 (zw_dg dk_Ledger_saidSo 10 rfl) ?_
      refine r_getR X (pc := 22) (r := 6) ci_Held (zo hS 3 rfl rfl) rfl (zr hS 3 3 rfl rfl) lk_Ledger_37 (zw_dg dk_Ledger_saidSo 11 rfl) ?_
      refine r_iload X (pc := 25) (i := 6) (zw_dg dk_Ledger_saidSo 12 rfl) rfl ?_
      obtain ⟨x11, hx11, hsem⟩ := zw_bd hsem
      refine r_iald X (pc := 27) (zo hS 6 rfl rfl) hx11 (zw_dg dk_Ledger_saidSo 13 rfl) ?_
      refine r_iload_n X (pc := 28) (i := 1) (zw_dg dk_Ledger_saidSo 14 rfl) rfl rfl ?_
      obtain ⟨b12, hb12, hsb12⟩ := zw_bd hsem
      refine zw_terO (f := Value.int) (v := if b12 = true then 1 else 0) (J := 59) (st2 := []) (c2 := c) (fun jj => ?_) ?_
      · have hsem := hb12
        refine r_icmp_ne X (pc := 29) (tgt := 58) (zw_dg dk_Ledger_saidSo 15 rfl) (by decide) (fun q13 => ?_) (fun q13 => ?_)
        · --
          have hsem := zw_ifn q13 hsem
          have hb_ := (Option.some.inj hsem).symm
          refine r_iconst X (pc := 58) (v := 0) (zw_dg dk_Ledger_saidSo 29 rfl) (by decide) ?_
          rw [hb_] at jj; exact jj
        · --
          have hsem := zw_ifp q13 hsem
          refine r_aload_n X (pc := 32) (i := 0) (zw_dg dk_Ledger_saidSo 16 rfl) rfl rfl ?_
          refine r_getR X (pc := 33) (r := 1) ci_Ledger (zo hS 69 rfl rfl) rfl (zr hS 69 0 rfl rfl) lk_Ledger_15 (zw_dg dk_Ledger_saidSo 17 rfl) ?_
          refine r_aload_n X (pc := 36) (i := 0) (zw_dg dk_Ledger_saidSo 18 rfl) rfl rfl ?_
          refine r_getR X (pc := 37) (r := 3) ci_Ledger (zo hS 69 rfl rfl) rfl (zr hS 69 1 rfl rfl) lk_Ledger_19 (zw_dg dk_Ledger_saidSo 19 rfl) ?_
          refine r_getR X (pc := 40) (r := 7) ci_Held (zo hS 3 rfl rfl) rfl (zr hS 3 4 rfl rfl) lk_Ledger_40 (zw_dg dk_Ledger_saidSo 20 rfl) ?_
          refine r_iload X (pc := 43) (i := 6) (zw_dg dk_Ledger_saidSo 21 rfl) rfl ?_
          obtain ⟨x14, hx14, hsem⟩ := zw_bd hsem
          refine r_iald X (pc := 45) (zo hS 7 rfl rfl) hx14 (zw_dg dk_Ledger_saidSo 22 rfl) ?_
          refine r_iload_n X (pc := 46) (i := 2) (zw_dg dk_Ledger_saidSo 23 rfl) rfl rfl ?_
          obtain ⟨r15, hr15, hsem⟩ := zw_bd hsem
          refine r_callVi X (pc := 47) (As := [_, _]) (st := []) (km_Sayings_partOf hS hr15) ce_Sayings_partOf kw_1307 (zo hS 1 rfl rfl) rfl rfl ⟨Nat.le_of_ble_eq_true rfl, Nat.le_of_ble_eq_true rfl⟩ (Nat.le_of_ble_eq_true rfl) (zw_dg dk_Ledger_saidSo 24 rfl) ?_
          refine r_iload_n X (pc := 50) (i := 3) (zw_dg dk_Ledger_saidSo 25 rfl) rfl rfl ?_
          refine r_icmp_ne X (pc := 51) (tgt := 58) (zw_dg dk_Ledger_saidSo 26 rfl) (by decide) (fun q16 => ?_) (fun q16 => ?_)
          · --
            have hb_ := (zw_dF hsem q16)
            refine r_iconst X (pc := 58) (v := 0) (zw_dg dk_Ledger_saidSo 29 rfl) (by decide) ?_
            rw [hb_] at jj; exact jj
          · --
            have hb_ := (zw_dT hsem q16)
            refine r_iconst X (pc := 54) (v := 1) (zw_dg dk_Ledger_saidSo 27 rfl) (by decide) ?_
            refine r_goto X (pc := 55) (tgt := 59) (zw_dg dk_Ledger_saidSo 28 rfl) (by decide) ?_
            rw [hb_] at jj; exact jj
      have hsem := hsb12
      obtain ⟨so17, hso17, hsem⟩ := zw_bd hsem
      refine zw_topI hso17 ?_
      refine r_istore X (pc := 59) (i := 7) (zw_dg dk_Ledger_saidSo 30 rfl) (by decide) rfl ?_
      refine r_iload X (pc := 61) (i := 5) (zw_dg dk_Ledger_saidSo 31 rfl) rfl ?_
      obtain ⟨v18, hv18, hsv18⟩ := zw_bd hsem
      refine zw_terO (f := Value.int) (v := v18) (J := 92) (st2 := [.int many5]) (c2 := c) (fun jj => ?_) ?_
      · have hsem := hv18
        obtain ⟨b19, hb19, hsb19⟩ := zw_bd hsem
        refine zw_cndB (b := b19) (J1 := 87) (J2 := 91) (st2 := [.int many5]) (fun jT jF => ?_) (fun hbb19 => ?_) (fun hbb19 => ?_)
        · have hsem := hb19
          refine r_iload X (pc := 63) (i := 7) (zw_dg dk_Ledger_saidSo 32 rfl) rfl ?_
          refine r_if_eq X (pc := 65) (tgt := 91) (zw_dg dk_Ledger_saidSo 33 rfl) (by decide) (fun q20 => ?_) (fun q20 => ?_)
          · --
            have hsem := zw_ifn (fun z => z q20) hsem
            exact jF (Option.some.inj hsem).symm
          · --
            have hsem := zw_ifp q20 hsem
            refine r_iload X (pc := 68) (i := 4) (zw_dg dk_Ledger_saidSo 34 rfl) rfl ?_
            refine r_if_eq X (pc := 70) (tgt := 87) (zw_dg dk_Ledger_saidSo 35 rfl) (by decide) (fun q21 => ?_) (fun q21 => ?_)
            · --
              have hsem := zw_ifp (P := ¬ _) (fun z => z q21) hsem
              exact jT (Option.some.inj hsem).symm
            · --
              have hsem := zw_ifn (fun q => q q21) hsem
              refine r_aload_n X (pc := 73) (i := 0) (zw_dg dk_Ledger_saidSo 36 rfl) rfl rfl ?_
              refine r_getR X (pc := 74) (r := 3) ci_Ledger (zo hS 69 rfl rfl) rfl (zr hS 69 1 rfl rfl) lk_Ledger_19 (zw_dg dk_Ledger_saidSo 37 rfl) ?_
              refine r_getR X (pc := 77) (r := 8) ci_Held (zo hS 3 rfl rfl) rfl (zr hS 3 5 rfl rfl) lk_Ledger_43 (zw_dg dk_Ledger_saidSo 38 rfl) ?_
              refine r_iload X (pc := 80) (i := 6) (zw_dg dk_Ledger_saidSo 39 rfl) rfl ?_
              obtain ⟨x22, hx22, hsem⟩ := zw_bd hsem
              refine r_iald X (pc := 82) (zo hS 8 rfl rfl) hx22 (zw_dg dk_Ledger_saidSo 40 rfl) ?_
              refine r_iload_n X (pc := 83) (i := 2) (zw_dg dk_Ledger_saidSo 41 rfl) rfl rfl ?_
              refine r_icmp_ne X (pc := 84) (tgt := 91) (zw_dg dk_Ledger_saidSo 42 rfl) (by decide) (fun q23 => ?_) (fun q23 => ?_)
              · --
                exact jF (zw_dF hsem q23)
              · --
                exact jT (zw_dT hsem q23)
        · have hsem := zw_ifp hbb19 hsb19
          refine r_iconst X (pc := 87) (v := 1) (zw_dg dk_Ledger_saidSo 43 rfl) (by decide) ?_
          refine r_goto X (pc := 88) (tgt := 92) (zw_dg dk_Ledger_saidSo 44 rfl) (by decide) ?_
          cases hsem; exact jj
        · have hsem := zw_ifn (by rw [hbb19]; exact Bool.false_ne_true) hsb19
          refine r_iconst X (pc := 91) (v := 0) (zw_dg dk_Ledger_saidSo 45 rfl) (by decide) ?_
          cases hsem; exact jj
      have hsem := hsv18
      refine r_iadd X (pc := 92) (zw_dg dk_Ledger_saidSo 46 rfl)  ?_
      obtain ⟨many24, hmany24, hsem⟩ := zw_bd hsem
      refine zw_topI hmany24 ?_
      refine r_istore X (pc := 93) (i := 5) (zw_dg dk_Ledger_saidSo 47 rfl) (by decide) rfl ?_
      refine r_iinc X (pc := 95) (i := 6) (k := 1) (zw_dg dk_Ledger_saidSo 48 rfl) rfl (by decide) (by decide) rfl ?_
      refine r_goto X (pc := 98) (tgt := 6) (zw_dg dk_Ledger_saidSo 49 rfl) (by decide) ?_
      have jj := hP _ (Option.some.inj hsem).symm
      exact (r_fgt [7] rfl jj)
  have hsem := hsl8
  refine r_iload X (pc := 101) (i := 5) (zw_dg dk_Ledger_saidSo 50 rfl) rfl ?_
  cases hsem
  exact r_iret X (pc := 103) rfl (zw_dg dk_Ledger_saidSo 51 rfl)
def y_Ledger_tellRight : MethodName := ⟨R_Ledger, "tellRight", "(IIILPaidForThinking$Row;)I"⟩
abbrev b_Ledger_tellRight : ByteArray := prog_6_method_7_code
def dl_Ledger_tellRight : List (Nat × Instr × Nat) := [(0, .iconst 0, 1), (1, .istore 5, 2), (3, .iconst 0, 1), (4, .istore 6, 2), (6, .iload 6, 2), (8, .aload_n 0, 1), (9, .getfield 15, 3), (12, .getfield 98, 3), (15, .if_icmp .gt 51, 3), (18, .aload_n 0, 1), (19, .iload_n 1, 1), (20, .iload_n 2, 1), (21, .iload 6, 2), (23, .iconst 0, 1), (24, .invokevirtual 101, 3), (27, .iload 6, 2), (29, .imul, 1), (30, .istore 7, 2), (32, .iload 5, 2), (34, .iload 7, 2), (36, .aload_n 0, 1), (37, .getfield 15, 3), (40, .getfield 98, 3), (43, .aload_n 0, 1), (44, .iload_n 1, 1), (45, .iload_n 2, 1), (46, .iload 6, 2), (48, .iconst 1, 1), (49, .invokevirtual 101, 3), (52, .imul, 1), (53, .isub, 1), (54, .invokestatic 105, 3), (57, .iadd, 1), (58, .istore 5, 2), (60, .iinc 6 1, 3), (63, .goto (-57), 3), (66, .aload 4, 2), (68, .invokevirtual 64, 3), (71, .aload 4, 2), (73, .aload_n 0, 1), (74, .iload_n 1, 1), (75, .iload_n 2, 1), (76, .iload_n 3, 1), (77, .iconst 1, 1), (78, .invokevirtual 101, 3), (81, .i2l, 1), (82, .invokevirtual 73, 3), (85, .aload 4, 2), (87, .iload 5, 2), (89, .i2l, 1), (90, .invokevirtual 73, 3), (93, .aload_n 0, 1), (94, .iload_n 1, 1), (95, .iload_n 2, 1), (96, .iload_n 3, 1), (97, .iconst 0, 1), (98, .invokevirtual 101, 3), (101, .ireturn, 1)]
theorem dk_Ledger_tellRight : zw_dk b_Ledger_tellRight dl_Ledger_tellRight = true := by decide +kernel
theorem ce_Ledger_tellRight : zw_cev y_Ledger_tellRight b_Ledger_tellRight 8 (some .int) 4 := ⟨⟨kt_in 1302 (by decide +kernel) rfl, kt_in 97 (by decide +kernel) rfl, by decide +kernel⟩, kt_in 1300 (by decide +kernel) rfl, kt_in 1301 (by decide +kernel) rfl⟩
def fn_Ledger_tellRight_l1 (c : zw_Ct) (who1 : Int32) (event2 : Int32) : Int32 × Int32 → Option ((Int32) ⊕ (Int32 × Int32)) := fun (off4, part5) =>
  if (part5 ≤ (c.1 1 1)) then
  ((fn_Ledger_saidSo c who1 event2 part5 0).bind fun r10 =>
  (some ((r10 * part5) : Int32)).bind fun due11 =>
  (fn_Ledger_saidSo c who1 event2 part5 1).bind fun r12 =>
  (some ((off4 + (if 0 ≤ (due11 - ((c.1 1 1) * r12)) then (due11 - ((c.1 1 1) * r12)) else 0 - (due11 - ((c.1 1 1) * r12)))) : Int32)).bind fun off13 =>
  some (.inr (off13, (part5 + 1))))
  else
  (some (.inl off4))
def fn_Ledger_tellRight (c : zw_Ct) (who1 : Int32) (event2 : Int32) (k3 : Int32) : Option (Int32 × zw_Ct) :=
  (zw_whl (fn_Ledger_tellRight_l1 c who1 event2) zw_F (0, 0)).bind fun off6 =>
  (fn_Row_clear c).bind fun c14 =>
  (fn_Ledger_saidSo c14 who1 event2 k3 1).bind fun r15 =>
  (fn_Row_add c14 r15.toInt64).bind fun c16 =>
  (fn_Row_add c16 off6.toInt64).bind fun c17 =>
  (fn_Ledger_saidSo c17 who1 event2 k3 0).bind fun r18 =>
  some (r18, c17)
set_option maxRecDepth 100000 in
theorem km_Ledger_tellRight {l : Launch} {g : zw_G} {rr : zw_RR} {sh : zw_Sh} {c : zw_Ct} {who1 : Int32} {event2 : Int32} {k3 : Int32} {r : Int32} {c2 : zw_Ct} (hS : zw_Ok 0 101 sh rr) (hsem : fn_Ledger_tellRight c who1 event2 k3 = some (r, c2)) : zw_Met l g y_Ledger_tellRight b_Ledger_tellRight 8 (some .int) 3 rr sh [.ref 69, .int who1, .int event2, .int k3, .ref 61] c (some (.int r)) c2 := by
  unfold fn_Ledger_tellRight at hsem
  refine zw_Met.of (by decide +kernel) (Nat.le_of_ble_eq_true rfl) (fun p e s m args below meth cd X => ?_)
  refine zw_eL (L2 := [some (.ref 69), some (.int who1), some (.int event2), some (.int k3), some (.ref 61), none, none, none]) rfl ?_
  refine r_iconst X (pc := 0) (v := 0) (zw_dg dk_Ledger_tellRight 0 rfl) (by decide) ?_
  refine r_istore X (pc := 1) (i := 5) (zw_dg dk_Ledger_tellRight 1 rfl) (by decide) rfl ?_
  refine r_iconst X (pc := 3) (v := 0) (zw_dg dk_Ledger_tellRight 2 rfl) (by decide) ?_
  refine r_istore X (pc := 4) (i := 6) (zw_dg dk_Ledger_tellRight 3 rfl) (by decide) rfl ?_
  obtain ⟨off6, hl7, hsl7⟩ := zw_bd hsem
  refine r_loop (pc := 6) (pce := 66) hl7 (fun (off4, part5) => [some (.ref 69), some (.int who1), some (.int event2), some (.int k3), some (.ref 61), some (.int off4), some (.int part5), none] : Int32 × Int32 → zw_Lc) (fun (off4, part5) => c : Int32 × Int32 → zw_Ct) (fun off6 => [some (.ref 69), some (.int who1), some (.int event2), some (.int k3), some (.ref 61), some (.int off6), none, none] : Int32 → zw_Lc) (fun off6 => c : Int32 → zw_Ct) ?_ rfl rfl ?_
  · rintro ⟨off4, part5⟩ rr hsem hK hP
    try unfold fn_Ledger_tellRight_l1 at hsem
    refine r_iload X (pc := 6) (i := 6) (zw_dg dk_Ledger_tellRight 4 rfl) rfl ?_
    refine r_aload_n X (pc := 8) (i := 0) (zw_dg dk_Ledger_tellRight 5 rfl) rfl rfl ?_
    refine r_getR X (pc := 9) (r := 1) ci_Ledger (zo hS 69 rfl rfl) rfl (zr hS 69 0 rfl rfl) lk_Ledger_15 (zw_dg dk_Ledger_tellRight 6 rfl) ?_
    refine r_getI X (pc := 12) ci_Sayings (zo hS 1 rfl rfl) rfl lk_Ledger_98 (zw_dg dk_Ledger_tellRight 7 rfl) ?_
    refine r_icmp_gt X (pc := 15) (tgt := 66) (zw_dg dk_Ledger_tellRight 8 rfl) (by decide) (fun q9 => ?_) (fun q9 => ?_)
    · --
      have p8 : ¬ (part5 ≤ (c.1 1 1)) := (Int32.not_le.mpr q9)
      have hsem := zw_ifn p8 hsem
      have jj := hK _ (Option.some.inj hsem).symm
      exact (r_fgt [6] rfl jj)
    · --
      have p8 : (part5 ≤ (c.1 1 1)) := (Int32.not_lt.mp q9)
      have hsem := zw_ifp p8 hsem
      refine r_aload_n X (pc := 18) (i := 0) (zw_dg dk_Ledger_tellRight 9 rfl) rfl rfl ?_
      refine r_iload_n X (pc := 19) (i := 1) (zw_dg dk_Ledger_tellRight 10 rfl) rfl rfl ?_
      refine r_iload_n X (pc := 20) (i := 2) (zw_dg dk_Ledger_tellRight 11 rfl) rfl rfl ?_
      refine r_iload X (pc := 21) (i := 6) (zw_dg dk_Ledger_tellRight 12 rfl) rfl ?_
      refine r_iconst X (pc := 23) (v := 0) (zw_dg dk_Ledger_tellRight 13 rfl) (by decide) ?_
      obtain ⟨r10, hr10, hsem⟩ := zw_bd hsem
      refine r_callVi X (pc := 24) (As := [_, _, _, _]) (st := []) (km_Ledger_saidSo hS hr10) ce_Ledger_saidSo kw_1303 (zo hS 69 rfl rfl) rfl rfl ⟨Nat.le_of_ble_eq_true rfl, Nat.le_of_ble_eq_true rfl⟩ (Nat.le_of_ble_eq_true rfl) (zw_dg dk_Ledger_tellRight 14 rfl) ?_
      refine r_iload X (pc := 27) (i := 6) (zw_dg dk_Ledger_tellRight 15 rfl) rfl ?_
      refine r_imul X (pc := 29) (zw_dg dk_Ledger_tellRight 16 rfl)  ?_
      obtain ⟨due11, hdue11, hsem⟩ := zw_bd hsem
      refine zw_topI hdue11 ?_
      refine r_istore X (pc := 30) (i := 7) (zw_dg dk_Ledger_tellRight 17 rfl) (by decide) rfl ?_
      refine r_iload X (pc := 32) (i := 5) (zw_dg dk_Ledger_tellRight 18 rfl) rfl ?_
      refine r_iload X (pc := 34) (i := 7) (zw_dg dk_Ledger_tellRight 19 rfl) rfl ?_
      refine r_aload_n X (pc := 36) (i := 0) (zw_dg dk_Ledger_tellRight 20 rfl) rfl rfl ?_
      refine r_getR X (pc := 37) (r := 1) ci_Ledger (zo hS 69 rfl rfl) rfl (zr hS 69 0 rfl rfl) lk_Ledger_15 (zw_dg dk_Ledger_tellRight 21 rfl) ?_
      refine r_getI X (pc := 40) ci_Sayings (zo hS 1 rfl rfl) rfl lk_Ledger_98 (zw_dg dk_Ledger_tellRight 22 rfl) ?_
      refine r_aload_n X (pc := 43) (i := 0) (zw_dg dk_Ledger_tellRight 23 rfl) rfl rfl ?_
      refine r_iload_n X (pc := 44) (i := 1) (zw_dg dk_Ledger_tellRight 24 rfl) rfl rfl ?_
      refine r_iload_n X (pc := 45) (i := 2) (zw_dg dk_Ledger_tellRight 25 rfl) rfl rfl ?_
      refine r_iload X (pc := 46) (i := 6) (zw_dg dk_Ledger_tellRight 26 rfl) rfl ?_
      refine r_iconst X (pc := 48) (v := 1) (zw_dg dk_Ledger_tellRight 27 rfl) (by decide) ?_
      obtain ⟨r12, hr12, hsem⟩ := zw_bd hsem
      refine r_callVi X (pc := 49) (As := [_, _, _, _]) (st := [.int (c.1 1 1), .int due11, .int off4]) (km_Ledger_saidSo hS hr12) ce_Ledger_saidSo kw_1303 (zo hS 69 rfl rfl) rfl rfl ⟨Nat.le_of_ble_eq_true rfl, Nat.le_of_ble_eq_true rfl⟩ (Nat.le_of_ble_eq_true rfl) (zw_dg dk_Ledger_tellRight 28 rfl) ?_
      refine r_imul X (pc := 52) (zw_dg dk_Ledger_tellRight 29 rfl)  ?_
      refine r_isub X (pc := 53) (zw_dg dk_Ledger_tellRight 30 rfl)  ?_
      refine r_mabs X (pc := 54) kw_1308 mws_abs kw_88 mwc_abs ⟨Nat.le_of_ble_eq_true rfl, Nat.le_of_ble_eq_true rfl⟩ (st := [.int off4]) (Nat.le_of_ble_eq_true rfl) (zw_dg dk_Ledger_tellRight 31 rfl) ?_
      refine r_iadd X (pc := 57) (zw_dg dk_Ledger_tellRight 32 rfl)  ?_
      obtain ⟨off13, hoff13, hsem⟩ := zw_bd hsem
      refine zw_topI hoff13 ?_
      refine r_istore X (pc := 58) (i := 5) (zw_dg dk_Ledger_tellRight 33 rfl) (by decide) rfl ?_
      refine r_iinc X (pc := 60) (i := 6) (k := 1) (zw_dg dk_Ledger_tellRight 34 rfl) rfl (by decide) (by decide) rfl ?_
      refine r_goto X (pc := 63) (tgt := 6) (zw_dg dk_Ledger_tellRight 35 rfl) (by decide) ?_
      have jj := hP _ (Option.some.inj hsem).symm
      exact (r_fgt [7] rfl jj)
  have hsem := hsl7
  refine r_aload X (pc := 66) (i := 4) (zw_dg dk_Ledger_tellRight 36 rfl) rfl ?_
  obtain ⟨c14, hc14, hsem⟩ := zw_bd hsem
  refine r_callVv X (pc := 68) (As := []) (st := []) (km_Row_clear hS hc14) ce_Row_clear kw_1276 (zo hS 61 rfl rfl) rfl rfl ⟨Nat.le_of_ble_eq_true rfl, Nat.le_of_ble_eq_true rfl⟩ (Nat.le_of_ble_eq_true rfl) (zw_dg dk_Ledger_tellRight 37 rfl) ?_
  refine r_aload X (pc := 71) (i := 4) (zw_dg dk_Ledger_tellRight 38 rfl) rfl ?_
  refine r_aload_n X (pc := 73) (i := 0) (zw_dg dk_Ledger_tellRight 39 rfl) rfl rfl ?_
  refine r_iload_n X (pc := 74) (i := 1) (zw_dg dk_Ledger_tellRight 40 rfl) rfl rfl ?_
  refine r_iload_n X (pc := 75) (i := 2) (zw_dg dk_Ledger_tellRight 41 rfl) rfl rfl ?_
  refine r_iload_n X (pc := 76) (i := 3) (zw_dg dk_Ledger_tellRight 42 rfl) rfl rfl ?_
  refine r_iconst X (pc := 77) (v := 1) (zw_dg dk_Ledger_tellRight 43 rfl) (by decide) ?_
  obtain ⟨r15, hr15, hsem⟩ := zw_bd hsem
  refine r_callVi X (pc := 78) (As := [_, _, _, _]) (st := [.ref 61]) (km_Ledger_saidSo hS hr15) ce_Ledger_saidSo kw_1303 (zo hS 69 rfl rfl) rfl rfl ⟨Nat.le_of_ble_eq_true rfl, Nat.le_of_ble_eq_true rfl⟩ (Nat.le_of_ble_eq_true rfl) (zw_dg dk_Ledger_tellRight 44 rfl) ?_
  refine r_i2l X (pc := 81) (zw_dg dk_Ledger_tellRight 45 rfl)  ?_
  obtain ⟨c16, hc16, hsem⟩ := zw_bd hsem
  refine r_callVv X (pc := 82) (As := [_]) (st := []) (km_Row_add hS hc16) ce_Row_add kw_1281 (zo hS 61 rfl rfl) rfl rfl ⟨Nat.le_of_ble_eq_true rfl, Nat.le_of_ble_eq_true rfl⟩ (Nat.le_of_ble_eq_true rfl) (zw_dg dk_Ledger_tellRight 46 rfl) ?_
  refine r_aload X (pc := 85) (i := 4) (zw_dg dk_Ledger_tellRight 47 rfl) rfl ?_
  refine r_iload X (pc := 87) (i := 5) (zw_dg dk_Ledger_tellRight 48 rfl) rfl ?_
  refine r_i2l X (pc := 89) (zw_dg dk_Ledger_tellRight 49 rfl)  ?_
  obtain ⟨c17, hc17, hsem⟩ := zw_bd hsem
  refine r_callVv X (pc := 90) (As := [_]) (st := []) (km_Row_add hS hc17) ce_Row_add kw_1281 (zo hS 61 rfl rfl) rfl rfl ⟨Nat.le_of_ble_eq_true rfl, Nat.le_of_ble_eq_true rfl⟩ (Nat.le_of_ble_eq_true rfl) (zw_dg dk_Ledger_tellRight 50 rfl) ?_
  refine r_aload_n X (pc := 93) (i := 0) (zw_dg dk_Ledger_tellRight 51 rfl) rfl rfl ?_
  refine r_iload_n X (pc := 94) (i := 1) (zw_dg dk_Ledger_tellRight 52 rfl) rfl rfl ?_
  refine r_iload_n X (pc := 95) (i := 2) (zw_dg dk_Ledger_tellRight 53 rfl) rfl rfl ?_
  refine r_iload_n X (pc := 96) (i := 3) (zw_dg dk_Ledger_tellRight 54 rfl) rfl rfl ?_
  refine r_iconst X (pc := 97) (v := 0) (zw_dg dk_Ledger_tellRight 55 rfl) (by decide) ?_
  obtain ⟨r18, hr18, hsem⟩ := zw_bd hsem
  refine r_callVi X (pc := 98) (As := [_, _, _, _]) (st := []) (km_Ledger_saidSo hS hr18) ce_Ledger_saidSo kw_1303 (zo hS 69 rfl rfl) rfl rfl ⟨Nat.le_of_ble_eq_true rfl, Nat.le_of_ble_eq_true rfl⟩ (Nat.le_of_ble_eq_true rfl) (zw_dg dk_Ledger_tellRight 56 rfl) ?_
  cases hsem
  exact r_iret X (pc := 101) rfl (zw_dg dk_Ledger_tellRight 57 rfl)
def y_Ledger_tellMeant : MethodName := ⟨R_Ledger, "tellMeant", "(ILPaidForThinking$Row;)I"⟩
abbrev b_Ledger_tellMeant : ByteArray := prog_6_method_8_code
def dl_Ledger_tellMeant : List (Nat × Instr × Nat) := [(0, .iconst 0, 1), (1, .istore_n 3, 1), (2, .iconst 0, 1), (3, .istore 4, 2), (5, .iconst 0, 1), (6, .istore 5, 2), (8, .iload 5, 2), (10, .aload_n 0, 1), (11, .getfield 19, 3), (14, .getfield 31, 3), (17, .if_icmp .ge 64, 3), (20, .aload_n 0, 1), (21, .getfield 19, 3), (24, .iload_n 1, 1), (25, .aload_n 0, 1), (26, .getfield 15, 3), (29, .aload_n 0, 1), (30, .getfield 19, 3), (33, .getfield 40, 3), (36, .iload 5, 2), (38, .iaload, 1), (39, .iconst 0, 1), (40, .invokevirtual 92, 3), (43, .invokevirtual 110, 3), (46, .ifCond .eq 29, 3), (49, .iinc 3 1, 3), (52, .iload 4, 2), (54, .aload_n 0, 1), (55, .getfield 19, 3), (58, .getfield 43, 3), (61, .iload 5, 2), (63, .iaload, 1), (64, .ifCond .ne 7, 3), (67, .iconst 1, 1), (68, .goto 4, 3), (71, .iconst 0, 1), (72, .iadd, 1), (73, .istore 4, 2), (75, .iinc 5 1, 3), (78, .goto (-70), 3), (81, .iload 4, 2), (83, .aload_n 0, 1), (84, .getfield 15, 3), (87, .getfield 98, 3), (90, .imul, 1), (91, .istore 5, 2), (93, .iload_n 3, 1), (94, .ifCond .le 39, 3), (97, .iload 5, 2), (99, .aload_n 0, 1), (100, .getfield 19, 3), (103, .getfield 114, 3), (106, .iload_n 1, 1), (107, .iaload, 1), (108, .iload_n 3, 1), (109, .imul, 1), (110, .if_icmp .lt 23, 3), (113, .iload 5, 2), (115, .aload_n 0, 1), (116, .getfield 19, 3), (119, .getfield 117, 3), (122, .iload_n 1, 1), (123, .iaload, 1), (124, .iload_n 3, 1), (125, .imul, 1), (126, .if_icmp .gt 7, 3), (129, .iconst 1, 1), (130, .goto 4, 3), (133, .iconst 0, 1), (134, .istore 6, 2), (136, .aload_n 2, 1), (137, .invokevirtual 64, 3), (140, .aload_n 2, 1), (141, .iload 4, 2), (143, .i2l, 1), (144, .invokevirtual 73, 3), (147, .aload_n 2, 1), (148, .iload 6, 2), (150, .ifCond .eq 7, 3), (153, .lconst 1, 1), (154, .goto 4, 3), (157, .lconst 0, 1), (158, .invokevirtual 73, 3), (161, .iload_n 3, 1), (162, .ireturn, 1)]
theorem dk_Ledger_tellMeant : zw_dk b_Ledger_tellMeant dl_Ledger_tellMeant = true := by decide +kernel
theorem ce_Ledger_tellMeant : zw_cev y_Ledger_tellMeant b_Ledger_tellMeant 7 (some .int) 2 := ⟨⟨kt_in 1317 (by decide +kernel) rfl, kt_in 97 (by decide +kernel) rfl, by decide +kernel⟩, kt_in 1315 (by decide +kernel) rfl, kt_in 1316 (by decide +kernel) rfl⟩
def fn_Ledger_tellMeant_l1 (c : zw_Ct) (word1 : Int32) : Int32 × Int32 × Int32 → Option ((Int32 × Int32) ⊕ (Int32 × Int32 × Int32)) := fun (many2, came3, i4) =>
  if (i4 < (c.1 3 6)) then
  ((zw_aI 40 c 7 i4).bind fun x10 =>
  (fn_Sayings_partOf c x10 0).bind fun r11 =>
  (fn_Held_isWordFor 3 c word1 r11).bind fun r12 =>
  (if (¬ r12 = 0) then
  ((zw_aI 40 c 8 i4).bind fun x17 =>
  (some ((came3 + (if (x17 = 0) then (1 : Int32) else 0)) : Int32)).bind fun came19 =>
  some (((many2 + 1) : Int32), (came19 : Int32)))
  else
  (some ((many2 : Int32), (came3 : Int32)))).bind fun (many13, came14) =>
  some (.inr (many13, came14, (i4 + 1))))
  else
  (some (.inl (many2, came3)))
def fn_Ledger_tellMeant (c : zw_Ct) (word1 : Int32) : Option (Int32 × zw_Ct) :=
  (zw_whl (fn_Ledger_tellMeant_l1 c word1) zw_F (0, 0, 0)).bind fun (many5, came6) =>
  (some ((came6 * (c.1 1 1)) : Int32)).bind fun often20 =>
  (if (0 < many5) then
  ((zw_aI 6 c 9 word1).bind fun x23 =>
  if ((x23 * many5) ≤ often20) then
  ((zw_aI 6 c 10 word1).bind fun x25 =>
  some (decide (often20 ≤ (x25 * many5))))
  else some false)
  else some false).bind fun b21 =>
  (some ((if b21 = true then (1 : Int32) else 0) : Int32)).bind fun lies27 =>
  (fn_Row_clear c).bind fun c28 =>
  (fn_Row_add c28 came6.toInt64).bind fun c29 =>
  (fn_Row_add c29 (if (¬ lies27 = 0) then (1 : Int64) else 0)).bind fun c31 =>
  some (many5, c31)
set_option maxRecDepth 100000 in
theorem km_Ledger_tellMeant {l : Launch} {g : zw_G} {rr : zw_RR} {sh : zw_Sh} {c : zw_Ct} {word1 : Int32} {r : Int32} {c2 : zw_Ct} (hS : zw_Ok 0 101 sh rr) (hsem : fn_Ledger_tellMeant c word1 = some (r, c2)) : zw_Met l g y_Ledger_tellMeant b_Ledger_tellMeant 7 (some .int) 3 rr sh [.ref 69, .int word1, .ref 61] c (some (.int r)) c2 := by
  unfold fn_Ledger_tellMeant at hsem
  refine zw_Met.of (by decide +kernel) (Nat.le_of_ble_eq_true rfl) (fun p e s m args below meth cd X => ?_)
  refine zw_eL (L2 := [some (.ref 69), some (.int word1), some (.ref 61), none, none, none, none]) rfl ?_
  refine r_iconst X (pc := 0) (v := 0) (zw_dg dk_Ledger_tellMeant 0 rfl) (by decide) ?_
  refine r_istore_n X (pc := 1) (i := 3) (zw_dg dk_Ledger_tellMeant 1 rfl) rfl (by decide) rfl ?_
  refine r_iconst X (pc := 2) (v := 0) (zw_dg dk_Ledger_tellMeant 2 rfl) (by decide) ?_
  refine r_istore X (pc := 3) (i := 4) (zw_dg dk_Ledger_tellMeant 3 rfl) (by decide) rfl ?_
  refine r_iconst X (pc := 5) (v := 0) (zw_dg dk_Ledger_tellMeant 4 rfl) (by decide) ?_
  refine r_istore X (pc := 6) (i := 5) (zw_dg dk_Ledger_tellMeant 5 rfl) (by decide) rfl ?_
  obtain ⟨l7, hl7, hsl7⟩ := zw_bd hsem
  refine r_loop (pc := 8) (pce := 81) hl7 (fun (many2, came3, i4) => [some (.ref 69), some (.int word1), some (.ref 61), some (.int many2), some (.int came3), some (.int i4), none] : Int32 × Int32 × Int32 → zw_Lc) (fun (many2, came3, i4) => c : Int32 × Int32 × Int32 → zw_Ct) (fun (many5, came6) => [some (.ref 69), some (.int word1), some (.ref 61), some (.int many5), some (.int came6), none, none] : Int32 × Int32 → zw_Lc) (fun (many5, came6) => c : Int32 × Int32 → zw_Ct) ?_ rfl rfl ?_
  · rintro ⟨many2, came3, i4⟩ rr hsem hK hP
    try unfold fn_Ledger_tellMeant_l1 at hsem
    refine r_iload X (pc := 8) (i := 5) (zw_dg dk_Ledger_tellMeant 6 rfl) rfl ?_
    refine r_aload_n X (pc := 10) (i := 0) (zw_dg dk_Ledger_tellMeant 7 rfl) rfl rfl ?_
    refine r_getR X (pc := 11) (r := 3) ci_Ledger (zo hS 69 rfl rfl) rfl (zr hS 69 1 rfl rfl) lk_Ledger_19 (zw_dg dk_Ledger_tellMeant 8 rfl) ?_
    refine r_getI X (pc := 14) ci_Held (zo hS 3 rfl rfl) rfl lk_Ledger_31 (zw_dg dk_Ledger_tellMeant 9 rfl) ?_
    refine r_icmp_ge X (pc := 17) (tgt := 81) (zw_dg dk_Ledger_tellMeant 10 rfl) (by decide) (fun q9 => ?_) (fun q9 => ?_)
    · --
      have p8 : ¬ (i4 < (c.1 3 6)) := (Int32.not_lt.mpr q9)
      have hsem := zw_ifn p8 hsem
      have jj := hK _ (Option.some.inj hsem).symm
      exact (r_fgt [5] rfl jj)
    · --
      have p8 : (i4 < (c.1 3 6)) := (Int32.not_le.mp q9)
      have hsem := zw_ifp p8 hsem
      refine r_aload_n X (pc := 20) (i := 0) (zw_dg dk_Ledger_tellMeant 11 rfl) rfl rfl ?_
      refine r_getR X (pc := 21) (r := 3) ci_Ledger (zo hS 69 rfl rfl) rfl (zr hS 69 1 rfl rfl) lk_Ledger_19 (zw_dg dk_Ledger_tellMeant 12 rfl) ?_
      refine r_iload_n X (pc := 24) (i := 1) (zw_dg dk_Ledger_tellMeant 13 rfl) rfl rfl ?_
      refine r_aload_n X (pc := 25) (i := 0) (zw_dg dk_Ledger_tellMeant 14 rfl) rfl rfl ?_
      refine r_getR X (pc := 26) (r := 1) ci_Ledger (zo hS 69 rfl rfl) rfl (zr hS 69 0 rfl rfl) lk_Ledger_15 (zw_dg dk_Ledger_tellMeant 15 rfl) ?_
      refine r_aload_n X (pc := 29) (i := 0) (zw_dg dk_Ledger_tellMeant 16 rfl) rfl rfl ?_
      refine r_getR X (pc := 30) (r := 3) ci_Ledger (zo hS 69 rfl rfl) rfl (zr hS 69 1 rfl rfl) lk_Ledger_19 (zw_dg dk_Ledger_tellMeant 17 rfl) ?_
      refine r_getR X (pc := 33) (r := 7) ci_Held (zo hS 3 rfl rfl) rfl (zr hS 3 4 rfl rfl) lk_Ledger_40 (zw_dg dk_Ledger_tellMeant 18 rfl) ?_
      refine r_iload X (pc := 36) (i := 5) (zw_dg dk_Ledger_tellMeant 19 rfl) rfl ?_
      obtain ⟨x10, hx10, hsem⟩ := zw_bd hsem
      refine r_iald X (pc := 38) (zo hS 7 rfl rfl) hx10 (zw_dg dk_Ledger_tellMeant 20 rfl) ?_
      refine r_iconst X (pc := 39) (v := 0) (zw_dg dk_Ledger_tellMeant 21 rfl) (by decide) ?_
      obtain ⟨r11, hr11, hsem⟩ := zw_bd hsem
      refine r_callVi X (pc := 40) (As := [_, _]) (st := [.int word1, .ref 3]) (km_Sayings_partOf hS hr11) ce_Sayings_partOf kw_1307 (zo hS 1 rfl rfl) rfl rfl ⟨Nat.le_of_ble_eq_true rfl, Nat.le_of_ble_eq_true rfl⟩ (Nat.le_of_ble_eq_true rfl) (zw_dg dk_Ledger_tellMeant 22 rfl) ?_
      obtain ⟨r12, hr12, hsem⟩ := zw_bd hsem
      refine r_callVi X (pc := 43) (As := [_, _]) (st := []) (km_Held_isWordFor (zho hS 3 rfl) hr12) ce_Held_isWordFor kw_1318 (zo hS 3 rfl rfl) rfl rfl ⟨Nat.le_of_ble_eq_true rfl, Nat.le_of_ble_eq_true rfl⟩ (Nat.le_of_ble_eq_true rfl) (zw_dg dk_Ledger_tellMeant 23 rfl) ?_
      obtain ⟨⟨many13, came14⟩, ht75, hs75⟩ := zw_bd hsem
      refine zw_jn (J := 75) (L2 := [some (.ref 69), some (.int word1), some (.ref 61), some (.int many13), some (.int came14), some (.int i4), none]) (c2 := c) (fun jj => ?_) ?_
      · have hsem := ht75
        refine r_if_eq X (pc := 46) (tgt := 75) (zw_dg dk_Ledger_tellMeant 24 rfl) (by decide) (fun q16 => ?_) (fun q16 => ?_)
        · --
          have p15 : ¬ (¬ r12 = 0) := (fun z => z q16)
          have hsem := zw_ifn p15 hsem
          obtain ⟨rfl, rfl⟩ := zw_in2 hsem
          exact (r_fgt [] rfl jj)
        · --
          have p15 : (¬ r12 = 0) := q16
          have hsem := zw_ifp p15 hsem
          refine r_iinc X (pc := 49) (i := 3) (k := 1) (zw_dg dk_Ledger_tellMeant 25 rfl) rfl (by decide) (by decide) rfl ?_
          refine r_iload X (pc := 52) (i := 4) (zw_dg dk_Ledger_tellMeant 26 rfl) rfl ?_
          refine r_aload_n X (pc := 54) (i := 0) (zw_dg dk_Ledger_tellMeant 27 rfl) rfl rfl ?_
          refine r_getR X (pc := 55) (r := 3) ci_Ledger (zo hS 69 rfl rfl) rfl (zr hS 69 1 rfl rfl) lk_Ledger_19 (zw_dg dk_Ledger_tellMeant 28 rfl) ?_
          refine r_getR X (pc := 58) (r := 8) ci_Held (zo hS 3 rfl rfl) rfl (zr hS 3 5 rfl rfl) lk_Ledger_43 (zw_dg dk_Ledger_tellMeant 29 rfl) ?_
          refine r_iload X (pc := 61) (i := 5) (zw_dg dk_Ledger_tellMeant 30 rfl) rfl ?_
          obtain ⟨x17, hx17, hsem⟩ := zw_bd hsem
          refine r_iald X (pc := 63) (zo hS 8 rfl rfl) hx17 (zw_dg dk_Ledger_tellMeant 31 rfl) ?_
          refine zw_ter (P := (x17 = 0)) (f := Value.int) (x := 1) (y := 0) (J := 72) (st2 := [.int came3]) (fun jT jF => ?_) ?_
          · --
            refine r_if_ne X (pc := 64) (tgt := 71) (zw_dg dk_Ledger_tellMeant 32 rfl) (by decide) (fun q18 => ?_) (fun q18 => ?_)
            · --
              refine r_iconst X (pc := 71) (v := 0) (zw_dg dk_Ledger_tellMeant 35 rfl) (by decide) ?_
              exact jF q18
            · --
              refine r_iconst X (pc := 67) (v := 1) (zw_dg dk_Ledger_tellMeant 33 rfl) (by decide) ?_
              refine r_goto X (pc := 68) (tgt := 72) (zw_dg dk_Ledger_tellMeant 34 rfl) (by decide) ?_
              exact jT q18
          refine r_iadd X (pc := 72) (zw_dg dk_Ledger_tellMeant 36 rfl)  ?_
          obtain ⟨came19, hcame19, hsem⟩ := zw_bd hsem
          refine zw_topI hcame19 ?_
          refine r_istore X (pc := 73) (i := 4) (zw_dg dk_Ledger_tellMeant 37 rfl) (by decide) rfl ?_
          obtain ⟨rfl, rfl⟩ := zw_in2 hsem
          exact (r_fgt [] rfl jj)
      have hsem := hs75
      refine r_iinc X (pc := 75) (i := 5) (k := 1) (zw_dg dk_Ledger_tellMeant 38 rfl) rfl (by decide) (by decide) rfl ?_
      refine r_goto X (pc := 78) (tgt := 8) (zw_dg dk_Ledger_tellMeant 39 rfl) (by decide) ?_
      have jj := hP _ (Option.some.inj hsem).symm
      exact (r_fgt [] rfl jj)
  obtain ⟨many5, came6⟩ := l7
  have hsem := hsl7
  refine r_iload X (pc := 81) (i := 4) (zw_dg dk_Ledger_tellMeant 40 rfl) rfl ?_
  refine r_aload_n X (pc := 83) (i := 0) (zw_dg dk_Ledger_tellMeant 41 rfl) rfl rfl ?_
  refine r_getR X (pc := 84) (r := 1) ci_Ledger (zo hS 69 rfl rfl) rfl (zr hS 69 0 rfl rfl) lk_Ledger_15 (zw_dg dk_Ledger_tellMeant 42 rfl) ?_
  refine r_getI X (pc := 87) ci_Sayings (zo hS 1 rfl rfl) rfl lk_Ledger_98 (zw_dg dk_Ledger_tellMeant 43 rfl) ?_
  refine r_imul X (pc := 90) (zw_dg dk_Ledger_tellMeant 44 rfl)  ?_
  obtain ⟨often20, hoften20, hsem⟩ := zw_bd hsem
  refine zw_topI hoften20 ?_
  refine r_istore X (pc := 91) (i := 5) (zw_dg dk_Ledger_tellMeant 45 rfl) (by decide) rfl ?_
  obtain ⟨b21, hb21, hsb21⟩ := zw_bd hsem
  refine zw_terO (f := Value.int) (v := if b21 = true then 1 else 0) (J := 134) (st2 := []) (c2 := c) (fun jj => ?_) ?_
  · have hsem := hb21
    refine r_iload_n X (pc := 93) (i := 3) (zw_dg dk_Ledger_tellMeant 46 rfl) rfl rfl ?_
    refine r_if_le X (pc := 94) (tgt := 133) (zw_dg dk_Ledger_tellMeant 47 rfl) (by decide) (fun q22 => ?_) (fun q22 => ?_)
    · --
      have hsem := zw_ifn (Int32.not_lt.mpr q22) hsem
      have hb_ := (Option.some.inj hsem).symm
      refine r_iconst X (pc := 133) (v := 0) (zw_dg dk_Ledger_tellMeant 68 rfl) (by decide) ?_
      rw [hb_] at jj; exact jj
    · --
      have hsem := zw_ifp (Int32.not_le.mp q22) hsem
      refine r_iload X (pc := 97) (i := 5) (zw_dg dk_Ledger_tellMeant 48 rfl) rfl ?_
      refine r_aload_n X (pc := 99) (i := 0) (zw_dg dk_Ledger_tellMeant 49 rfl) rfl rfl ?_
      refine r_getR X (pc := 100) (r := 3) ci_Ledger (zo hS 69 rfl rfl) rfl (zr hS 69 1 rfl rfl) lk_Ledger_19 (zw_dg dk_Ledger_tellMeant 50 rfl) ?_
      refine r_getR X (pc := 103) (r := 9) ci_Held (zo hS 3 rfl rfl) rfl (zr hS 3 7 rfl rfl) lk_Ledger_114 (zw_dg dk_Ledger_tellMeant 51 rfl) ?_
      refine r_iload_n X (pc := 106) (i := 1) (zw_dg dk_Ledger_tellMeant 52 rfl) rfl rfl ?_
      obtain ⟨x23, hx23, hsem⟩ := zw_bd hsem
      refine r_iald X (pc := 107) (zo hS 9 rfl rfl) hx23 (zw_dg dk_Ledger_tellMeant 53 rfl) ?_
      refine r_iload_n X (pc := 108) (i := 3) (zw_dg dk_Ledger_tellMeant 54 rfl) rfl rfl ?_
      refine r_imul X (pc := 109) (zw_dg dk_Ledger_tellMeant 55 rfl)  ?_
      refine r_icmp_lt X (pc := 110) (tgt := 133) (zw_dg dk_Ledger_tellMeant 56 rfl) (by decide) (fun q24 => ?_) (fun q24 => ?_)
      · --
        have hsem := zw_ifn (Int32.not_le.mpr q24) hsem
        have hb_ := (Option.some.inj hsem).symm
        refine r_iconst X (pc := 133) (v := 0) (zw_dg dk_Ledger_tellMeant 68 rfl) (by decide) ?_
        rw [hb_] at jj; exact jj
      · --
        have hsem := zw_ifp (Int32.not_lt.mp q24) hsem
        refine r_iload X (pc := 113) (i := 5) (zw_dg dk_Ledger_tellMeant 57 rfl) rfl ?_
        refine r_aload_n X (pc := 115) (i := 0) (zw_dg dk_Ledger_tellMeant 58 rfl) rfl rfl ?_
        refine r_getR X (pc := 116) (r := 3) ci_Ledger (zo hS 69 rfl rfl) rfl (zr hS 69 1 rfl rfl) lk_Ledger_19 (zw_dg dk_Ledger_tellMeant 59 rfl) ?_
        refine r_getR X (pc := 119) (r := 10) ci_Held (zo hS 3 rfl rfl) rfl (zr hS 3 8 rfl rfl) lk_Ledger_117 (zw_dg dk_Ledger_tellMeant 60 rfl) ?_
        refine r_iload_n X (pc := 122) (i := 1) (zw_dg dk_Ledger_tellMeant 61 rfl) rfl rfl ?_
        obtain ⟨x25, hx25, hsem⟩ := zw_bd hsem
        refine r_iald X (pc := 123) (zo hS 10 rfl rfl) hx25 (zw_dg dk_Ledger_tellMeant 62 rfl) ?_
        refine r_iload_n X (pc := 124) (i := 3) (zw_dg dk_Ledger_tellMeant 63 rfl) rfl rfl ?_
        refine r_imul X (pc := 125) (zw_dg dk_Ledger_tellMeant 64 rfl)  ?_
        refine r_icmp_gt X (pc := 126) (tgt := 133) (zw_dg dk_Ledger_tellMeant 65 rfl) (by decide) (fun q26 => ?_) (fun q26 => ?_)
        · --
          have hb_ := (zw_dF hsem (Int32.not_le.mpr q26))
          refine r_iconst X (pc := 133) (v := 0) (zw_dg dk_Ledger_tellMeant 68 rfl) (by decide) ?_
          rw [hb_] at jj; exact jj
        · --
          have hb_ := (zw_dT hsem (Int32.not_lt.mp q26))
          refine r_iconst X (pc := 129) (v := 1) (zw_dg dk_Ledger_tellMeant 66 rfl) (by decide) ?_
          refine r_goto X (pc := 130) (tgt := 134) (zw_dg dk_Ledger_tellMeant 67 rfl) (by decide) ?_
          rw [hb_] at jj; exact jj
  have hsem := hsb21
  obtain ⟨lies27, hlies27, hsem⟩ := zw_bd hsem
  refine zw_topI hlies27 ?_
  refine r_istore X (pc := 134) (i := 6) (zw_dg dk_Ledger_tellMeant 69 rfl) (by decide) rfl ?_
  refine r_aload_n X (pc := 136) (i := 2) (zw_dg dk_Ledger_tellMeant 70 rfl) rfl rfl ?_
  obtain ⟨c28, hc28, hsem⟩ := zw_bd hsem
  refine r_callVv X (pc := 137) (As := []) (st := []) (km_Row_clear hS hc28) ce_Row_clear kw_1276 (zo hS 61 rfl rfl) rfl rfl ⟨Nat.le_of_ble_eq_true rfl, Nat.le_of_ble_eq_true rfl⟩ (Nat.le_of_ble_eq_true rfl) (zw_dg dk_Ledger_tellMeant 71 rfl) ?_
  refine r_aload_n X (pc := 140) (i := 2) (zw_dg dk_Ledger_tellMeant 72 rfl) rfl rfl ?_
  refine r_iload X (pc := 141) (i := 4) (zw_dg dk_Ledger_tellMeant 73 rfl) rfl ?_
  refine r_i2l X (pc := 143) (zw_dg dk_Ledger_tellMeant 74 rfl)  ?_
  obtain ⟨c29, hc29, hsem⟩ := zw_bd hsem
  refine r_callVv X (pc := 144) (As := [_]) (st := []) (km_Row_add hS hc29) ce_Row_add kw_1281 (zo hS 61 rfl rfl) rfl rfl ⟨Nat.le_of_ble_eq_true rfl, Nat.le_of_ble_eq_true rfl⟩ (Nat.le_of_ble_eq_true rfl) (zw_dg dk_Ledger_tellMeant 75 rfl) ?_
  refine r_aload_n X (pc := 147) (i := 2) (zw_dg dk_Ledger_tellMeant 76 rfl) rfl rfl ?_
  refine zw_ter (P := (¬ lies27 = 0)) (f := Value.long) (x := 1) (y := 0) (J := 158) (st2 := [.ref 61]) (fun jT jF => ?_) ?_
  · --
    refine r_iload X (pc := 148) (i := 6) (zw_dg dk_Ledger_tellMeant 77 rfl) rfl ?_
    refine r_if_eq X (pc := 150) (tgt := 157) (zw_dg dk_Ledger_tellMeant 78 rfl) (by decide) (fun q30 => ?_) (fun q30 => ?_)
    · --
      refine r_lconst X (pc := 157) (v := 0) (zw_dg dk_Ledger_tellMeant 81 rfl) (by decide) ?_
      exact jF (fun z => z q30)
    · --
      refine r_lconst X (pc := 153) (v := 1) (zw_dg dk_Ledger_tellMeant 79 rfl) (by decide) ?_
      refine r_goto X (pc := 154) (tgt := 158) (zw_dg dk_Ledger_tellMeant 80 rfl) (by decide) ?_
      exact jT q30
  obtain ⟨c31, hc31, hsem⟩ := zw_bd hsem
  refine r_callVv X (pc := 158) (As := [_]) (st := []) (km_Row_add hS hc31) ce_Row_add kw_1281 (zo hS 61 rfl rfl) rfl rfl ⟨Nat.le_of_ble_eq_true rfl, Nat.le_of_ble_eq_true rfl⟩ (Nat.le_of_ble_eq_true rfl) (zw_dg dk_Ledger_tellMeant 82 rfl) ?_
  refine r_iload_n X (pc := 161) (i := 3) (zw_dg dk_Ledger_tellMeant 83 rfl) rfl rfl ?_
  cases hsem
  exact r_iret X (pc := 162) rfl (zw_dg dk_Ledger_tellMeant 84 rfl)
def y_Ledger_alwaysSaidTop : MethodName := ⟨R_Ledger, "alwaysSaidTop", "(I)Z"⟩
abbrev b_Ledger_alwaysSaidTop : ByteArray := prog_6_method_10_code
def dl_Ledger_alwaysSaidTop : List (Nat × Instr × Nat) := [(0, .aload_n 0, 1), (1, .getfield 23, 3), (4, .invokevirtual 134, 3), (7, .lstore_n 2, 1), (8, .iconst 0, 1), (9, .istore 4, 2), (11, .iload 4, 2), (13, .aload_n 0, 1), (14, .getfield 19, 3), (17, .getfield 31, 3), (20, .if_icmp .ge 48, 3), (23, .aload_n 0, 1), (24, .getfield 19, 3), (27, .getfield 37, 3), (30, .iload 4, 2), (32, .iaload, 1), (33, .iload_n 1, 1), (34, .if_icmp .ne 28, 3), (37, .aload_n 0, 1), (38, .getfield 23, 3), (41, .getfield 77, 3), (44, .aload_n 0, 1), (45, .getfield 19, 3), (48, .getfield 40, 3), (51, .iload 4, 2), (53, .iaload, 1), (54, .laload, 1), (55, .lload_n 2, 1), (56, .lcmp, 1), (57, .ifCond .eq 5, 3), (60, .iconst 0, 1), (61, .ireturn, 1), (62, .iinc 4 1, 3), (65, .goto (-54), 3), (68, .iconst 1, 1), (69, .ireturn, 1)]
theorem dk_Ledger_alwaysSaidTop : zw_dk b_Ledger_alwaysSaidTop dl_Ledger_alwaysSaidTop = true := by decide +kernel
theorem ce_Ledger_alwaysSaidTop : zw_cev y_Ledger_alwaysSaidTop b_Ledger_alwaysSaidTop 5 (some .boolean) 1 := ⟨⟨kt_in 1331 (by decide +kernel) rfl, kt_in 97 (by decide +kernel) rfl, by decide +kernel⟩, kt_in 1330 (by decide +kernel) rfl, kt_in 37 (by decide +kernel) rfl⟩
def fn_Ledger_alwaysSaidTop_l1 (c : zw_Ct) (who1 : Int32) (r2 : Int64) : Int32 → Option (((Int32) ⊕ (Unit)) ⊕ (Int32)) := fun i3 =>
  if (i3 < (c.1 3 6)) then
  ((zw_aI 40 c 6 i3).bind fun x7 =>
  (if (x7 = who1) then
  ((zw_aI 40 c 7 i3).bind fun x10 =>
  (zw_aL 455 c 12 x10).bind fun x11 =>
  some (decide (¬ x11 = r2)))
  else some false).bind fun b8 =>
  if b8 = true then
  (some (.inl (.inl 0)))
  else
  (some (.inr (i3 + 1))))
  else
  (some (.inl (.inr ())))
def fn_Ledger_alwaysSaidTop (c : zw_Ct) (who1 : Int32) : Option Int32 :=
  (fn_Tally_greatest c).bind fun r2 =>
  (zw_whl (fn_Ledger_alwaysSaidTop_l1 c who1 r2) zw_F 0).bind fun q => match q with
    | .inl w => some w
    | .inr _ =>
    some 1
set_option maxRecDepth 100000 in
theorem km_Ledger_alwaysSaidTop {l : Launch} {g : zw_G} {rr : zw_RR} {sh : zw_Sh} {c : zw_Ct} {who1 : Int32} {r : Int32} (hS : zw_Ok 0 101 sh rr) (hsem : fn_Ledger_alwaysSaidTop c who1 = some r) : zw_Met l g y_Ledger_alwaysSaidTop b_Ledger_alwaysSaidTop 5 (some .boolean) 4 rr sh [.ref 69, .int who1] c (some (.int r)) c := by
  unfold fn_Ledger_alwaysSaidTop at hsem
  refine zw_Met.of (by decide +kernel) (Nat.le_of_ble_eq_true rfl) (fun p e s m args below meth cd X => ?_)
  refine zw_eL (L2 := [some (.ref 69), some (.int who1), none, none, none]) rfl ?_
  refine r_aload_n X (pc := 0) (i := 0) (zw_dg dk_Ledger_alwaysSaidTop 0 rfl) rfl rfl ?_
  refine r_getR X (pc := 1) (r := 11) ci_Ledger (zo hS 69 rfl rfl) rfl (zr hS 69 2 rfl rfl) lk_Ledger_23 (zw_dg dk_Ledger_alwaysSaidTop 1 rfl) ?_
  obtain ⟨r2, hr2, hsem⟩ := zw_bd hsem
  refine r_callVl X (pc := 4) (As := []) (st := []) (km_Tally_greatest hS hr2) ce_Tally_greatest kw_1332 (zo hS 11 rfl rfl) rfl rfl ⟨Nat.le_of_ble_eq_true rfl, Nat.le_of_ble_eq_true rfl⟩ (Nat.le_of_ble_eq_true rfl) (zw_dg dk_Ledger_alwaysSaidTop 2 rfl) ?_
  refine r_lstore_n X (pc := 7) (i := 2) (L2 := [some (.ref 69), some (.int who1), some (.long r2), none, none]) (zw_dg dk_Ledger_alwaysSaidTop 3 rfl) rfl (by decide) rfl ?_
  refine r_iconst X (pc := 8) (v := 0) (zw_dg dk_Ledger_alwaysSaidTop 4 rfl) (by decide) ?_
  refine r_istore X (pc := 9) (i := 4) (zw_dg dk_Ledger_alwaysSaidTop 5 rfl) (by decide) rfl ?_
  obtain ⟨l4, hl4, hsl4⟩ := zw_bd hsem
  refine r_loopR (pc := 11) (pce := 68) hl4 (fun i3 => [some (.ref 69), some (.int who1), some (.long r2), none, some (.int i3)] : Int32 → zw_Lc) (fun i3 => c : Int32 → zw_Ct) (fun (_ : Unit) => [some (.ref 69), some (.int who1), some (.long r2), none, none] : Unit → zw_Lc) (fun (_ : Unit) => c : Unit → zw_Ct) (fun w => w = r) ?_ rfl rfl ?_ ?_
  · rintro i3 rr hsem hR hK hP
    try unfold fn_Ledger_alwaysSaidTop_l1 at hsem
    refine r_iload X (pc := 11) (i := 4) (zw_dg dk_Ledger_alwaysSaidTop 6 rfl) rfl ?_
    refine r_aload_n X (pc := 13) (i := 0) (zw_dg dk_Ledger_alwaysSaidTop 7 rfl) rfl rfl ?_
    refine r_getR X (pc := 14) (r := 3) ci_Ledger (zo hS 69 rfl rfl) rfl (zr hS 69 1 rfl rfl) lk_Ledger_19 (zw_dg dk_Ledger_alwaysSaidTop 8 rfl) ?_
    refine r_getI X (pc := 17) ci_Held (zo hS 3 rfl rfl) rfl lk_Ledger_31 (zw_dg dk_Ledger_alwaysSaidTop 9 rfl) ?_
    refine r_icmp_ge X (pc := 20) (tgt := 68) (zw_dg dk_Ledger_alwaysSaidTop 10 rfl) (by decide) (fun q6 => ?_) (fun q6 => ?_)
    · --
      have p5 : ¬ (i3 < (c.1 3 6)) := (Int32.not_lt.mpr q6)
      have hsem := zw_ifn p5 hsem
      have jj := hK _ (Option.some.inj hsem).symm
      exact (r_fgt [4] rfl jj)
    · --
      have p5 : (i3 < (c.1 3 6)) := (Int32.not_le.mp q6)
      have hsem := zw_ifp p5 hsem
      refine r_aload_n X (pc := 23) (i := 0) (zw_dg dk_Ledger_alwaysSaidTop 11 rfl) rfl rfl ?_
      refine r_getR X (pc := 24) (r := 3) ci_Ledger (zo hS 69 rfl rfl) rfl (zr hS 69 1 rfl rfl) lk_Ledger_19 (zw_dg dk_Ledger_alwaysSaidTop 12 rfl) ?_
      refine r_getR X (pc := 27) (r := 6) ci_Held (zo hS 3 rfl rfl) rfl (zr hS 3 3 rfl rfl) lk_Ledger_37 (zw_dg dk_Ledger_alwaysSaidTop 13 rfl) ?_
      refine r_iload X (pc := 30) (i := 4) (zw_dg dk_Ledger_alwaysSaidTop 14 rfl) rfl ?_
      obtain ⟨x7, hx7, hsem⟩ := zw_bd hsem
      refine r_iald X (pc := 32) (zo hS 6 rfl rfl) hx7 (zw_dg dk_Ledger_alwaysSaidTop 15 rfl) ?_
      refine r_iload_n X (pc := 33) (i := 1) (zw_dg dk_Ledger_alwaysSaidTop 16 rfl) rfl rfl ?_
      obtain ⟨b8, hb8, hsb8⟩ := zw_bd hsem
      refine zw_cndB (b := b8) (J1 := 60) (J2 := 62) (st2 := []) (fun jT jF => ?_) (fun hbb8 => ?_) (fun hbb8 => ?_)
      · have hsem := hb8
        refine r_icmp_ne X (pc := 34) (tgt := 62) (zw_dg dk_Ledger_alwaysSaidTop 17 rfl) (by decide) (fun q9 => ?_) (fun q9 => ?_)
        · --
          have hsem := zw_ifn q9 hsem
          exact jF (Option.some.inj hsem).symm
        · --
          have hsem := zw_ifp q9 hsem
          refine r_aload_n X (pc := 37) (i := 0) (zw_dg dk_Ledger_alwaysSaidTop 18 rfl) rfl rfl ?_
          refine r_getR X (pc := 38) (r := 11) ci_Ledger (zo hS 69 rfl rfl) rfl (zr hS 69 2 rfl rfl) lk_Ledger_23 (zw_dg dk_Ledger_alwaysSaidTop 19 rfl) ?_
          refine r_getR X (pc := 41) (r := 12) ci_Tally (zo hS 11 rfl rfl) rfl (zr hS 11 1 rfl rfl) lk_Ledger_77 (zw_dg dk_Ledger_alwaysSaidTop 20 rfl) ?_
          refine r_aload_n X (pc := 44) (i := 0) (zw_dg dk_Ledger_alwaysSaidTop 21 rfl) rfl rfl ?_
          refine r_getR X (pc := 45) (r := 3) ci_Ledger (zo hS 69 rfl rfl) rfl (zr hS 69 1 rfl rfl) lk_Ledger_19 (zw_dg dk_Ledger_alwaysSaidTop 22 rfl) ?_
          refine r_getR X (pc := 48) (r := 7) ci_Held (zo hS 3 rfl rfl) rfl (zr hS 3 4 rfl rfl) lk_Ledger_40 (zw_dg dk_Ledger_alwaysSaidTop 23 rfl) ?_
          refine r_iload X (pc := 51) (i := 4) (zw_dg dk_Ledger_alwaysSaidTop 24 rfl) rfl ?_
          obtain ⟨x10, hx10, hsem⟩ := zw_bd hsem
          refine r_iald X (pc := 53) (zo hS 7 rfl rfl) hx10 (zw_dg dk_Ledger_alwaysSaidTop 25 rfl) ?_
          obtain ⟨x11, hx11, hsem⟩ := zw_bd hsem
          refine r_lald X (pc := 54) (zo hS 12 rfl rfl) hx11 (zw_dg dk_Ledger_alwaysSaidTop 26 rfl) ?_
          refine r_lload_n X (pc := 55) (i := 2) (zw_dg dk_Ledger_alwaysSaidTop 27 rfl) rfl rfl ?_
          refine r_lcmp_eq X (pc := 56) (tgt := 62) (zw_dg dk_Ledger_alwaysSaidTop 28 rfl) (zw_dg dk_Ledger_alwaysSaidTop 29 rfl) (by decide) (fun q12 => ?_) (fun q12 => ?_)
          · --
            exact jF (zw_dF hsem (fun z => z q12))
          · --
            exact jT (zw_dT hsem q12)
      · have hsem := zw_ifp hbb8 hsb8
        refine r_iconst X (pc := 60) (v := 0) (zw_dg dk_Ledger_alwaysSaidTop 30 rfl) (by decide) ?_
        have hbz : (0 : Int32) = 0 ∨ (0 : Int32) = 1 := (by decide)
        have hret := hR _ (Option.some.inj hsem).symm
        cases hret
        exact r_zret X (pc := 61) rfl (zw_bzn hbz).1 (zw_dg dk_Ledger_alwaysSaidTop 31 rfl)
      · have hsem := zw_ifn (by rw [hbb8]; exact Bool.false_ne_true) hsb8
        refine r_iinc X (pc := 62) (i := 4) (k := 1) (zw_dg dk_Ledger_alwaysSaidTop 32 rfl) rfl (by decide) (by decide) rfl ?_
        refine r_goto X (pc := 65) (tgt := 11) (zw_dg dk_Ledger_alwaysSaidTop 33 rfl) (by decide) ?_
        have jj := hP _ (Option.some.inj hsem).symm
        exact (r_fgt [] rfl jj)
  · intro w hw
    subst hw
    exact Option.some.inj hsl4
  rintro _u hw
  subst hw
  have hsem := hsl4
  refine r_iconst X (pc := 68) (v := 1) (zw_dg dk_Ledger_alwaysSaidTop 34 rfl) (by decide) ?_
  have hbz : (1 : Int32) = 0 ∨ (1 : Int32) = 1 := (by decide)
  cases hsem
  exact r_zret X (pc := 69) rfl (zw_bzn hbz).1 (zw_dg dk_Ledger_alwaysSaidTop 35 rfl)
def y_Ledger_tellThoughts : MethodName := ⟨R_Ledger, "tellThoughts", "([IILPaidForThinking$Row;)I"⟩
abbrev b_Ledger_tellThoughts : ByteArray := prog_6_method_9_code
def dl_Ledger_tellThoughts : List (Nat × Instr × Nat) := [(0, .iconst 0, 1), (1, .istore 4, 2), (3, .iconst (-1), 1), (4, .istore 5, 2), (6, .iconst (-1), 1), (7, .istore 6, 2), (9, .iconst 0, 1), (10, .istore 7, 2), (12, .iload 7, 2), (14, .aload_n 0, 1), (15, .getfield 15, 3), (18, .getfield 120, 3), (21, .if_icmp .ge 49, 3), (24, .aload_n 0, 1), (25, .getfield 27, 3), (28, .aload_n 1, 1), (29, .iload 7, 2), (31, .invokevirtual 123, 3), (34, .aload_n 0, 1), (35, .iload_n 2, 1), (36, .invokevirtual 126, 3), (39, .ifCond .eq 25, 3), (42, .iload 5, 2), (44, .iconst (-1), 1), (45, .if_icmp .ne 8, 3), (48, .iload 7, 2), (50, .goto 5, 3), (53, .iload 5, 2), (55, .istore 5, 2), (57, .iload 7, 2), (59, .istore 6, 2), (61, .iinc 4 1, 3), (64, .iinc 7 1, 3), (67, .goto (-55), 3), (70, .aload_n 0, 1), (71, .getfield 27, 3), (74, .iload 5, 2), (76, .iload 6, 2), (78, .aload_n 3, 1), (79, .invokevirtual 130, 3), (82, .iload 4, 2), (84, .ireturn, 1)]
theorem dk_Ledger_tellThoughts : zw_dk b_Ledger_tellThoughts dl_Ledger_tellThoughts = true := by decide +kernel
theorem ce_Ledger_tellThoughts : zw_cev y_Ledger_tellThoughts b_Ledger_tellThoughts 8 (some .int) 3 := ⟨⟨kt_in 1326 (by decide +kernel) rfl, kt_in 97 (by decide +kernel) rfl, by decide +kernel⟩, kt_in 1324 (by decide +kernel) rfl, kt_in 1325 (by decide +kernel) rfl⟩
def fn_Ledger_tellThoughts_l1 (values1 : Nat) (who2 : Int32) : Int32 × Int32 × Int32 × Int32 × zw_Ct → Option ((Int32 × Int32 × Int32 × zw_Ct) ⊕ (Int32 × Int32 × Int32 × Int32 × zw_Ct)) := fun (first3, last4, many5, thought6, c7) =>
  if (thought6 < (c7.1 1 2)) then
  ((fn_Judge_tallyWorth c7 values1 thought6).bind fun c15 =>
  (fn_Ledger_alwaysSaidTop c15 who2).bind fun r16 =>
  (if (¬ r16 = 0) then
  ((some ((if (first3 = (-1)) then (thought6 : Int32) else first3) : Int32)).bind fun first23 =>
  some ((first23 : Int32), (thought6 : Int32), ((many5 + 1) : Int32)))
  else
  (some ((first3 : Int32), (last4 : Int32), (many5 : Int32)))).bind fun (first17, last18, many19) =>
  some (.inr (first17, last18, many19, (thought6 + 1), c15)))
  else
  (some (.inl (first3, last4, many5, c7)))
def fn_Ledger_tellThoughts (c : zw_Ct) (values1 : Nat) (who2 : Int32) : Option (Int32 × zw_Ct) :=
  (zw_whl (fn_Ledger_tellThoughts_l1 values1 who2) zw_F ((-1), (-1), 0, 0, c)).bind fun (first8, last9, many10, c11) =>
  (fn_Judge_tellTwo c11 first8 last9).bind fun c24 =>
  some (many10, c24)
set_option maxRecDepth 100000 in
theorem km_Ledger_tellThoughts {l : Launch} {g : zw_G} {rr : zw_RR} {sh : zw_Sh} {c : zw_Ct} {values1 : Nat} {who2 : Int32} {r : Int32} {c2 : zw_Ct} (hS : zw_Ok 0 101 sh rr) (hsem : fn_Ledger_tellThoughts c values1 who2 = some (r, c2)) : zw_Met l g y_Ledger_tellThoughts b_Ledger_tellThoughts 8 (some .int) 5 rr sh [.ref 69, .ref values1, .int who2, .ref 61] c (some (.int r)) c2 := by
  unfold fn_Ledger_tellThoughts at hsem
  refine zw_Met.of (by decide +kernel) (Nat.le_of_ble_eq_true rfl) (fun p e s m args below meth cd X => ?_)
  refine zw_eL (L2 := [some (.ref 69), some (.ref values1), some (.int who2), some (.ref 61), none, none, none, none]) rfl ?_
  refine r_iconst X (pc := 0) (v := 0) (zw_dg dk_Ledger_tellThoughts 0 rfl) (by decide) ?_
  refine r_istore X (pc := 1) (i := 4) (zw_dg dk_Ledger_tellThoughts 1 rfl) (by decide) rfl ?_
  refine r_iconst X (pc := 3) (v := (-1)) (zw_dg dk_Ledger_tellThoughts 2 rfl) (by decide) ?_
  refine r_istore X (pc := 4) (i := 5) (zw_dg dk_Ledger_tellThoughts 3 rfl) (by decide) rfl ?_
  refine r_iconst X (pc := 6) (v := (-1)) (zw_dg dk_Ledger_tellThoughts 4 rfl) (by decide) ?_
  refine r_istore X (pc := 7) (i := 6) (zw_dg dk_Ledger_tellThoughts 5 rfl) (by decide) rfl ?_
  refine r_iconst X (pc := 9) (v := 0) (zw_dg dk_Ledger_tellThoughts 6 rfl) (by decide) ?_
  refine r_istore X (pc := 10) (i := 7) (zw_dg dk_Ledger_tellThoughts 7 rfl) (by decide) rfl ?_
  obtain ⟨l12, hl12, hsl12⟩ := zw_bd hsem
  refine r_loop (pc := 12) (pce := 70) hl12 (fun (first3, last4, many5, thought6, c7) => [some (.ref 69), some (.ref values1), some (.int who2), some (.ref 61), some (.int many5), some (.int first3), some (.int last4), some (.int thought6)] : Int32 × Int32 × Int32 × Int32 × zw_Ct → zw_Lc) (fun (first3, last4, many5, thought6, c7) => c7 : Int32 × Int32 × Int32 × Int32 × zw_Ct → zw_Ct) (fun (first8, last9, many10, c11) => [some (.ref 69), some (.ref values1), some (.int who2), some (.ref 61), some (.int many10), some (.int first8), some (.int last9), none] : Int32 × Int32 × Int32 × zw_Ct → zw_Lc) (fun (first8, last9, many10, c11) => c11 : Int32 × Int32 × Int32 × zw_Ct → zw_Ct) ?_ rfl rfl ?_
  · rintro ⟨first3, last4, many5, thought6, c7⟩ rr hsem hK hP
    try unfold fn_Ledger_tellThoughts_l1 at hsem
    refine r_iload X (pc := 12) (i := 7) (zw_dg dk_Ledger_tellThoughts 8 rfl) rfl ?_
    refine r_aload_n X (pc := 14) (i := 0) (zw_dg dk_Ledger_tellThoughts 9 rfl) rfl rfl ?_
    refine r_getR X (pc := 15) (r := 1) ci_Ledger (zo hS 69 rfl rfl) rfl (zr hS 69 0 rfl rfl) lk_Ledger_15 (zw_dg dk_Ledger_tellThoughts 10 rfl) ?_
    refine r_getI X (pc := 18) ci_Sayings (zo hS 1 rfl rfl) rfl lk_Ledger_120 (zw_dg dk_Ledger_tellThoughts 11 rfl) ?_
    refine r_icmp_ge X (pc := 21) (tgt := 70) (zw_dg dk_Ledger_tellThoughts 12 rfl) (by decide) (fun q14 => ?_) (fun q14 => ?_)
    · --
      have p13 : ¬ (thought6 < (c7.1 1 2)) := (Int32.not_lt.mpr q14)
      have hsem := zw_ifn p13 hsem
      have jj := hK _ (Option.some.inj hsem).symm
      exact (r_fgt [7] rfl jj)
    · --
      have p13 : (thought6 < (c7.1 1 2)) := (Int32.not_le.mp q14)
      have hsem := zw_ifp p13 hsem
      refine r_aload_n X (pc := 24) (i := 0) (zw_dg dk_Ledger_tellThoughts 13 rfl) rfl rfl ?_
      refine r_getR X (pc := 25) (r := 13) ci_Ledger (zo hS 69 rfl rfl) rfl (zr hS 69 3 rfl rfl) lk_Ledger_27 (zw_dg dk_Ledger_tellThoughts 14 rfl) ?_
      refine r_aload_n X (pc := 28) (i := 1) (zw_dg dk_Ledger_tellThoughts 15 rfl) rfl rfl ?_
      refine r_iload X (pc := 29) (i := 7) (zw_dg dk_Ledger_tellThoughts 16 rfl) rfl ?_
      obtain ⟨c15, hc15, hsem⟩ := zw_bd hsem
      refine r_callVv X (pc := 31) (As := [_, _]) (st := []) (km_Judge_tallyWorth hS hc15) ce_Judge_tallyWorth kw_1327 (zo hS 13 rfl rfl) rfl rfl ⟨Nat.le_of_ble_eq_true rfl, Nat.le_of_ble_eq_true rfl⟩ (Nat.le_of_ble_eq_true rfl) (zw_dg dk_Ledger_tellThoughts 17 rfl) ?_
      refine r_aload_n X (pc := 34) (i := 0) (zw_dg dk_Ledger_tellThoughts 18 rfl) rfl rfl ?_
      refine r_iload_n X (pc := 35) (i := 2) (zw_dg dk_Ledger_tellThoughts 19 rfl) rfl rfl ?_
      obtain ⟨r16, hr16, hsem⟩ := zw_bd hsem
      refine r_callVi X (pc := 36) (As := [_]) (st := []) (km_Ledger_alwaysSaidTop hS hr16) ce_Ledger_alwaysSaidTop kw_1328 (zo hS 69 rfl rfl) rfl rfl ⟨Nat.le_of_ble_eq_true rfl, Nat.le_of_ble_eq_true rfl⟩ (Nat.le_of_ble_eq_true rfl) (zw_dg dk_Ledger_tellThoughts 20 rfl) ?_
      obtain ⟨⟨first17, last18, many19⟩, ht64, hs64⟩ := zw_bd hsem
      refine zw_jn (J := 64) (L2 := [some (.ref 69), some (.ref values1), some (.int who2), some (.ref 61), some (.int many19), some (.int first17), some (.int last18), some (.int thought6)]) (c2 := c15) (fun jj => ?_) ?_
      · have hsem := ht64
        refine r_if_eq X (pc := 39) (tgt := 64) (zw_dg dk_Ledger_tellThoughts 21 rfl) (by decide) (fun q21 => ?_) (fun q21 => ?_)
        · --
          have p20 : ¬ (¬ r16 = 0) := (fun z => z q21)
          have hsem := zw_ifn p20 hsem
          obtain ⟨rfl, rfl, rfl⟩ := zw_in3 hsem
          exact (r_fgt [] rfl jj)
        · --
          have p20 : (¬ r16 = 0) := q21
          have hsem := zw_ifp p20 hsem
          refine zw_ter (P := (first3 = (-1))) (f := Value.int) (x := thought6) (y := first3) (J := 55) (st2 := []) (fun jT jF => ?_) ?_
          · --
            refine r_iload X (pc := 42) (i := 5) (zw_dg dk_Ledger_tellThoughts 22 rfl) rfl ?_
            refine r_iconst X (pc := 44) (v := (-1)) (zw_dg dk_Ledger_tellThoughts 23 rfl) (by decide) ?_
            refine r_icmp_ne X (pc := 45) (tgt := 53) (zw_dg dk_Ledger_tellThoughts 24 rfl) (by decide) (fun q22 => ?_) (fun q22 => ?_)
            · --
              refine r_iload X (pc := 53) (i := 5) (zw_dg dk_Ledger_tellThoughts 27 rfl) rfl ?_
              exact jF q22
            · --
              refine r_iload X (pc := 48) (i := 7) (zw_dg dk_Ledger_tellThoughts 25 rfl) rfl ?_
              refine r_goto X (pc := 50) (tgt := 55) (zw_dg dk_Ledger_tellThoughts 26 rfl) (by decide) ?_
              exact jT q22
          obtain ⟨first23, hfirst23, hsem⟩ := zw_bd hsem
          refine zw_topI hfirst23 ?_
          refine r_istore X (pc := 55) (i := 5) (zw_dg dk_Ledger_tellThoughts 28 rfl) (by decide) rfl ?_
          refine r_iload X (pc := 57) (i := 7) (zw_dg dk_Ledger_tellThoughts 29 rfl) rfl ?_
          refine r_istore X (pc := 59) (i := 6) (zw_dg dk_Ledger_tellThoughts 30 rfl) (by decide) rfl ?_
          refine r_iinc X (pc := 61) (i := 4) (k := 1) (zw_dg dk_Ledger_tellThoughts 31 rfl) rfl (by decide) (by decide) rfl ?_
          obtain ⟨rfl, rfl, rfl⟩ := zw_in3 hsem
          exact (r_fgt [] rfl jj)
      have hsem := hs64
      refine r_iinc X (pc := 64) (i := 7) (k := 1) (zw_dg dk_Ledger_tellThoughts 32 rfl) rfl (by decide) (by decide) rfl ?_
      refine r_goto X (pc := 67) (tgt := 12) (zw_dg dk_Ledger_tellThoughts 33 rfl) (by decide) ?_
      have jj := hP _ (Option.some.inj hsem).symm
      exact (r_fgt [] rfl jj)
  obtain ⟨first8, last9, many10, c11⟩ := l12
  have hsem := hsl12
  refine r_aload_n X (pc := 70) (i := 0) (zw_dg dk_Ledger_tellThoughts 34 rfl) rfl rfl ?_
  refine r_getR X (pc := 71) (r := 13) ci_Ledger (zo hS 69 rfl rfl) rfl (zr hS 69 3 rfl rfl) lk_Ledger_27 (zw_dg dk_Ledger_tellThoughts 35 rfl) ?_
  refine r_iload X (pc := 74) (i := 5) (zw_dg dk_Ledger_tellThoughts 36 rfl) rfl ?_
  refine r_iload X (pc := 76) (i := 6) (zw_dg dk_Ledger_tellThoughts 37 rfl) rfl ?_
  refine r_aload_n X (pc := 78) (i := 3) (zw_dg dk_Ledger_tellThoughts 38 rfl) rfl rfl ?_
  obtain ⟨c24, hc24, hsem⟩ := zw_bd hsem
  refine r_callVv X (pc := 79) (As := [_, _, _]) (st := []) (km_Judge_tellTwo hS hc24) ce_Judge_tellTwo kw_1333 (zo hS 13 rfl rfl) rfl rfl ⟨Nat.le_of_ble_eq_true rfl, Nat.le_of_ble_eq_true rfl⟩ (Nat.le_of_ble_eq_true rfl) (zw_dg dk_Ledger_tellThoughts 39 rfl) ?_
  refine r_iload X (pc := 82) (i := 4) (zw_dg dk_Ledger_tellThoughts 40 rfl) rfl ?_
  cases hsem
  exact r_iret X (pc := 84) rfl (zw_dg dk_Ledger_tellThoughts 41 rfl)
