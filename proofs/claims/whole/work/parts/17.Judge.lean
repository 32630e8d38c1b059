/-! PaidForThinking$Judge: names, functions, contracts (by program: wip/whole/gen) -/
def y_Judge_weighed : MethodName := ⟨R_Judge, "weighed", "([II[II)J"⟩
abbrev b_Judge_weighed : ByteArray := prog_5_method_2_code
def dl_Judge_weighed : List (Nat × Instr × Nat) := [(0, .lconst 0, 1), (1, .lstore 5, 2), (3, .iload_n 2, 1), (4, .iconst 4, 1), (5, .imul, 1), (6, .istore 7, 2), (8, .iconst 0, 1), (9, .istore 8, 2), (11, .iload 8, 2), (13, .aload_n 0, 1), (14, .getfield 9, 3), (17, .getfield 19, 3), (20, .if_icmp .ge 31, 3), (23, .lload 5, 2), (25, .aload_n 3, 1), (26, .iload 4, 2), (28, .iload 8, 2), (30, .iadd, 1), (31, .iaload, 1), (32, .i2l, 1), (33, .aload_n 1, 1), (34, .iload 7, 2), (36, .iload 8, 2), (38, .iadd, 1), (39, .iaload, 1), (40, .i2l, 1), (41, .lmul, 1), (42, .ladd, 1), (43, .lstore 5, 2), (45, .iinc 8 1, 3), (48, .goto (-37), 3), (51, .lload 5, 2), (53, .lreturn, 1)]
theorem dk_Judge_weighed : zw_dk b_Judge_weighed dl_Judge_weighed = true := by decide +kernel
theorem ce_Judge_weighed : zw_cev y_Judge_weighed b_Judge_weighed 9 (some .long) 4 := ⟨⟨kt_in 769 (by decide +kernel) rfl, kt_in 90 (by decide +kernel) rfl, by decide +kernel⟩, kt_in 767 (by decide +kernel) rfl, kt_in 768 (by decide +kernel) rfl⟩
def fn_Judge_weighed_l1 (c : zw_Ct) (weights3 : Nat) (from4 : Int32) (values1 : Nat) (at5 : Int32) : Int64 × Int32 → Option ((Int64) ⊕ (Int64 × Int32)) := fun (sum6, e7) =>
  if (e7 < (c.1 1 0)) then
  ((zw_dI SH 0 c weights3 (from4 + e7)).bind fun x12 =>
  (zw_dI SH 0 c values1 (at5 + e7)).bind fun x13 =>
  (some ((sum6 + (x12.toInt64 * x13.toInt64)) : Int64)).bind fun sum14 =>
  some (.inr (sum14, (e7 + 1))))
  else
  (some (.inl sum6))
def fn_Judge_weighed (c : zw_Ct) (values1 : Nat) (saying2 : Int32) (weights3 : Nat) (from4 : Int32) : Option Int64 :=
  (some ((saying2 * 4) : Int32)).bind fun at5 =>
  (zw_whl (fn_Judge_weighed_l1 c weights3 from4 values1 at5) zw_F (0, 0)).bind fun sum8 =>
  some sum8
set_option maxRecDepth 100000 in
theorem km_Judge_weighed {l : Launch} {g : zw_G} {rr : zw_RR} {sh : zw_Sh} {c : zw_Ct} {values1 : Nat} {saying2 : Int32} {weights3 : Nat} {from4 : Int32} {r : Int64} (hS : zw_Ok 0 101 sh rr) (hsem : fn_Judge_weighed c values1 saying2 weights3 from4 = some r) : zw_Met l g y_Judge_weighed b_Judge_weighed 9 (some .long) 1 rr sh [.ref 13, .ref values1, .int saying2, .ref weights3, .int from4] c (some (.long r)) c := by
  unfold fn_Judge_weighed at hsem
  refine zw_Met.of (by decide +kernel) (Nat.le_of_ble_eq_true rfl) (fun p e s m args below meth cd X => ?_)
  refine zw_eL (L2 := [some (.ref 13), some (.ref values1), some (.int saying2), some (.ref weights3), some (.int from4), none, none, none, none]) rfl ?_
  refine r_lconst X (pc := 0) (v := 0) (zw_dg dk_Judge_weighed 0 rfl) (by decide) ?_
  refine r_lstore X (pc := 1) (i := 5) (L2 := [some (.ref 13), some (.ref values1), some (.int saying2), some (.ref weights3), some (.int from4), some (.long 0), none, none, none]) (zw_dg dk_Judge_weighed 1 rfl) (by decide) rfl ?_
  refine r_iload_n X (pc := 3) (i := 2) (zw_dg dk_Judge_weighed 2 rfl) rfl rfl ?_
  refine r_iconst X (pc := 4) (v := 4) (zw_dg dk_Judge_weighed 3 rfl) (by decide) ?_
  refine r_imul X (pc := 5) (zw_dg dk_Judge_weighed 4 rfl)  ?_
  obtain ⟨at5, hat5, hsem⟩ := zw_bd hsem
  refine zw_topI hat5 ?_
  refine r_istore X (pc := 6) (i := 7) (zw_dg dk_Judge_weighed 5 rfl) (by decide) rfl ?_
  refine r_iconst X (pc := 8) (v := 0) (zw_dg dk_Judge_weighed 6 rfl) (by decide) ?_
  refine r_istore X (pc := 9) (i := 8) (zw_dg dk_Judge_weighed 7 rfl) (by decide) rfl ?_
  obtain ⟨sum8, hl9, hsl9⟩ := zw_bd hsem
  refine r_loop (pc := 11) (pce := 51) hl9 (fun (sum6, e7) => [some (.ref 13), some (.ref values1), some (.int saying2), some (.ref weights3), some (.int from4), some (.long sum6), none, some (.int at5), some (.int e7)] : Int64 × Int32 → zw_Lc) (fun (sum6, e7) => c : Int64 × Int32 → zw_Ct) (fun sum8 => [some (.ref 13), some (.ref values1), some (.int saying2), some (.ref weights3), some (.int from4), some (.long sum8), none, some (.int at5), none] : Int64 → zw_Lc) (fun sum8 => c : Int64 → zw_Ct) ?_ rfl rfl ?_
  · rintro ⟨sum6, e7⟩ rr hsem hK hP
    try unfold fn_Judge_weighed_l1 at hsem
    refine r_iload X (pc := 11) (i := 8) (zw_dg dk_Judge_weighed 8 rfl) rfl ?_
    refine r_aload_n X (pc := 13) (i := 0) (zw_dg dk_Judge_weighed 9 rfl) rfl rfl ?_
    refine r_getR X (pc := 14) (r := 1) ci_Judge (zo hS 13 rfl rfl) rfl (zr hS 13 0 rfl rfl) lk_Judge_9 (zw_dg dk_Judge_weighed 10 rfl) ?_
    refine r_getI X (pc := 17) ci_Sayings (zo hS 1 rfl rfl) rfl lk_Judge_19 (zw_dg dk_Judge_weighed 11 rfl) ?_
    refine r_icmp_ge X (pc := 20) (tgt := 51) (zw_dg dk_Judge_weighed 12 rfl) (by decide) (fun q11 => ?_) (fun q11 => ?_)
    · --
      have p10 : ¬ (e7 < (c.1 1 0)) := (Int32.not_lt.mpr q11)
      have hsem := zw_ifn p10 hsem
      have jj := hK _ (Option.some.inj hsem).symm
      exact (r_fgt [8] rfl jj)
    · --
      have p10 : (e7 < (c.1 1 0)) := (Int32.not_le.mp q11)
      have hsem := zw_ifp p10 hsem
      refine r_lload X (pc := 23) (i := 5) (zw_dg dk_Judge_weighed 13 rfl) rfl ?_
      refine r_aload_n X (pc := 25) (i := 3) (zw_dg dk_Judge_weighed 14 rfl) rfl rfl ?_
      refine r_iload X (pc := 26) (i := 4) (zw_dg dk_Judge_weighed 15 rfl) rfl ?_
      refine r_iload X (pc := 28) (i := 8) (zw_dg dk_Judge_weighed 16 rfl) rfl ?_
      refine r_iadd X (pc := 30) (zw_dg dk_Judge_weighed 17 rfl)  ?_
      obtain ⟨x12, hx12, hsem⟩ := zw_bd hsem
      obtain ⟨_, hnx12, hx12⟩ := zw_bd hx12
      refine r_iald X (pc := 31) (zd hS (zw_len_of hnx12)) hx12 (zw_dg dk_Judge_weighed 18 rfl) ?_
      refine r_i2l X (pc := 32) (zw_dg dk_Judge_weighed 19 rfl)  ?_
      refine r_aload_n X (pc := 33) (i := 1) (zw_dg dk_Judge_weighed 20 rfl) rfl rfl ?_
      refine r_iload X (pc := 34) (i := 7) (zw_dg dk_Judge_weighed 21 rfl) rfl ?_
      refine r_iload X (pc := 36) (i := 8) (zw_dg dk_Judge_weighed 22 rfl) rfl ?_
      refine r_iadd X (pc := 38) (zw_dg dk_Judge_weighed 23 rfl)  ?_
      obtain ⟨x13, hx13, hsem⟩ := zw_bd hsem
      obtain ⟨_, hnx13, hx13⟩ := zw_bd hx13
      refine r_iald X (pc := 39) (zd hS (zw_len_of hnx13)) hx13 (zw_dg dk_Judge_weighed 24 rfl) ?_
      refine r_i2l X (pc := 40) (zw_dg dk_Judge_weighed 25 rfl)  ?_
      refine r_lmul X (pc := 41) (zw_dg dk_Judge_weighed 26 rfl)  ?_
      refine r_ladd X (pc := 42) (zw_dg dk_Judge_weighed 27 rfl)  ?_
      obtain ⟨sum14, hsum14, hsem⟩ := zw_bd hsem
      refine zw_topJ hsum14 ?_
      refine r_lstore X (pc := 43) (i := 5) (L2 := [some (.ref 13), some (.ref values1), some (.int saying2), some (.ref weights3), some (.int from4), some (.long sum14), none, some (.int at5), some (.int e7)]) (zw_dg dk_Judge_weighed 28 rfl) (by decide) rfl ?_
      refine r_iinc X (pc := 45) (i := 8) (k := 1) (zw_dg dk_Judge_weighed 29 rfl) rfl (by decide) (by decide) rfl ?_
      refine r_goto X (pc := 48) (tgt := 11) (zw_dg dk_Judge_weighed 30 rfl) (by decide) ?_
      have jj := hP _ (Option.some.inj hsem).symm
      exact (r_fgt [] rfl jj)
  have hsem := hsl9
  refine r_lload X (pc := 51) (i := 5) (zw_dg dk_Judge_weighed 31 rfl) rfl ?_
  cases hsem
  exact r_lret X (pc := 53) rfl (zw_dg dk_Judge_weighed 32 rfl)
def y_Judge_worth : MethodName := ⟨R_Judge, "worth", "([III)J"⟩
abbrev b_Judge_worth : ByteArray := prog_5_method_3_code
def dl_Judge_worth : List (Nat × Instr × Nat) := [(0, .aload_n 0, 1), (1, .aload_n 1, 1), (2, .iload_n 2, 1), (3, .aload_n 0, 1), (4, .getfield 9, 3), (7, .getfield 25, 3), (10, .iload_n 3, 1), (11, .iconst 4, 1), (12, .imul, 1), (13, .invokevirtual 29, 3), (16, .lreturn, 1)]
theorem dk_Judge_worth : zw_dk b_Judge_worth dl_Judge_worth = true := by decide +kernel
theorem ce_Judge_worth : zw_cev y_Judge_worth b_Judge_worth 4 (some .long) 3 := ⟨⟨kt_in 765 (by decide +kernel) rfl, kt_in 90 (by decide +kernel) rfl, by decide +kernel⟩, kt_in 763 (by decide +kernel) rfl, kt_in 764 (by decide +kernel) rfl⟩
def fn_Judge_worth (c : zw_Ct) (values1 : Nat) (saying2 : Int32) (thought3 : Int32) : Option Int64 :=
  (fn_Judge_weighed c values1 saying2 2 (thought3 * 4)).bind fun r4 =>
  some r4
set_option maxRecDepth 100000 in
theorem km_Judge_worth {l : Launch} {g : zw_G} {rr : zw_RR} {sh : zw_Sh} {c : zw_Ct} {values1 : Nat} {saying2 : Int32} {thought3 : Int32} {r : Int64} (hS : zw_Ok 0 101 sh rr) (hsem : fn_Judge_worth c values1 saying2 thought3 = some r) : zw_Met l g y_Judge_worth b_Judge_worth 4 (some .long) 2 rr sh [.ref 13, .ref values1, .int saying2, .int thought3] c (some (.long r)) c := by
  unfold fn_Judge_worth at hsem
  refine zw_Met.of (by decide +kernel) (Nat.le_of_ble_eq_true rfl) (fun p e s m args below meth cd X => ?_)
  refine zw_eL (L2 := [some (.ref 13), some (.ref values1), some (.int saying2), some (.int thought3)]) rfl ?_
  refine r_aload_n X (pc := 0) (i := 0) (zw_dg dk_Judge_worth 0 rfl) rfl rfl ?_
  refine r_aload_n X (pc := 1) (i := 1) (zw_dg dk_Judge_worth 1 rfl) rfl rfl ?_
  refine r_iload_n X (pc := 2) (i := 2) (zw_dg dk_Judge_worth 2 rfl) rfl rfl ?_
  refine r_aload_n X (pc := 3) (i := 0) (zw_dg dk_Judge_worth 3 rfl) rfl rfl ?_
  refine r_getR X (pc := 4) (r := 1) ci_Judge (zo hS 13 rfl rfl) rfl (zr hS 13 0 rfl rfl) lk_Judge_9 (zw_dg dk_Judge_worth 4 rfl) ?_
  refine r_getR X (pc := 7) (r := 2) ci_Sayings (zo hS 1 rfl rfl) rfl (zr hS 1 3 rfl rfl) lk_Judge_25 (zw_dg dk_Judge_worth 5 rfl) ?_
  refine r_iload_n X (pc := 10) (i := 3) (zw_dg dk_Judge_worth 6 rfl) rfl rfl ?_
  refine r_iconst X (pc := 11) (v := 4) (zw_dg dk_Judge_worth 7 rfl) (by decide) ?_
  refine r_imul X (pc := 12) (zw_dg dk_Judge_worth 8 rfl)  ?_
  obtain ⟨r4, hr4, hsem⟩ := zw_bd hsem
  refine r_callVl X (pc := 13) (As := [_, _, _, _]) (st := []) (km_Judge_weighed hS hr4) ce_Judge_weighed kw_766 (zo hS 13 rfl rfl) rfl rfl ⟨Nat.le_of_ble_eq_true rfl, Nat.le_of_ble_eq_true rfl⟩ (Nat.le_of_ble_eq_true rfl) (zw_dg dk_Judge_worth 9 rfl) ?_
  cases hsem
  exact r_lret X (pc := 16) rfl (zw_dg dk_Judge_worth 10 rfl)
def y_Judge_tallyWeighed : MethodName := ⟨R_Judge, "tallyWeighed", "([I[II)V"⟩
abbrev b_Judge_tallyWeighed : ByteArray := prog_5_method_4_code
def dl_Judge_tallyWeighed : List (Nat × Instr × Nat) := [(0, .iconst 0, 1), (1, .istore 4, 2), (3, .iload 4, 2), (5, .aload_n 0, 1), (6, .getfield 9, 3), (9, .getfield 33, 3), (12, .if_icmp .ge 28, 3), (15, .aload_n 0, 1), (16, .getfield 15, 3), (19, .getfield 36, 3), (22, .iload 4, 2), (24, .aload_n 0, 1), (25, .aload_n 1, 1), (26, .iload 4, 2), (28, .aload_n 2, 1), (29, .iload_n 3, 1), (30, .invokevirtual 29, 3), (33, .lastore, 1), (34, .iinc 4 1, 3), (37, .goto (-34), 3), (40, .return_, 1)]
theorem dk_Judge_tallyWeighed : zw_dk b_Judge_tallyWeighed dl_Judge_tallyWeighed = true := by decide +kernel
theorem ce_Judge_tallyWeighed : zw_cev y_Judge_tallyWeighed b_Judge_tallyWeighed 5 (none) 3 := ⟨⟨kt_in 800 (by decide +kernel) rfl, kt_in 90 (by decide +kernel) rfl, by decide +kernel⟩, kt_in 798 (by decide +kernel) rfl, kt_in 799 (by decide +kernel) rfl⟩
def fn_Judge_tallyWeighed_l1 (values1 : Nat) (weights2 : Nat) (from3 : Int32) : Int32 × zw_Ct → Option ((zw_Ct) ⊕ (Int32 × zw_Ct)) := fun (s4, c5) =>
  if (s4 < (c5.1 1 2)) then
  ((fn_Judge_weighed c5 values1 s4 weights2 from3).bind fun r10 =>
  (zw_uL 455 c5 12 s4 r10).bind fun c11 =>
  some (.inr ((s4 + 1), c11)))
  else
  (some (.inl c5))
def fn_Judge_tallyWeighed (c : zw_Ct) (values1 : Nat) (weights2 : Nat) (from3 : Int32) : Option zw_Ct :=
  (zw_whl (fn_Judge_tallyWeighed_l1 values1 weights2 from3) zw_F (0, c)).bind fun c6 =>
  some c6
set_option maxRecDepth 100000 in
theorem km_Judge_tallyWeighed {l : Launch} {g : zw_G} {rr : zw_RR} {sh : zw_Sh} {c : zw_Ct} {values1 : Nat} {weights2 : Nat} {from3 : Int32} {c2 : zw_Ct} (hS : zw_Ok 0 101 sh rr) (hsem : fn_Judge_tallyWeighed c values1 weights2 from3 = some c2) : zw_Met l g y_Judge_tallyWeighed b_Judge_tallyWeighed 5 (none) 2 rr sh [.ref 13, .ref values1, .ref weights2, .int from3] c none c2 := by
  unfold fn_Judge_tallyWeighed at hsem
  refine zw_Met.of (by decide +kernel) (Nat.le_of_ble_eq_true rfl) (fun p e s m args below meth cd X => ?_)
  refine zw_eL (L2 := [some (.ref 13), some (.ref values1), some (.ref weights2), some (.int from3), none]) rfl ?_
  refine r_iconst X (pc := 0) (v := 0) (zw_dg dk_Judge_tallyWeighed 0 rfl) (by decide) ?_
  refine r_istore X (pc := 1) (i := 4) (zw_dg dk_Judge_tallyWeighed 1 rfl) (by decide) rfl ?_
  obtain ⟨c6, hl7, hsl7⟩ := zw_bd hsem
  refine r_loop (pc := 3) (pce := 40) hl7 (fun (s4, c5) => [some (.ref 13), some (.ref values1), some (.ref weights2), some (.int from3), some (.int s4)] : Int32 × zw_Ct → zw_Lc) (fun (s4, c5) => c5 : Int32 × zw_Ct → zw_Ct) (fun c6 => [some (.ref 13), some (.ref values1), some (.ref weights2), some (.int from3), none] : zw_Ct → zw_Lc) (fun c6 => c6 : zw_Ct → zw_Ct) ?_ rfl rfl ?_
  · rintro ⟨s4, c5⟩ rr hsem hK hP
    try unfold fn_Judge_tallyWeighed_l1 at hsem
    refine r_iload X (pc := 3) (i := 4) (zw_dg dk_Judge_tallyWeighed 2 rfl) rfl ?_
    refine r_aload_n X (pc := 5) (i := 0) (zw_dg dk_Judge_tallyWeighed 3 rfl) rfl rfl ?_
    refine r_getR X (pc := 6) (r := 1) ci_Judge (zo hS 13 rfl rfl) rfl (zr hS 13 0 rfl rfl) lk_Judge_9 (zw_dg dk_Judge_tallyWeighed 4 rfl) ?_
    refine r_getI X (pc := 9) ci_Sayings (zo hS 1 rfl rfl) rfl lk_Judge_33 (zw_dg dk_Judge_tallyWeighed 5 rfl) ?_
    refine r_icmp_ge X (pc := 12) (tgt := 40) (zw_dg dk_Judge_tallyWeighed 6 rfl) (by decide) (fun q9 => ?_) (fun q9 => ?_)
    · --
      have p8 : ¬ (s4 < (c5.1 1 2)) := (Int32.not_lt.mpr q9)
      have hsem := zw_ifn p8 hsem
      have jj := hK _ (Option.some.inj hsem).symm
      exact (r_fgt [4] rfl jj)
    · --
      have p8 : (s4 < (c5.1 1 2)) := (Int32.not_le.mp q9)
      have hsem := zw_ifp p8 hsem
      refine r_aload_n X (pc := 15) (i := 0) (zw_dg dk_Judge_tallyWeighed 7 rfl) rfl rfl ?_
      refine r_getR X (pc := 16) (r := 11) ci_Judge (zo hS 13 rfl rfl) rfl (zr hS 13 1 rfl rfl) lk_Judge_15 (zw_dg dk_Judge_tallyWeighed 8 rfl) ?_
      refine r_getR X (pc := 19) (r := 12) ci_Tally (zo hS 11 rfl rfl) rfl (zr hS 11 1 rfl rfl) lk_Judge_36 (zw_dg dk_Judge_tallyWeighed 9 rfl) ?_
      refine r_iload X (pc := 22) (i := 4) (zw_dg dk_Judge_tallyWeighed 10 rfl) rfl ?_
      refine r_aload_n X (pc := 24) (i := 0) (zw_dg dk_Judge_tallyWeighed 11 rfl) rfl rfl ?_
      refine r_aload_n X (pc := 25) (i := 1) (zw_dg dk_Judge_tallyWeighed 12 rfl) rfl rfl ?_
      refine r_iload X (pc := 26) (i := 4) (zw_dg dk_Judge_tallyWeighed 13 rfl) rfl ?_
      refine r_aload_n X (pc := 28) (i := 2) (zw_dg dk_Judge_tallyWeighed 14 rfl) rfl rfl ?_
      refine r_iload_n X (pc := 29) (i := 3) (zw_dg dk_Judge_tallyWeighed 15 rfl) rfl rfl ?_
      obtain ⟨r10, hr10, hsem⟩ := zw_bd hsem
      refine r_callVl X (pc := 30) (As := [_, _, _, _]) (st := [.int s4, .ref 12]) (km_Judge_weighed hS hr10) ce_Judge_weighed kw_766 (zo hS 13 rfl rfl) rfl rfl ⟨Nat.le_of_ble_eq_true rfl, Nat.le_of_ble_eq_true rfl⟩ (Nat.le_of_ble_eq_true rfl) (zw_dg dk_Judge_tallyWeighed 16 rfl) ?_
      obtain ⟨c11, hc11, hsem⟩ := zw_bd hsem
      refine r_last X (pc := 33) (zo hS 12 rfl rfl) hc11 (zw_dg dk_Judge_tallyWeighed 17 rfl) ?_
      refine r_iinc X (pc := 34) (i := 4) (k := 1) (zw_dg dk_Judge_tallyWeighed 18 rfl) rfl (by decide) (by decide) rfl ?_
      refine r_goto X (pc := 37) (tgt := 3) (zw_dg dk_Judge_tallyWeighed 19 rfl) (by decide) ?_
      have jj := hP _ (Option.some.inj hsem).symm
      exact (r_fgt [] rfl jj)
  have hsem := hsl7
  cases hsem
  exact r_vret X (pc := 40) rfl (zw_dg dk_Judge_tallyWeighed 20 rfl)
def y_Judge_tallyWorth : MethodName := ⟨R_Judge, "tallyWorth", "([II)V"⟩
abbrev b_Judge_tallyWorth : ByteArray := prog_5_method_5_code
def dl_Judge_tallyWorth : List (Nat × Instr × Nat) := [(0, .aload_n 0, 1), (1, .aload_n 1, 1), (2, .aload_n 0, 1), (3, .getfield 9, 3), (6, .getfield 25, 3), (9, .iload_n 2, 1), (10, .iconst 4, 1), (11, .imul, 1), (12, .invokevirtual 42, 3), (15, .return_, 1)]
theorem dk_Judge_tallyWorth : zw_dk b_Judge_tallyWorth dl_Judge_tallyWorth = true := by decide +kernel
theorem ce_Judge_tallyWorth : zw_cev y_Judge_tallyWorth b_Judge_tallyWorth 3 (none) 2 := ⟨⟨kt_in 796 (by decide +kernel) rfl, kt_in 90 (by decide +kernel) rfl, by decide +kernel⟩, kt_in 794 (by decide +kernel) rfl, kt_in 795 (by decide +kernel) rfl⟩
def fn_Judge_tallyWorth (c : zw_Ct) (values1 : Nat) (thought2 : Int32) : Option zw_Ct :=
  (fn_Judge_tallyWeighed c values1 2 (thought2 * 4)).bind fun c3 =>
  some c3
set_option maxRecDepth 100000 in
theorem km_Judge_tallyWorth {l : Launch} {g : zw_G} {rr : zw_RR} {sh : zw_Sh} {c : zw_Ct} {values1 : Nat} {thought2 : Int32} {c2 : zw_Ct} (hS : zw_Ok 0 101 sh rr) (hsem : fn_Judge_tallyWorth c values1 thought2 = some c2) : zw_Met l g y_Judge_tallyWorth b_Judge_tallyWorth 3 (none) 3 rr sh [.ref 13, .ref values1, .int thought2] c none c2 := by
  unfold fn_Judge_tallyWorth at hsem
  refine zw_Met.of (by decide +kernel) (Nat.le_of_ble_eq_true rfl) (fun p e s m args below meth cd X => ?_)
  refine zw_eL (L2 := [some (.ref 13), some (.ref values1), some (.int thought2)]) rfl ?_
  refine r_aload_n X (pc := 0) (i := 0) (zw_dg dk_Judge_tallyWorth 0 rfl) rfl rfl ?_
  refine r_aload_n X (pc := 1) (i := 1) (zw_dg dk_Judge_tallyWorth 1 rfl) rfl rfl ?_
  refine r_aload_n X (pc := 2) (i := 0) (zw_dg dk_Judge_tallyWorth 2 rfl) rfl rfl ?_
  refine r_getR X (pc := 3) (r := 1) ci_Judge (zo hS 13 rfl rfl) rfl (zr hS 13 0 rfl rfl) lk_Judge_9 (zw_dg dk_Judge_tallyWorth 3 rfl) ?_
  refine r_getR X (pc := 6) (r := 2) ci_Sayings (zo hS 1 rfl rfl) rfl (zr hS 1 3 rfl rfl) lk_Judge_25 (zw_dg dk_Judge_tallyWorth 4 rfl) ?_
  refine r_iload_n X (pc := 9) (i := 2) (zw_dg dk_Judge_tallyWorth 5 rfl) rfl rfl ?_
  refine r_iconst X (pc := 10) (v := 4) (zw_dg dk_Judge_tallyWorth 6 rfl) (by decide) ?_
  refine r_imul X (pc := 11) (zw_dg dk_Judge_tallyWorth 7 rfl)  ?_
  obtain ⟨c3, hc3, hsem⟩ := zw_bd hsem
  refine r_callVv X (pc := 12) (As := [_, _, _]) (st := []) (km_Judge_tallyWeighed hS hc3) ce_Judge_tallyWeighed kw_797 (zo hS 13 rfl rfl) rfl rfl ⟨Nat.le_of_ble_eq_true rfl, Nat.le_of_ble_eq_true rfl⟩ (Nat.le_of_ble_eq_true rfl) (zw_dg dk_Judge_tallyWorth 8 rfl) ?_
  cases hsem
  exact r_vret X (pc := 15) rfl (zw_dg dk_Judge_tallyWorth 9 rfl)
def y_Judge_greatestWorth : MethodName := ⟨R_Judge, "greatestWorth", "([II)J"⟩
abbrev b_Judge_greatestWorth : ByteArray := prog_5_method_6_code
def dl_Judge_greatestWorth : List (Nat × Instr × Nat) := [(0, .aload_n 0, 1), (1, .aload_n 1, 1), (2, .iload_n 2, 1), (3, .invokevirtual 46, 3), (6, .aload_n 0, 1), (7, .getfield 15, 3), (10, .invokevirtual 50, 3), (13, .lreturn, 1)]
theorem dk_Judge_greatestWorth : zw_dk b_Judge_greatestWorth dl_Judge_greatestWorth = true := by decide +kernel
theorem ce_Judge_greatestWorth : zw_cev y_Judge_greatestWorth b_Judge_greatestWorth 3 (some .long) 2 := ⟨⟨kt_in 792 (by decide +kernel) rfl, kt_in 90 (by decide +kernel) rfl, by decide +kernel⟩, kt_in 790 (by decide +kernel) rfl, kt_in 791 (by decide +kernel) rfl⟩
def fn_Judge_greatestWorth (c : zw_Ct) (values1 : Nat) (thought2 : Int32) : Option (Int64 × zw_Ct) :=
  (fn_Judge_tallyWorth c values1 thought2).bind fun c3 =>
  (fn_Tally_greatest c3).bind fun r4 =>
  some (r4, c3)
set_option maxRecDepth 100000 in
theorem km_Judge_greatestWorth {l : Launch} {g : zw_G} {rr : zw_RR} {sh : zw_Sh} {c : zw_Ct} {values1 : Nat} {thought2 : Int32} {r : Int64} {c2 : zw_Ct} (hS : zw_Ok 0 101 sh rr) (hsem : fn_Judge_greatestWorth c values1 thought2 = some (r, c2)) : zw_Met l g y_Judge_greatestWorth b_Judge_greatestWorth 3 (some .long) 4 rr sh [.ref 13, .ref values1, .int thought2] c (some (.long r)) c2 := by
  unfold fn_Judge_greatestWorth at hsem
  refine zw_Met.of (by decide +kernel) (Nat.le_of_ble_eq_true rfl) (fun p e s m args below meth cd X => ?_)
  refine zw_eL (L2 := [some (.ref 13), some (.ref values1), some (.int thought2)]) rfl ?_
  refine r_aload_n X (pc := 0) (i := 0) (zw_dg dk_Judge_greatestWorth 0 rfl) rfl rfl ?_
  refine r_aload_n X (pc := 1) (i := 1) (zw_dg dk_Judge_greatestWorth 1 rfl) rfl rfl ?_
  refine r_iload_n X (pc := 2) (i := 2) (zw_dg dk_Judge_greatestWorth 2 rfl) rfl rfl ?_
  obtain ⟨c3, hc3, hsem⟩ := zw_bd hsem
  refine r_callVv X (pc := 3) (As := [_, _]) (st := []) (km_Judge_tallyWorth hS hc3) ce_Judge_tallyWorth kw_793 (zo hS 13 rfl rfl) rfl rfl ⟨Nat.le_of_ble_eq_true rfl, Nat.le_of_ble_eq_true rfl⟩ (Nat.le_of_ble_eq_true rfl) (zw_dg dk_Judge_greatestWorth 3 rfl) ?_
  refine r_aload_n X (pc := 6) (i := 0) (zw_dg dk_Judge_greatestWorth 4 rfl) rfl rfl ?_
  refine r_getR X (pc := 7) (r := 11) ci_Judge (zo hS 13 rfl rfl) rfl (zr hS 13 1 rfl rfl) lk_Judge_15 (zw_dg dk_Judge_greatestWorth 5 rfl) ?_
  obtain ⟨r4, hr4, hsem⟩ := zw_bd hsem
  refine r_callVl X (pc := 10) (As := []) (st := []) (km_Tally_greatest hS hr4) ce_Tally_greatest kw_801 (zo hS 11 rfl rfl) rfl rfl ⟨Nat.le_of_ble_eq_true rfl, Nat.le_of_ble_eq_true rfl⟩ (Nat.le_of_ble_eq_true rfl) (zw_dg dk_Judge_greatestWorth 6 rfl) ?_
  cases hsem
  exact r_lret X (pc := 13) rfl (zw_dg dk_Judge_greatestWorth 7 rfl)
def y_Judge_tellBest : MethodName := ⟨R_Judge, "tellBest", "([IILPaidForThinking$Row;)I"⟩
abbrev b_Judge_tellBest : ByteArray := prog_5_method_7_code
def dl_Judge_tellBest : List (Nat × Instr × Nat) := [(0, .aload_n 0, 1), (1, .aload_n 1, 1), (2, .iload_n 2, 1), (3, .invokevirtual 54, 3), (6, .lstore 4, 2), (8, .aload_n 3, 1), (9, .invokevirtual 58, 3), (12, .iconst 0, 1), (13, .istore 6, 2), (15, .iload 6, 2), (17, .aload_n 0, 1), (18, .getfield 9, 3), (21, .getfield 33, 3), (24, .if_icmp .ge 41, 3), (27, .aload_n 3, 1), (28, .getfield 63, 3), (31, .bipush 10, 2), (33, .if_icmp .ge 32, 3), (36, .aload_n 0, 1), (37, .getfield 15, 3), (40, .getfield 36, 3), (43, .iload 6, 2), (45, .laload, 1), (46, .lload 4, 2), (48, .lcmp, 1), (49, .ifCond .ne 10, 3), (52, .aload_n 3, 1), (53, .iload 6, 2), (55, .i2l, 1), (56, .invokevirtual 64, 3), (59, .iinc 6 1, 3), (62, .goto (-47), 3), (65, .aload_n 0, 1), (66, .getfield 15, 3), (69, .lload 4, 2), (71, .invokevirtual 68, 3), (74, .ireturn, 1)]
theorem dk_Judge_tellBest : zw_dk b_Judge_tellBest dl_Judge_tellBest = true := by decide +kernel
theorem ce_Judge_tellBest : zw_cev y_Judge_tellBest b_Judge_tellBest 7 (some .int) 3 := ⟨⟨kt_in 788 (by decide +kernel) rfl, kt_in 90 (by decide +kernel) rfl, by decide +kernel⟩, kt_in 786 (by decide +kernel) rfl, kt_in 787 (by decide +kernel) rfl⟩
def fn_Judge_tellBest_l1 (r3 : Int64) : Int32 × zw_Ct → Option ((zw_Ct) ⊕ (Int32 × zw_Ct)) := fun (s6, c7) =>
  if ((s6 < (c7.1 1 2)) ∧ ((c7.1 61 1) < 10)) then
  ((zw_aL 455 c7 12 s6).bind fun x13 =>
  (if (x13 = r3) then
  ((fn_Row_add c7 s6.toInt64).bind fun c17 =>
  some c17)
  else
  (some c7)).bind fun c14 =>
  some (.inr ((s6 + 1), c14)))
  else
  (some (.inl c7))
def fn_Judge_tellBest (c : zw_Ct) (values1 : Nat) (thought2 : Int32) : Option (Int32 × zw_Ct) :=
  (fn_Judge_greatestWorth c values1 thought2).bind fun (r3, c4) =>
  (fn_Row_clear c4).bind fun c5 =>
  (zw_whl (fn_Judge_tellBest_l1 r3) zw_F (0, c5)).bind fun c8 =>
  (fn_Tally_howMany c8 r3).bind fun r18 =>
  some (r18, c8)
set_option maxRecDepth 100000 in
theorem km_Judge_tellBest {l : Launch} {g : zw_G} {rr : zw_RR} {sh : zw_Sh} {c : zw_Ct} {values1 : Nat} {thought2 : Int32} {r : Int32} {c2 : zw_Ct} (hS : zw_Ok 0 101 sh rr) (hsem : fn_Judge_tellBest c values1 thought2 = some (r, c2)) : zw_Met l g y_Judge_tellBest b_Judge_tellBest 7 (some .int) 5 rr sh [.ref 13, .ref values1, .int thought2, .ref 61] c (some (.int r)) c2 := by
  unfold fn_Judge_tellBest at hsem
  refine zw_Met.of (by decide +kernel) (Nat.le_of_ble_eq_true rfl) (fun p e s m args below meth cd X => ?_)
  refine zw_eL (L2 := [some (.ref 13), some (.ref values1), some (.int thought2), some (.ref 61), none, none, none]) rfl ?_
  refine r_aload_n X (pc := 0) (i := 0) (zw_dg dk_Judge_tellBest 0 rfl) rfl rfl ?_
  refine r_aload_n X (pc := 1) (i := 1) (zw_dg dk_Judge_tellBest 1 rfl) rfl rfl ?_
  refine r_iload_n X (pc := 2) (i := 2) (zw_dg dk_Judge_tellBest 2 rfl) rfl rfl ?_
  obtain ⟨⟨r3, c4⟩, hr3_c4, hsem⟩ := zw_bd hsem
  refine r_callVl X (pc := 3) (As := [_, _]) (st := []) (km_Judge_greatestWorth hS hr3_c4) ce_Judge_greatestWorth kw_789 (zo hS 13 rfl rfl) rfl rfl ⟨Nat.le_of_ble_eq_true rfl, Nat.le_of_ble_eq_true rfl⟩ (Nat.le_of_ble_eq_true rfl) (zw_dg dk_Judge_tellBest 3 rfl) ?_
  refine r_lstore X (pc := 6) (i := 4) (L2 := [some (.ref 13), some (.ref values1), some (.int thought2), some (.ref 61), some (.long r3), none, none]) (zw_dg dk_Judge_tellBest 4 rfl) (by decide) rfl ?_
  refine r_aload_n X (pc := 8) (i := 3) (zw_dg dk_Judge_tellBest 5 rfl) rfl rfl ?_
  obtain ⟨c5, hc5, hsem⟩ := zw_bd hsem
  refine r_callVv X (pc := 9) (As := []) (st := []) (km_Row_clear hS hc5) ce_Row_clear kw_813 (zo hS 61 rfl rfl) rfl rfl ⟨Nat.le_of_ble_eq_true rfl, Nat.le_of_ble_eq_true rfl⟩ (Nat.le_of_ble_eq_true rfl) (zw_dg dk_Judge_tellBest 6 rfl) ?_
  refine r_iconst X (pc := 12) (v := 0) (zw_dg dk_Judge_tellBest 7 rfl) (by decide) ?_
  refine r_istore X (pc := 13) (i := 6) (zw_dg dk_Judge_tellBest 8 rfl) (by decide) rfl ?_
  obtain ⟨c8, hl9, hsl9⟩ := zw_bd hsem
  refine r_loop (pc := 15) (pce := 65) hl9 (fun (s6, c7) => [some (.ref 13), some (.ref values1), some (.int thought2), some (.ref 61), some (.long r3), none, some (.int s6)] : Int32 × zw_Ct → zw_Lc) (fun (s6, c7) => c7 : Int32 × zw_Ct → zw_Ct) (fun c8 => [some (.ref 13), some (.ref values1), some (.int thought2), some (.ref 61), some (.long r3), none, none] : zw_Ct → zw_Lc) (fun c8 => c8 : zw_Ct → zw_Ct) ?_ rfl rfl ?_
  · rintro ⟨s6, c7⟩ rr hsem hK hP
    try unfold fn_Judge_tellBest_l1 at hsem
    refine zw_cnd (P := ((s6 < (c7.1 1 2)) ∧ ((c7.1 61 1) < 10))) (J1 := 36) (J2 := 65) (st2 := []) (fun jT jF => ?_) (fun p10 => ?_) (fun p10 => ?_)
    · --
      refine r_iload X (pc := 15) (i := 6) (zw_dg dk_Judge_tellBest 9 rfl) rfl ?_
      refine r_aload_n X (pc := 17) (i := 0) (zw_dg dk_Judge_tellBest 10 rfl) rfl rfl ?_
      refine r_getR X (pc := 18) (r := 1) ci_Judge (zo hS 13 rfl rfl) rfl (zr hS 13 0 rfl rfl) lk_Judge_9 (zw_dg dk_Judge_tellBest 11 rfl) ?_
      refine r_getI X (pc := 21) ci_Sayings (zo hS 1 rfl rfl) rfl lk_Judge_33 (zw_dg dk_Judge_tellBest 12 rfl) ?_
      refine r_icmp_ge X (pc := 24) (tgt := 65) (zw_dg dk_Judge_tellBest 13 rfl) (by decide) (fun q11 => ?_) (fun q11 => ?_)
      · --
        exact jF (fun q => (Int32.not_lt.mpr q11) q.1)
      · --
        refine r_aload_n X (pc := 27) (i := 3) (zw_dg dk_Judge_tellBest 14 rfl) rfl rfl ?_
        refine r_getI X (pc := 28) ci_Row (zo hS 61 rfl rfl) rfl lk_Judge_63 (zw_dg dk_Judge_tellBest 15 rfl) ?_
        refine r_bipush X (pc := 31) (v := 10) (zw_dg dk_Judge_tellBest 16 rfl) (by decide) ?_
        refine r_icmp_ge X (pc := 33) (tgt := 65) (zw_dg dk_Judge_tellBest 17 rfl) (by decide) (fun q12 => ?_) (fun q12 => ?_)
        · --
          exact jF (fun q => (Int32.not_lt.mpr q12) q.2)
        · --
          exact jT ⟨(Int32.not_le.mp q11), (Int32.not_le.mp q12)⟩
    · --
      have hsem := zw_ifp p10 hsem
      refine r_aload_n X (pc := 36) (i := 0) (zw_dg dk_Judge_tellBest 18 rfl) rfl rfl ?_
      refine r_getR X (pc := 37) (r := 11) ci_Judge (zo hS 13 rfl rfl) rfl (zr hS 13 1 rfl rfl) lk_Judge_15 (zw_dg dk_Judge_tellBest 19 rfl) ?_
      refine r_getR X (pc := 40) (r := 12) ci_Tally (zo hS 11 rfl rfl) rfl (zr hS 11 1 rfl rfl) lk_Judge_36 (zw_dg dk_Judge_tellBest 20 rfl) ?_
      refine r_iload X (pc := 43) (i := 6) (zw_dg dk_Judge_tellBest 21 rfl) rfl ?_
      obtain ⟨x13, hx13, hsem⟩ := zw_bd hsem
      refine r_lald X (pc := 45) (zo hS 12 rfl rfl) hx13 (zw_dg dk_Judge_tellBest 22 rfl) ?_
      refine r_lload X (pc := 46) (i := 4) (zw_dg dk_Judge_tellBest 23 rfl) rfl ?_
      obtain ⟨c14, ht59, hs59⟩ := zw_bd hsem
      refine zw_jn (J := 59) (L2 := [some (.ref 13), some (.ref values1), some (.int thought2), some (.ref 61), some (.long r3), none, some (.int s6)]) (c2 := c14) (fun jj => ?_) ?_
      · have hsem := ht59
        refine r_lcmp_ne X (pc := 48) (tgt := 59) (zw_dg dk_Judge_tellBest 24 rfl) (zw_dg dk_Judge_tellBest 25 rfl) (by decide) (fun q16 => ?_) (fun q16 => ?_)
        · --
          have p15 : ¬ (x13 = r3) := q16
          have hsem := zw_ifn p15 hsem
          cases hsem
          exact (r_fgt [] rfl jj)
        · --
          have p15 : (x13 = r3) := q16
          have hsem := zw_ifp p15 hsem
          refine r_aload_n X (pc := 52) (i := 3) (zw_dg dk_Judge_tellBest 26 rfl) rfl rfl ?_
          refine r_iload X (pc := 53) (i := 6) (zw_dg dk_Judge_tellBest 27 rfl) rfl ?_
          refine r_i2l X (pc := 55) (zw_dg dk_Judge_tellBest 28 rfl)  ?_
          obtain ⟨c17, hc17, hsem⟩ := zw_bd hsem
          refine r_callVv X (pc := 56) (As := [_]) (st := []) (km_Row_add hS hc17) ce_Row_add kw_814 (zo hS 61 rfl rfl) rfl rfl ⟨Nat.le_of_ble_eq_true rfl, Nat.le_of_ble_eq_true rfl⟩ (Nat.le_of_ble_eq_true rfl) (zw_dg dk_Judge_tellBest 29 rfl) ?_
          cases hsem
          exact (r_fgt [] rfl jj)
      have hsem := hs59
      refine r_iinc X (pc := 59) (i := 6) (k := 1) (zw_dg dk_Judge_tellBest 30 rfl) rfl (by decide) (by decide) rfl ?_
      refine r_goto X (pc := 62) (tgt := 15) (zw_dg dk_Judge_tellBest 31 rfl) (by decide) ?_
      have jj := hP _ (Option.some.inj hsem).symm
      exact (r_fgt [] rfl jj)
    · --
      have hsem := zw_ifn p10 hsem
      have jj := hK _ (Option.some.inj hsem).symm
      exact (r_fgt [6] rfl jj)
  have hsem := hsl9
  refine r_aload_n X (pc := 65) (i := 0) (zw_dg dk_Judge_tellBest 32 rfl) rfl rfl ?_
  refine r_getR X (pc := 66) (r := 11) ci_Judge (zo hS 13 rfl rfl) rfl (zr hS 13 1 rfl rfl) lk_Judge_15 (zw_dg dk_Judge_tellBest 33 rfl) ?_
  refine r_lload X (pc := 69) (i := 4) (zw_dg dk_Judge_tellBest 34 rfl) rfl ?_
  obtain ⟨r18, hr18, hsem⟩ := zw_bd hsem
  refine r_callVi X (pc := 71) (As := [_]) (st := []) (km_Tally_howMany hS hr18) ce_Tally_howMany kw_815 (zo hS 11 rfl rfl) rfl rfl ⟨Nat.le_of_ble_eq_true rfl, Nat.le_of_ble_eq_true rfl⟩ (Nat.le_of_ble_eq_true rfl) (zw_dg dk_Judge_tellBest 35 rfl) ?_
  cases hsem
  exact r_iret X (pc := 74) rfl (zw_dg dk_Judge_tellBest 36 rfl)
def y_Judge_tellTwo : MethodName := ⟨R_Judge, "tellTwo", "(IILPaidForThinking$Row;)V"⟩
abbrev b_Judge_tellTwo : ByteArray := prog_5_method_11_code
def dl_Judge_tellTwo : List (Nat × Instr × Nat) := [(0, .aload_n 3, 1), (1, .invokevirtual 58, 3), (4, .iload_n 1, 1), (5, .iconst (-1), 1), (6, .if_icmp .eq 15, 3), (9, .aload_n 3, 1), (10, .iload_n 1, 1), (11, .i2l, 1), (12, .invokevirtual 64, 3), (15, .aload_n 3, 1), (16, .iload_n 2, 1), (17, .i2l, 1), (18, .invokevirtual 64, 3), (21, .return_, 1)]
theorem dk_Judge_tellTwo : zw_dk b_Judge_tellTwo dl_Judge_tellTwo = true := by decide +kernel
theorem ce_Judge_tellTwo : zw_cev y_Judge_tellTwo b_Judge_tellTwo 4 (none) 3 := ⟨⟨kt_in 836 (by decide +kernel) rfl, kt_in 90 (by decide +kernel) rfl, by decide +kernel⟩, kt_in 834 (by decide +kernel) rfl, kt_in 835 (by decide +kernel) rfl⟩
def fn_Judge_tellTwo (c : zw_Ct) (one1 : Int32) (other2 : Int32) : Option zw_Ct :=
  (fn_Row_clear c).bind fun c3 =>
  (if (¬ one1 = (-1)) then
  ((fn_Row_add c3 one1.toInt64).bind fun c7 =>
  (fn_Row_add c7 other2.toInt64).bind fun c8 =>
  some c8)
  else
  (some c3)).bind fun c4 =>
  some c4
set_option maxRecDepth 100000 in
theorem km_Judge_tellTwo {l : Launch} {g : zw_G} {rr : zw_RR} {sh : zw_Sh} {c : zw_Ct} {one1 : Int32} {other2 : Int32} {c2 : zw_Ct} (hS : zw_Ok 0 101 sh rr) (hsem : fn_Judge_tellTwo c one1 other2 = some c2) : zw_Met l g y_Judge_tellTwo b_Judge_tellTwo 4 (none) 2 rr sh [.ref 13, .int one1, .int other2, .ref 61] c none c2 := by
  unfold fn_Judge_tellTwo at hsem
  refine zw_Met.of (by decide +kernel) (Nat.le_of_ble_eq_true rfl) (fun p e s m args below meth cd X => ?_)
  refine zw_eL (L2 := [some (.ref 13), some (.int one1), some (.int other2), some (.ref 61)]) rfl ?_
  refine r_aload_n X (pc := 0) (i := 3) (zw_dg dk_Judge_tellTwo 0 rfl) rfl rfl ?_
  obtain ⟨c3, hc3, hsem⟩ := zw_bd hsem
  refine r_callVv X (pc := 1) (As := []) (st := []) (km_Row_clear hS hc3) ce_Row_clear kw_813 (zo hS 61 rfl rfl) rfl rfl ⟨Nat.le_of_ble_eq_true rfl, Nat.le_of_ble_eq_true rfl⟩ (Nat.le_of_ble_eq_true rfl) (zw_dg dk_Judge_tellTwo 1 rfl) ?_
  obtain ⟨c4, ht21, hs21⟩ := zw_bd hsem
  refine zw_jn (J := 21) (L2 := [some (.ref 13), some (.int one1), some (.int other2), some (.ref 61)]) (c2 := c4) (fun jj => ?_) ?_
  · have hsem := ht21
    refine r_iload_n X (pc := 4) (i := 1) (zw_dg dk_Judge_tellTwo 2 rfl) rfl rfl ?_
    refine r_iconst X (pc := 5) (v := (-1)) (zw_dg dk_Judge_tellTwo 3 rfl) (by decide) ?_
    refine r_icmp_eq X (pc := 6) (tgt := 21) (zw_dg dk_Judge_tellTwo 4 rfl) (by decide) (fun q6 => ?_) (fun q6 => ?_)
    · --
      have p5 : ¬ (¬ one1 = (-1)) := (fun z => z q6)
      have hsem := zw_ifn p5 hsem
      cases hsem
      exact (r_fgt [] rfl jj)
    · --
      have p5 : (¬ one1 = (-1)) := q6
      have hsem := zw_ifp p5 hsem
      refine r_aload_n X (pc := 9) (i := 3) (zw_dg dk_Judge_tellTwo 5 rfl) rfl rfl ?_
      refine r_iload_n X (pc := 10) (i := 1) (zw_dg dk_Judge_tellTwo 6 rfl) rfl rfl ?_
      refine r_i2l X (pc := 11) (zw_dg dk_Judge_tellTwo 7 rfl)  ?_
      obtain ⟨c7, hc7, hsem⟩ := zw_bd hsem
      refine r_callVv X (pc := 12) (As := [_]) (st := []) (km_Row_add hS hc7) ce_Row_add kw_814 (zo hS 61 rfl rfl) rfl rfl ⟨Nat.le_of_ble_eq_true rfl, Nat.le_of_ble_eq_true rfl⟩ (Nat.le_of_ble_eq_true rfl) (zw_dg dk_Judge_tellTwo 8 rfl) ?_
      refine r_aload_n X (pc := 15) (i := 3) (zw_dg dk_Judge_tellTwo 9 rfl) rfl rfl ?_
      refine r_iload_n X (pc := 16) (i := 2) (zw_dg dk_Judge_tellTwo 10 rfl) rfl rfl ?_
      refine r_i2l X (pc := 17) (zw_dg dk_Judge_tellTwo 11 rfl)  ?_
      obtain ⟨c8, hc8, hsem⟩ := zw_bd hsem
      refine r_callVv X (pc := 18) (As := [_]) (st := []) (km_Row_add hS hc8) ce_Row_add kw_814 (zo hS 61 rfl rfl) rfl rfl ⟨Nat.le_of_ble_eq_true rfl, Nat.le_of_ble_eq_true rfl⟩ (Nat.le_of_ble_eq_true rfl) (zw_dg dk_Judge_tellTwo 12 rfl) ?_
      cases hsem
      exact (r_fgt [] rfl jj)
  have hsem := hs21
  cases hsem
  exact r_vret X (pc := 21) rfl (zw_dg dk_Judge_tellTwo 13 rfl)
def y_Judge_tellTruth : MethodName := ⟨R_Judge, "tellTruth", "([ILPaidForThinking$Row;)I"⟩
abbrev b_Judge_tellTruth : ByteArray := prog_5_method_8_code
def dl_Judge_tellTruth : List (Nat × Instr × Nat) := [(0, .iconst (-1), 1), (1, .istore_n 3, 1), (2, .iconst (-1), 1), (3, .istore 4, 2), (5, .iconst 0, 1), (6, .istore 5, 2), (8, .iload 5, 2), (10, .aload_n 0, 1), (11, .getfield 9, 3), (14, .getfield 33, 3), (17, .if_icmp .ge 87, 3), (20, .aload_n 0, 1), (21, .aload_n 1, 1), (22, .iload 5, 2), (24, .invokevirtual 46, 3), (27, .aload_n 0, 1), (28, .getfield 15, 3), (31, .iload 5, 2), (33, .invokevirtual 72, 3), (36, .istore 6, 2), (38, .aload_n 0, 1), (39, .getfield 15, 3), (42, .getfield 36, 3), (45, .iload 6, 2), (47, .laload, 1), (48, .aload_n 0, 1), (49, .getfield 15, 3), (52, .getfield 36, 3), (55, .iload 5, 2), (57, .laload, 1), (58, .lsub, 1), (59, .lstore 7, 2), (61, .lload 7, 2), (63, .lconst 0, 1), (64, .lcmp, 1), (65, .ifCond .le 14, 3), (68, .aload_n 0, 1), (69, .iload 5, 2), (71, .iload 6, 2), (73, .aload_n 2, 1), (74, .invokevirtual 76, 3), (77, .iconst 0, 1), (78, .ireturn, 1), (79, .lload 7, 2), (81, .lconst 0, 1), (82, .lcmp, 1), (83, .ifCond .ne 15, 3), (86, .iload_n 3, 1), (87, .iconst (-1), 1), (88, .if_icmp .ne 10, 3), (91, .iload 5, 2), (93, .istore_n 3, 1), (94, .iload 6, 2), (96, .istore 4, 2), (98, .iinc 5 1, 3), (101, .goto (-93), 3), (104, .aload_n 0, 1), (105, .iload_n 3, 1), (106, .iload 4, 2), (108, .aload_n 2, 1), (109, .invokevirtual 76, 3), (112, .iload_n 3, 1), (113, .iconst (-1), 1), (114, .if_icmp .ne 7, 3), (117, .iconst 2, 1), (118, .goto 4, 3), (121, .iconst 1, 1), (122, .ireturn, 1)]
theorem dk_Judge_tellTruth : zw_dk b_Judge_tellTruth dl_Judge_tellTruth = true := by decide +kernel
theorem ce_Judge_tellTruth : zw_cev y_Judge_tellTruth b_Judge_tellTruth 9 (some .int) 2 := ⟨⟨kt_in 831 (by decide +kernel) rfl, kt_in 90 (by decide +kernel) rfl, by decide +kernel⟩, kt_in 829 (by decide +kernel) rfl, kt_in 830 (by decide +kernel) rfl⟩
def fn_Judge_tellTruth_l1 (values1 : Nat) : Int32 × Int32 × Int32 × zw_Ct → Option (((Int32 × zw_Ct) ⊕ (Int32 × Int32 × zw_Ct)) ⊕ (Int32 × Int32 × Int32 × zw_Ct)) := fun (loose2, looseOther3, thought4, c5) =>
  if (thought4 < (c5.1 1 2)) then
  ((fn_Judge_tallyWorth c5 values1 thought4).bind fun c12 =>
  (fn_Tally_topBut c12 thought4).bind fun r13 =>
  (zw_aL 455 c12 12 r13).bind fun x14 =>
  (zw_aL 455 c12 12 thought4).bind fun x15 =>
  (some ((x14 - x15) : Int64)).bind fun more16 =>
  if (0 < more16) then
  ((fn_Judge_tellTwo c12 thought4 r13).bind fun c24 =>
  some (.inl (.inl (0, c24))))
  else
  ((if ((more16 = 0) ∧ (loose2 = (-1))) then
  (some ((thought4 : Int32), (r13 : Int32)))
  else
  (some ((loose2 : Int32), (looseOther3 : Int32)))).bind fun (loose19, looseOther20) =>
  some (.inr (loose19, looseOther20, (thought4 + 1), c12))))
  else
  (some (.inl (.inr (loose2, looseOther3, c5))))
def fn_Judge_tellTruth (c : zw_Ct) (values1 : Nat) : Option (Int32 × zw_Ct) :=
  (zw_whl (fn_Judge_tellTruth_l1 values1) zw_F ((-1), (-1), 0, c)).bind fun q => match q with
    | .inl w => some w
    | .inr (loose6, looseOther7, c8) =>
    (fn_Judge_tellTwo c8 loose6 looseOther7).bind fun c25 =>
    some ((if (loose6 = (-1)) then (2 : Int32) else 1), c25)
set_option maxRecDepth 100000 in
theorem km_Judge_tellTruth {l : Launch} {g : zw_G} {rr : zw_RR} {sh : zw_Sh} {c : zw_Ct} {values1 : Nat} {r : Int32} {c2 : zw_Ct} (hS : zw_Ok 0 101 sh rr) (hsem : fn_Judge_tellTruth c values1 = some (r, c2)) : zw_Met l g y_Judge_tellTruth b_Judge_tellTruth 9 (some .int) 4 rr sh [.ref 13, .ref values1, .ref 61] c (some (.int r)) c2 := by
  unfold fn_Judge_tellTruth at hsem
  refine zw_Met.of (by decide +kernel) (Nat.le_of_ble_eq_true rfl) (fun p e s m args below meth cd X => ?_)
  refine zw_eL (L2 := [some (.ref 13), some (.ref values1), some (.ref 61), none, none, none, none, none, none]) rfl ?_
  refine r_iconst X (pc := 0) (v := (-1)) (zw_dg dk_Judge_tellTruth 0 rfl) (by decide) ?_
  refine r_istore_n X (pc := 1) (i := 3) (zw_dg dk_Judge_tellTruth 1 rfl) rfl (by decide) rfl ?_
  refine r_iconst X (pc := 2) (v := (-1)) (zw_dg dk_Judge_tellTruth 2 rfl) (by decide) ?_
  refine r_istore X (pc := 3) (i := 4) (zw_dg dk_Judge_tellTruth 3 rfl) (by decide) rfl ?_
  refine r_iconst X (pc := 5) (v := 0) (zw_dg dk_Judge_tellTruth 4 rfl) (by decide) ?_
  refine r_istore X (pc := 6) (i := 5) (zw_dg dk_Judge_tellTruth 5 rfl) (by decide) rfl ?_
  obtain ⟨l9, hl9, hsl9⟩ := zw_bd hsem
  refine r_loopR (pc := 8) (pce := 104) hl9 (fun (loose2, looseOther3, thought4, c5) => [some (.ref 13), some (.ref values1), some (.ref 61), some (.int loose2), some (.int looseOther3), some (.int thought4), none, none, none] : Int32 × Int32 × Int32 × zw_Ct → zw_Lc) (fun (loose2, looseOther3, thought4, c5) => c5 : Int32 × Int32 × Int32 × zw_Ct → zw_Ct) (fun (loose6, looseOther7, c8) => [some (.ref 13), some (.ref values1), some (.ref 61), some (.int loose6), some (.int looseOther7), none, none, none, none] : Int32 × Int32 × zw_Ct → zw_Lc) (fun (loose6, looseOther7, c8) => c8 : Int32 × Int32 × zw_Ct → zw_Ct) (fun w => w = (r, c2)) ?_ rfl rfl ?_ ?_
  · rintro ⟨loose2, looseOther3, thought4, c5⟩ rr hsem hR hK hP
    try unfold fn_Judge_tellTruth_l1 at hsem
    refine r_iload X (pc := 8) (i := 5) (zw_dg dk_Judge_tellTruth 6 rfl) rfl ?_
    refine r_aload_n X (pc := 10) (i := 0) (zw_dg dk_Judge_tellTruth 7 rfl) rfl rfl ?_
    refine r_getR X (pc := 11) (r := 1) ci_Judge (zo hS 13 rfl rfl) rfl (zr hS 13 0 rfl rfl) lk_Judge_9 (zw_dg dk_Judge_tellTruth 8 rfl) ?_
    refine r_getI X (pc := 14) ci_Sayings (zo hS 1 rfl rfl) rfl lk_Judge_33 (zw_dg dk_Judge_tellTruth 9 rfl) ?_
    refine r_icmp_ge X (pc := 17) (tgt := 104) (zw_dg dk_Judge_tellTruth 10 rfl) (by decide) (fun q11 => ?_) (fun q11 => ?_)
    · --
      have p10 : ¬ (thought4 < (c5.1 1 2)) := (Int32.not_lt.mpr q11)
      have hsem := zw_ifn p10 hsem
      have jj := hK _ (Option.some.inj hsem).symm
      exact (r_fgt [5] rfl jj)
    · --
      have p10 : (thought4 < (c5.1 1 2)) := (Int32.not_le.mp q11)
      have hsem := zw_ifp p10 hsem
      refine r_aload_n X (pc := 20) (i := 0) (zw_dg dk_Judge_tellTruth 11 rfl) rfl rfl ?_
      refine r_aload_n X (pc := 21) (i := 1) (zw_dg dk_Judge_tellTruth 12 rfl) rfl rfl ?_
      refine r_iload X (pc := 22) (i := 5) (zw_dg dk_Judge_tellTruth 13 rfl) rfl ?_
      obtain ⟨c12, hc12, hsem⟩ := zw_bd hsem
      refine r_callVv X (pc := 24) (As := [_, _]) (st := []) (km_Judge_tallyWorth hS hc12) ce_Judge_tallyWorth kw_793 (zo hS 13 rfl rfl) rfl rfl ⟨Nat.le_of_ble_eq_true rfl, Nat.le_of_ble_eq_true rfl⟩ (Nat.le_of_ble_eq_true rfl) (zw_dg dk_Judge_tellTruth 14 rfl) ?_
      refine r_aload_n X (pc := 27) (i := 0) (zw_dg dk_Judge_tellTruth 15 rfl) rfl rfl ?_
      refine r_getR X (pc := 28) (r := 11) ci_Judge (zo hS 13 rfl rfl) rfl (zr hS 13 1 rfl rfl) lk_Judge_15 (zw_dg dk_Judge_tellTruth 16 rfl) ?_
      refine r_iload X (pc := 31) (i := 5) (zw_dg dk_Judge_tellTruth 17 rfl) rfl ?_
      obtain ⟨r13, hr13, hsem⟩ := zw_bd hsem
      refine r_callVi X (pc := 33) (As := [_]) (st := []) (km_Tally_topBut hS hr13) ce_Tally_topBut kw_832 (zo hS 11 rfl rfl) rfl rfl ⟨Nat.le_of_ble_eq_true rfl, Nat.le_of_ble_eq_true rfl⟩ (Nat.le_of_ble_eq_true rfl) (zw_dg dk_Judge_tellTruth 18 rfl) ?_
      refine r_istore X (pc := 36) (i := 6) (zw_dg dk_Judge_tellTruth 19 rfl) (by decide) rfl ?_
      refine r_aload_n X (pc := 38) (i := 0) (zw_dg dk_Judge_tellTruth 20 rfl) rfl rfl ?_
      refine r_getR X (pc := 39) (r := 11) ci_Judge (zo hS 13 rfl rfl) rfl (zr hS 13 1 rfl rfl) lk_Judge_15 (zw_dg dk_Judge_tellTruth 21 rfl) ?_
      refine r_getR X (pc := 42) (r := 12) ci_Tally (zo hS 11 rfl rfl) rfl (zr hS 11 1 rfl rfl) lk_Judge_36 (zw_dg dk_Judge_tellTruth 22 rfl) ?_
      refine r_iload X (pc := 45) (i := 6) (zw_dg dk_Judge_tellTruth 23 rfl) rfl ?_
      obtain ⟨x14, hx14, hsem⟩ := zw_bd hsem
      refine r_lald X (pc := 47) (zo hS 12 rfl rfl) hx14 (zw_dg dk_Judge_tellTruth 24 rfl) ?_
      refine r_aload_n X (pc := 48) (i := 0) (zw_dg dk_Judge_tellTruth 25 rfl) rfl rfl ?_
      refine r_getR X (pc := 49) (r := 11) ci_Judge (zo hS 13 rfl rfl) rfl (zr hS 13 1 rfl rfl) lk_Judge_15 (zw_dg dk_Judge_tellTruth 26 rfl) ?_
      refine r_getR X (pc := 52) (r := 12) ci_Tally (zo hS 11 rfl rfl) rfl (zr hS 11 1 rfl rfl) lk_Judge_36 (zw_dg dk_Judge_tellTruth 27 rfl) ?_
      refine r_iload X (pc := 55) (i := 5) (zw_dg dk_Judge_tellTruth 28 rfl) rfl ?_
      obtain ⟨x15, hx15, hsem⟩ := zw_bd hsem
      refine r_lald X (pc := 57) (zo hS 12 rfl rfl) hx15 (zw_dg dk_Judge_tellTruth 29 rfl) ?_
      refine r_lsub X (pc := 58) (zw_dg dk_Judge_tellTruth 30 rfl)  ?_
      obtain ⟨more16, hmore16, hsem⟩ := zw_bd hsem
      refine zw_topJ hmore16 ?_
      refine r_lstore X (pc := 59) (i := 7) (L2 := [some (.ref 13), some (.ref values1), some (.ref 61), some (.int loose2), some (.int looseOther3), some (.int thought4), some (.int r13), some (.long more16), none]) (zw_dg dk_Judge_tellTruth 31 rfl) (by decide) rfl ?_
      refine r_lload X (pc := 61) (i := 7) (zw_dg dk_Judge_tellTruth 32 rfl) rfl ?_
      refine r_lconst X (pc := 63) (v := 0) (zw_dg dk_Judge_tellTruth 33 rfl) (by decide) ?_
      refine r_lcmp_le X (pc := 64) (tgt := 79) (zw_dg dk_Judge_tellTruth 34 rfl) (zw_dg dk_Judge_tellTruth 35 rfl) (by decide) (fun q18 => ?_) (fun q18 => ?_)
      · --
        have p17 : ¬ (0 < more16) := (Int64.not_lt.mpr q18)
        have hsem := zw_ifn p17 hsem
        obtain ⟨⟨loose19, looseOther20⟩, ht98, hs98⟩ := zw_bd hsem
        refine zw_jn (J := 98) (L2 := [some (.ref 13), some (.ref values1), some (.ref 61), some (.int loose19), some (.int looseOther20), some (.int thought4), some (.int r13), some (.long more16), none]) (c2 := c12) (fun jj => ?_) ?_
        · have hsem := ht98
          refine zw_cnd (P := ((more16 = 0) ∧ (loose2 = (-1)))) (J1 := 91) (J2 := 98) (st2 := []) (fun jT jF => ?_) (fun p21 => ?_) (fun p21 => ?_)
          · --
            refine r_lload X (pc := 79) (i := 7) (zw_dg dk_Judge_tellTruth 43 rfl) rfl ?_
            refine r_lconst X (pc := 81) (v := 0) (zw_dg dk_Judge_tellTruth 44 rfl) (by decide) ?_
            refine r_lcmp_ne X (pc := 82) (tgt := 98) (zw_dg dk_Judge_tellTruth 45 rfl) (zw_dg dk_Judge_tellTruth 46 rfl) (by decide) (fun q22 => ?_) (fun q22 => ?_)
            · --
              exact jF (fun q => q22 q.1)
            · --
              refine r_iload_n X (pc := 86) (i := 3) (zw_dg dk_Judge_tellTruth 47 rfl) rfl rfl ?_
              refine r_iconst X (pc := 87) (v := (-1)) (zw_dg dk_Judge_tellTruth 48 rfl) (by decide) ?_
              refine r_icmp_ne X (pc := 88) (tgt := 98) (zw_dg dk_Judge_tellTruth 49 rfl) (by decide) (fun q23 => ?_) (fun q23 => ?_)
              · --
                exact jF (fun q => q23 q.2)
              · --
                exact jT ⟨q22, q23⟩
          · --
            have hsem := zw_ifp p21 hsem
            refine r_iload X (pc := 91) (i := 5) (zw_dg dk_Judge_tellTruth 50 rfl) rfl ?_
            refine r_istore_n X (pc := 93) (i := 3) (zw_dg dk_Judge_tellTruth 51 rfl) rfl (by decide) rfl ?_
            refine r_iload X (pc := 94) (i := 6) (zw_dg dk_Judge_tellTruth 52 rfl) rfl ?_
            refine r_istore X (pc := 96) (i := 4) (zw_dg dk_Judge_tellTruth 53 rfl) (by decide) rfl ?_
            obtain ⟨rfl, rfl⟩ := zw_in2 hsem
            exact (r_fgt [] rfl jj)
          · --
            have hsem := zw_ifn p21 hsem
            obtain ⟨rfl, rfl⟩ := zw_in2 hsem
            exact (r_fgt [] rfl jj)
        have hsem := hs98
        refine r_iinc X (pc := 98) (i := 5) (k := 1) (zw_dg dk_Judge_tellTruth 54 rfl) rfl (by decide) (by decide) rfl ?_
        refine r_goto X (pc := 101) (tgt := 8) (zw_dg dk_Judge_tellTruth 55 rfl) (by decide) ?_
        have jj := hP _ (Option.some.inj hsem).symm
        exact (r_fgt [6, 7] rfl jj)
      · --
        have p17 : (0 < more16) := (Int64.not_le.mp q18)
        have hsem := zw_ifp p17 hsem
        refine r_aload_n X (pc := 68) (i := 0) (zw_dg dk_Judge_tellTruth 36 rfl) rfl rfl ?_
        refine r_iload X (pc := 69) (i := 5) (zw_dg dk_Judge_tellTruth 37 rfl) rfl ?_
        refine r_iload X (pc := 71) (i := 6) (zw_dg dk_Judge_tellTruth 38 rfl) rfl ?_
        refine r_aload_n X (pc := 73) (i := 2) (zw_dg dk_Judge_tellTruth 39 rfl) rfl rfl ?_
        obtain ⟨c24, hc24, hsem⟩ := zw_bd hsem
        refine r_callVv X (pc := 74) (As := [_, _, _]) (st := []) (km_Judge_tellTwo hS hc24) ce_Judge_tellTwo kw_833 (zo hS 13 rfl rfl) rfl rfl ⟨Nat.le_of_ble_eq_true rfl, Nat.le_of_ble_eq_true rfl⟩ (Nat.le_of_ble_eq_true rfl) (zw_dg dk_Judge_tellTruth 40 rfl) ?_
        refine r_iconst X (pc := 77) (v := 0) (zw_dg dk_Judge_tellTruth 41 rfl) (by decide) ?_
        have hret := hR _ (Option.some.inj hsem).symm
        cases hret
        exact r_iret X (pc := 78) rfl (zw_dg dk_Judge_tellTruth 42 rfl)
  · intro w hw
    subst hw
    exact Option.some.inj hsl9
  rintro ⟨loose6, looseOther7, c8⟩ hw
  subst hw
  have hsem := hsl9
  refine r_aload_n X (pc := 104) (i := 0) (zw_dg dk_Judge_tellTruth 56 rfl) rfl rfl ?_
  refine r_iload_n X (pc := 105) (i := 3) (zw_dg dk_Judge_tellTruth 57 rfl) rfl rfl ?_
  refine r_iload X (pc := 106) (i := 4) (zw_dg dk_Judge_tellTruth 58 rfl) rfl ?_
  refine r_aload_n X (pc := 108) (i := 2) (zw_dg dk_Judge_tellTruth 59 rfl) rfl rfl ?_
  obtain ⟨c25, hc25, hsem⟩ := zw_bd hsem
  refine r_callVv X (pc := 109) (As := [_, _, _]) (st := []) (km_Judge_tellTwo hS hc25) ce_Judge_tellTwo kw_833 (zo hS 13 rfl rfl) rfl rfl ⟨Nat.le_of_ble_eq_true rfl, Nat.le_of_ble_eq_true rfl⟩ (Nat.le_of_ble_eq_true rfl) (zw_dg dk_Judge_tellTruth 60 rfl) ?_
  refine zw_ter (P := (loose6 = (-1))) (f := Value.int) (x := 2) (y := 1) (J := 122) (st2 := []) (fun jT jF => ?_) ?_
  · --
    refine r_iload_n X (pc := 112) (i := 3) (zw_dg dk_Judge_tellTruth 61 rfl) rfl rfl ?_
    refine r_iconst X (pc := 113) (v := (-1)) (zw_dg dk_Judge_tellTruth 62 rfl) (by decide) ?_
    refine r_icmp_ne X (pc := 114) (tgt := 121) (zw_dg dk_Judge_tellTruth 63 rfl) (by decide) (fun q26 => ?_) (fun q26 => ?_)
    · --
      refine r_iconst X (pc := 121) (v := 1) (zw_dg dk_Judge_tellTruth 66 rfl) (by decide) ?_
      exact jF q26
    · --
      refine r_iconst X (pc := 117) (v := 2) (zw_dg dk_Judge_tellTruth 64 rfl) (by decide) ?_
      refine r_goto X (pc := 118) (tgt := 122) (zw_dg dk_Judge_tellTruth 65 rfl) (by decide) ?_
      exact jT q26
  cases hsem
  exact r_iret X (pc := 122) rfl (zw_dg dk_Judge_tellTruth 67 rfl)
def y_Judge_tellBends : MethodName := ⟨R_Judge, "tellBends", "([ILPaidForThinking$Row;)I"⟩
abbrev b_Judge_tellBends : ByteArray := prog_5_method_9_code
def dl_Judge_tellBends : List (Nat × Instr × Nat) := [(0, .iconst 0, 1), (1, .istore_n 3, 1), (2, .iconst (-1), 1), (3, .istore 4, 2), (5, .lconst 0, 1), (6, .lstore 5, 2), (8, .iconst 0, 1), (9, .istore 7, 2), (11, .iload 7, 2), (13, .aload_n 0, 1), (14, .getfield 9, 3), (17, .getfield 33, 3), (20, .if_icmp .ge 62, 3), (23, .aload_n 0, 1), (24, .aload_n 1, 1), (25, .iload 7, 2), (27, .invokevirtual 46, 3), (30, .aload_n 0, 1), (31, .getfield 15, 3), (34, .invokevirtual 50, 3), (37, .aload_n 0, 1), (38, .getfield 15, 3), (41, .getfield 36, 3), (44, .iload 7, 2), (46, .laload, 1), (47, .lsub, 1), (48, .lstore 8, 2), (50, .lload 8, 2), (52, .lconst 0, 1), (53, .lcmp, 1), (54, .ifCond .le 6, 3), (57, .iinc 3 1, 3), (60, .lload 8, 2), (62, .lload 5, 2), (64, .lcmp, 1), (65, .ifCond .le 11, 3), (68, .iload 7, 2), (70, .istore 4, 2), (72, .lload 8, 2), (74, .lstore 5, 2), (76, .iinc 7 1, 3), (79, .goto (-68), 3), (82, .aload_n 2, 1), (83, .invokevirtual 58, 3), (86, .aload_n 2, 1), (87, .iload 4, 2), (89, .i2l, 1), (90, .invokevirtual 64, 3), (93, .aload_n 2, 1), (94, .lload 5, 2), (96, .invokevirtual 64, 3), (99, .iload_n 3, 1), (100, .ireturn, 1)]
theorem dk_Judge_tellBends : zw_dk b_Judge_tellBends dl_Judge_tellBends = true := by decide +kernel
theorem ce_Judge_tellBends : zw_cev y_Judge_tellBends b_Judge_tellBends 10 (some .int) 2 := ⟨⟨kt_in 844 (by decide +kernel) rfl, kt_in 90 (by decide +kernel) rfl, by decide +kernel⟩, kt_in 842 (by decide +kernel) rfl, kt_in 843 (by decide +kernel) rfl⟩
def fn_Judge_tellBends_l1 (values1 : Nat) : Int32 × Int32 × Int64 × Int32 × zw_Ct → Option ((Int32 × Int32 × Int64 × zw_Ct) ⊕ (Int32 × Int32 × Int64 × Int32 × zw_Ct)) := fun (bent2, worst3, most4, thought5, c6) =>
  if (thought5 < (c6.1 1 2)) then
  ((fn_Judge_tallyWorth c6 values1 thought5).bind fun c14 =>
  (fn_Tally_greatest c14).bind fun r15 =>
  (zw_aL 455 c14 12 thought5).bind fun x16 =>
  (some ((r15 - x16) : Int64)).bind fun lost17 =>
  (if (0 < lost17) then
  (some ((bent2 + 1) : Int32))
  else
  (some (bent2 : Int32))).bind fun bent18 =>
  (if (most4 < lost17) then
  (some ((thought5 : Int32), (lost17 : Int64)))
  else
  (some ((worst3 : Int32), (most4 : Int64)))).bind fun (worst21, most22) =>
  some (.inr (bent18, worst21, most22, (thought5 + 1), c14)))
  else
  (some (.inl (bent2, worst3, most4, c6)))
def fn_Judge_tellBends (c : zw_Ct) (values1 : Nat) : Option (Int32 × zw_Ct) :=
  (zw_whl (fn_Judge_tellBends_l1 values1) zw_F (0, (-1), 0, 0, c)).bind fun (bent7, worst8, most9, c10) =>
  (fn_Row_clear c10).bind fun c25 =>
  (fn_Row_add c25 worst8.toInt64).bind fun c26 =>
  (fn_Row_add c26 most9).bind fun c27 =>
  some (bent7, c27)
set_option maxRecDepth 100000 in
theorem km_Judge_tellBends {l : Launch} {g : zw_G} {rr : zw_RR} {sh : zw_Sh} {c : zw_Ct} {values1 : Nat} {r : Int32} {c2 : zw_Ct} (hS : zw_Ok 0 101 sh rr) (hsem : fn_Judge_tellBends c values1 = some (r, c2)) : zw_Met l g y_Judge_tellBends b_Judge_tellBends 10 (some .int) 4 rr sh [.ref 13, .ref values1, .ref 61] c (some (.int r)) c2 := by
  unfold fn_Judge_tellBends at hsem
  refine zw_Met.of (by decide +kernel) (Nat.le_of_ble_eq_true rfl) (fun p e s m args below meth cd X => ?_)
  refine zw_eL (L2 := [some (.ref 13), some (.ref values1), some (.ref 61), none, none, none, none, none, none, none]) rfl ?_
  refine r_iconst X (pc := 0) (v := 0) (zw_dg dk_Judge_tellBends 0 rfl) (by decide) ?_
  refine r_istore_n X (pc := 1) (i := 3) (zw_dg dk_Judge_tellBends 1 rfl) rfl (by decide) rfl ?_
  refine r_iconst X (pc := 2) (v := (-1)) (zw_dg dk_Judge_tellBends 2 rfl) (by decide) ?_
  refine r_istore X (pc := 3) (i := 4) (zw_dg dk_Judge_tellBends 3 rfl) (by decide) rfl ?_
  refine r_lconst X (pc := 5) (v := 0) (zw_dg dk_Judge_tellBends 4 rfl) (by decide) ?_
  refine r_lstore X (pc := 6) (i := 5) (L2 := [some (.ref 13), some (.ref values1), some (.ref 61), some (.int 0), some (.int (-1)), some (.long 0), none, none, none, none]) (zw_dg dk_Judge_tellBends 5 rfl) (by decide) rfl ?_
  refine r_iconst X (pc := 8) (v := 0) (zw_dg dk_Judge_tellBends 6 rfl) (by decide) ?_
  refine r_istore X (pc := 9) (i := 7) (zw_dg dk_Judge_tellBends 7 rfl) (by decide) rfl ?_
  obtain ⟨l11, hl11, hsl11⟩ := zw_bd hsem
  refine r_loop (pc := 11) (pce := 82) hl11 (fun (bent2, worst3, most4, thought5, c6) => [some (.ref 13), some (.ref values1), some (.ref 61), some (.int bent2), some (.int worst3), some (.long most4), none, some (.int thought5), none, none] : Int32 × Int32 × Int64 × Int32 × zw_Ct → zw_Lc) (fun (bent2, worst3, most4, thought5, c6) => c6 : Int32 × Int32 × Int64 × Int32 × zw_Ct → zw_Ct) (fun (bent7, worst8, most9, c10) => [some (.ref 13), some (.ref values1), some (.ref 61), some (.int bent7), some (.int worst8), some (.long most9), none, none, none, none] : Int32 × Int32 × Int64 × zw_Ct → zw_Lc) (fun (bent7, worst8, most9, c10) => c10 : Int32 × Int32 × Int64 × zw_Ct → zw_Ct) ?_ rfl rfl ?_
  · rintro ⟨bent2, worst3, most4, thought5, c6⟩ rr hsem hK hP
    try unfold fn_Judge_tellBends_l1 at hsem
    refine r_iload X (pc := 11) (i := 7) (zw_dg dk_Judge_tellBends 8 rfl) rfl ?_
    refine r_aload_n X (pc := 13) (i := 0) (zw_dg dk_Judge_tellBends 9 rfl) rfl rfl ?_
    refine r_getR X (pc := 14) (r := 1) ci_Judge (zo hS 13 rfl rfl) rfl (zr hS 13 0 rfl rfl) lk_Judge_9 (zw_dg dk_Judge_tellBends 10 rfl) ?_
    refine r_getI X (pc := 17) ci_Sayings (zo hS 1 rfl rfl) rfl lk_Judge_33 (zw_dg dk_Judge_tellBends 11 rfl) ?_
    refine r_icmp_ge X (pc := 20) (tgt := 82) (zw_dg dk_Judge_tellBends 12 rfl) (by decide) (fun q13 => ?_) (fun q13 => ?_)
    · --
      have p12 : ¬ (thought5 < (c6.1 1 2)) := (Int32.not_lt.mpr q13)
      have hsem := zw_ifn p12 hsem
      have jj := hK _ (Option.some.inj hsem).symm
      exact (r_fgt [7] rfl jj)
    · --
      have p12 : (thought5 < (c6.1 1 2)) := (Int32.not_le.mp q13)
      have hsem := zw_ifp p12 hsem
      refine r_aload_n X (pc := 23) (i := 0) (zw_dg dk_Judge_tellBends 13 rfl) rfl rfl ?_
      refine r_aload_n X (pc := 24) (i := 1) (zw_dg dk_Judge_tellBends 14 rfl) rfl rfl ?_
      refine r_iload X (pc := 25) (i := 7) (zw_dg dk_Judge_tellBends 15 rfl) rfl ?_
      obtain ⟨c14, hc14, hsem⟩ := zw_bd hsem
      refine r_callVv X (pc := 27) (As := [_, _]) (st := []) (km_Judge_tallyWorth hS hc14) ce_Judge_tallyWorth kw_793 (zo hS 13 rfl rfl) rfl rfl ⟨Nat.le_of_ble_eq_true rfl, Nat.le_of_ble_eq_true rfl⟩ (Nat.le_of_ble_eq_true rfl) (zw_dg dk_Judge_tellBends 16 rfl) ?_
      refine r_aload_n X (pc := 30) (i := 0) (zw_dg dk_Judge_tellBends 17 rfl) rfl rfl ?_
      refine r_getR X (pc := 31) (r := 11) ci_Judge (zo hS 13 rfl rfl) rfl (zr hS 13 1 rfl rfl) lk_Judge_15 (zw_dg dk_Judge_tellBends 18 rfl) ?_
      obtain ⟨r15, hr15, hsem⟩ := zw_bd hsem
      refine r_callVl X (pc := 34) (As := []) (st := []) (km_Tally_greatest hS hr15) ce_Tally_greatest kw_801 (zo hS 11 rfl rfl) rfl rfl ⟨Nat.le_of_ble_eq_true rfl, Nat.le_of_ble_eq_true rfl⟩ (Nat.le_of_ble_eq_true rfl) (zw_dg dk_Judge_tellBends 19 rfl) ?_
      refine r_aload_n X (pc := 37) (i := 0) (zw_dg dk_Judge_tellBends 20 rfl) rfl rfl ?_
      refine r_getR X (pc := 38) (r := 11) ci_Judge (zo hS 13 rfl rfl) rfl (zr hS 13 1 rfl rfl) lk_Judge_15 (zw_dg dk_Judge_tellBends 21 rfl) ?_
      refine r_getR X (pc := 41) (r := 12) ci_Tally (zo hS 11 rfl rfl) rfl (zr hS 11 1 rfl rfl) lk_Judge_36 (zw_dg dk_Judge_tellBends 22 rfl) ?_
      refine r_iload X (pc := 44) (i := 7) (zw_dg dk_Judge_tellBends 23 rfl) rfl ?_
      obtain ⟨x16, hx16, hsem⟩ := zw_bd hsem
      refine r_lald X (pc := 46) (zo hS 12 rfl rfl) hx16 (zw_dg dk_Judge_tellBends 24 rfl) ?_
      refine r_lsub X (pc := 47) (zw_dg dk_Judge_tellBends 25 rfl)  ?_
      obtain ⟨lost17, hlost17, hsem⟩ := zw_bd hsem
      refine zw_topJ hlost17 ?_
      refine r_lstore X (pc := 48) (i := 8) (L2 := [some (.ref 13), some (.ref values1), some (.ref 61), some (.int bent2), some (.int worst3), some (.long most4), none, some (.int thought5), some (.long lost17), none]) (zw_dg dk_Judge_tellBends 26 rfl) (by decide) rfl ?_
      obtain ⟨bent18, ht60, hs60⟩ := zw_bd hsem
      refine zw_jn (J := 60) (L2 := [some (.ref 13), some (.ref values1), some (.ref 61), some (.int bent18), some (.int worst3), some (.long most4), none, some (.int thought5), some (.long lost17), none]) (c2 := c14) (fun jj => ?_) ?_
      · have hsem := ht60
        refine r_lload X (pc := 50) (i := 8) (zw_dg dk_Judge_tellBends 27 rfl) rfl ?_
        refine r_lconst X (pc := 52) (v := 0) (zw_dg dk_Judge_tellBends 28 rfl) (by decide) ?_
        refine r_lcmp_le X (pc := 53) (tgt := 60) (zw_dg dk_Judge_tellBends 29 rfl) (zw_dg dk_Judge_tellBends 30 rfl) (by decide) (fun q20 => ?_) (fun q20 => ?_)
        · --
          have p19 : ¬ (0 < lost17) := (Int64.not_lt.mpr q20)
          have hsem := zw_ifn p19 hsem
          cases hsem
          exact (r_fgt [] rfl jj)
        · --
          have p19 : (0 < lost17) := (Int64.not_le.mp q20)
          have hsem := zw_ifp p19 hsem
          refine r_iinc X (pc := 57) (i := 3) (k := 1) (zw_dg dk_Judge_tellBends 31 rfl) rfl (by decide) (by decide) rfl ?_
          cases hsem
          exact (r_fgt [] rfl jj)
      have hsem := hs60
      obtain ⟨⟨worst21, most22⟩, ht76, hs76⟩ := zw_bd hsem
      refine zw_jn (J := 76) (L2 := [some (.ref 13), some (.ref values1), some (.ref 61), some (.int bent18), some (.int worst21), some (.long most22), none, some (.int thought5), some (.long lost17), none]) (c2 := c14) (fun jj => ?_) ?_
      · have hsem := ht76
        refine r_lload X (pc := 60) (i := 8) (zw_dg dk_Judge_tellBends 32 rfl) rfl ?_
        refine r_lload X (pc := 62) (i := 5) (zw_dg dk_Judge_tellBends 33 rfl) rfl ?_
        refine r_lcmp_le X (pc := 64) (tgt := 76) (zw_dg dk_Judge_tellBends 34 rfl) (zw_dg dk_Judge_tellBends 35 rfl) (by decide) (fun q24 => ?_) (fun q24 => ?_)
        · --
          have p23 : ¬ (most4 < lost17) := (Int64.not_lt.mpr q24)
          have hsem := zw_ifn p23 hsem
          obtain ⟨rfl, rfl⟩ := zw_in2 hsem
          exact (r_fgt [] rfl jj)
        · --
          have p23 : (most4 < lost17) := (Int64.not_le.mp q24)
          have hsem := zw_ifp p23 hsem
          refine r_iload X (pc := 68) (i := 7) (zw_dg dk_Judge_tellBends 36 rfl) rfl ?_
          refine r_istore X (pc := 70) (i := 4) (zw_dg dk_Judge_tellBends 37 rfl) (by decide) rfl ?_
          refine r_lload X (pc := 72) (i := 8) (zw_dg dk_Judge_tellBends 38 rfl) rfl ?_
          refine r_lstore X (pc := 74) (i := 5) (L2 := [some (.ref 13), some (.ref values1), some (.ref 61), some (.int bent18), some (.int thought5), some (.long lost17), none, some (.int thought5), some (.long lost17), none]) (zw_dg dk_Judge_tellBends 39 rfl) (by decide) rfl ?_
          obtain ⟨rfl, rfl⟩ := zw_in2 hsem
          exact (r_fgt [] rfl jj)
      have hsem := hs76
      refine r_iinc X (pc := 76) (i := 7) (k := 1) (zw_dg dk_Judge_tellBends 40 rfl) rfl (by decide) (by decide) rfl ?_
      refine r_goto X (pc := 79) (tgt := 11) (zw_dg dk_Judge_tellBends 41 rfl) (by decide) ?_
      have jj := hP _ (Option.some.inj hsem).symm
      exact (r_fgt [8] rfl jj)
  obtain ⟨bent7, worst8, most9, c10⟩ := l11
  have hsem := hsl11
  refine r_aload_n X (pc := 82) (i := 2) (zw_dg dk_Judge_tellBends 42 rfl) rfl rfl ?_
  obtain ⟨c25, hc25, hsem⟩ := zw_bd hsem
  refine r_callVv X (pc := 83) (As := []) (st := []) (km_Row_clear hS hc25) ce_Row_clear kw_813 (zo hS 61 rfl rfl) rfl rfl ⟨Nat.le_of_ble_eq_true rfl, Nat.le_of_ble_eq_true rfl⟩ (Nat.le_of_ble_eq_true rfl) (zw_dg dk_Judge_tellBends 43 rfl) ?_
  refine r_aload_n X (pc := 86) (i := 2) (zw_dg dk_Judge_tellBends 44 rfl) rfl rfl ?_
  refine r_iload X (pc := 87) (i := 4) (zw_dg dk_Judge_tellBends 45 rfl) rfl ?_
  refine r_i2l X (pc := 89) (zw_dg dk_Judge_tellBends 46 rfl)  ?_
  obtain ⟨c26, hc26, hsem⟩ := zw_bd hsem
  refine r_callVv X (pc := 90) (As := [_]) (st := []) (km_Row_add hS hc26) ce_Row_add kw_814 (zo hS 61 rfl rfl) rfl rfl ⟨Nat.le_of_ble_eq_true rfl, Nat.le_of_ble_eq_true rfl⟩ (Nat.le_of_ble_eq_true rfl) (zw_dg dk_Judge_tellBends 47 rfl) ?_
  refine r_aload_n X (pc := 93) (i := 2) (zw_dg dk_Judge_tellBends 48 rfl) rfl rfl ?_
  refine r_lload X (pc := 94) (i := 5) (zw_dg dk_Judge_tellBends 49 rfl) rfl ?_
  obtain ⟨c27, hc27, hsem⟩ := zw_bd hsem
  refine r_callVv X (pc := 96) (As := [_]) (st := []) (km_Row_add hS hc27) ce_Row_add kw_814 (zo hS 61 rfl rfl) rfl rfl ⟨Nat.le_of_ble_eq_true rfl, Nat.le_of_ble_eq_true rfl⟩ (Nat.le_of_ble_eq_true rfl) (zw_dg dk_Judge_tellBends 50 rfl) ?_
  refine r_iload_n X (pc := 99) (i := 3) (zw_dg dk_Judge_tellBends 51 rfl) rfl rfl ?_
  cases hsem
  exact r_iret X (pc := 100) rfl (zw_dg dk_Judge_tellBends 52 rfl)
def y_Judge_tellThoughtsFor : MethodName := ⟨R_Judge, "tellThoughtsFor", "([IILPaidForThinking$Row;)I"⟩
abbrev b_Judge_tellThoughtsFor : ByteArray := prog_5_method_10_code
def dl_Judge_tellThoughtsFor : List (Nat × Instr × Nat) := [(0, .iconst 0, 1), (1, .istore 4, 2), (3, .iconst (-1), 1), (4, .istore 5, 2), (6, .iconst (-1), 1), (7, .istore 6, 2), (9, .iconst 0, 1), (10, .istore 7, 2), (12, .iload 7, 2), (14, .aload_n 0, 1), (15, .getfield 9, 3), (18, .getfield 33, 3), (21, .if_icmp .ge 58, 3), (24, .aload_n 0, 1), (25, .aload_n 1, 1), (26, .iload 7, 2), (28, .invokevirtual 46, 3), (31, .aload_n 0, 1), (32, .getfield 15, 3), (35, .getfield 36, 3), (38, .iload_n 2, 1), (39, .laload, 1), (40, .aload_n 0, 1), (41, .getfield 15, 3), (44, .invokevirtual 50, 3), (47, .lcmp, 1), (48, .ifCond .ne 25, 3), (51, .iload 5, 2), (53, .iconst (-1), 1), (54, .if_icmp .ne 8, 3), (57, .iload 7, 2), (59, .goto 5, 3), (62, .iload 5, 2), (64, .istore 5, 2), (66, .iload 7, 2), (68, .istore 6, 2), (70, .iinc 4 1, 3), (73, .iinc 7 1, 3), (76, .goto (-64), 3), (79, .aload_n 0, 1), (80, .iload 5, 2), (82, .iload 6, 2), (84, .aload_n 3, 1), (85, .invokevirtual 76, 3), (88, .iload 4, 2), (90, .ireturn, 1)]
theorem dk_Judge_tellThoughtsFor : zw_dk b_Judge_tellThoughtsFor dl_Judge_tellThoughtsFor = true := by decide +kernel
theorem ce_Judge_tellThoughtsFor : zw_cev y_Judge_tellThoughtsFor b_Judge_tellThoughtsFor 8 (some .int) 3 := ⟨⟨kt_in 852 (by decide +kernel) rfl, kt_in 90 (by decide +kernel) rfl, by decide +kernel⟩, kt_in 850 (by decide +kernel) rfl, kt_in 851 (by decide +kernel) rfl⟩
def fn_Judge_tellThoughtsFor_l1 (values1 : Nat) (saying2 : Int32) : Int32 × Int32 × Int32 × Int32 × zw_Ct → Option ((Int32 × Int32 × Int32 × zw_Ct) ⊕ (Int32 × Int32 × Int32 × Int32 × zw_Ct)) := fun (first3, last4, many5, thought6, c7) =>
  if (thought6 < (c7.1 1 2)) then
  ((fn_Judge_tallyWorth c7 values1 thought6).bind fun c15 =>
  (zw_aL 455 c15 12 saying2).bind fun x16 =>
  (fn_Tally_greatest c15).bind fun r17 =>
  (if (x16 = r17) then
  ((some ((if (first3 = (-1)) then (thought6 : Int32) else first3) : Int32)).bind fun first24 =>
  some ((first24 : Int32), (thought6 : Int32), ((many5 + 1) : Int32)))
  else
  (some ((first3 : Int32), (last4 : Int32), (many5 : Int32)))).bind fun (first18, last19, many20) =>
  some (.inr (first18, last19, many20, (thought6 + 1), c15)))
  else
  (some (.inl (first3, last4, many5, c7)))
def fn_Judge_tellThoughtsFor (c : zw_Ct) (values1 : Nat) (saying2 : Int32) : Option (Int32 × zw_Ct) :=
  (zw_whl (fn_Judge_tellThoughtsFor_l1 values1 saying2) zw_F ((-1), (-1), 0, 0, c)).bind fun (first8, last9, many10, c11) =>
  (fn_Judge_tellTwo c11 first8 last9).bind fun c25 =>
  some (many10, c25)
set_option maxRecDepth 100000 in
theorem km_Judge_tellThoughtsFor {l : Launch} {g : zw_G} {rr : zw_RR} {sh : zw_Sh} {c : zw_Ct} {values1 : Nat} {saying2 : Int32} {r : Int32} {c2 : zw_Ct} (hS : zw_Ok 0 101 sh rr) (hsem : fn_Judge_tellThoughtsFor c values1 saying2 = some (r, c2)) : zw_Met l g y_Judge_tellThoughtsFor b_Judge_tellThoughtsFor 8 (some .int) 4 rr sh [.ref 13, .ref values1, .int saying2, .ref 61] c (some (.int r)) c2 := by
  unfold fn_Judge_tellThoughtsFor at hsem
  refine zw_Met.of (by decide +kernel) (Nat.le_of_ble_eq_true rfl) (fun p e s m args below meth cd X => ?_)
  refine zw_eL (L2 := [some (.ref 13), some (.ref values1), some (.int saying2), some (.ref 61), none, none, none, none]) rfl ?_
  refine r_iconst X (pc := 0) (v := 0) (zw_dg dk_Judge_tellThoughtsFor 0 rfl) (by decide) ?_
  refine r_istore X (pc := 1) (i := 4) (zw_dg dk_Judge_tellThoughtsFor 1 rfl) (by decide) rfl ?_
  refine r_iconst X (pc := 3) (v := (-1)) (zw_dg dk_Judge_tellThoughtsFor 2 rfl) (by decide) ?_
  refine r_istore X (pc := 4) (i := 5) (zw_dg dk_Judge_tellThoughtsFor 3 rfl) (by decide) rfl ?_
  refine r_iconst X (pc := 6) (v := (-1)) (zw_dg dk_Judge_tellThoughtsFor 4 rfl) (by decide) ?_
  refine r_istore X (pc := 7) (i := 6) (zw_dg dk_Judge_tellThoughtsFor 5 rfl) (by decide) rfl ?_
  refine r_iconst X (pc := 9) (v := 0) (zw_dg dk_Judge_tellThoughtsFor 6 rfl) (by decide) ?_
  refine r_istore X (pc := 10) (i := 7) (zw_dg dk_Judge_tellThoughtsFor 7 rfl) (by decide) rfl ?_
  obtain ⟨l12, hl12, hsl12⟩ := zw_bd hsem
  refine r_loop (pc := 12) (pce := 79) hl12 (fun (first3, last4, many5, thought6, c7) => [some (.ref 13), some (.ref values1), some (.int saying2), some (.ref 61), some (.int many5), some (.int first3), some (.int last4), some (.int thought6)] : Int32 × Int32 × Int32 × Int32 × zw_Ct → zw_Lc) (fun (first3, last4, many5, thought6, c7) => c7 : Int32 × Int32 × Int32 × Int32 × zw_Ct → zw_Ct) (fun (first8, last9, many10, c11) => [some (.ref 13), some (.ref values1), some (.int saying2), some (.ref 61), some (.int many10), some (.int first8), some (.int last9), none] : Int32 × Int32 × Int32 × zw_Ct → zw_Lc) (fun (first8, last9, many10, c11) => c11 : Int32 × Int32 × Int32 × zw_Ct → zw_Ct) ?_ rfl rfl ?_
  · rintro ⟨first3, last4, many5, thought6, c7⟩ rr hsem hK hP
    try unfold fn_Judge_tellThoughtsFor_l1 at hsem
    refine r_iload X (pc := 12) (i := 7) (zw_dg dk_Judge_tellThoughtsFor 8 rfl) rfl ?_
    refine r_aload_n X (pc := 14) (i := 0) (zw_dg dk_Judge_tellThoughtsFor 9 rfl) rfl rfl ?_
    refine r_getR X (pc := 15) (r := 1) ci_Judge (zo hS 13 rfl rfl) rfl (zr hS 13 0 rfl rfl) lk_Judge_9 (zw_dg dk_Judge_tellThoughtsFor 10 rfl) ?_
    refine r_getI X (pc := 18) ci_Sayings (zo hS 1 rfl rfl) rfl lk_Judge_33 (zw_dg dk_Judge_tellThoughtsFor 11 rfl) ?_
    refine r_icmp_ge X (pc := 21) (tgt := 79) (zw_dg dk_Judge_tellThoughtsFor 12 rfl) (by decide) (fun q14 => ?_) (fun q14 => ?_)
    · --
      have p13 : ¬ (thought6 < (c7.1 1 2)) := (Int32.not_lt.mpr q14)
      have hsem := zw_ifn p13 hsem
      have jj := hK _ (Option.some.inj hsem).symm
      exact (r_fgt [7] rfl jj)
    · --
      have p13 : (thought6 < (c7.1 1 2)) := (Int32.not_le.mp q14)
      have hsem := zw_ifp p13 hsem
      refine r_aload_n X (pc := 24) (i := 0) (zw_dg dk_Judge_tellThoughtsFor 13 rfl) rfl rfl ?_
      refine r_aload_n X (pc := 25) (i := 1) (zw_dg dk_Judge_tellThoughtsFor 14 rfl) rfl rfl ?_
      refine r_iload X (pc := 26) (i := 7) (zw_dg dk_Judge_tellThoughtsFor 15 rfl) rfl ?_
      obtain ⟨c15, hc15, hsem⟩ := zw_bd hsem
      refine r_callVv X (pc := 28) (As := [_, _]) (st := []) (km_Judge_tallyWorth hS hc15) ce_Judge_tallyWorth kw_793 (zo hS 13 rfl rfl) rfl rfl ⟨Nat.le_of_ble_eq_true rfl, Nat.le_of_ble_eq_true rfl⟩ (Nat.le_of_ble_eq_true rfl) (zw_dg dk_Judge_tellThoughtsFor 16 rfl) ?_
      refine r_aload_n X (pc := 31) (i := 0) (zw_dg dk_Judge_tellThoughtsFor 17 rfl) rfl rfl ?_
      refine r_getR X (pc := 32) (r := 11) ci_Judge (zo hS 13 rfl rfl) rfl (zr hS 13 1 rfl rfl) lk_Judge_15 (zw_dg dk_Judge_tellThoughtsFor 18 rfl) ?_
      refine r_getR X (pc := 35) (r := 12) ci_Tally (zo hS 11 rfl rfl) rfl (zr hS 11 1 rfl rfl) lk_Judge_36 (zw_dg dk_Judge_tellThoughtsFor 19 rfl) ?_
      refine r_iload_n X (pc := 38) (i := 2) (zw_dg dk_Judge_tellThoughtsFor 20 rfl) rfl rfl ?_
      obtain ⟨x16, hx16, hsem⟩ := zw_bd hsem
      refine r_lald X (pc := 39) (zo hS 12 rfl rfl) hx16 (zw_dg dk_Judge_tellThoughtsFor 21 rfl) ?_
      refine r_aload_n X (pc := 40) (i := 0) (zw_dg dk_Judge_tellThoughtsFor 22 rfl) rfl rfl ?_
      refine r_getR X (pc := 41) (r := 11) ci_Judge (zo hS 13 rfl rfl) rfl (zr hS 13 1 rfl rfl) lk_Judge_15 (zw_dg dk_Judge_tellThoughtsFor 23 rfl) ?_
      obtain ⟨r17, hr17, hsem⟩ := zw_bd hsem
      refine r_callVl X (pc := 44) (As := []) (st := [.long x16]) (km_Tally_greatest hS hr17) ce_Tally_greatest kw_801 (zo hS 11 rfl rfl) rfl rfl ⟨Nat.le_of_ble_eq_true rfl, Nat.le_of_ble_eq_true rfl⟩ (Nat.le_of_ble_eq_true rfl) (zw_dg dk_Judge_tellThoughtsFor 24 rfl) ?_
      obtain ⟨⟨first18, last19, many20⟩, ht73, hs73⟩ := zw_bd hsem
      refine zw_jn (J := 73) (L2 := [some (.ref 13), some (.ref values1), some (.int saying2), some (.ref 61), some (.int many20), some (.int first18), some (.int last19), some (.int thought6)]) (c2 := c15) (fun jj => ?_) ?_
      · have hsem := ht73
        refine r_lcmp_ne X (pc := 47) (tgt := 73) (zw_dg dk_Judge_tellThoughtsFor 25 rfl) (zw_dg dk_Judge_tellThoughtsFor 26 rfl) (by decide) (fun q22 => ?_) (fun q22 => ?_)
        · --
          have p21 : ¬ (x16 = r17) := q22
          have hsem := zw_ifn p21 hsem
          obtain ⟨rfl, rfl, rfl⟩ := zw_in3 hsem
          exact (r_fgt [] rfl jj)
        · --
          have p21 : (x16 = r17) := q22
          have hsem := zw_ifp p21 hsem
          refine zw_ter (P := (first3 = (-1))) (f := Value.int) (x := thought6) (y := first3) (J := 64) (st2 := []) (fun jT jF => ?_) ?_
          · --
            refine r_iload X (pc := 51) (i := 5) (zw_dg dk_Judge_tellThoughtsFor 27 rfl) rfl ?_
            refine r_iconst X (pc := 53) (v := (-1)) (zw_dg dk_Judge_tellThoughtsFor 28 rfl) (by decide) ?_
            refine r_icmp_ne X (pc := 54) (tgt := 62) (zw_dg dk_Judge_tellThoughtsFor 29 rfl) (by decide) (fun q23 => ?_) (fun q23 => ?_)
            · --
              refine r_iload X (pc := 62) (i := 5) (zw_dg dk_Judge_tellThoughtsFor 32 rfl) rfl ?_
              exact jF q23
            · --
              refine r_iload X (pc := 57) (i := 7) (zw_dg dk_Judge_tellThoughtsFor 30 rfl) rfl ?_
              refine r_goto X (pc := 59) (tgt := 64) (zw_dg dk_Judge_tellThoughtsFor 31 rfl) (by decide) ?_
              exact jT q23
          obtain ⟨first24, hfirst24, hsem⟩ := zw_bd hsem
          refine zw_topI hfirst24 ?_
          refine r_istore X (pc := 64) (i := 5) (zw_dg dk_Judge_tellThoughtsFor 33 rfl) (by decide) rfl ?_
          refine r_iload X (pc := 66) (i := 7) (zw_dg dk_Judge_tellThoughtsFor 34 rfl) rfl ?_
          refine r_istore X (pc := 68) (i := 6) (zw_dg dk_Judge_tellThoughtsFor 35 rfl) (by decide) rfl ?_
          refine r_iinc X (pc := 70) (i := 4) (k := 1) (zw_dg dk_Judge_tellThoughtsFor 36 rfl) rfl (by decide) (by decide) rfl ?_
          obtain ⟨rfl, rfl, rfl⟩ := zw_in3 hsem
          exact (r_fgt [] rfl jj)
      have hsem := hs73
      refine r_iinc X (pc := 73) (i := 7) (k := 1) (zw_dg dk_Judge_tellThoughtsFor 37 rfl) rfl (by decide) (by decide) rfl ?_
      refine r_goto X (pc := 76) (tgt := 12) (zw_dg dk_Judge_tellThoughtsFor 38 rfl) (by decide) ?_
      have jj := hP _ (Option.some.inj hsem).symm
      exact (r_fgt [] rfl jj)
  obtain ⟨first8, last9, many10, c11⟩ := l12
  have hsem := hsl12
  refine r_aload_n X (pc := 79) (i := 0) (zw_dg dk_Judge_tellThoughtsFor 39 rfl) rfl rfl ?_
  refine r_iload X (pc := 80) (i := 5) (zw_dg dk_Judge_tellThoughtsFor 40 rfl) rfl ?_
  refine r_iload X (pc := 82) (i := 6) (zw_dg dk_Judge_tellThoughtsFor 41 rfl) rfl ?_
  refine r_aload_n X (pc := 84) (i := 3) (zw_dg dk_Judge_tellThoughtsFor 42 rfl) rfl rfl ?_
  obtain ⟨c25, hc25, hsem⟩ := zw_bd hsem
  refine r_callVv X (pc := 85) (As := [_, _, _]) (st := []) (km_Judge_tellTwo hS hc25) ce_Judge_tellTwo kw_833 (zo hS 13 rfl rfl) rfl rfl ⟨Nat.le_of_ble_eq_true rfl, Nat.le_of_ble_eq_true rfl⟩ (Nat.le_of_ble_eq_true rfl) (zw_dg dk_Judge_tellThoughtsFor 43 rfl) ?_
  refine r_iload X (pc := 88) (i := 4) (zw_dg dk_Judge_tellThoughtsFor 44 rfl) rfl ?_
  cases hsem
  exact r_iret X (pc := 90) rfl (zw_dg dk_Judge_tellThoughtsFor 45 rfl)
def y_Judge_differsByEventAlone : MethodName := ⟨R_Judge, "differsByEventAlone", "([II[I)Z"⟩
abbrev b_Judge_differsByEventAlone : ByteArray := prog_5_method_12_code
def dl_Judge_differsByEventAlone : List (Nat × Instr × Nat) := [(0, .iconst 0, 1), (1, .istore 4, 2), (3, .iload 4, 2), (5, .aload_n 0, 1), (6, .getfield 9, 3), (9, .getfield 19, 3), (12, .if_icmp .ge 77, 3), (15, .iload_n 2, 1), (16, .i2l, 1), (17, .aload_n 1, 1), (18, .iload 4, 2), (20, .iaload, 1), (21, .i2l, 1), (22, .lmul, 1), (23, .aload_n 3, 1), (24, .iload 4, 2), (26, .iaload, 1), (27, .i2l, 1), (28, .lsub, 1), (29, .lstore 5, 2), (31, .iconst 1, 1), (32, .istore 7, 2), (34, .iload 7, 2), (36, .aload_n 0, 1), (37, .getfield 9, 3), (40, .getfield 33, 3), (43, .if_icmp .ge 40, 3), (46, .iload 7, 2), (48, .iconst 4, 1), (49, .imul, 1), (50, .iload 4, 2), (52, .iadd, 1), (53, .istore 8, 2), (55, .iload_n 2, 1), (56, .i2l, 1), (57, .aload_n 1, 1), (58, .iload 8, 2), (60, .iaload, 1), (61, .i2l, 1), (62, .lmul, 1), (63, .aload_n 3, 1), (64, .iload 8, 2), (66, .iaload, 1), (67, .i2l, 1), (68, .lsub, 1), (69, .lload 5, 2), (71, .lcmp, 1), (72, .ifCond .eq 5, 3), (75, .iconst 0, 1), (76, .ireturn, 1), (77, .iinc 7 1, 3), (80, .goto (-46), 3), (83, .iinc 4 1, 3), (86, .goto (-83), 3), (89, .iconst 1, 1), (90, .ireturn, 1)]
theorem dk_Judge_differsByEventAlone : zw_dk b_Judge_differsByEventAlone dl_Judge_differsByEventAlone = true := by decide +kernel
theorem ce_Judge_differsByEventAlone : zw_cev y_Judge_differsByEventAlone b_Judge_differsByEventAlone 9 (some .boolean) 3 := ⟨⟨kt_in 860 (by decide +kernel) rfl, kt_in 90 (by decide +kernel) rfl, by decide +kernel⟩, kt_in 858 (by decide +kernel) rfl, kt_in 859 (by decide +kernel) rfl⟩
def fn_Judge_differsByEventAlone_l2 (c : zw_Ct) (e4 : Int32) (one1 : Nat) (other3 : Nat) (a2 : Int32) (apart10 : Int64) : Int32 → Option (((Int32) ⊕ (Unit)) ⊕ (Int32)) := fun s11 =>
  if (s11 < (c.1 1 2)) then
  ((some (((s11 * 4) + e4) : Int32)).bind fun at15 =>
  (zw_dI SH 0 c one1 at15).bind fun x16 =>
  (zw_dI SH 0 c other3 at15).bind fun x17 =>
  if (¬ ((a2.toInt64 * x16.toInt64) - x17.toInt64) = apart10) then
  (some (.inl (.inl 0)))
  else
  (some (.inr (s11 + 1))))
  else
  (some (.inl (.inr ())))
def fn_Judge_differsByEventAlone_l1 (c : zw_Ct) (one1 : Nat) (other3 : Nat) (a2 : Int32) : Int32 → Option (((Int32) ⊕ (Unit)) ⊕ (Int32)) := fun e4 =>
  if (e4 < (c.1 1 0)) then
  ((zw_dI SH 0 c one1 e4).bind fun x8 =>
  (zw_dI SH 0 c other3 e4).bind fun x9 =>
  (some (((a2.toInt64 * x8.toInt64) - x9.toInt64) : Int64)).bind fun apart10 =>
  (zw_whl (fn_Judge_differsByEventAlone_l2 c e4 one1 other3 a2 apart10) zw_F 1).bind fun q => match q with
    | .inl w => some (.inl (.inl w))
    | .inr _ =>
    some (.inr (e4 + 1)))
  else
  (some (.inl (.inr ())))
def fn_Judge_differsByEventAlone (c : zw_Ct) (one1 : Nat) (a2 : Int32) (other3 : Nat) : Option Int32 :=
  (zw_whl (fn_Judge_differsByEventAlone_l1 c one1 other3 a2) zw_F 0).bind fun q => match q with
    | .inl w => some w
    | .inr _ =>
    some 1
set_option maxRecDepth 100000 in
theorem km_Judge_differsByEventAlone {l : Launch} {g : zw_G} {rr : zw_RR} {sh : zw_Sh} {c : zw_Ct} {one1 : Nat} {a2 : Int32} {other3 : Nat} {r : Int32} (hS : zw_Ok 0 101 sh rr) (hsem : fn_Judge_differsByEventAlone c one1 a2 other3 = some r) : zw_Met l g y_Judge_differsByEventAlone b_Judge_differsByEventAlone 9 (some .boolean) 1 rr sh [.ref 13, .ref one1, .int a2, .ref other3] c (some (.int r)) c := by
  unfold fn_Judge_differsByEventAlone at hsem
  refine zw_Met.of (by decide +kernel) (Nat.le_of_ble_eq_true rfl) (fun p e s m args below meth cd X => ?_)
  refine zw_eL (L2 := [some (.ref 13), some (.ref one1), some (.int a2), some (.ref other3), none, none, none, none, none]) rfl ?_
  refine r_iconst X (pc := 0) (v := 0) (zw_dg dk_Judge_differsByEventAlone 0 rfl) (by decide) ?_
  refine r_istore X (pc := 1) (i := 4) (zw_dg dk_Judge_differsByEventAlone 1 rfl) (by decide) rfl ?_
  obtain ⟨l5, hl5, hsl5⟩ := zw_bd hsem
  refine r_loopR (pc := 3) (pce := 89) hl5 (fun e4 => [some (.ref 13), some (.ref one1), some (.int a2), some (.ref other3), some (.int e4), none, none, none, none] : Int32 → zw_Lc) (fun e4 => c : Int32 → zw_Ct) (fun (_ : Unit) => [some (.ref 13), some (.ref one1), some (.int a2), some (.ref other3), none, none, none, none, none] : Unit → zw_Lc) (fun (_ : Unit) => c : Unit → zw_Ct) (fun w => w = r) ?_ rfl rfl ?_ ?_
  · rintro e4 rr hsem hR hK hP
    try unfold fn_Judge_differsByEventAlone_l1 at hsem
    refine r_iload X (pc := 3) (i := 4) (zw_dg dk_Judge_differsByEventAlone 2 rfl) rfl ?_
    refine r_aload_n X (pc := 5) (i := 0) (zw_dg dk_Judge_differsByEventAlone 3 rfl) rfl rfl ?_
    refine r_getR X (pc := 6) (r := 1) ci_Judge (zo hS 13 rfl rfl) rfl (zr hS 13 0 rfl rfl) lk_Judge_9 (zw_dg dk_Judge_differsByEventAlone 4 rfl) ?_
    refine r_getI X (pc := 9) ci_Sayings (zo hS 1 rfl rfl) rfl lk_Judge_19 (zw_dg dk_Judge_differsByEventAlone 5 rfl) ?_
    refine r_icmp_ge X (pc := 12) (tgt := 89) (zw_dg dk_Judge_differsByEventAlone 6 rfl) (by decide) (fun q7 => ?_) (fun q7 => ?_)
    · --
      have p6 : ¬ (e4 < (c.1 1 0)) := (Int32.not_lt.mpr q7)
      have hsem := zw_ifn p6 hsem
      have jj := hK _ (Option.some.inj hsem).symm
      exact (r_fgt [4] rfl jj)
    · --
      have p6 : (e4 < (c.1 1 0)) := (Int32.not_le.mp q7)
      have hsem := zw_ifp p6 hsem
      refine r_iload_n X (pc := 15) (i := 2) (zw_dg dk_Judge_differsByEventAlone 7 rfl) rfl rfl ?_
      refine r_i2l X (pc := 16) (zw_dg dk_Judge_differsByEventAlone 8 rfl)  ?_
      refine r_aload_n X (pc := 17) (i := 1) (zw_dg dk_Judge_differsByEventAlone 9 rfl) rfl rfl ?_
      refine r_iload X (pc := 18) (i := 4) (zw_dg dk_Judge_differsByEventAlone 10 rfl) rfl ?_
      obtain ⟨x8, hx8, hsem⟩ := zw_bd hsem
      obtain ⟨_, hnx8, hx8⟩ := zw_bd hx8
      refine r_iald X (pc := 20) (zd hS (zw_len_of hnx8)) hx8 (zw_dg dk_Judge_differsByEventAlone 11 rfl) ?_
      refine r_i2l X (pc := 21) (zw_dg dk_Judge_differsByEventAlone 12 rfl)  ?_
      refine r_lmul X (pc := 22) (zw_dg dk_Judge_differsByEventAlone 13 rfl)  ?_
      refine r_aload_n X (pc := 23) (i := 3) (zw_dg dk_Judge_differsByEventAlone 14 rfl) rfl rfl ?_
      refine r_iload X (pc := 24) (i := 4) (zw_dg dk_Judge_differsByEventAlone 15 rfl) rfl ?_
      obtain ⟨x9, hx9, hsem⟩ := zw_bd hsem
      obtain ⟨_, hnx9, hx9⟩ := zw_bd hx9
      refine r_iald X (pc := 26) (zd hS (zw_len_of hnx9)) hx9 (zw_dg dk_Judge_differsByEventAlone 16 rfl) ?_
      refine r_i2l X (pc := 27) (zw_dg dk_Judge_differsByEventAlone 17 rfl)  ?_
      refine r_lsub X (pc := 28) (zw_dg dk_Judge_differsByEventAlone 18 rfl)  ?_
      obtain ⟨apart10, hapart10, hsem⟩ := zw_bd hsem
      refine zw_topJ hapart10 ?_
      refine r_lstore X (pc := 29) (i := 5) (L2 := [some (.ref 13), some (.ref one1), some (.int a2), some (.ref other3), some (.int e4), some (.long apart10), none, none, none]) (zw_dg dk_Judge_differsByEventAlone 19 rfl) (by decide) rfl ?_
      refine r_iconst X (pc := 31) (v := 1) (zw_dg dk_Judge_differsByEventAlone 20 rfl) (by decide) ?_
      refine r_istore X (pc := 32) (i := 7) (zw_dg dk_Judge_differsByEventAlone 21 rfl) (by decide) rfl ?_
      obtain ⟨l12, hl12, hsl12⟩ := zw_bd hsem
      refine r_loopR (pc := 34) (pce := 83) hl12 (fun s11 => [some (.ref 13), some (.ref one1), some (.int a2), some (.ref other3), some (.int e4), some (.long apart10), none, some (.int s11), none] : Int32 → zw_Lc) (fun s11 => c : Int32 → zw_Ct) (fun (_ : Unit) => [some (.ref 13), some (.ref one1), some (.int a2), some (.ref other3), some (.int e4), some (.long apart10), none, none, none] : Unit → zw_Lc) (fun (_ : Unit) => c : Unit → zw_Ct) (fun w => w = r) ?_ rfl rfl ?_ ?_
      · rintro s11 rr hsem hR hK hP
        try unfold fn_Judge_differsByEventAlone_l2 at hsem
        refine r_iload X (pc := 34) (i := 7) (zw_dg dk_Judge_differsByEventAlone 22 rfl) rfl ?_
        refine r_aload_n X (pc := 36) (i := 0) (zw_dg dk_Judge_differsByEventAlone 23 rfl) rfl rfl ?_
        refine r_getR X (pc := 37) (r := 1) ci_Judge (zo hS 13 rfl rfl) rfl (zr hS 13 0 rfl rfl) lk_Judge_9 (zw_dg dk_Judge_differsByEventAlone 24 rfl) ?_
        refine r_getI X (pc := 40) ci_Sayings (zo hS 1 rfl rfl) rfl lk_Judge_33 (zw_dg dk_Judge_differsByEventAlone 25 rfl) ?_
        refine r_icmp_ge X (pc := 43) (tgt := 83) (zw_dg dk_Judge_differsByEventAlone 26 rfl) (by decide) (fun q14 => ?_) (fun q14 => ?_)
        · --
          have p13 : ¬ (s11 < (c.1 1 2)) := (Int32.not_lt.mpr q14)
          have hsem := zw_ifn p13 hsem
          have jj := hK _ (Option.some.inj hsem).symm
          exact (r_fgt [7] rfl jj)
        · --
          have p13 : (s11 < (c.1 1 2)) := (Int32.not_le.mp q14)
          have hsem := zw_ifp p13 hsem
          refine r_iload X (pc := 46) (i := 7) (zw_dg dk_Judge_differsByEventAlone 27 rfl) rfl ?_
          refine r_iconst X (pc := 48) (v := 4) (zw_dg dk_Judge_differsByEventAlone 28 rfl) (by decide) ?_
          refine r_imul X (pc := 49) (zw_dg dk_Judge_differsByEventAlone 29 rfl)  ?_
          refine r_iload X (pc := 50) (i := 4) (zw_dg dk_Judge_differsByEventAlone 30 rfl) rfl ?_
          refine r_iadd X (pc := 52) (zw_dg dk_Judge_differsByEventAlone 31 rfl)  ?_
          obtain ⟨at15, hat15, hsem⟩ := zw_bd hsem
          refine zw_topI hat15 ?_
          refine r_istore X (pc := 53) (i := 8) (zw_dg dk_Judge_differsByEventAlone 32 rfl) (by decide) rfl ?_
          refine r_iload_n X (pc := 55) (i := 2) (zw_dg dk_Judge_differsByEventAlone 33 rfl) rfl rfl ?_
          refine r_i2l X (pc := 56) (zw_dg dk_Judge_differsByEventAlone 34 rfl)  ?_
          refine r_aload_n X (pc := 57) (i := 1) (zw_dg dk_Judge_differsByEventAlone 35 rfl) rfl rfl ?_
          refine r_iload X (pc := 58) (i := 8) (zw_dg dk_Judge_differsByEventAlone 36 rfl) rfl ?_
          obtain ⟨x16, hx16, hsem⟩ := zw_bd hsem
          obtain ⟨_, hnx16, hx16⟩ := zw_bd hx16
          refine r_iald X (pc := 60) (zd hS (zw_len_of hnx16)) hx16 (zw_dg dk_Judge_differsByEventAlone 37 rfl) ?_
          refine r_i2l X (pc := 61) (zw_dg dk_Judge_differsByEventAlone 38 rfl)  ?_
          refine r_lmul X (pc := 62) (zw_dg dk_Judge_differsByEventAlone 39 rfl)  ?_
          refine r_aload_n X (pc := 63) (i := 3) (zw_dg dk_Judge_differsByEventAlone 40 rfl) rfl rfl ?_
          refine r_iload X (pc := 64) (i := 8) (zw_dg dk_Judge_differsByEventAlone 41 rfl) rfl ?_
          obtain ⟨x17, hx17, hsem⟩ := zw_bd hsem
          obtain ⟨_, hnx17, hx17⟩ := zw_bd hx17
          refine r_iald X (pc := 66) (zd hS (zw_len_of hnx17)) hx17 (zw_dg dk_Judge_differsByEventAlone 42 rfl) ?_
          refine r_i2l X (pc := 67) (zw_dg dk_Judge_differsByEventAlone 43 rfl)  ?_
          refine r_lsub X (pc := 68) (zw_dg dk_Judge_differsByEventAlone 44 rfl)  ?_
          refine r_lload X (pc := 69) (i := 5) (zw_dg dk_Judge_differsByEventAlone 45 rfl) rfl ?_
          refine r_lcmp_eq X (pc := 71) (tgt := 77) (zw_dg dk_Judge_differsByEventAlone 46 rfl) (zw_dg dk_Judge_differsByEventAlone 47 rfl) (by decide) (fun q19 => ?_) (fun q19 => ?_)
          · --
            have p18 : ¬ (¬ ((a2.toInt64 * x16.toInt64) - x17.toInt64) = apart10) := (fun z => z q19)
            have hsem := zw_ifn p18 hsem
            refine r_iinc X (pc := 77) (i := 7) (k := 1) (zw_dg dk_Judge_differsByEventAlone 50 rfl) rfl (by decide) (by decide) rfl ?_
            refine r_goto X (pc := 80) (tgt := 34) (zw_dg dk_Judge_differsByEventAlone 51 rfl) (by decide) ?_
            have jj := hP _ (Option.some.inj hsem).symm
            exact (r_fgt [8] rfl jj)
          · --
            have p18 : (¬ ((a2.toInt64 * x16.toInt64) - x17.toInt64) = apart10) := q19
            have hsem := zw_ifp p18 hsem
            refine r_iconst X (pc := 75) (v := 0) (zw_dg dk_Judge_differsByEventAlone 48 rfl) (by decide) ?_
            have hbz : (0 : Int32) = 0 ∨ (0 : Int32) = 1 := (by decide)
            have hret := hR _ (Option.some.inj hsem).symm
            cases hret
            exact r_zret X (pc := 76) rfl (zw_bzn hbz).1 (zw_dg dk_Judge_differsByEventAlone 49 rfl)
      · intro w hw
        subst hw
        exact hR _ (Option.some.inj hsl12).symm
      rintro _u hw
      subst hw
      have hsem := hsl12
      refine r_iinc X (pc := 83) (i := 4) (k := 1) (zw_dg dk_Judge_differsByEventAlone 52 rfl) rfl (by decide) (by decide) rfl ?_
      refine r_goto X (pc := 86) (tgt := 3) (zw_dg dk_Judge_differsByEventAlone 53 rfl) (by decide) ?_
      have jj := hP _ (Option.some.inj hsem).symm
      exact (r_fgt [5] rfl jj)
  · intro w hw
    subst hw
    exact Option.some.inj hsl5
  rintro _u hw
  subst hw
  have hsem := hsl5
  refine r_iconst X (pc := 89) (v := 1) (zw_dg dk_Judge_differsByEventAlone 54 rfl) (by decide) ?_
  have hbz : (1 : Int32) = 0 ∨ (1 : Int32) = 1 := (by decide)
  cases hsem
  exact r_zret X (pc := 90) rfl (zw_bzn hbz).1 (zw_dg dk_Judge_differsByEventAlone 55 rfl)
def y_Judge_tellFactor : MethodName := ⟨R_Judge, "tellFactor", "([I[ILPaidForThinking$Row;)I"⟩
abbrev b_Judge_tellFactor : ByteArray := prog_5_method_13_code
def dl_Judge_tellFactor : List (Nat × Instr × Nat) := [(0, .aload_n 3, 1), (1, .invokevirtual 58, 3), (4, .iconst 1, 1), (5, .istore 4, 2), (7, .iload 4, 2), (9, .bipush 20, 2), (11, .if_icmp .gt 29, 3), (14, .aload_n 0, 1), (15, .aload_n 1, 1), (16, .iload 4, 2), (18, .aload_n 2, 1), (19, .invokevirtual 80, 3), (22, .ifCond .eq 12, 3), (25, .aload_n 3, 1), (26, .iload 4, 2), (28, .i2l, 1), (29, .invokevirtual 64, 3), (32, .iconst 1, 1), (33, .ireturn, 1), (34, .iinc 4 1, 3), (37, .goto (-30), 3), (40, .iconst 0, 1), (41, .ireturn, 1)]
theorem dk_Judge_tellFactor : zw_dk b_Judge_tellFactor dl_Judge_tellFactor = true := by decide +kernel
theorem ce_Judge_tellFactor : zw_cev y_Judge_tellFactor b_Judge_tellFactor 5 (some .int) 3 := ⟨⟨kt_in 868 (by decide +kernel) rfl, kt_in 90 (by decide +kernel) rfl, by decide +kernel⟩, kt_in 866 (by decide +kernel) rfl, kt_in 867 (by decide +kernel) rfl⟩
def fn_Judge_tellFactor_l1 (one1 : Nat) (other2 : Nat) : Int32 × zw_Ct → Option (((Int32 × zw_Ct) ⊕ (zw_Ct)) ⊕ (Int32 × zw_Ct)) := fun (a4, c5) =>
  if (a4 ≤ 20) then
  ((fn_Judge_differsByEventAlone c5 one1 a4 other2).bind fun r10 =>
  if (¬ r10 = 0) then
  ((fn_Row_add c5 a4.toInt64).bind fun c13 =>
  some (.inl (.inl (1, c13))))
  else
  (some (.inr ((a4 + 1), c5))))
  else
  (some (.inl (.inr c5)))
def fn_Judge_tellFactor (c : zw_Ct) (one1 : Nat) (other2 : Nat) : Option (Int32 × zw_Ct) :=
  (fn_Row_clear c).bind fun c3 =>
  (zw_whl (fn_Judge_tellFactor_l1 one1 other2) zw_F (1, c3)).bind fun q => match q with
    | .inl w => some w
    | .inr c6 =>
    some (0, c6)
set_option maxRecDepth 100000 in
theorem km_Judge_tellFactor {l : Launch} {g : zw_G} {rr : zw_RR} {sh : zw_Sh} {c : zw_Ct} {one1 : Nat} {other2 : Nat} {r : Int32} {c2 : zw_Ct} (hS : zw_Ok 0 101 sh rr) (hsem : fn_Judge_tellFactor c one1 other2 = some (r, c2)) : zw_Met l g y_Judge_tellFactor b_Judge_tellFactor 5 (some .int) 2 rr sh [.ref 13, .ref one1, .ref other2, .ref 61] c (some (.int r)) c2 := by
  unfold fn_Judge_tellFactor at hsem
  refine zw_Met.of (by decide +kernel) (Nat.le_of_ble_eq_true rfl) (fun p e s m args below meth cd X => ?_)
  refine zw_eL (L2 := [some (.ref 13), some (.ref one1), some (.ref other2), some (.ref 61), none]) rfl ?_
  refine r_aload_n X (pc := 0) (i := 3) (zw_dg dk_Judge_tellFactor 0 rfl) rfl rfl ?_
  obtain ⟨c3, hc3, hsem⟩ := zw_bd hsem
  refine r_callVv X (pc := 1) (As := []) (st := []) (km_Row_clear hS hc3) ce_Row_clear kw_813 (zo hS 61 rfl rfl) rfl rfl ⟨Nat.le_of_ble_eq_true rfl, Nat.le_of_ble_eq_true rfl⟩ (Nat.le_of_ble_eq_true rfl) (zw_dg dk_Judge_tellFactor 1 rfl) ?_
  refine r_iconst X (pc := 4) (v := 1) (zw_dg dk_Judge_tellFactor 2 rfl) (by decide) ?_
  refine r_istore X (pc := 5) (i := 4) (zw_dg dk_Judge_tellFactor 3 rfl) (by decide) rfl ?_
  obtain ⟨l7, hl7, hsl7⟩ := zw_bd hsem
  refine r_loopR (pc := 7) (pce := 40) hl7 (fun (a4, c5) => [some (.ref 13), some (.ref one1), some (.ref other2), some (.ref 61), some (.int a4)] : Int32 × zw_Ct → zw_Lc) (fun (a4, c5) => c5 : Int32 × zw_Ct → zw_Ct) (fun c6 => [some (.ref 13), some (.ref one1), some (.ref other2), some (.ref 61), none] : zw_Ct → zw_Lc) (fun c6 => c6 : zw_Ct → zw_Ct) (fun w => w = (r, c2)) ?_ rfl rfl ?_ ?_
  · rintro ⟨a4, c5⟩ rr hsem hR hK hP
    try unfold fn_Judge_tellFactor_l1 at hsem
    refine r_iload X (pc := 7) (i := 4) (zw_dg dk_Judge_tellFactor 4 rfl) rfl ?_
    refine r_bipush X (pc := 9) (v := 20) (zw_dg dk_Judge_tellFactor 5 rfl) (by decide) ?_
    refine r_icmp_gt X (pc := 11) (tgt := 40) (zw_dg dk_Judge_tellFactor 6 rfl) (by decide) (fun q9 => ?_) (fun q9 => ?_)
    · --
      have p8 : ¬ (a4 ≤ 20) := (Int32.not_le.mpr q9)
      have hsem := zw_ifn p8 hsem
      have jj := hK _ (Option.some.inj hsem).symm
      exact (r_fgt [4] rfl jj)
    · --
      have p8 : (a4 ≤ 20) := (Int32.not_lt.mp q9)
      have hsem := zw_ifp p8 hsem
      refine r_aload_n X (pc := 14) (i := 0) (zw_dg dk_Judge_tellFactor 7 rfl) rfl rfl ?_
      refine r_aload_n X (pc := 15) (i := 1) (zw_dg dk_Judge_tellFactor 8 rfl) rfl rfl ?_
      refine r_iload X (pc := 16) (i := 4) (zw_dg dk_Judge_tellFactor 9 rfl) rfl ?_
      refine r_aload_n X (pc := 18) (i := 2) (zw_dg dk_Judge_tellFactor 10 rfl) rfl rfl ?_
      obtain ⟨r10, hr10, hsem⟩ := zw_bd hsem
      refine r_callVi X (pc := 19) (As := [_, _, _]) (st := []) (km_Judge_differsByEventAlone hS hr10) ce_Judge_differsByEventAlone kw_869 (zo hS 13 rfl rfl) rfl rfl ⟨Nat.le_of_ble_eq_true rfl, Nat.le_of_ble_eq_true rfl⟩ (Nat.le_of_ble_eq_true rfl) (zw_dg dk_Judge_tellFactor 11 rfl) ?_
      refine r_if_eq X (pc := 22) (tgt := 34) (zw_dg dk_Judge_tellFactor 12 rfl) (by decide) (fun q12 => ?_) (fun q12 => ?_)
      · --
        have p11 : ¬ (¬ r10 = 0) := (fun z => z q12)
        have hsem := zw_ifn p11 hsem
        refine r_iinc X (pc := 34) (i := 4) (k := 1) (zw_dg dk_Judge_tellFactor 19 rfl) rfl (by decide) (by decide) rfl ?_
        refine r_goto X (pc := 37) (tgt := 7) (zw_dg dk_Judge_tellFactor 20 rfl) (by decide) ?_
        have jj := hP _ (Option.some.inj hsem).symm
        exact (r_fgt [] rfl jj)
      · --
        have p11 : (¬ r10 = 0) := q12
        have hsem := zw_ifp p11 hsem
        refine r_aload_n X (pc := 25) (i := 3) (zw_dg dk_Judge_tellFactor 13 rfl) rfl rfl ?_
        refine r_iload X (pc := 26) (i := 4) (zw_dg dk_Judge_tellFactor 14 rfl) rfl ?_
        refine r_i2l X (pc := 28) (zw_dg dk_Judge_tellFactor 15 rfl)  ?_
        obtain ⟨c13, hc13, hsem⟩ := zw_bd hsem
        refine r_callVv X (pc := 29) (As := [_]) (st := []) (km_Row_add hS hc13) ce_Row_add kw_814 (zo hS 61 rfl rfl) rfl rfl ⟨Nat.le_of_ble_eq_true rfl, Nat.le_of_ble_eq_true rfl⟩ (Nat.le_of_ble_eq_true rfl) (zw_dg dk_Judge_tellFactor 16 rfl) ?_
        refine r_iconst X (pc := 32) (v := 1) (zw_dg dk_Judge_tellFactor 17 rfl) (by decide) ?_
        have hret := hR _ (Option.some.inj hsem).symm
        cases hret
        exact r_iret X (pc := 33) rfl (zw_dg dk_Judge_tellFactor 18 rfl)
  · intro w hw
    subst hw
    exact Option.some.inj hsl7
  rintro c6 hw
  subst hw
  have hsem := hsl7
  refine r_iconst X (pc := 40) (v := 0) (zw_dg dk_Judge_tellFactor 21 rfl) (by decide) ?_
  cases hsem
  exact r_iret X (pc := 41) rfl (zw_dg dk_Judge_tellFactor 22 rfl)
def y_Judge_turnOf : MethodName := ⟨R_Judge, "turnOf", "([II)J"⟩
abbrev b_Judge_turnOf : ByteArray := prog_5_method_14_code
def dl_Judge_turnOf : List (Nat × Instr × Nat) := [(0, .aload_n 0, 1), (1, .aload_n 1, 1), (2, .aload_n 0, 1), (3, .getfield 9, 3), (6, .getfield 84, 3), (9, .iload_n 2, 1), (10, .isub, 1), (11, .invokevirtual 54, 3), (14, .aload_n 0, 1), (15, .getfield 9, 3), (18, .getfield 84, 3), (21, .i2l, 1), (22, .invokestatic 87, 3), (25, .lreturn, 1)]
theorem dk_Judge_turnOf : zw_dk b_Judge_turnOf dl_Judge_turnOf = true := by decide +kernel
theorem ce_Judge_turnOf : zw_cev y_Judge_turnOf b_Judge_turnOf 3 (some .long) 2 := ⟨⟨kt_in 906 (by decide +kernel) rfl, kt_in 90 (by decide +kernel) rfl, by decide +kernel⟩, kt_in 904 (by decide +kernel) rfl, kt_in 905 (by decide +kernel) rfl⟩
def fn_Judge_turnOf (c : zw_Ct) (values1 : Nat) (k2 : Int32) : Option (Int64 × zw_Ct) :=
  (fn_Judge_greatestWorth c values1 ((c.1 1 1) - k2)).bind fun (r3, c4) =>
  (fn_P_cut r3 ((c4.1 1 1)).toInt64).bind fun r5 =>
  some (r5, c4)
set_option maxRecDepth 100000 in
theorem km_Judge_turnOf {l : Launch} {g : zw_G} {rr : zw_RR} {sh : zw_Sh} {c : zw_Ct} {values1 : Nat} {k2 : Int32} {r : Int64} {c2 : zw_Ct} (hS : zw_Ok 0 101 sh rr) (hsem : fn_Judge_turnOf c values1 k2 = some (r, c2)) : zw_Met l g y_Judge_turnOf b_Judge_turnOf 3 (some .long) 5 rr sh [.ref 13, .ref values1, .int k2] c (some (.long r)) c2 := by
  unfold fn_Judge_turnOf at hsem
  refine zw_Met.of (by decide +kernel) (Nat.le_of_ble_eq_true rfl) (fun p e s m args below meth cd X => ?_)
  refine zw_eL (L2 := [some (.ref 13), some (.ref values1), some (.int k2)]) rfl ?_
  refine r_aload_n X (pc := 0) (i := 0) (zw_dg dk_Judge_turnOf 0 rfl) rfl rfl ?_
  refine r_aload_n X (pc := 1) (i := 1) (zw_dg dk_Judge_turnOf 1 rfl) rfl rfl ?_
  refine r_aload_n X (pc := 2) (i := 0) (zw_dg dk_Judge_turnOf 2 rfl) rfl rfl ?_
  refine r_getR X (pc := 3) (r := 1) ci_Judge (zo hS 13 rfl rfl) rfl (zr hS 13 0 rfl rfl) lk_Judge_9 (zw_dg dk_Judge_turnOf 3 rfl) ?_
  refine r_getI X (pc := 6) ci_Sayings (zo hS 1 rfl rfl) rfl lk_Judge_84 (zw_dg dk_Judge_turnOf 4 rfl) ?_
  refine r_iload_n X (pc := 9) (i := 2) (zw_dg dk_Judge_turnOf 5 rfl) rfl rfl ?_
  refine r_isub X (pc := 10) (zw_dg dk_Judge_turnOf 6 rfl)  ?_
  obtain ⟨⟨r3, c4⟩, hr3_c4, hsem⟩ := zw_bd hsem
  refine r_callVl X (pc := 11) (As := [_, _]) (st := []) (km_Judge_greatestWorth hS hr3_c4) ce_Judge_greatestWorth kw_789 (zo hS 13 rfl rfl) rfl rfl ⟨Nat.le_of_ble_eq_true rfl, Nat.le_of_ble_eq_true rfl⟩ (Nat.le_of_ble_eq_true rfl) (zw_dg dk_Judge_turnOf 7 rfl) ?_
  refine r_aload_n X (pc := 14) (i := 0) (zw_dg dk_Judge_turnOf 8 rfl) rfl rfl ?_
  refine r_getR X (pc := 15) (r := 1) ci_Judge (zo hS 13 rfl rfl) rfl (zr hS 13 0 rfl rfl) lk_Judge_9 (zw_dg dk_Judge_turnOf 9 rfl) ?_
  refine r_getI X (pc := 18) ci_Sayings (zo hS 1 rfl rfl) rfl lk_Judge_84 (zw_dg dk_Judge_turnOf 10 rfl) ?_
  refine r_i2l X (pc := 21) (zw_dg dk_Judge_turnOf 11 rfl)  ?_
  obtain ⟨r5, hr5, hsem⟩ := zw_bd hsem
  refine r_callSNl X (pc := 22) (As := [_, _]) (st := []) (km_P_cut hS hr5) ce_P_cut kw_907 rfl ⟨Nat.le_of_ble_eq_true rfl, Nat.le_of_ble_eq_true rfl⟩ (Nat.le_of_ble_eq_true rfl) (zw_dg dk_Judge_turnOf 12 rfl) ?_
  cases hsem
  exact r_lret X (pc := 25) rfl (zw_dg dk_Judge_turnOf 13 rfl)
def y_Judge_fitsTurn : MethodName := ⟨R_Judge, "fitsTurn", "([I)Z"⟩
abbrev b_Judge_fitsTurn : ByteArray := prog_5_method_15_code
def dl_Judge_fitsTurn : List (Nat × Instr × Nat) := [(0, .iconst 0, 1), (1, .istore_n 2, 1), (2, .iload_n 2, 1), (3, .aload_n 0, 1), (4, .getfield 9, 3), (7, .getfield 84, 3), (10, .if_icmp .gt 34, 3), (13, .aload_n 0, 1), (14, .aload_n 1, 1), (15, .iload_n 2, 1), (16, .invokevirtual 91, 3), (19, .lstore_n 3, 1), (20, .lload_n 3, 1), (21, .ldc2_w 94, 3), (24, .lcmp, 1), (25, .ifCond .lt 11, 3), (28, .lload_n 3, 1), (29, .ldc2_w 96, 3), (32, .lcmp, 1), (33, .ifCond .le 5, 3), (36, .iconst 0, 1), (37, .ireturn, 1), (38, .iinc 2 1, 3), (41, .goto (-39), 3), (44, .iconst 1, 1), (45, .ireturn, 1)]
theorem dk_Judge_fitsTurn : zw_dk b_Judge_fitsTurn dl_Judge_fitsTurn = true := by decide +kernel
theorem ce_Judge_fitsTurn : zw_cev y_Judge_fitsTurn b_Judge_fitsTurn 5 (some .boolean) 1 := ⟨⟨kt_in 902 (by decide +kernel) rfl, kt_in 90 (by decide +kernel) rfl, by decide +kernel⟩, kt_in 900 (by decide +kernel) rfl, kt_in 901 (by decide +kernel) rfl⟩
def fn_Judge_fitsTurn_l1 (values1 : Nat) : Int32 × zw_Ct → Option (((Int32 × zw_Ct) ⊕ (zw_Ct)) ⊕ (Int32 × zw_Ct)) := fun (k2, c3) =>
  if (k2 ≤ (c3.1 1 1)) then
  ((fn_Judge_turnOf c3 values1 k2).bind fun (r8, c9) =>
  if ((r8 < (-9999)) ∨ (9999 < r8)) then
  (some (.inl (.inl (0, c9))))
  else
  (some (.inr ((k2 + 1), c9))))
  else
  (some (.inl (.inr c3)))
def fn_Judge_fitsTurn (c : zw_Ct) (values1 : Nat) : Option (Int32 × zw_Ct) :=
  (zw_whl (fn_Judge_fitsTurn_l1 values1) zw_F (0, c)).bind fun q => match q with
    | .inl w => some w
    | .inr c4 =>
    some (1, c4)
set_option maxRecDepth 100000 in
theorem km_Judge_fitsTurn {l : Launch} {g : zw_G} {rr : zw_RR} {sh : zw_Sh} {c : zw_Ct} {values1 : Nat} {r : Int32} {c2 : zw_Ct} (hS : zw_Ok 0 101 sh rr) (hsem : fn_Judge_fitsTurn c values1 = some (r, c2)) : zw_Met l g y_Judge_fitsTurn b_Judge_fitsTurn 5 (some .boolean) 6 rr sh [.ref 13, .ref values1] c (some (.int r)) c2 := by
  unfold fn_Judge_fitsTurn at hsem
  refine zw_Met.of (by decide +kernel) (Nat.le_of_ble_eq_true rfl) (fun p e s m args below meth cd X => ?_)
  refine zw_eL (L2 := [some (.ref 13), some (.ref values1), none, none, none]) rfl ?_
  refine r_iconst X (pc := 0) (v := 0) (zw_dg dk_Judge_fitsTurn 0 rfl) (by decide) ?_
  refine r_istore_n X (pc := 1) (i := 2) (zw_dg dk_Judge_fitsTurn 1 rfl) rfl (by decide) rfl ?_
  obtain ⟨l5, hl5, hsl5⟩ := zw_bd hsem
  refine r_loopR (pc := 2) (pce := 44) hl5 (fun (k2, c3) => [some (.ref 13), some (.ref values1), some (.int k2), none, none] : Int32 × zw_Ct → zw_Lc) (fun (k2, c3) => c3 : Int32 × zw_Ct → zw_Ct) (fun c4 => [some (.ref 13), some (.ref values1), none, none, none] : zw_Ct → zw_Lc) (fun c4 => c4 : zw_Ct → zw_Ct) (fun w => w = (r, c2)) ?_ rfl rfl ?_ ?_
  · rintro ⟨k2, c3⟩ rr hsem hR hK hP
    try unfold fn_Judge_fitsTurn_l1 at hsem
    refine r_iload_n X (pc := 2) (i := 2) (zw_dg dk_Judge_fitsTurn 2 rfl) rfl rfl ?_
    refine r_aload_n X (pc := 3) (i := 0) (zw_dg dk_Judge_fitsTurn 3 rfl) rfl rfl ?_
    refine r_getR X (pc := 4) (r := 1) ci_Judge (zo hS 13 rfl rfl) rfl (zr hS 13 0 rfl rfl) lk_Judge_9 (zw_dg dk_Judge_fitsTurn 4 rfl) ?_
    refine r_getI X (pc := 7) ci_Sayings (zo hS 1 rfl rfl) rfl lk_Judge_84 (zw_dg dk_Judge_fitsTurn 5 rfl) ?_
    refine r_icmp_gt X (pc := 10) (tgt := 44) (zw_dg dk_Judge_fitsTurn 6 rfl) (by decide) (fun q7 => ?_) (fun q7 => ?_)
    · --
      have p6 : ¬ (k2 ≤ (c3.1 1 1)) := (Int32.not_le.mpr q7)
      have hsem := zw_ifn p6 hsem
      have jj := hK _ (Option.some.inj hsem).symm
      exact (r_fgt [2] rfl jj)
    · --
      have p6 : (k2 ≤ (c3.1 1 1)) := (Int32.not_lt.mp q7)
      have hsem := zw_ifp p6 hsem
      refine r_aload_n X (pc := 13) (i := 0) (zw_dg dk_Judge_fitsTurn 7 rfl) rfl rfl ?_
      refine r_aload_n X (pc := 14) (i := 1) (zw_dg dk_Judge_fitsTurn 8 rfl) rfl rfl ?_
      refine r_iload_n X (pc := 15) (i := 2) (zw_dg dk_Judge_fitsTurn 9 rfl) rfl rfl ?_
      obtain ⟨⟨r8, c9⟩, hr8_c9, hsem⟩ := zw_bd hsem
      refine r_callVl X (pc := 16) (As := [_, _]) (st := []) (km_Judge_turnOf hS hr8_c9) ce_Judge_turnOf kw_903 (zo hS 13 rfl rfl) rfl rfl ⟨Nat.le_of_ble_eq_true rfl, Nat.le_of_ble_eq_true rfl⟩ (Nat.le_of_ble_eq_true rfl) (zw_dg dk_Judge_fitsTurn 10 rfl) ?_
      refine r_lstore_n X (pc := 19) (i := 3) (L2 := [some (.ref 13), some (.ref values1), some (.int k2), some (.long r8), none]) (zw_dg dk_Judge_fitsTurn 11 rfl) rfl (by decide) rfl ?_
      refine zw_cnd (P := ((r8 < (-9999)) ∨ (9999 < r8))) (J1 := 36) (J2 := 38) (st2 := []) (fun jT jF => ?_) (fun p10 => ?_) (fun p10 => ?_)
      · --
        refine r_lload_n X (pc := 20) (i := 3) (zw_dg dk_Judge_fitsTurn 12 rfl) rfl rfl ?_
        refine r_ldc2 X (pc := 21) (v := (-9999)) kw_908 (zw_dg dk_Judge_fitsTurn 13 rfl) ?_
        refine r_lcmp_lt X (pc := 24) (tgt := 36) (zw_dg dk_Judge_fitsTurn 14 rfl) (zw_dg dk_Judge_fitsTurn 15 rfl) (by decide) (fun q11 => ?_) (fun q11 => ?_)
        · --
          exact jT (Or.inl q11)
        · --
          refine r_lload_n X (pc := 28) (i := 3) (zw_dg dk_Judge_fitsTurn 16 rfl) rfl rfl ?_
          refine r_ldc2 X (pc := 29) (v := 9999) kw_909 (zw_dg dk_Judge_fitsTurn 17 rfl) ?_
          refine r_lcmp_le X (pc := 32) (tgt := 38) (zw_dg dk_Judge_fitsTurn 18 rfl) (zw_dg dk_Judge_fitsTurn 19 rfl) (by decide) (fun q12 => ?_) (fun q12 => ?_)
          · --
            exact jF (fun q => q.elim q11 (Int64.not_lt.mpr q12))
          · --
            exact jT (Or.inr (Int64.not_le.mp q12))
      · --
        have hsem := zw_ifp p10 hsem
        refine r_iconst X (pc := 36) (v := 0) (zw_dg dk_Judge_fitsTurn 20 rfl) (by decide) ?_
        have hbz : (0 : Int32) = 0 ∨ (0 : Int32) = 1 := (by decide)
        have hret := hR _ (Option.some.inj hsem).symm
        cases hret
        exact r_zret X (pc := 37) rfl (zw_bzn hbz).1 (zw_dg dk_Judge_fitsTurn 21 rfl)
      · --
        have hsem := zw_ifn p10 hsem
        refine r_iinc X (pc := 38) (i := 2) (k := 1) (zw_dg dk_Judge_fitsTurn 22 rfl) rfl (by decide) (by decide) rfl ?_
        refine r_goto X (pc := 41) (tgt := 2) (zw_dg dk_Judge_fitsTurn 23 rfl) (by decide) ?_
        have jj := hP _ (Option.some.inj hsem).symm
        exact (r_fgt [3] rfl jj)
  · intro w hw
    subst hw
    exact Option.some.inj hsl5
  rintro c4 hw
  subst hw
  have hsem := hsl5
  refine r_iconst X (pc := 44) (v := 1) (zw_dg dk_Judge_fitsTurn 24 rfl) (by decide) ?_
  have hbz : (1 : Int32) = 0 ∨ (1 : Int32) = 1 := (by decide)
  cases hsem
  exact r_zret X (pc := 45) rfl (zw_bzn hbz).1 (zw_dg dk_Judge_fitsTurn 25 rfl)
def y_Judge_tellRanked : MethodName := ⟨R_Judge, "tellRanked", "([IIILPaidForThinking$Row;)I"⟩
abbrev b_Judge_tellRanked : ByteArray := prog_5_method_16_code
def dl_Judge_tellRanked : List (Nat × Instr × Nat) := [(0, .aload_n 0, 1), (1, .aload_n 1, 1), (2, .iload_n 2, 1), (3, .invokevirtual 46, 3), (6, .iconst 0, 1), (7, .istore 5, 2), (9, .iconst 0, 1), (10, .istore 6, 2), (12, .iload 6, 2), (14, .aload_n 0, 1), (15, .getfield 9, 3), (18, .getfield 33, 3), (21, .if_icmp .ge 26, 3), (24, .aload_n 0, 1), (25, .getfield 15, 3), (28, .iload 6, 2), (30, .invokevirtual 98, 3), (33, .iload_n 3, 1), (34, .if_icmp .ne 7, 3), (37, .iload 6, 2), (39, .istore 5, 2), (41, .iinc 6 1, 3), (44, .goto (-32), 3), (47, .aload 4, 2), (49, .invokevirtual 58, 3), (52, .aload 4, 2), (54, .aload_n 0, 1), (55, .getfield 15, 3), (58, .getfield 36, 3), (61, .iload 5, 2), (63, .laload, 1), (64, .invokevirtual 64, 3), (67, .iload 5, 2), (69, .ireturn, 1)]
theorem dk_Judge_tellRanked : zw_dk b_Judge_tellRanked dl_Judge_tellRanked = true := by decide +kernel
theorem ce_Judge_tellRanked : zw_cev y_Judge_tellRanked b_Judge_tellRanked 7 (some .int) 4 := ⟨⟨kt_in 935 (by decide +kernel) rfl, kt_in 90 (by decide +kernel) rfl, by decide +kernel⟩, kt_in 933 (by decide +kernel) rfl, kt_in 934 (by decide +kernel) rfl⟩
def fn_Judge_tellRanked_l1 (c4 : zw_Ct) (k3 : Int32) : Int32 × Int32 → Option ((Int32) ⊕ (Int32 × Int32)) := fun (ranked5, s6) =>
  if (s6 < (c4.1 1 2)) then
  ((fn_Tally_numberAhead c4 s6).bind fun r11 =>
  (if (r11 = k3) then
  (some (s6 : Int32))
  else
  (some (ranked5 : Int32))).bind fun ranked12 =>
  some (.inr (ranked12, (s6 + 1))))
  else
  (some (.inl ranked5))
def fn_Judge_tellRanked (c : zw_Ct) (values1 : Nat) (thought2 : Int32) (k3 : Int32) : Option (Int32 × zw_Ct) :=
  (fn_Judge_tallyWorth c values1 thought2).bind fun c4 =>
  (zw_whl (fn_Judge_tellRanked_l1 c4 k3) zw_F (0, 0)).bind fun ranked7 =>
  (fn_Row_clear c4).bind fun c15 =>
  (zw_aL 455 c15 12 ranked7).bind fun x16 =>
  (fn_Row_add c15 x16).bind fun c17 =>
  some (ranked7, c17)
set_option maxRecDepth 100000 in
theorem km_Judge_tellRanked {l : Launch} {g : zw_G} {rr : zw_RR} {sh : zw_Sh} {c : zw_Ct} {values1 : Nat} {thought2 : Int32} {k3 : Int32} {r : Int32} {c2 : zw_Ct} (hS : zw_Ok 0 101 sh rr) (hsem : fn_Judge_tellRanked c values1 thought2 k3 = some (r, c2)) : zw_Met l g y_Judge_tellRanked b_Judge_tellRanked 7 (some .int) 4 rr sh [.ref 13, .ref values1, .int thought2, .int k3, .ref 61] c (some (.int r)) c2 := by
  unfold fn_Judge_tellRanked at hsem
  refine zw_Met.of (by decide +kernel) (Nat.le_of_ble_eq_true rfl) (fun p e s m args below meth cd X => ?_)
  refine zw_eL (L2 := [some (.ref 13), some (.ref values1), some (.int thought2), some (.int k3), some (.ref 61), none, none]) rfl ?_
  refine r_aload_n X (pc := 0) (i := 0) (zw_dg dk_Judge_tellRanked 0 rfl) rfl rfl ?_
  refine r_aload_n X (pc := 1) (i := 1) (zw_dg dk_Judge_tellRanked 1 rfl) rfl rfl ?_
  refine r_iload_n X (pc := 2) (i := 2) (zw_dg dk_Judge_tellRanked 2 rfl) rfl rfl ?_
  obtain ⟨c4, hc4, hsem⟩ := zw_bd hsem
  refine r_callVv X (pc := 3) (As := [_, _]) (st := []) (km_Judge_tallyWorth hS hc4) ce_Judge_tallyWorth kw_793 (zo hS 13 rfl rfl) rfl rfl ⟨Nat.le_of_ble_eq_true rfl, Nat.le_of_ble_eq_true rfl⟩ (Nat.le_of_ble_eq_true rfl) (zw_dg dk_Judge_tellRanked 3 rfl) ?_
  refine r_iconst X (pc := 6) (v := 0) (zw_dg dk_Judge_tellRanked 4 rfl) (by decide) ?_
  refine r_istore X (pc := 7) (i := 5) (zw_dg dk_Judge_tellRanked 5 rfl) (by decide) rfl ?_
  refine r_iconst X (pc := 9) (v := 0) (zw_dg dk_Judge_tellRanked 6 rfl) (by decide) ?_
  refine r_istore X (pc := 10) (i := 6) (zw_dg dk_Judge_tellRanked 7 rfl) (by decide) rfl ?_
  obtain ⟨ranked7, hl8, hsl8⟩ := zw_bd hsem
  refine r_loop (pc := 12) (pce := 47) hl8 (fun (ranked5, s6) => [some (.ref 13), some (.ref values1), some (.int thought2), some (.int k3), some (.ref 61), some (.int ranked5), some (.int s6)] : Int32 × Int32 → zw_Lc) (fun (ranked5, s6) => c4 : Int32 × Int32 → zw_Ct) (fun ranked7 => [some (.ref 13), some (.ref values1), some (.int thought2), some (.int k3), some (.ref 61), some (.int ranked7), none] : Int32 → zw_Lc) (fun ranked7 => c4 : Int32 → zw_Ct) ?_ rfl rfl ?_
  · rintro ⟨ranked5, s6⟩ rr hsem hK hP
    try unfold fn_Judge_tellRanked_l1 at hsem
    refine r_iload X (pc := 12) (i := 6) (zw_dg dk_Judge_tellRanked 8 rfl) rfl ?_
    refine r_aload_n X (pc := 14) (i := 0) (zw_dg dk_Judge_tellRanked 9 rfl) rfl rfl ?_
    refine r_getR X (pc := 15) (r := 1) ci_Judge (zo hS 13 rfl rfl) rfl (zr hS 13 0 rfl rfl) lk_Judge_9 (zw_dg dk_Judge_tellRanked 10 rfl) ?_
    refine r_getI X (pc := 18) ci_Sayings (zo hS 1 rfl rfl) rfl lk_Judge_33 (zw_dg dk_Judge_tellRanked 11 rfl) ?_
    refine r_icmp_ge X (pc := 21) (tgt := 47) (zw_dg dk_Judge_tellRanked 12 rfl) (by decide) (fun q10 => ?_) (fun q10 => ?_)
    · --
      have p9 : ¬ (s6 < (c4.1 1 2)) := (Int32.not_lt.mpr q10)
      have hsem := zw_ifn p9 hsem
      have jj := hK _ (Option.some.inj hsem).symm
      exact (r_fgt [6] rfl jj)
    · --
      have p9 : (s6 < (c4.1 1 2)) := (Int32.not_le.mp q10)
      have hsem := zw_ifp p9 hsem
      refine r_aload_n X (pc := 24) (i := 0) (zw_dg dk_Judge_tellRanked 13 rfl) rfl rfl ?_
      refine r_getR X (pc := 25) (r := 11) ci_Judge (zo hS 13 rfl rfl) rfl (zr hS 13 1 rfl rfl) lk_Judge_15 (zw_dg dk_Judge_tellRanked 14 rfl) ?_
      refine r_iload X (pc := 28) (i := 6) (zw_dg dk_Judge_tellRanked 15 rfl) rfl ?_
      obtain ⟨r11, hr11, hsem⟩ := zw_bd hsem
      refine r_callVi X (pc := 30) (As := [_]) (st := []) (km_Tally_numberAhead hS hr11) ce_Tally_numberAhead kw_936 (zo hS 11 rfl rfl) rfl rfl ⟨Nat.le_of_ble_eq_true rfl, Nat.le_of_ble_eq_true rfl⟩ (Nat.le_of_ble_eq_true rfl) (zw_dg dk_Judge_tellRanked 16 rfl) ?_
      refine r_iload_n X (pc := 33) (i := 3) (zw_dg dk_Judge_tellRanked 17 rfl) rfl rfl ?_
      obtain ⟨ranked12, ht41, hs41⟩ := zw_bd hsem
      refine zw_jn (J := 41) (L2 := [some (.ref 13), some (.ref values1), some (.int thought2), some (.int k3), some (.ref 61), some (.int ranked12), some (.int s6)]) (c2 := c4) (fun jj => ?_) ?_
      · have hsem := ht41
        refine r_icmp_ne X (pc := 34) (tgt := 41) (zw_dg dk_Judge_tellRanked 18 rfl) (by decide) (fun q14 => ?_) (fun q14 => ?_)
        · --
          have p13 : ¬ (r11 = k3) := q14
          have hsem := zw_ifn p13 hsem
          cases hsem
          exact (r_fgt [] rfl jj)
        · --
          have p13 : (r11 = k3) := q14
          have hsem := zw_ifp p13 hsem
          refine r_iload X (pc := 37) (i := 6) (zw_dg dk_Judge_tellRanked 19 rfl) rfl ?_
          refine r_istore X (pc := 39) (i := 5) (zw_dg dk_Judge_tellRanked 20 rfl) (by decide) rfl ?_
          cases hsem
          exact (r_fgt [] rfl jj)
      have hsem := hs41
      refine r_iinc X (pc := 41) (i := 6) (k := 1) (zw_dg dk_Judge_tellRanked 21 rfl) rfl (by decide) (by decide) rfl ?_
      refine r_goto X (pc := 44) (tgt := 12) (zw_dg dk_Judge_tellRanked 22 rfl) (by decide) ?_
      have jj := hP _ (Option.some.inj hsem).symm
      exact (r_fgt [] rfl jj)
  have hsem := hsl8
  refine r_aload X (pc := 47) (i := 4) (zw_dg dk_Judge_tellRanked 23 rfl) rfl ?_
  obtain ⟨c15, hc15, hsem⟩ := zw_bd hsem
  refine r_callVv X (pc := 49) (As := []) (st := []) (km_Row_clear hS hc15) ce_Row_clear kw_813 (zo hS 61 rfl rfl) rfl rfl ⟨Nat.le_of_ble_eq_true rfl, Nat.le_of_ble_eq_true rfl⟩ (Nat.le_of_ble_eq_true rfl) (zw_dg dk_Judge_tellRanked 24 rfl) ?_
  refine r_aload X (pc := 52) (i := 4) (zw_dg dk_Judge_tellRanked 25 rfl) rfl ?_
  refine r_aload_n X (pc := 54) (i := 0) (zw_dg dk_Judge_tellRanked 26 rfl) rfl rfl ?_
  refine r_getR X (pc := 55) (r := 11) ci_Judge (zo hS 13 rfl rfl) rfl (zr hS 13 1 rfl rfl) lk_Judge_15 (zw_dg dk_Judge_tellRanked 27 rfl) ?_
  refine r_getR X (pc := 58) (r := 12) ci_Tally (zo hS 11 rfl rfl) rfl (zr hS 11 1 rfl rfl) lk_Judge_36 (zw_dg dk_Judge_tellRanked 28 rfl) ?_
  refine r_iload X (pc := 61) (i := 5) (zw_dg dk_Judge_tellRanked 29 rfl) rfl ?_
  obtain ⟨x16, hx16, hsem⟩ := zw_bd hsem
  refine r_lald X (pc := 63) (zo hS 12 rfl rfl) hx16 (zw_dg dk_Judge_tellRanked 30 rfl) ?_
  obtain ⟨c17, hc17, hsem⟩ := zw_bd hsem
  refine r_callVv X (pc := 64) (As := [_]) (st := []) (km_Row_add hS hc17) ce_Row_add kw_814 (zo hS 61 rfl rfl) rfl rfl ⟨Nat.le_of_ble_eq_true rfl, Nat.le_of_ble_eq_true rfl⟩ (Nat.le_of_ble_eq_true rfl) (zw_dg dk_Judge_tellRanked 31 rfl) ?_
  refine r_iload X (pc := 67) (i := 5) (zw_dg dk_Judge_tellRanked 32 rfl) rfl ?_
  cases hsem
  exact r_iret X (pc := 69) rfl (zw_dg dk_Judge_tellRanked 33 rfl)
