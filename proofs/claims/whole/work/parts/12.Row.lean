/-! PaidForThinking$Row: names, functions, contracts (by program: wip/whole/gen) -/
def y_Row_clear : MethodName := ⟨R_Row, "clear", "()V"⟩
abbrev b_Row_clear : ByteArray := prog_9_method_2_code
def dl_Row_clear : List (Nat × Instr × Nat) := [(0, .aload_n 0, 1), (1, .iconst 0, 1), (2, .putfield 13, 3), (5, .return_, 1)]
theorem dk_Row_clear : zw_dk b_Row_clear dl_Row_clear = true := by decide +kernel
theorem ce_Row_clear : zw_cev y_Row_clear b_Row_clear 1 (none) 0 := ⟨⟨kt_in 744 (by decide +kernel) rfl, kt_in 93 (by decide +kernel) rfl, by decide +kernel⟩, kt_in 742 (by decide +kernel) rfl, kt_in 743 (by decide +kernel) rfl⟩
def fn_Row_clear (c : zw_Ct) : Option zw_Ct :=
  (some (zw_wI c 61 1 0)).bind fun c3 =>
  some c3
set_option maxRecDepth 100000 in
theorem km_Row_clear {l : Launch} {g : zw_G} {rr : zw_RR} {sh : zw_Sh} {c : zw_Ct} {c2 : zw_Ct} (hS : zw_Ok 0 101 sh rr) (hsem : fn_Row_clear c = some c2) : zw_Met l g y_Row_clear b_Row_clear 1 (none) 1 rr sh [.ref 61] c none c2 := by
  unfold fn_Row_clear at hsem
  refine zw_Met.of (by decide +kernel) (Nat.le_of_ble_eq_true rfl) (fun p e s m args below meth cd X => ?_)
  refine zw_eL (L2 := [some (.ref 61)]) rfl ?_
  refine r_aload_n X (pc := 0) (i := 0) (zw_dg dk_Row_clear 0 rfl) rfl rfl ?_
  refine r_iconst X (pc := 1) (v := 0) (zw_dg dk_Row_clear 1 rfl) (by decide) ?_
  refine r_putI X (pc := 2) ci_Row (zo hS 61 rfl rfl) rfl lk_Row_13 rfl ⟨rfl, rfl⟩ (zw_dg dk_Row_clear 2 rfl) ?_
  obtain ⟨c3, hc3, hsem⟩ := zw_bd hsem
  refine zw_topC hc3 ?_
  cases hsem
  exact r_vret X (pc := 5) rfl (zw_dg dk_Row_clear 3 rfl)
def y_Row_add : MethodName := ⟨R_Row, "add", "(J)V"⟩
abbrev b_Row_add : ByteArray := prog_9_method_3_code
def dl_Row_add : List (Nat × Instr × Nat) := [(0, .aload_n 0, 1), (1, .getfield 13, 3), (4, .bipush 16, 2), (6, .if_icmp .ge 23, 3), (9, .aload_n 0, 1), (10, .getfield 9, 3), (13, .aload_n 0, 1), (14, .getfield 13, 3), (17, .lload_n 1, 1), (18, .lastore, 1), (19, .aload_n 0, 1), (20, .dup, 1), (21, .getfield 13, 3), (24, .iconst 1, 1), (25, .iadd, 1), (26, .putfield 13, 3), (29, .return_, 1)]
theorem dk_Row_add : zw_dk b_Row_add dl_Row_add = true := by decide +kernel
theorem ce_Row_add : zw_cev y_Row_add b_Row_add 3 (none) 1 := ⟨⟨kt_in 748 (by decide +kernel) rfl, kt_in 93 (by decide +kernel) rfl, by decide +kernel⟩, kt_in 746 (by decide +kernel) rfl, kt_in 747 (by decide +kernel) rfl⟩
def fn_Row_add (c : zw_Ct) (number1 : Int64) : Option zw_Ct :=
  (if ((c.1 61 1) < 16) then
  ((zw_uL 16 c 62 (c.1 61 1) number1).bind fun c6 =>
  (some (zw_wI c6 61 1 ((c6.1 61 1) + 1))).bind fun c7 =>
  some c7)
  else
  (some c)).bind fun c3 =>
  some c3
set_option maxRecDepth 100000 in
theorem km_Row_add {l : Launch} {g : zw_G} {rr : zw_RR} {sh : zw_Sh} {c : zw_Ct} {number1 : Int64} {c2 : zw_Ct} (hS : zw_Ok 0 101 sh rr) (hsem : fn_Row_add c number1 = some c2) : zw_Met l g y_Row_add b_Row_add 3 (none) 1 rr sh [.ref 61, .long number1] c none c2 := by
  unfold fn_Row_add at hsem
  refine zw_Met.of (by decide +kernel) (Nat.le_of_ble_eq_true rfl) (fun p e s m args below meth cd X => ?_)
  refine zw_eL (L2 := [some (.ref 61), some (.long number1), none]) rfl ?_
  obtain ⟨c3, ht29, hs29⟩ := zw_bd hsem
  refine zw_jn (J := 29) (L2 := [some (.ref 61), some (.long number1), none]) (c2 := c3) (fun jj => ?_) ?_
  · have hsem := ht29
    refine r_aload_n X (pc := 0) (i := 0) (zw_dg dk_Row_add 0 rfl) rfl rfl ?_
    refine r_getI X (pc := 1) ci_Row (zo hS 61 rfl rfl) rfl lk_Row_13 (zw_dg dk_Row_add 1 rfl) ?_
    refine r_bipush X (pc := 4) (v := 16) (zw_dg dk_Row_add 2 rfl) (by decide) ?_
    refine r_icmp_ge X (pc := 6) (tgt := 29) (zw_dg dk_Row_add 3 rfl) (by decide) (fun q5 => ?_) (fun q5 => ?_)
    · --
      have p4 : ¬ ((c.1 61 1) < 16) := (Int32.not_lt.mpr q5)
      have hsem := zw_ifn p4 hsem
      cases hsem
      exact (r_fgt [] rfl jj)
    · --
      have p4 : ((c.1 61 1) < 16) := (Int32.not_le.mp q5)
      have hsem := zw_ifp p4 hsem
      refine r_aload_n X (pc := 9) (i := 0) (zw_dg dk_Row_add 4 rfl) rfl rfl ?_
      refine r_getR X (pc := 10) (r := 62) ci_Row (zo hS 61 rfl rfl) rfl (zr hS 61 0 rfl rfl) lk_Row_9 (zw_dg dk_Row_add 5 rfl) ?_
      refine r_aload_n X (pc := 13) (i := 0) (zw_dg dk_Row_add 6 rfl) rfl rfl ?_
      refine r_getI X (pc := 14) ci_Row (zo hS 61 rfl rfl) rfl lk_Row_13 (zw_dg dk_Row_add 7 rfl) ?_
      refine r_lload_n X (pc := 17) (i := 1) (zw_dg dk_Row_add 8 rfl) rfl rfl ?_
      obtain ⟨c6, hc6, hsem⟩ := zw_bd hsem
      refine r_last X (pc := 18) (zo hS 62 rfl rfl) hc6 (zw_dg dk_Row_add 9 rfl) ?_
      refine r_aload_n X (pc := 19) (i := 0) (zw_dg dk_Row_add 10 rfl) rfl rfl ?_
      refine r_dup X (pc := 20) (zw_dg dk_Row_add 11 rfl) rfl ?_
      refine r_getI X (pc := 21) ci_Row (zo hS 61 rfl rfl) rfl lk_Row_13 (zw_dg dk_Row_add 12 rfl) ?_
      refine r_iconst X (pc := 24) (v := 1) (zw_dg dk_Row_add 13 rfl) (by decide) ?_
      refine r_iadd X (pc := 25) (zw_dg dk_Row_add 14 rfl)  ?_
      refine r_putI X (pc := 26) ci_Row (zo hS 61 rfl rfl) rfl lk_Row_13 rfl ⟨rfl, rfl⟩ (zw_dg dk_Row_add 15 rfl) ?_
      obtain ⟨c7, hc7, hsem⟩ := zw_bd hsem
      refine zw_topC hc7 ?_
      cases hsem
      exact (r_fgt [] rfl jj)
  have hsem := hs29
  cases hsem
  exact r_vret X (pc := 29) rfl (zw_dg dk_Row_add 16 rfl)
def y_Row_commonDivisor : MethodName := ⟨R_Row, "commonDivisor", "(JJ)J"⟩
abbrev b_Row_commonDivisor : ByteArray := prog_9_method_6_code
def dl_Row_commonDivisor : List (Nat × Instr × Nat) := [(0, .lload_n 0, 1), (1, .lstore 4, 2), (3, .lload_n 2, 1), (4, .lstore 6, 2), (6, .iconst 0, 1), (7, .istore 8, 2), (9, .iload 8, 2), (11, .sipush 200, 3), (14, .if_icmp .ge 31, 3), (17, .lload 6, 2), (19, .lconst 0, 1), (20, .lcmp, 1), (21, .ifCond .eq 24, 3), (24, .lload 4, 2), (26, .lload 6, 2), (28, .lrem, 1), (29, .lstore 9, 2), (31, .lload 6, 2), (33, .lstore 4, 2), (35, .lload 9, 2), (37, .lstore 6, 2), (39, .iinc 8 1, 3), (42, .goto (-33), 3), (45, .lload 4, 2), (47, .lreturn, 1)]
theorem dk_Row_commonDivisor : zw_dk b_Row_commonDivisor dl_Row_commonDivisor = true := by decide +kernel
theorem ce_Row_commonDivisor : zw_ces y_Row_commonDivisor b_Row_commonDivisor 11 (some .long) 2 := ⟨⟨kt_in 776 (by decide +kernel) rfl, kt_in 93 (by decide +kernel) rfl, by decide +kernel⟩, kt_in 775 (by decide +kernel) rfl⟩
def fn_Row_commonDivisor_l1  : Int64 × Int64 × Int32 → Option ((Int64 × Int64) ⊕ (Int64 × Int64 × Int32)) := fun (a3, b4, i5) =>
  if ((i5 < 200) ∧ (¬ b4 = 0)) then
  ((zw_rmL a3 b4).bind fun d12 =>
  some (.inr (b4, d12, (i5 + 1))))
  else
  (some (.inl (a3, b4)))
def fn_Row_commonDivisor (one1 : Int64) (other2 : Int64) : Option Int64 :=
  (zw_whl (fn_Row_commonDivisor_l1) zw_F (one1, other2, 0)).bind fun (a6, b7) =>
  some a6
set_option maxRecDepth 100000 in
theorem km_Row_commonDivisor {l : Launch} {g : zw_G} {rr : zw_RR} {sh : zw_Sh} {c : zw_Ct} {one1 : Int64} {other2 : Int64} {r : Int64} (hS : zw_Ok 0 101 sh rr) (hsem : fn_Row_commonDivisor one1 other2 = some r) : zw_Met l g y_Row_commonDivisor b_Row_commonDivisor 11 (some .long) 1 rr sh [.long one1, .long other2] c (some (.long r)) c := by
  unfold fn_Row_commonDivisor at hsem
  refine zw_Met.of (by decide +kernel) (Nat.le_of_ble_eq_true rfl) (fun p e s m args below meth cd X => ?_)
  refine zw_eL (L2 := [some (.long one1), none, some (.long other2), none, none, none, none, none, none, none, none]) rfl ?_
  refine r_lload_n X (pc := 0) (i := 0) (zw_dg dk_Row_commonDivisor 0 rfl) rfl rfl ?_
  refine r_lstore X (pc := 1) (i := 4) (L2 := [some (.long one1), none, some (.long other2), none, some (.long one1), none, none, none, none, none, none]) (zw_dg dk_Row_commonDivisor 1 rfl) (by decide) rfl ?_
  refine r_lload_n X (pc := 3) (i := 2) (zw_dg dk_Row_commonDivisor 2 rfl) rfl rfl ?_
  refine r_lstore X (pc := 4) (i := 6) (L2 := [some (.long one1), none, some (.long other2), none, some (.long one1), none, some (.long other2), none, none, none, none]) (zw_dg dk_Row_commonDivisor 3 rfl) (by decide) rfl ?_
  refine r_iconst X (pc := 6) (v := 0) (zw_dg dk_Row_commonDivisor 4 rfl) (by decide) ?_
  refine r_istore X (pc := 7) (i := 8) (zw_dg dk_Row_commonDivisor 5 rfl) (by decide) rfl ?_
  obtain ⟨l8, hl8, hsl8⟩ := zw_bd hsem
  refine r_loop (pc := 9) (pce := 45) hl8 (fun (a3, b4, i5) => [some (.long one1), none, some (.long other2), none, some (.long a3), none, some (.long b4), none, some (.int i5), none, none] : Int64 × Int64 × Int32 → zw_Lc) (fun (a3, b4, i5) => c : Int64 × Int64 × Int32 → zw_Ct) (fun (a6, b7) => [some (.long one1), none, some (.long other2), none, some (.long a6), none, some (.long b7), none, none, none, none] : Int64 × Int64 → zw_Lc) (fun (a6, b7) => c : Int64 × Int64 → zw_Ct) ?_ rfl rfl ?_
  · rintro ⟨a3, b4, i5⟩ rr hsem hK hP
    try unfold fn_Row_commonDivisor_l1 at hsem
    refine zw_cnd (P := ((i5 < 200) ∧ (¬ b4 = 0))) (J1 := 24) (J2 := 45) (st2 := []) (fun jT jF => ?_) (fun p9 => ?_) (fun p9 => ?_)
    · --
      refine r_iload X (pc := 9) (i := 8) (zw_dg dk_Row_commonDivisor 6 rfl) rfl ?_
      refine r_sipush X (pc := 11) (v := 200) (zw_dg dk_Row_commonDivisor 7 rfl) (by decide) ?_
      refine r_icmp_ge X (pc := 14) (tgt := 45) (zw_dg dk_Row_commonDivisor 8 rfl) (by decide) (fun q10 => ?_) (fun q10 => ?_)
      · --
        exact jF (fun q => (Int32.not_lt.mpr q10) q.1)
      · --
        refine r_lload X (pc := 17) (i := 6) (zw_dg dk_Row_commonDivisor 9 rfl) rfl ?_
        refine r_lconst X (pc := 19) (v := 0) (zw_dg dk_Row_commonDivisor 10 rfl) (by decide) ?_
        refine r_lcmp_eq X (pc := 20) (tgt := 45) (zw_dg dk_Row_commonDivisor 11 rfl) (zw_dg dk_Row_commonDivisor 12 rfl) (by decide) (fun q11 => ?_) (fun q11 => ?_)
        · --
          exact jF (fun q => (fun z => z q11) q.2)
        · --
          exact jT ⟨(Int32.not_le.mp q10), q11⟩
    · --
      have hsem := zw_ifp p9 hsem
      refine r_lload X (pc := 24) (i := 4) (zw_dg dk_Row_commonDivisor 13 rfl) rfl ?_
      refine r_lload X (pc := 26) (i := 6) (zw_dg dk_Row_commonDivisor 14 rfl) rfl ?_
      obtain ⟨d12, hd12, hsem⟩ := zw_bd hsem
      obtain ⟨hyd12, hd12⟩ := zw_rmL_of hd12
      refine r_lrem X (pc := 28) (zw_dg dk_Row_commonDivisor 15 rfl) hyd12 ?_
      refine zw_eqtJ hd12 ?_
      refine r_lstore X (pc := 29) (i := 9) (L2 := [some (.long one1), none, some (.long other2), none, some (.long a3), none, some (.long b4), none, some (.int i5), some (.long d12), none]) (zw_dg dk_Row_commonDivisor 16 rfl) (by decide) rfl ?_
      refine r_lload X (pc := 31) (i := 6) (zw_dg dk_Row_commonDivisor 17 rfl) rfl ?_
      refine r_lstore X (pc := 33) (i := 4) (L2 := [some (.long one1), none, some (.long other2), none, some (.long b4), none, some (.long b4), none, some (.int i5), some (.long d12), none]) (zw_dg dk_Row_commonDivisor 18 rfl) (by decide) rfl ?_
      refine r_lload X (pc := 35) (i := 9) (zw_dg dk_Row_commonDivisor 19 rfl) rfl ?_
      refine r_lstore X (pc := 37) (i := 6) (L2 := [some (.long one1), none, some (.long other2), none, some (.long b4), none, some (.long d12), none, some (.int i5), some (.long d12), none]) (zw_dg dk_Row_commonDivisor 20 rfl) (by decide) rfl ?_
      refine r_iinc X (pc := 39) (i := 8) (k := 1) (zw_dg dk_Row_commonDivisor 21 rfl) rfl (by decide) (by decide) rfl ?_
      refine r_goto X (pc := 42) (tgt := 9) (zw_dg dk_Row_commonDivisor 22 rfl) (by decide) ?_
      have jj := hP _ (Option.some.inj hsem).symm
      exact (r_fgt [9] rfl jj)
    · --
      have hsem := zw_ifn p9 hsem
      have jj := hK _ (Option.some.inj hsem).symm
      exact (r_fgt [8] rfl jj)
  obtain ⟨a6, b7⟩ := l8
  have hsem := hsl8
  refine r_lload X (pc := 45) (i := 4) (zw_dg dk_Row_commonDivisor 23 rfl) rfl ?_
  cases hsem
  exact r_lret X (pc := 47) rfl (zw_dg dk_Row_commonDivisor 24 rfl)
def y_Row_addFraction : MethodName := ⟨R_Row, "addFraction", "(JJ)V"⟩
abbrev b_Row_addFraction : ByteArray := prog_9_method_4_code
def dl_Row_addFraction : List (Nat × Instr × Nat) := [(0, .lload_n 1, 1), (1, .lconst 0, 1), (2, .lcmp, 1), (3, .ifCond .ge 8, 3), (6, .lload_n 1, 1), (7, .lneg, 1), (8, .goto 4, 3), (11, .lload_n 1, 1), (12, .lload_n 3, 1), (13, .invokestatic 17, 3), (16, .lstore 5, 2), (18, .aload_n 0, 1), (19, .lload_n 1, 1), (20, .lload 5, 2), (22, .invokestatic 21, 3), (25, .invokevirtual 26, 3), (28, .aload_n 0, 1), (29, .lload_n 3, 1), (30, .lload 5, 2), (32, .invokestatic 21, 3), (35, .invokevirtual 26, 3), (38, .return_, 1)]
theorem dk_Row_addFraction : zw_dk b_Row_addFraction dl_Row_addFraction = true := by decide +kernel
theorem ce_Row_addFraction : zw_cev y_Row_addFraction b_Row_addFraction 7 (none) 2 := ⟨⟨kt_in 773 (by decide +kernel) rfl, kt_in 93 (by decide +kernel) rfl, by decide +kernel⟩, kt_in 771 (by decide +kernel) rfl, kt_in 772 (by decide +kernel) rfl⟩
def fn_Row_addFraction (c : zw_Ct) (upper1 : Int64) (lower2 : Int64) : Option zw_Ct :=
  (fn_Row_commonDivisor (if (upper1 < 0) then ((-upper1) : Int64) else upper1) lower2).bind fun r4 =>
  (fn_P_cut upper1 r4).bind fun r5 =>
  (fn_Row_add c r5).bind fun c6 =>
  (fn_P_cut lower2 r4).bind fun r7 =>
  (fn_Row_add c6 r7).bind fun c8 =>
  some c8
set_option maxRecDepth 100000 in
theorem km_Row_addFraction {l : Launch} {g : zw_G} {rr : zw_RR} {sh : zw_Sh} {c : zw_Ct} {upper1 : Int64} {lower2 : Int64} {c2 : zw_Ct} (hS : zw_Ok 0 101 sh rr) (hsem : fn_Row_addFraction c upper1 lower2 = some c2) : zw_Met l g y_Row_addFraction b_Row_addFraction 7 (none) 2 rr sh [.ref 61, .long upper1, .long lower2] c none c2 := by
  unfold fn_Row_addFraction at hsem
  refine zw_Met.of (by decide +kernel) (Nat.le_of_ble_eq_true rfl) (fun p e s m args below meth cd X => ?_)
  refine zw_eL (L2 := [some (.ref 61), some (.long upper1), none, some (.long lower2), none, none, none]) rfl ?_
  refine zw_ter (P := (upper1 < 0)) (f := Value.long) (x := (-upper1)) (y := upper1) (J := 12) (st2 := []) (fun jT jF => ?_) ?_
  · --
    refine r_lload_n X (pc := 0) (i := 1) (zw_dg dk_Row_addFraction 0 rfl) rfl rfl ?_
    refine r_lconst X (pc := 1) (v := 0) (zw_dg dk_Row_addFraction 1 rfl) (by decide) ?_
    refine r_lcmp_ge X (pc := 2) (tgt := 11) (zw_dg dk_Row_addFraction 2 rfl) (zw_dg dk_Row_addFraction 3 rfl) (by decide) (fun q3 => ?_) (fun q3 => ?_)
    · --
      refine r_lload_n X (pc := 11) (i := 1) (zw_dg dk_Row_addFraction 7 rfl) rfl rfl ?_
      exact jF (Int64.not_lt.mpr q3)
    · --
      refine r_lload_n X (pc := 6) (i := 1) (zw_dg dk_Row_addFraction 4 rfl) rfl rfl ?_
      refine r_lneg X (pc := 7) (zw_dg dk_Row_addFraction 5 rfl)  ?_
      refine r_goto X (pc := 8) (tgt := 12) (zw_dg dk_Row_addFraction 6 rfl) (by decide) ?_
      exact jT (Int64.not_le.mp q3)
  refine r_lload_n X (pc := 12) (i := 3) (zw_dg dk_Row_addFraction 8 rfl) rfl rfl ?_
  obtain ⟨r4, hr4, hsem⟩ := zw_bd hsem
  refine r_callSl X (pc := 13) (As := [_, _]) (st := []) (km_Row_commonDivisor hS hr4) ce_Row_commonDivisor kw_774 rfl ⟨Nat.le_of_ble_eq_true rfl, Nat.le_of_ble_eq_true rfl⟩ (Nat.le_of_ble_eq_true rfl) (zw_dg dk_Row_addFraction 9 rfl) ?_
  refine r_lstore X (pc := 16) (i := 5) (L2 := [some (.ref 61), some (.long upper1), none, some (.long lower2), none, some (.long r4), none]) (zw_dg dk_Row_addFraction 10 rfl) (by decide) rfl ?_
  refine r_aload_n X (pc := 18) (i := 0) (zw_dg dk_Row_addFraction 11 rfl) rfl rfl ?_
  refine r_lload_n X (pc := 19) (i := 1) (zw_dg dk_Row_addFraction 12 rfl) rfl rfl ?_
  refine r_lload X (pc := 20) (i := 5) (zw_dg dk_Row_addFraction 13 rfl) rfl ?_
  obtain ⟨r5, hr5, hsem⟩ := zw_bd hsem
  refine r_callSNl X (pc := 22) (As := [_, _]) (st := [.ref 61]) (km_P_cut hS hr5) ce_P_cut kw_777 rfl ⟨Nat.le_of_ble_eq_true rfl, Nat.le_of_ble_eq_true rfl⟩ (Nat.le_of_ble_eq_true rfl) (zw_dg dk_Row_addFraction 14 rfl) ?_
  obtain ⟨c6, hc6, hsem⟩ := zw_bd hsem
  refine r_callVv X (pc := 25) (As := [_]) (st := []) (km_Row_add hS hc6) ce_Row_add kw_780 (zo hS 61 rfl rfl) rfl rfl ⟨Nat.le_of_ble_eq_true rfl, Nat.le_of_ble_eq_true rfl⟩ (Nat.le_of_ble_eq_true rfl) (zw_dg dk_Row_addFraction 15 rfl) ?_
  refine r_aload_n X (pc := 28) (i := 0) (zw_dg dk_Row_addFraction 16 rfl) rfl rfl ?_
  refine r_lload_n X (pc := 29) (i := 3) (zw_dg dk_Row_addFraction 17 rfl) rfl rfl ?_
  refine r_lload X (pc := 30) (i := 5) (zw_dg dk_Row_addFraction 18 rfl) rfl ?_
  obtain ⟨r7, hr7, hsem⟩ := zw_bd hsem
  refine r_callSNl X (pc := 32) (As := [_, _]) (st := [.ref 61]) (km_P_cut hS hr7) ce_P_cut kw_777 rfl ⟨Nat.le_of_ble_eq_true rfl, Nat.le_of_ble_eq_true rfl⟩ (Nat.le_of_ble_eq_true rfl) (zw_dg dk_Row_addFraction 19 rfl) ?_
  obtain ⟨c8, hc8, hsem⟩ := zw_bd hsem
  refine r_callVv X (pc := 35) (As := [_]) (st := []) (km_Row_add hS hc8) ce_Row_add kw_780 (zo hS 61 rfl rfl) rfl rfl ⟨Nat.le_of_ble_eq_true rfl, Nat.le_of_ble_eq_true rfl⟩ (Nat.le_of_ble_eq_true rfl) (zw_dg dk_Row_addFraction 20 rfl) ?_
  cases hsem
  exact r_vret X (pc := 38) rfl (zw_dg dk_Row_addFraction 21 rfl)
def y_Row_isBent : MethodName := ⟨R_Row, "isBent", "()Z"⟩
abbrev b_Row_isBent : ByteArray := prog_9_method_5_code
def dl_Row_isBent : List (Nat × Instr × Nat) := [(0, .iconst 2, 1), (1, .istore_n 1, 1), (2, .iload_n 1, 1), (3, .aload_n 0, 1), (4, .getfield 13, 3), (7, .if_icmp .ge 47, 3), (10, .aload_n 0, 1), (11, .getfield 9, 3), (14, .iload_n 1, 1), (15, .laload, 1), (16, .aload_n 0, 1), (17, .getfield 9, 3), (20, .iload_n 1, 1), (21, .iconst 1, 1), (22, .isub, 1), (23, .laload, 1), (24, .lsub, 1), (25, .aload_n 0, 1), (26, .getfield 9, 3), (29, .iload_n 1, 1), (30, .iconst 1, 1), (31, .isub, 1), (32, .laload, 1), (33, .aload_n 0, 1), (34, .getfield 9, 3), (37, .iload_n 1, 1), (38, .iconst 2, 1), (39, .isub, 1), (40, .laload, 1), (41, .lsub, 1), (42, .lcmp, 1), (43, .ifCond .ge 5, 3), (46, .iconst 0, 1), (47, .ireturn, 1), (48, .iinc 1 1, 3), (51, .goto (-49), 3), (54, .iconst 1, 1), (55, .ireturn, 1)]
theorem dk_Row_isBent : zw_dk b_Row_isBent dl_Row_isBent = true := by decide +kernel
theorem ce_Row_isBent : zw_cev y_Row_isBent b_Row_isBent 2 (some .boolean) 0 := ⟨⟨kt_in 894 (by decide +kernel) rfl, kt_in 93 (by decide +kernel) rfl, by decide +kernel⟩, kt_in 892 (by decide +kernel) rfl, kt_in 893 (by decide +kernel) rfl⟩
def fn_Row_isBent_l1 (c : zw_Ct) : Int32 → Option (((Int32) ⊕ (Unit)) ⊕ (Int32)) := fun i1 =>
  if (i1 < (c.1 61 1)) then
  ((zw_aL 16 c 62 i1).bind fun x5 =>
  (zw_aL 16 c 62 (i1 - 1)).bind fun x6 =>
  (zw_aL 16 c 62 (i1 - 1)).bind fun x7 =>
  (zw_aL 16 c 62 (i1 - 2)).bind fun x8 =>
  if ((x5 - x6) < (x7 - x8)) then
  (some (.inl (.inl 0)))
  else
  (some (.inr (i1 + 1))))
  else
  (some (.inl (.inr ())))
def fn_Row_isBent (c : zw_Ct) : Option Int32 :=
  (zw_whl (fn_Row_isBent_l1 c) zw_F 2).bind fun q => match q with
    | .inl w => some w
    | .inr _ =>
    some 1
set_option maxRecDepth 100000 in
theorem km_Row_isBent {l : Launch} {g : zw_G} {rr : zw_RR} {sh : zw_Sh} {c : zw_Ct} {r : Int32} (hS : zw_Ok 0 101 sh rr) (hsem : fn_Row_isBent c = some r) : zw_Met l g y_Row_isBent b_Row_isBent 2 (some .boolean) 1 rr sh [.ref 61] c (some (.int r)) c := by
  unfold fn_Row_isBent at hsem
  refine zw_Met.of (by decide +kernel) (Nat.le_of_ble_eq_true rfl) (fun p e s m args below meth cd X => ?_)
  refine zw_eL (L2 := [some (.ref 61), none]) rfl ?_
  refine r_iconst X (pc := 0) (v := 2) (zw_dg dk_Row_isBent 0 rfl) (by decide) ?_
  refine r_istore_n X (pc := 1) (i := 1) (zw_dg dk_Row_isBent 1 rfl) rfl (by decide) rfl ?_
  obtain ⟨l2, hl2, hsl2⟩ := zw_bd hsem
  refine r_loopR (pc := 2) (pce := 54) hl2 (fun i1 => [some (.ref 61), some (.int i1)] : Int32 → zw_Lc) (fun i1 => c : Int32 → zw_Ct) (fun (_ : Unit) => [some (.ref 61), none] : Unit → zw_Lc) (fun (_ : Unit) => c : Unit → zw_Ct) (fun w => w = r) ?_ rfl rfl ?_ ?_
  · rintro i1 rr hsem hR hK hP
    try unfold fn_Row_isBent_l1 at hsem
    refine r_iload_n X (pc := 2) (i := 1) (zw_dg dk_Row_isBent 2 rfl) rfl rfl ?_
    refine r_aload_n X (pc := 3) (i := 0) (zw_dg dk_Row_isBent 3 rfl) rfl rfl ?_
    refine r_getI X (pc := 4) ci_Row (zo hS 61 rfl rfl) rfl lk_Row_13 (zw_dg dk_Row_isBent 4 rfl) ?_
    refine r_icmp_ge X (pc := 7) (tgt := 54) (zw_dg dk_Row_isBent 5 rfl) (by decide) (fun q4 => ?_) (fun q4 => ?_)
    · --
      have p3 : ¬ (i1 < (c.1 61 1)) := (Int32.not_lt.mpr q4)
      have hsem := zw_ifn p3 hsem
      have jj := hK _ (Option.some.inj hsem).symm
      exact (r_fgt [1] rfl jj)
    · --
      have p3 : (i1 < (c.1 61 1)) := (Int32.not_le.mp q4)
      have hsem := zw_ifp p3 hsem
      refine r_aload_n X (pc := 10) (i := 0) (zw_dg dk_Row_isBent 6 rfl) rfl rfl ?_
      refine r_getR X (pc := 11) (r := 62) ci_Row (zo hS 61 rfl rfl) rfl (zr hS 61 0 rfl rfl) lk_Row_9 (zw_dg dk_Row_isBent 7 rfl) ?_
      refine r_iload_n X (pc := 14) (i := 1) (zw_dg dk_Row_isBent 8 rfl) rfl rfl ?_
      obtain ⟨x5, hx5, hsem⟩ := zw_bd hsem
      refine r_lald X (pc := 15) (zo hS 62 rfl rfl) hx5 (zw_dg dk_Row_isBent 9 rfl) ?_
      refine r_aload_n X (pc := 16) (i := 0) (zw_dg dk_Row_isBent 10 rfl) rfl rfl ?_
      refine r_getR X (pc := 17) (r := 62) ci_Row (zo hS 61 rfl rfl) rfl (zr hS 61 0 rfl rfl) lk_Row_9 (zw_dg dk_Row_isBent 11 rfl) ?_
      refine r_iload_n X (pc := 20) (i := 1) (zw_dg dk_Row_isBent 12 rfl) rfl rfl ?_
      refine r_iconst X (pc := 21) (v := 1) (zw_dg dk_Row_isBent 13 rfl) (by decide) ?_
      refine r_isub X (pc := 22) (zw_dg dk_Row_isBent 14 rfl)  ?_
      obtain ⟨x6, hx6, hsem⟩ := zw_bd hsem
      refine r_lald X (pc := 23) (zo hS 62 rfl rfl) hx6 (zw_dg dk_Row_isBent 15 rfl) ?_
      refine r_lsub X (pc := 24) (zw_dg dk_Row_isBent 16 rfl)  ?_
      refine r_aload_n X (pc := 25) (i := 0) (zw_dg dk_Row_isBent 17 rfl) rfl rfl ?_
      refine r_getR X (pc := 26) (r := 62) ci_Row (zo hS 61 rfl rfl) rfl (zr hS 61 0 rfl rfl) lk_Row_9 (zw_dg dk_Row_isBent 18 rfl) ?_
      refine r_iload_n X (pc := 29) (i := 1) (zw_dg dk_Row_isBent 19 rfl) rfl rfl ?_
      refine r_iconst X (pc := 30) (v := 1) (zw_dg dk_Row_isBent 20 rfl) (by decide) ?_
      refine r_isub X (pc := 31) (zw_dg dk_Row_isBent 21 rfl)  ?_
      obtain ⟨x7, hx7, hsem⟩ := zw_bd hsem
      refine r_lald X (pc := 32) (zo hS 62 rfl rfl) hx7 (zw_dg dk_Row_isBent 22 rfl) ?_
      refine r_aload_n X (pc := 33) (i := 0) (zw_dg dk_Row_isBent 23 rfl) rfl rfl ?_
      refine r_getR X (pc := 34) (r := 62) ci_Row (zo hS 61 rfl rfl) rfl (zr hS 61 0 rfl rfl) lk_Row_9 (zw_dg dk_Row_isBent 24 rfl) ?_
      refine r_iload_n X (pc := 37) (i := 1) (zw_dg dk_Row_isBent 25 rfl) rfl rfl ?_
      refine r_iconst X (pc := 38) (v := 2) (zw_dg dk_Row_isBent 26 rfl) (by decide) ?_
      refine r_isub X (pc := 39) (zw_dg dk_Row_isBent 27 rfl)  ?_
      obtain ⟨x8, hx8, hsem⟩ := zw_bd hsem
      refine r_lald X (pc := 40) (zo hS 62 rfl rfl) hx8 (zw_dg dk_Row_isBent 28 rfl) ?_
      refine r_lsub X (pc := 41) (zw_dg dk_Row_isBent 29 rfl)  ?_
      refine r_lcmp_ge X (pc := 42) (tgt := 48) (zw_dg dk_Row_isBent 30 rfl) (zw_dg dk_Row_isBent 31 rfl) (by decide) (fun q10 => ?_) (fun q10 => ?_)
      · --
        have p9 : ¬ ((x5 - x6) < (x7 - x8)) := (Int64.not_lt.mpr q10)
        have hsem := zw_ifn p9 hsem
        refine r_iinc X (pc := 48) (i := 1) (k := 1) (zw_dg dk_Row_isBent 34 rfl) rfl (by decide) (by decide) rfl ?_
        refine r_goto X (pc := 51) (tgt := 2) (zw_dg dk_Row_isBent 35 rfl) (by decide) ?_
        have jj := hP _ (Option.some.inj hsem).symm
        exact (r_fgt [] rfl jj)
      · --
        have p9 : ((x5 - x6) < (x7 - x8)) := (Int64.not_le.mp q10)
        have hsem := zw_ifp p9 hsem
        refine r_iconst X (pc := 46) (v := 0) (zw_dg dk_Row_isBent 32 rfl) (by decide) ?_
        have hbz : (0 : Int32) = 0 ∨ (0 : Int32) = 1 := (by decide)
        have hret := hR _ (Option.some.inj hsem).symm
        cases hret
        exact r_zret X (pc := 47) rfl (zw_bzn hbz).1 (zw_dg dk_Row_isBent 33 rfl)
  · intro w hw
    subst hw
    exact Option.some.inj hsl2
  rintro _u hw
  subst hw
  have hsem := hsl2
  refine r_iconst X (pc := 54) (v := 1) (zw_dg dk_Row_isBent 36 rfl) (by decide) ?_
  have hbz : (1 : Int32) = 0 ∨ (1 : Int32) = 1 := (by decide)
  cases hsem
  exact r_zret X (pc := 55) rfl (zw_bzn hbz).1 (zw_dg dk_Row_isBent 37 rfl)
