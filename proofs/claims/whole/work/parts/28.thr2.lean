/-! part, gets, row of the class, and the law's own that catch what they throw (by program: wip/whole/gen/thr.py) -/
theorem lk_P_378 : zw_lk R_P 378 R_Row F_Row 0 := ⟨rfl, Or.inr ⟨"PaidForThinking", nw_in 348 (by decide +kernel) rfl⟩⟩
theorem zy_o0 (c : zw_Ct) (v : Int64) : zw_uL 1 c 100 0 v = some (zw_wL c 100 0 v) := rfl
def y_P_part : MethodName := ⟨R_P, "part", "(II)I"⟩
abbrev b_P_part : ByteArray := prog_1_method_4_code
def dl_P_part : List (Nat × Instr × Nat) := [(0, .aload_n 0, 1), (1, .getfield 25, 3), (4, .iload_n 1, 1), (5, .invokevirtual 122, 3), (8, .ifCond .eq 14, 3), (11, .aload_n 0, 1), (12, .getfield 25, 3), (15, .iload_n 2, 1), (16, .invokevirtual 126, 3), (19, .ifCond .ne 13, 3), (22, .new 129, 3), (25, .dup, 1), (26, .ldc 131, 2), (28, .invokespecial 133, 3), (31, .athrow, 1), (32, .aload_n 0, 1), (33, .getfield 25, 3), (36, .iload_n 1, 1), (37, .iload_n 2, 1), (38, .invokevirtual 136, 3), (41, .ireturn, 1)]
theorem dk_P_part : zw_dk b_P_part dl_P_part = true := by decide +kernel
theorem ce_P_part : zw_cev y_P_part b_P_part 3 (some .int) 2 := ⟨⟨kt_in 1362 (by decide +kernel) rfl, kt_in 85 (by decide +kernel) rfl, by decide +kernel⟩, kt_in 1360 (by decide +kernel) rfl, kt_in 1361 (by decide +kernel) rfl⟩
def y_P_gets : MethodName := ⟨R_P, "gets", "(III)I"⟩
abbrev b_P_gets : ByteArray := prog_1_method_10_code
def dl_P_gets : List (Nat × Instr × Nat) := [(0, .aload_n 0, 1), (1, .getfield 53, 3), (4, .iload_n 1, 1), (5, .invokevirtual 163, 3), (8, .astore 4, 2), (10, .aload 4, 2), (12, .ifnull 25, 3), (15, .aload_n 0, 1), (16, .getfield 25, 3), (19, .iload_n 2, 1), (20, .invokevirtual 122, 3), (23, .ifCond .eq 14, 3), (26, .aload_n 0, 1), (27, .getfield 25, 3), (30, .iload_n 3, 1), (31, .invokevirtual 126, 3), (34, .ifCond .ne 13, 3), (37, .new 129, 3), (40, .dup, 1), (41, .ldc 167, 2), (43, .invokespecial 133, 3), (46, .athrow, 1), (47, .aload 4, 2), (49, .iload_n 2, 1), (50, .iconst 4, 1), (51, .imul, 1), (52, .iload_n 3, 1), (53, .iadd, 1), (54, .iaload, 1), (55, .ireturn, 1)]
theorem dk_P_gets : zw_dk b_P_gets dl_P_gets = true := by decide +kernel
theorem ce_P_gets : zw_cev y_P_gets b_P_gets 5 (some .int) 3 := ⟨⟨kt_in 1434 (by decide +kernel) rfl, kt_in 85 (by decide +kernel) rfl, by decide +kernel⟩, kt_in 1432 (by decide +kernel) rfl, kt_in 1433 (by decide +kernel) rfl⟩
def y_P_row : MethodName := ⟨R_P, "row", "(I)J"⟩
abbrev b_P_row : ByteArray := prog_1_method_56_code
def dl_P_row : List (Nat × Instr × Nat) := [(0, .iload_n 1, 1), (1, .iconst 0, 1), (2, .aload_n 0, 1), (3, .getfield 60, 3), (6, .getfield 372, 3), (9, .iconst 1, 1), (10, .isub, 1), (11, .invokestatic 100, 3), (14, .ifCond .ne 14, 3), (17, .new 129, 3), (20, .dup, 1), (21, .ldc_w 376, 3), (24, .invokespecial 133, 3), (27, .athrow, 1), (28, .aload_n 0, 1), (29, .getfield 60, 3), (32, .getfield 378, 3), (35, .iload_n 1, 1), (36, .laload, 1), (37, .lreturn, 1)]
theorem dk_P_row : zw_dk b_P_row dl_P_row = true := by decide +kernel
theorem ce_P_row : zw_cev y_P_row b_P_row 2 (some .long) 1 := ⟨⟨kt_in 1442 (by decide +kernel) rfl, kt_in 85 (by decide +kernel) rfl, by decide +kernel⟩, kt_in 1440 (by decide +kernel) rfl, kt_in 1441 (by decide +kernel) rfl⟩
set_option maxRecDepth 100000 in
theorem km_P_part {l : Launch} {g : zw_G} {rr : zw_RR} {sh : zw_Sh} {c : zw_Ct} {s1 : Int32} {e2 : Int32} {r : Option Int32} {c2 : zw_Ct} (hl : l.stackTraces = false) (hS : zw_Ok 0 101 sh rr) (hsem : fn_P_part c s1 e2 = some (r, c2)) : zx_Met l g y_P_part b_P_part 3 (some .int) 6 rr sh [.ref 0, .int s1, .int e2] c (r.map .int) c2 := by
  unfold fn_P_part at hsem
  refine zx_Met.of (by decide +kernel) (Nat.le_of_ble_eq_true rfl) (fun p e s m args below meth cd X hXS ht => ?_)
  refine zw_eL (L2 := [some (.ref 0), some (.int s1), some (.int e2)]) rfl ?_
  refine zw_cnd (P := ((¬ (¬ (fn_Sayings_has c s1) = 0)) ∨ (¬ (¬ (fn_Sayings_hasEvent c e2) = 0)))) (J1 := 22) (J2 := 32) (st2 := []) (fun jT jF => ?_) (fun p3 => ?_) (fun p3 => ?_)
  · --
    refine r_aload_n X (pc := 0) (i := 0) (zw_dg dk_P_part 0 rfl) rfl rfl ?_
    refine r_getR X (pc := 1) (r := 1) ci_P (zo hS 0 rfl rfl) rfl (zr hS 0 0 rfl rfl) lk_P_25 (zw_dg dk_P_part 1 rfl) ?_
    refine r_iload_n X (pc := 4) (i := 1) (zw_dg dk_P_part 2 rfl) rfl rfl ?_
    refine r_callVi X (pc := 5) (As := [_]) (st := []) (km_Sayings_has hS rfl) ce_Sayings_has (kt_in 758 (by decide +kernel) rfl) (zo hS 1 rfl rfl) rfl rfl ⟨Nat.le_of_ble_eq_true rfl, Nat.le_of_ble_eq_true rfl⟩ (Nat.le_of_ble_eq_true rfl) (zw_dg dk_P_part 3 rfl) ?_
    refine r_if_eq X (pc := 8) (tgt := 22) (zw_dg dk_P_part 4 rfl) (by decide) (fun q4 => ?_) (fun q4 => ?_)
    · --
      exact jT (Or.inl (fun z => z q4))
    · --
      refine r_aload_n X (pc := 11) (i := 0) (zw_dg dk_P_part 5 rfl) rfl rfl ?_
      refine r_getR X (pc := 12) (r := 1) ci_P (zo hS 0 rfl rfl) rfl (zr hS 0 0 rfl rfl) lk_P_25 (zw_dg dk_P_part 6 rfl) ?_
      refine r_iload_n X (pc := 15) (i := 2) (zw_dg dk_P_part 7 rfl) rfl rfl ?_
      refine r_callVi X (pc := 16) (As := [_]) (st := []) (km_Sayings_hasEvent hS rfl) ce_Sayings_hasEvent (kt_in 1002 (by decide +kernel) rfl) (zo hS 1 rfl rfl) rfl rfl ⟨Nat.le_of_ble_eq_true rfl, Nat.le_of_ble_eq_true rfl⟩ (Nat.le_of_ble_eq_true rfl) (zw_dg dk_P_part 8 rfl) ?_
      refine r_if_ne X (pc := 19) (tgt := 32) (zw_dg dk_P_part 9 rfl) (by decide) (fun q5 => ?_) (fun q5 => ?_)
      · --
        exact jF (fun q => q.elim (fun q => q q4) (fun q => q q5))
      · --
        exact jT (Or.inr (fun z => z q5))
  · --
    have hsem := zw_ifp p3 hsem
    obtain ⟨rfl, rfl⟩ := zw_in2 hsem
    exact zx_throw X hl hXS ht (text := "no such part") hXS.2.1 ⟨Nat.le_of_ble_eq_true rfl, Nat.le_of_ble_eq_true rfl, Nat.le_of_ble_eq_true rfl, Nat.le_of_ble_eq_true rfl⟩ (zw_dg dk_P_part 10 rfl) (zw_dg dk_P_part 11 rfl) (zw_dg dk_P_part 12 rfl) (zw_dg dk_P_part 13 rfl) (zw_dg dk_P_part 14 rfl)
  · --
    have hsem := zw_ifn p3 hsem
    refine r_aload_n X (pc := 32) (i := 0) (zw_dg dk_P_part 15 rfl) rfl rfl ?_
    refine r_getR X (pc := 33) (r := 1) ci_P (zo hS 0 rfl rfl) rfl (zr hS 0 0 rfl rfl) lk_P_25 (zw_dg dk_P_part 16 rfl) ?_
    refine r_iload_n X (pc := 36) (i := 1) (zw_dg dk_P_part 17 rfl) rfl rfl ?_
    refine r_iload_n X (pc := 37) (i := 2) (zw_dg dk_P_part 18 rfl) rfl rfl ?_
    obtain ⟨r3, hr3, hsem⟩ := zw_bd hsem
    refine r_callVi X (pc := 38) (As := [_, _]) (st := []) (km_Sayings_partOf hS hr3) ce_Sayings_partOf (kt_in 1238 (by decide +kernel) rfl) (zo hS 1 rfl rfl) rfl rfl ⟨Nat.le_of_ble_eq_true rfl, Nat.le_of_ble_eq_true rfl⟩ (Nat.le_of_ble_eq_true rfl) (zw_dg dk_P_part 19 rfl) ?_
    obtain ⟨rfl, rfl⟩ := zw_in2 hsem
    exact zx_iret X (pc := 41) rfl (Nat.zero_le _) (Nat.zero_le _) (zw_dg dk_P_part 20 rfl)
set_option maxRecDepth 100000 in
theorem km_P_gets {l : Launch} {g : zw_G} {rr : zw_RR} {sh : zw_Sh} {c : zw_Ct} {p1 : Int32} {s2 : Int32} {e3 : Int32} {r : Option Int32} {c2 : zw_Ct} (hl : l.stackTraces = false) (hS : zw_Ok 0 101 sh rr) (hsem : fn_P_gets c p1 s2 e3 = some (r, c2)) : zx_Met l g y_P_gets b_P_gets 5 (some .int) 6 rr sh [.ref 0, .int p1, .int s2, .int e3] c (r.map .int) c2 := by
  unfold fn_P_gets at hsem
  refine zx_Met.of (by decide +kernel) (Nat.le_of_ble_eq_true rfl) (fun p e s m args below meth cd X hXS ht => ?_)
  refine zw_eL (L2 := [some (.ref 0), some (.int p1), some (.int s2), some (.int e3), none]) rfl ?_
  refine r_aload_n X (pc := 0) (i := 0) (zw_dg dk_P_gets 0 rfl) rfl rfl ?_
  refine r_getR X (pc := 1) (r := 45) ci_P (zo hS 0 rfl rfl) rfl (zr hS 0 5 rfl rfl) lk_P_53 (zw_dg dk_P_gets 1 rfl) ?_
  refine r_iload_n X (pc := 4) (i := 1) (zw_dg dk_P_gets 2 rfl) rfl rfl ?_
  obtain ⟨⟨r4, c5⟩, hr4_c5, hsem⟩ := zw_bd hsem
  refine r_callVO X (pc := 5) (As := [_]) (st := []) (km_Pays_valuesOf hS hr4_c5) ce_Pays_valuesOf (kt_in 705 (by decide +kernel) rfl) (zo hS 45 rfl rfl) rfl rfl ⟨Nat.le_of_ble_eq_true rfl, Nat.le_of_ble_eq_true rfl⟩ (Nat.le_of_ble_eq_true rfl) (zw_dg dk_P_gets 3 rfl) ?_
  refine r_astoreO X (pc := 8) (i := 4) (zw_dg dk_P_gets 4 rfl) (by decide) rfl ?_
  refine zw_cnd (P := (((r4 = none) ∨ (¬ (¬ (fn_Sayings_has c5 s2) = 0))) ∨ (¬ (¬ (fn_Sayings_hasEvent c5 e3) = 0)))) (J1 := 37) (J2 := 47) (st2 := []) (fun jT jF => ?_) (fun p6 => ?_) (fun p6 => ?_)
  · --
    refine r_aloadO X (pc := 10) (i := 4) (zw_dg dk_P_gets 5 rfl) rfl ?_
    refine r_ifnull X (pc := 12) (tgt := 37) (zw_dg dk_P_gets 6 rfl) (by decide) (fun q7 => ?_) (fun q7 => ?_)
    · --
      exact jT (Or.inl (Or.inl q7))
    · --
      refine r_aload_n X (pc := 15) (i := 0) (zw_dg dk_P_gets 7 rfl) rfl rfl ?_
      refine r_getR X (pc := 16) (r := 1) ci_P (zo hS 0 rfl rfl) rfl (zr hS 0 0 rfl rfl) lk_P_25 (zw_dg dk_P_gets 8 rfl) ?_
      refine r_iload_n X (pc := 19) (i := 2) (zw_dg dk_P_gets 9 rfl) rfl rfl ?_
      refine r_callVi X (pc := 20) (As := [_]) (st := []) (km_Sayings_has hS rfl) ce_Sayings_has (kt_in 758 (by decide +kernel) rfl) (zo hS 1 rfl rfl) rfl rfl ⟨Nat.le_of_ble_eq_true rfl, Nat.le_of_ble_eq_true rfl⟩ (Nat.le_of_ble_eq_true rfl) (zw_dg dk_P_gets 10 rfl) ?_
      refine r_if_eq X (pc := 23) (tgt := 37) (zw_dg dk_P_gets 11 rfl) (by decide) (fun q8 => ?_) (fun q8 => ?_)
      · --
        exact jT (Or.inl (Or.inr (fun z => z q8)))
      · --
        refine r_aload_n X (pc := 26) (i := 0) (zw_dg dk_P_gets 12 rfl) rfl rfl ?_
        refine r_getR X (pc := 27) (r := 1) ci_P (zo hS 0 rfl rfl) rfl (zr hS 0 0 rfl rfl) lk_P_25 (zw_dg dk_P_gets 13 rfl) ?_
        refine r_iload_n X (pc := 30) (i := 3) (zw_dg dk_P_gets 14 rfl) rfl rfl ?_
        refine r_callVi X (pc := 31) (As := [_]) (st := []) (km_Sayings_hasEvent hS rfl) ce_Sayings_hasEvent (kt_in 1002 (by decide +kernel) rfl) (zo hS 1 rfl rfl) rfl rfl ⟨Nat.le_of_ble_eq_true rfl, Nat.le_of_ble_eq_true rfl⟩ (Nat.le_of_ble_eq_true rfl) (zw_dg dk_P_gets 15 rfl) ?_
        refine r_if_ne X (pc := 34) (tgt := 47) (zw_dg dk_P_gets 16 rfl) (by decide) (fun q9 => ?_) (fun q9 => ?_)
        · --
          exact jF (fun q => q.elim (fun q => q.elim q7 (fun q => q q8)) (fun q => q q9))
        · --
          exact jT (Or.inr (fun z => z q9))
  · --
    have hsem := zw_ifp p6 hsem
    obtain ⟨rfl, rfl⟩ := zw_in2 hsem
    exact zx_throw X hl hXS ht (text := "no such pay, saying or event") hXS.2.2.1 ⟨Nat.le_of_ble_eq_true rfl, Nat.le_of_ble_eq_true rfl, Nat.le_of_ble_eq_true rfl, Nat.le_of_ble_eq_true rfl⟩ (zw_dg dk_P_gets 17 rfl) (zw_dg dk_P_gets 18 rfl) (zw_dg dk_P_gets 19 rfl) (zw_dg dk_P_gets 20 rfl) (zw_dg dk_P_gets 21 rfl)
  · --
    have hsem := zw_ifn p6 hsem
    obtain ⟨a11, ha11, hs_a11⟩ := zw_bd hsem
    subst ha11
    have hsem := hs_a11
    refine r_aloadO X (pc := 47) (i := 4) (zw_dg dk_P_gets 22 rfl) rfl ?_
    refine r_iload_n X (pc := 49) (i := 2) (zw_dg dk_P_gets 23 rfl) rfl rfl ?_
    refine r_iconst X (pc := 50) (v := 4) (zw_dg dk_P_gets 24 rfl) (by decide) ?_
    refine r_imul X (pc := 51) (zw_dg dk_P_gets 25 rfl) ?_
    refine r_iload_n X (pc := 52) (i := 3) (zw_dg dk_P_gets 26 rfl) rfl rfl ?_
    refine r_iadd X (pc := 53) (zw_dg dk_P_gets 27 rfl) ?_
    obtain ⟨r6, hr6, hsem⟩ := zw_bd hsem
    obtain ⟨n7, hn7, hr6⟩ := zw_bd hr6
    refine r_iald X (pc := 54) (zd hS (zw_len_of hn7)) hr6 (zw_dg dk_P_gets 28 rfl) ?_
    obtain ⟨rfl, rfl⟩ := zw_in2 hsem
    exact zx_iret X (pc := 55) rfl (Nat.zero_le _) (Nat.zero_le _) (zw_dg dk_P_gets 29 rfl)
set_option maxRecDepth 100000 in
theorem km_P_row {l : Launch} {g : zw_G} {rr : zw_RR} {sh : zw_Sh} {c : zw_Ct} {i1 : Int32} {r : Option Int64} {c2 : zw_Ct} (hl : l.stackTraces = false) (hS : zw_Ok 0 101 sh rr) (hsem : fn_P_row c i1 = some (r, c2)) : zx_Met l g y_P_row b_P_row 2 (some .long) 6 rr sh [.ref 0, .int i1] c (r.map .long) c2 := by
  unfold fn_P_row at hsem
  refine zx_Met.of (by decide +kernel) (Nat.le_of_ble_eq_true rfl) (fun p e s m args below meth cd X hXS ht => ?_)
  refine zw_eL (L2 := [some (.ref 0), some (.int i1)]) rfl ?_
  refine zw_cnd (P := (¬ (¬ (fn_P_within i1 0 ((c.1 61 1) - 1)) = 0))) (J1 := 17) (J2 := 28) (st2 := []) (fun jT jF => ?_) (fun p6 => ?_) (fun p6 => ?_)
  · --
    refine r_iload_n X (pc := 0) (i := 1) (zw_dg dk_P_row 0 rfl) rfl rfl ?_
    refine r_iconst X (pc := 1) (v := 0) (zw_dg dk_P_row 1 rfl) (by decide) ?_
    refine r_aload_n X (pc := 2) (i := 0) (zw_dg dk_P_row 2 rfl) rfl rfl ?_
    refine r_getR X (pc := 3) (r := 61) ci_P (zo hS 0 rfl rfl) rfl (zr hS 0 6 rfl rfl) lk_P_60 (zw_dg dk_P_row 3 rfl) ?_
    refine r_getI X (pc := 6) ci_Row (zo hS 61 rfl rfl) rfl lk_P_372 (zw_dg dk_P_row 4 rfl) ?_
    refine r_iconst X (pc := 9) (v := 1) (zw_dg dk_P_row 5 rfl) (by decide) ?_
    refine r_isub X (pc := 10) (zw_dg dk_P_row 6 rfl) ?_
    refine r_callSi X (pc := 11) (As := [_, _, _]) (st := []) (km_P_within hS rfl) ce_P_within (kt_in 492 (by decide +kernel) rfl) rfl ⟨Nat.le_of_ble_eq_true rfl, Nat.le_of_ble_eq_true rfl⟩ (Nat.le_of_ble_eq_true rfl) (zw_dg dk_P_row 7 rfl) ?_
    refine r_if_ne X (pc := 14) (tgt := 28) (zw_dg dk_P_row 8 rfl) (by decide) (fun q9 => ?_) (fun q9 => ?_)
    · --
      exact jF (fun q => q q9)
    · --
      exact jT (fun z => z q9)
  · --
    have hsem := zw_ifp p6 hsem
    obtain ⟨rfl, rfl⟩ := zw_in2 hsem
    exact zx_throwW X hl hXS ht (text := "no such number") hXS.2.2.2.1 ⟨Nat.le_of_ble_eq_true rfl, Nat.le_of_ble_eq_true rfl, Nat.le_of_ble_eq_true rfl, Nat.le_of_ble_eq_true rfl⟩ (zw_dg dk_P_row 9 rfl) (zw_dg dk_P_row 10 rfl) (zw_dg dk_P_row 11 rfl) (zw_dg dk_P_row 12 rfl) (zw_dg dk_P_row 13 rfl)
  · --
    have hsem := zw_ifn p6 hsem
    refine r_aload_n X (pc := 28) (i := 0) (zw_dg dk_P_row 14 rfl) rfl rfl ?_
    refine r_getR X (pc := 29) (r := 61) ci_P (zo hS 0 rfl rfl) rfl (zr hS 0 6 rfl rfl) lk_P_60 (zw_dg dk_P_row 15 rfl) ?_
    refine r_getR X (pc := 32) (r := 62) ci_Row (zo hS 61 rfl rfl) rfl (zr hS 61 0 rfl rfl) lk_P_378 (zw_dg dk_P_row 16 rfl) ?_
    refine r_iload_n X (pc := 35) (i := 1) (zw_dg dk_P_row 17 rfl) rfl rfl ?_
    obtain ⟨r3, hr3, hsem⟩ := zw_bd hsem
    refine r_lald X (pc := 36) (zo hS 62 rfl rfl) hr3 (zw_dg dk_P_row 18 rfl) ?_
    obtain ⟨rfl, rfl⟩ := zw_in2 hsem
    exact zx_lret X (pc := 37) rfl (Nat.zero_le _) (Nat.zero_le _) (zw_dg dk_P_row 19 rfl)
def y_W_part : MethodName := ⟨"PaidForThinkingLaw", "part", "(LPaidForThinking;II[J)I"⟩
abbrev b_W_part : ByteArray := method_3_code
def dl_W_part : List (Nat × Instr × Nat) := [(0, .aload_n 3, 1), (1, .iconst 0, 1), (2, .aload_n 0, 1), (3, .iload_n 1, 1), (4, .iload_n 2, 1), (5, .invokevirtual 7, 3), (8, .i2l, 1), (9, .lastore, 1), (10, .goto 7, 3), (13, .astore 4, 2), (15, .iconst 1, 1), (16, .ireturn, 1), (17, .iconst 0, 1), (18, .ireturn, 1)]
theorem dk_W_part : zw_dk b_W_part dl_W_part = true := by decide +kernel
abbrev hh_W_part : List (Nat × Nat × Nat × Nat) := [(0, 10, 13, 13)]
theorem ce_W_part : Cond.codeWith y_W_part b_W_part 5 (some .int) hh_W_part ∈ ktG ∧ Cond.initialized y_W_part.cls ∈ ktG ∧ Cond.static y_W_part ∈ ktG := ⟨kt_in 1357 (by decide +kernel) rfl, kt_in 84 (by decide +kernel) rfl, kt_in 1356 (by decide +kernel) rfl⟩
set_option maxRecDepth 100000 in
theorem km_W_part {l : Launch} {g : zw_G} {rr : zw_RR} {sh : zw_Sh} {c : zw_Ct} {a0 : Int32} {a1 : Int32} {r : Option Int32} {c2 : zw_Ct} (hl : l.stackTraces = false) (hS : zw_Ok 0 101 sh rr) (hsem : fn_P_part c a0 a1 = some (r, c2)) : zy_Met l g y_W_part b_W_part 5 (some .int) hh_W_part 7 rr sh [.ref 0, .int a0, .int a1, .ref 100] c (some (.int (fk_part r))) (fw_part c2 r) := by
  refine zy_Met.of (by decide +kernel) (Nat.le_of_ble_eq_true rfl) (fun p e s m args below meth cd X hXS ht => ?_)
  refine zw_eL (L2 := [some (.ref 0), some (.int a0), some (.int a1), some (.ref 100), none]) rfl ?_
  refine r_aload_n X (pc := 0) (i := 3) (zw_dg dk_W_part 0 rfl) rfl rfl ?_
  refine r_iconst X (pc := 1) (v := 0) (zw_dg dk_W_part 1 rfl) (by decide) ?_
  refine r_aload_n X (pc := 2) (i := 0) (zw_dg dk_W_part 2 rfl) rfl rfl ?_
  refine r_iload_n X (pc := 3) (i := 1) (zw_dg dk_W_part 3 rfl) rfl rfl ?_
  refine r_iload_n X (pc := 4) (i := 2) (zw_dg dk_W_part 4 rfl) rfl rfl ?_
  refine r_callX X hXS (pc := 5) (As := [_, _]) (st := [.int 0, .ref 100]) (km_P_part hl hS hsem) ce_P_part (kt_in 1359 (by decide +kernel) rfl) (zo hS 0 rfl rfl) rfl rfl ⟨Nat.le_of_ble_eq_true rfl, Nat.le_of_ble_eq_true rfl⟩ (Nat.le_of_ble_eq_true rfl) ⟨Nat.le_of_ble_eq_true rfl, Nat.le_of_ble_eq_true rfl⟩ (zw_dg dk_W_part 5 rfl) (x := ⟨0, 10, 13, 13⟩) ht (by decide) (by decide) (kt_in 1358 (by decide +kernel) rfl) (i := 4) (w := 2) (Or.inl ⟨(zw_dg dk_W_part 9 rfl), rfl⟩) (by decide) (fun _ => trivial) (fun X2 v hv => ?_) (fun X2 hv => ?_)
  · cases r with
    | none => cases hv
    | some w =>
      cases hv
      refine r_i2l X2 (pc := 8) (zw_dg dk_W_part 6 rfl) ?_
      refine r_last X2 (pc := 9) (zo hS 100 rfl rfl) (zy_o0 _ _) (zw_dg dk_W_part 7 rfl) ?_
      refine r_goto X2 (pc := 10) (tgt := 17) (zw_dg dk_W_part 8 rfl) (by decide) ?_
      refine r_iconst X2 (pc := 17) (v := 0) (zw_dg dk_W_part 12 rfl) (by decide) ?_
      exact r_iret X2 (pc := 18) rfl (zw_dg dk_W_part 13 rfl)
  · cases r with
    | some w => cases hv
    | none =>
      refine r_iconst X2 (pc := 15) (v := 1) (zw_dg dk_W_part 10 rfl) (by decide) ?_
      exact r_iret X2 (pc := 16) rfl (zw_dg dk_W_part 11 rfl)
def y_W_gets : MethodName := ⟨"PaidForThinkingLaw", "gets", "(LPaidForThinking;III[J)I"⟩
abbrev b_W_gets : ByteArray := method_4_code
def dl_W_gets : List (Nat × Instr × Nat) := [(0, .aload 4, 2), (2, .iconst 0, 1), (3, .aload_n 0, 1), (4, .iload_n 1, 1), (5, .iload_n 2, 1), (6, .iload_n 3, 1), (7, .invokevirtual 15, 3), (10, .i2l, 1), (11, .lastore, 1), (12, .goto 7, 3), (15, .astore 5, 2), (17, .iconst 1, 1), (18, .ireturn, 1), (19, .iconst 0, 1), (20, .ireturn, 1)]
theorem dk_W_gets : zw_dk b_W_gets dl_W_gets = true := by decide +kernel
abbrev hh_W_gets : List (Nat × Nat × Nat × Nat) := [(0, 12, 15, 13)]
theorem ce_W_gets : Cond.codeWith y_W_gets b_W_gets 6 (some .int) hh_W_gets ∈ ktG ∧ Cond.initialized y_W_gets.cls ∈ ktG ∧ Cond.static y_W_gets ∈ ktG := ⟨kt_in 1430 (by decide +kernel) rfl, kt_in 84 (by decide +kernel) rfl, kt_in 1429 (by decide +kernel) rfl⟩
set_option maxRecDepth 100000 in
theorem km_W_gets {l : Launch} {g : zw_G} {rr : zw_RR} {sh : zw_Sh} {c : zw_Ct} {a0 : Int32} {a1 : Int32} {a2 : Int32} {r : Option Int32} {c2 : zw_Ct} (hl : l.stackTraces = false) (hS : zw_Ok 0 101 sh rr) (hsem : fn_P_gets c a0 a1 a2 = some (r, c2)) : zy_Met l g y_W_gets b_W_gets 6 (some .int) hh_W_gets 7 rr sh [.ref 0, .int a0, .int a1, .int a2, .ref 100] c (some (.int (fk_gets r))) (fw_gets c2 r) := by
  refine zy_Met.of (by decide +kernel) (Nat.le_of_ble_eq_true rfl) (fun p e s m args below meth cd X hXS ht => ?_)
  refine zw_eL (L2 := [some (.ref 0), some (.int a0), some (.int a1), some (.int a2), some (.ref 100), none]) rfl ?_
  refine r_aload X (pc := 0) (i := 4) (zw_dg dk_W_gets 0 rfl) rfl ?_
  refine r_iconst X (pc := 2) (v := 0) (zw_dg dk_W_gets 1 rfl) (by decide) ?_
  refine r_aload_n X (pc := 3) (i := 0) (zw_dg dk_W_gets 2 rfl) rfl rfl ?_
  refine r_iload_n X (pc := 4) (i := 1) (zw_dg dk_W_gets 3 rfl) rfl rfl ?_
  refine r_iload_n X (pc := 5) (i := 2) (zw_dg dk_W_gets 4 rfl) rfl rfl ?_
  refine r_iload_n X (pc := 6) (i := 3) (zw_dg dk_W_gets 5 rfl) rfl rfl ?_
  refine r_callX X hXS (pc := 7) (As := [_, _, _]) (st := [.int 0, .ref 100]) (km_P_gets hl hS hsem) ce_P_gets (kt_in 1431 (by decide +kernel) rfl) (zo hS 0 rfl rfl) rfl rfl ⟨Nat.le_of_ble_eq_true rfl, Nat.le_of_ble_eq_true rfl⟩ (Nat.le_of_ble_eq_true rfl) ⟨Nat.le_of_ble_eq_true rfl, Nat.le_of_ble_eq_true rfl⟩ (zw_dg dk_W_gets 6 rfl) (x := ⟨0, 12, 15, 13⟩) ht (by decide) (by decide) (kt_in 1358 (by decide +kernel) rfl) (i := 5) (w := 2) (Or.inl ⟨(zw_dg dk_W_gets 10 rfl), rfl⟩) (by decide) (fun _ => trivial) (fun X2 v hv => ?_) (fun X2 hv => ?_)
  · cases r with
    | none => cases hv
    | some w =>
      cases hv
      refine r_i2l X2 (pc := 10) (zw_dg dk_W_gets 7 rfl) ?_
      refine r_last X2 (pc := 11) (zo hS 100 rfl rfl) (zy_o0 _ _) (zw_dg dk_W_gets 8 rfl) ?_
      refine r_goto X2 (pc := 12) (tgt := 19) (zw_dg dk_W_gets 9 rfl) (by decide) ?_
      refine r_iconst X2 (pc := 19) (v := 0) (zw_dg dk_W_gets 13 rfl) (by decide) ?_
      exact r_iret X2 (pc := 20) rfl (zw_dg dk_W_gets 14 rfl)
  · cases r with
    | some w => cases hv
    | none =>
      refine r_iconst X2 (pc := 17) (v := 1) (zw_dg dk_W_gets 11 rfl) (by decide) ?_
      exact r_iret X2 (pc := 18) rfl (zw_dg dk_W_gets 12 rfl)
def y_W_row : MethodName := ⟨"PaidForThinkingLaw", "row", "(LPaidForThinking;I[J)I"⟩
abbrev b_W_row : ByteArray := method_5_code
def dl_W_row : List (Nat × Instr × Nat) := [(0, .aload_n 2, 1), (1, .iconst 0, 1), (2, .aload_n 0, 1), (3, .iload_n 1, 1), (4, .invokevirtual 19, 3), (7, .lastore, 1), (8, .goto 6, 3), (11, .astore_n 3, 1), (12, .iconst 1, 1), (13, .ireturn, 1), (14, .iconst 0, 1), (15, .ireturn, 1)]
theorem dk_W_row : zw_dk b_W_row dl_W_row = true := by decide +kernel
abbrev hh_W_row : List (Nat × Nat × Nat × Nat) := [(0, 8, 11, 13)]
theorem ce_W_row : Cond.codeWith y_W_row b_W_row 4 (some .int) hh_W_row ∈ ktG ∧ Cond.initialized y_W_row.cls ∈ ktG ∧ Cond.static y_W_row ∈ ktG := ⟨kt_in 1438 (by decide +kernel) rfl, kt_in 84 (by decide +kernel) rfl, kt_in 1437 (by decide +kernel) rfl⟩
set_option maxRecDepth 100000 in
theorem km_W_row {l : Launch} {g : zw_G} {rr : zw_RR} {sh : zw_Sh} {c : zw_Ct} {a0 : Int32} {r : Option Int64} {c2 : zw_Ct} (hl : l.stackTraces = false) (hS : zw_Ok 0 101 sh rr) (hsem : fn_P_row c a0 = some (r, c2)) : zy_Met l g y_W_row b_W_row 4 (some .int) hh_W_row 7 rr sh [.ref 0, .int a0, .ref 100] c (some (.int (fk_row r))) (fw_row c2 r) := by
  refine zy_Met.of (by decide +kernel) (Nat.le_of_ble_eq_true rfl) (fun p e s m args below meth cd X hXS ht => ?_)
  refine zw_eL (L2 := [some (.ref 0), some (.int a0), some (.ref 100), none]) rfl ?_
  refine r_aload_n X (pc := 0) (i := 2) (zw_dg dk_W_row 0 rfl) rfl rfl ?_
  refine r_iconst X (pc := 1) (v := 0) (zw_dg dk_W_row 1 rfl) (by decide) ?_
  refine r_aload_n X (pc := 2) (i := 0) (zw_dg dk_W_row 2 rfl) rfl rfl ?_
  refine r_iload_n X (pc := 3) (i := 1) (zw_dg dk_W_row 3 rfl) rfl rfl ?_
  refine r_callX X hXS (pc := 4) (As := [_]) (st := [.int 0, .ref 100]) (km_P_row hl hS hsem) ce_P_row (kt_in 1439 (by decide +kernel) rfl) (zo hS 0 rfl rfl) rfl rfl ⟨Nat.le_of_ble_eq_true rfl, Nat.le_of_ble_eq_true rfl⟩ (Nat.le_of_ble_eq_true rfl) ⟨Nat.le_of_ble_eq_true rfl, Nat.le_of_ble_eq_true rfl⟩ (zw_dg dk_W_row 4 rfl) (x := ⟨0, 8, 11, 13⟩) ht (by decide) (by decide) (kt_in 1358 (by decide +kernel) rfl) (i := 3) (w := 1) (Or.inr ⟨_, (zw_dg dk_W_row 7 rfl), rfl, rfl⟩) (by decide) (fun _ => trivial) (fun X2 v hv => ?_) (fun X2 hv => ?_)
  · cases r with
    | none => cases hv
    | some w =>
      cases hv
      refine r_last X2 (pc := 7) (zo hS 100 rfl rfl) (zy_o0 _ _) (zw_dg dk_W_row 5 rfl) ?_
      refine r_goto X2 (pc := 8) (tgt := 14) (zw_dg dk_W_row 6 rfl) (by decide) ?_
      refine r_iconst X2 (pc := 14) (v := 0) (zw_dg dk_W_row 10 rfl) (by decide) ?_
      exact r_iret X2 (pc := 15) rfl (zw_dg dk_W_row 11 rfl)
  · cases r with
    | some w => cases hv
    | none =>
      refine r_iconst X2 (pc := 12) (v := 1) (zw_dg dk_W_row 8 rfl) (by decide) ?_
      exact r_iret X2 (pc := 13) rfl (zw_dg dk_W_row 9 rfl)
