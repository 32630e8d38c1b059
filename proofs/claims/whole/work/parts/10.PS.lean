/-! STATIC: names, functions, contracts (by program: wip/whole/gen) -/
def y_P_within : MethodName := ⟨R_P, "within", "(III)Z"⟩
abbrev b_P_within : ByteArray := prog_1_method_60_code
def dl_P_within : List (Nat × Instr × Nat) := [(0, .iload_n 0, 1), (1, .iload_n 1, 1), (2, .if_icmp .lt 12, 3), (5, .iload_n 0, 1), (6, .iload_n 2, 1), (7, .if_icmp .gt 7, 3), (10, .iconst 1, 1), (11, .goto 4, 3), (14, .iconst 0, 1), (15, .ireturn, 1)]
theorem dk_P_within : zw_dk b_P_within dl_P_within = true := by decide +kernel
theorem ce_P_within : zw_ces y_P_within b_P_within 3 (some .boolean) 3 := ⟨⟨kt_in 494 (by decide +kernel) rfl, kt_in 85 (by decide +kernel) rfl, by decide +kernel⟩, kt_in 493 (by decide +kernel) rfl⟩
def fn_P_within (v1 : Int32) (low2 : Int32) (high3 : Int32) : Int32 :=
  (if ((low2 ≤ v1) ∧ (v1 ≤ high3)) then (1 : Int32) else 0)
theorem kb_P_within (v1 : Int32) (low2 : Int32) (high3 : Int32) : fn_P_within v1 low2 high3 = 0 ∨ fn_P_within v1 low2 high3 = 1 := by
  unfold fn_P_within
  first | exact zw_ite01
set_option maxRecDepth 100000 in
theorem km_P_within {l : Launch} {g : zw_G} {rr : zw_RR} {sh : zw_Sh} {c : zw_Ct} {v1 : Int32} {low2 : Int32} {high3 : Int32} {r : Int32} (hS : zw_Ok 0 101 sh rr) (hsem : fn_P_within v1 low2 high3 = r) : zw_Met l g y_P_within b_P_within 3 (some .boolean) 1 rr sh [.int v1, .int low2, .int high3] c (some (.int r)) c := by
  unfold fn_P_within at hsem
  refine zw_Met.of (by decide +kernel) (Nat.le_of_ble_eq_true rfl) (fun p e s m args below meth cd X => ?_)
  refine zw_eL (L2 := [some (.int v1), some (.int low2), some (.int high3)]) rfl ?_
  refine zw_ter (P := ((low2 ≤ v1) ∧ (v1 ≤ high3))) (f := Value.int) (x := 1) (y := 0) (J := 15) (st2 := []) (fun jT jF => ?_) ?_
  · --
    refine r_iload_n X (pc := 0) (i := 0) (zw_dg dk_P_within 0 rfl) rfl rfl ?_
    refine r_iload_n X (pc := 1) (i := 1) (zw_dg dk_P_within 1 rfl) rfl rfl ?_
    refine r_icmp_lt X (pc := 2) (tgt := 14) (zw_dg dk_P_within 2 rfl) (by decide) (fun q4 => ?_) (fun q4 => ?_)
    · --
      refine r_iconst X (pc := 14) (v := 0) (zw_dg dk_P_within 8 rfl) (by decide) ?_
      exact jF (fun q => (Int32.not_le.mpr q4) q.1)
    · --
      refine r_iload_n X (pc := 5) (i := 0) (zw_dg dk_P_within 3 rfl) rfl rfl ?_
      refine r_iload_n X (pc := 6) (i := 2) (zw_dg dk_P_within 4 rfl) rfl rfl ?_
      refine r_icmp_gt X (pc := 7) (tgt := 14) (zw_dg dk_P_within 5 rfl) (by decide) (fun q5 => ?_) (fun q5 => ?_)
      · --
        refine r_iconst X (pc := 14) (v := 0) (zw_dg dk_P_within 8 rfl) (by decide) ?_
        exact jF (fun q => (Int32.not_le.mpr q5) q.2)
      · --
        refine r_iconst X (pc := 10) (v := 1) (zw_dg dk_P_within 6 rfl) (by decide) ?_
        refine r_goto X (pc := 11) (tgt := 15) (zw_dg dk_P_within 7 rfl) (by decide) ?_
        exact jT ⟨(Int32.not_lt.mp q4), (Int32.not_lt.mp q5)⟩
  have hsem : ((if ((low2 ≤ v1) ∧ (v1 ≤ high3)) then (1 : Int32) else 0) : _) = r := hsem
  have hbz : ((if ((low2 ≤ v1) ∧ (v1 ≤ high3)) then (1 : Int32) else 0) : Int32) = 0 ∨ ((if ((low2 ≤ v1) ∧ (v1 ≤ high3)) then (1 : Int32) else 0) : Int32) = 1 := zw_ite01
  cases hsem
  exact r_zret X (pc := 15) rfl (zw_bzn hbz).1 (zw_dg dk_P_within 9 rfl)
def y_P_cut : MethodName := ⟨R_P, "cut", "(JJ)J"⟩
abbrev b_P_cut : ByteArray := prog_1_method_61_code
def dl_P_cut : List (Nat × Instr × Nat) := [(0, .lload_n 2, 1), (1, .lconst 0, 1), (2, .lcmp, 1), (3, .ifCond .ne 7, 3), (6, .lconst 0, 1), (7, .goto 6, 3), (10, .lload_n 0, 1), (11, .lload_n 2, 1), (12, .ldiv, 1), (13, .lreturn, 1)]
theorem dk_P_cut : zw_dk b_P_cut dl_P_cut = true := by decide +kernel
theorem ce_P_cut : zw_ces y_P_cut b_P_cut 4 (some .long) 2 := ⟨⟨kt_in 779 (by decide +kernel) rfl, kt_in 85 (by decide +kernel) rfl, by decide +kernel⟩, kt_in 778 (by decide +kernel) rfl⟩
def fn_P_cut (upper1 : Int64) (lower2 : Int64) : Option Int64 :=
  (if (lower2 = 0) then
  (some (0 : Int64))
  else
  ((zw_dvL upper1 lower2).bind fun d6 =>
  some (d6 : Int64))).bind fun v3 =>
  some v3
set_option maxRecDepth 100000 in
theorem km_P_cut {l : Launch} {g : zw_G} {rr : zw_RR} {sh : zw_Sh} {c : zw_Ct} {upper1 : Int64} {lower2 : Int64} {r : Int64} (hS : zw_Ok 0 101 sh rr) (hsem : fn_P_cut upper1 lower2 = some r) : zw_Met l g y_P_cut b_P_cut 4 (some .long) 1 rr sh [.long upper1, .long lower2] c (some (.long r)) c := by
  unfold fn_P_cut at hsem
  refine zw_Met.of (by decide +kernel) (Nat.le_of_ble_eq_true rfl) (fun p e s m args below meth cd X => ?_)
  refine zw_eL (L2 := [some (.long upper1), none, some (.long lower2), none]) rfl ?_
  obtain ⟨v3, hv3, hsv3⟩ := zw_bd hsem
  refine zw_terO (f := Value.long) (v := v3) (J := 13) (st2 := []) (c2 := c) (fun jj => ?_) ?_
  · have hsem := hv3
    refine r_lload_n X (pc := 0) (i := 2) (zw_dg dk_P_cut 0 rfl) rfl rfl ?_
    refine r_lconst X (pc := 1) (v := 0) (zw_dg dk_P_cut 1 rfl) (by decide) ?_
    refine r_lcmp_ne X (pc := 2) (tgt := 10) (zw_dg dk_P_cut 2 rfl) (zw_dg dk_P_cut 3 rfl) (by decide) (fun q5 => ?_) (fun q5 => ?_)
    · --
      have p4 : ¬ (lower2 = 0) := q5
      have hsem := zw_ifn p4 hsem
      refine r_lload_n X (pc := 10) (i := 0) (zw_dg dk_P_cut 6 rfl) rfl rfl ?_
      refine r_lload_n X (pc := 11) (i := 2) (zw_dg dk_P_cut 7 rfl) rfl rfl ?_
      obtain ⟨d6, hd6, hsem⟩ := zw_bd hsem
      obtain ⟨hyd6, hd6⟩ := zw_dvL_of hd6
      refine r_ldiv X (pc := 12) (zw_dg dk_P_cut 8 rfl) hyd6 ?_
      refine zw_eqtJ hd6 ?_
      cases hsem; exact jj
    · --
      have p4 : (lower2 = 0) := q5
      have hsem := zw_ifp p4 hsem
      refine r_lconst X (pc := 6) (v := 0) (zw_dg dk_P_cut 4 rfl) (by decide) ?_
      refine r_goto X (pc := 7) (tgt := 13) (zw_dg dk_P_cut 5 rfl) (by decide) ?_
      cases hsem; exact jj
  have hsem := hsv3
  cases hsem
  exact r_lret X (pc := 13) rfl (zw_dg dk_P_cut 9 rfl)
