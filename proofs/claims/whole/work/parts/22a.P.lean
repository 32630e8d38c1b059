/-! PaidForThinking: names, functions, contracts (by program: wip/whole/gen) -/
def y_P_table : MethodName := ⟨R_P, "table", "(II)I"⟩
abbrev b_P_table : ByteArray := prog_1_method_2_code
def dl_P_table : List (Nat × Instr × Nat) := [(0, .iload_n 1, 1), (1, .iconst 2, 1), (2, .iconst 4, 1), (3, .invokestatic 100, 3), (6, .ifCond .eq 13, 3), (9, .iload_n 2, 1), (10, .iconst 1, 1), (11, .bipush 12, 2), (13, .invokestatic 100, 3), (16, .ifCond .ne 5, 3), (19, .iconst (-1), 1), (20, .ireturn, 1), (21, .aload_n 0, 1), (22, .getfield 25, 3), (25, .iload_n 1, 1), (26, .iload_n 2, 1), (27, .invokevirtual 104, 3), (30, .aload_n 0, 1), (31, .getfield 29, 3), (34, .invokevirtual 108, 3), (37, .aload_n 0, 1), (38, .getfield 53, 3), (41, .invokevirtual 111, 3), (44, .iconst 0, 1), (45, .istore_n 3, 1), (46, .iload_n 3, 1), (47, .iconst 3, 1), (48, .if_icmp .ge 16, 3), (51, .aload_n 0, 1), (52, .getfield 37, 3), (55, .iload_n 3, 1), (56, .iconst 0, 1), (57, .bastore, 1), (58, .iinc 3 1, 3), (61, .goto (-15), 3), (64, .aload_n 0, 1), (65, .getfield 25, 3), (68, .getfield 114, 3), (71, .ireturn, 1)]
theorem dk_P_table : zw_dk b_P_table dl_P_table = true := by decide +kernel
theorem ce_P_table : zw_cev y_P_table b_P_table 4 (some .int) 2 := ⟨⟨kt_in 491 (by decide +kernel) rfl, kt_in 85 (by decide +kernel) rfl, by decide +kernel⟩, kt_in 489 (by decide +kernel) rfl, kt_in 490 (by decide +kernel) rfl⟩
def fn_P_table_l1  : Int32 × zw_Ct → Option ((zw_Ct) ⊕ (Int32 × zw_Ct)) := fun (i9, c10) =>
  if (i9 < 3) then
  ((zw_uI 3 c10 39 i9 0).bind fun c15 =>
  some (.inr ((i9 + 1), c15)))
  else
  (some (.inl c10))
def fn_P_table (c : zw_Ct) (events1 : Int32) (steps2 : Int32) : Option (Int32 × zw_Ct) :=
  if ((¬ (¬ (fn_P_within events1 2 4) = 0)) ∨ (¬ (¬ (fn_P_within steps2 1 12) = 0))) then
  (some ((-1), c))
  else
  ((fn_Sayings_lay c events1 steps2).bind fun c6 =>
  (fn_Held_dropAllButTurn 3 c6).bind fun c7 =>
  (fn_Pays_dropMade c7).bind fun c8 =>
  (zw_whl (fn_P_table_l1) zw_F (0, c8)).bind fun c11 =>
  some ((c11.1 1 2), c11))
set_option maxRecDepth 100000 in
theorem km_P_table {l : Launch} {g : zw_G} {rr : zw_RR} {sh : zw_Sh} {c : zw_Ct} {events1 : Int32} {steps2 : Int32} {r : Int32} {c2 : zw_Ct} (hS : zw_Ok 0 101 sh rr) (hsem : fn_P_table c events1 steps2 = some (r, c2)) : zw_Met l g y_P_table b_P_table 4 (some .int) 3 rr sh [.ref 0, .int events1, .int steps2] c (some (.int r)) c2 := by
  unfold fn_P_table at hsem
  refine zw_Met.of (by decide +kernel) (Nat.le_of_ble_eq_true rfl) (fun p e s m args below meth cd X => ?_)
  refine zw_eL (L2 := [some (.ref 0), some (.int events1), some (.int steps2), none]) rfl ?_
  refine zw_cnd (P := ((¬ (¬ (fn_P_within events1 2 4) = 0)) ∨ (¬ (¬ (fn_P_within steps2 1 12) = 0)))) (J1 := 19) (J2 := 21) (st2 := []) (fun jT jF => ?_) (fun p3 => ?_) (fun p3 => ?_)
  · --
    refine r_iload_n X (pc := 0) (i := 1) (zw_dg dk_P_table 0 rfl) rfl rfl ?_
    refine r_iconst X (pc := 1) (v := 2) (zw_dg dk_P_table 1 rfl) (by decide) ?_
    refine r_iconst X (pc := 2) (v := 4) (zw_dg dk_P_table 2 rfl) (by decide) ?_
    refine r_callSi X (pc := 3) (As := [_, _, _]) (st := []) (km_P_within hS rfl) ce_P_within kw_492 rfl ⟨Nat.le_of_ble_eq_true rfl, Nat.le_of_ble_eq_true rfl⟩ (Nat.le_of_ble_eq_true rfl) (zw_dg dk_P_table 3 rfl) ?_
    refine r_if_eq X (pc := 6) (tgt := 19) (zw_dg dk_P_table 4 rfl) (by decide) (fun q4 => ?_) (fun q4 => ?_)
    · --
      exact jT (Or.inl (fun z => z q4))
    · --
      refine r_iload_n X (pc := 9) (i := 2) (zw_dg dk_P_table 5 rfl) rfl rfl ?_
      refine r_iconst X (pc := 10) (v := 1) (zw_dg dk_P_table 6 rfl) (by decide) ?_
      refine r_bipush X (pc := 11) (v := 12) (zw_dg dk_P_table 7 rfl) (by decide) ?_
      refine r_callSi X (pc := 13) (As := [_, _, _]) (st := []) (km_P_within hS rfl) ce_P_within kw_492 rfl ⟨Nat.le_of_ble_eq_true rfl, Nat.le_of_ble_eq_true rfl⟩ (Nat.le_of_ble_eq_true rfl) (zw_dg dk_P_table 8 rfl) ?_
      refine r_if_ne X (pc := 16) (tgt := 21) (zw_dg dk_P_table 9 rfl) (by decide) (fun q5 => ?_) (fun q5 => ?_)
      · --
        exact jF (fun q => q.elim (fun q => q q4) (fun q => q q5))
      · --
        exact jT (Or.inr (fun z => z q5))
  · --
    have hsem := zw_ifp p3 hsem
    refine r_iconst X (pc := 19) (v := (-1)) (zw_dg dk_P_table 10 rfl) (by decide) ?_
    obtain ⟨rfl, rfl⟩ := zw_in2 hsem
    exact r_iret X (pc := 20) rfl (zw_dg dk_P_table 11 rfl)
  · --
    have hsem := zw_ifn p3 hsem
    refine r_aload_n X (pc := 21) (i := 0) (zw_dg dk_P_table 12 rfl) rfl rfl ?_
    refine r_getR X (pc := 22) (r := 1) ci_P (zo hS 0 rfl rfl) rfl (zr hS 0 0 rfl rfl) lk_P_25 (zw_dg dk_P_table 13 rfl) ?_
    refine r_iload_n X (pc := 25) (i := 1) (zw_dg dk_P_table 14 rfl) rfl rfl ?_
    refine r_iload_n X (pc := 26) (i := 2) (zw_dg dk_P_table 15 rfl) rfl rfl ?_
    obtain ⟨c6, hc6, hsem⟩ := zw_bd hsem
    refine r_callVv X (pc := 27) (As := [_, _]) (st := []) (km_Sayings_lay (hS.mono (by decide) (by decide)) hc6) ce_Sayings_lay kw_495 (zo hS 1 rfl rfl) rfl rfl ⟨Nat.le_of_ble_eq_true rfl, Nat.le_of_ble_eq_true rfl⟩ (Nat.le_of_ble_eq_true rfl) (zw_dg dk_P_table 16 rfl) ?_
    refine r_aload_n X (pc := 30) (i := 0) (zw_dg dk_P_table 17 rfl) rfl rfl ?_
    refine r_getR X (pc := 31) (r := 3) ci_P (zo hS 0 rfl rfl) rfl (zr hS 0 1 rfl rfl) lk_P_29 (zw_dg dk_P_table 18 rfl) ?_
    obtain ⟨c7, hc7, hsem⟩ := zw_bd hsem
    refine r_callVv X (pc := 34) (As := []) (st := []) (km_Held_dropAllButTurn (zho hS 3 rfl) hc7) ce_Held_dropAllButTurn kw_496 (zo hS 3 rfl rfl) rfl rfl ⟨Nat.le_of_ble_eq_true rfl, Nat.le_of_ble_eq_true rfl⟩ (Nat.le_of_ble_eq_true rfl) (zw_dg dk_P_table 19 rfl) ?_
    refine r_aload_n X (pc := 37) (i := 0) (zw_dg dk_P_table 20 rfl) rfl rfl ?_
    refine r_getR X (pc := 38) (r := 45) ci_P (zo hS 0 rfl rfl) rfl (zr hS 0 5 rfl rfl) lk_P_53 (zw_dg dk_P_table 21 rfl) ?_
    obtain ⟨c8, hc8, hsem⟩ := zw_bd hsem
    refine r_callVv X (pc := 41) (As := []) (st := []) (km_Pays_dropMade hS hc8) ce_Pays_dropMade kw_504 (zo hS 45 rfl rfl) rfl rfl ⟨Nat.le_of_ble_eq_true rfl, Nat.le_of_ble_eq_true rfl⟩ (Nat.le_of_ble_eq_true rfl) (zw_dg dk_P_table 22 rfl) ?_
    refine r_iconst X (pc := 44) (v := 0) (zw_dg dk_P_table 23 rfl) (by decide) ?_
    refine r_istore_n X (pc := 45) (i := 3) (zw_dg dk_P_table 24 rfl) rfl (by decide) rfl ?_
    obtain ⟨c11, hl12, hsl12⟩ := zw_bd hsem
    refine r_loop (pc := 46) (pce := 64) hl12 (fun (i9, c10) => [some (.ref 0), some (.int events1), some (.int steps2), some (.int i9)] : Int32 × zw_Ct → zw_Lc) (fun (i9, c10) => c10 : Int32 × zw_Ct → zw_Ct) (fun c11 => [some (.ref 0), some (.int events1), some (.int steps2), none] : zw_Ct → zw_Lc) (fun c11 => c11 : zw_Ct → zw_Ct) ?_ rfl rfl ?_
    · rintro ⟨i9, c10⟩ rr hsem hK hP
      try unfold fn_P_table_l1 at hsem
      refine r_iload_n X (pc := 46) (i := 3) (zw_dg dk_P_table 25 rfl) rfl rfl ?_
      refine r_iconst X (pc := 47) (v := 3) (zw_dg dk_P_table 26 rfl) (by decide) ?_
      refine r_icmp_ge X (pc := 48) (tgt := 64) (zw_dg dk_P_table 27 rfl) (by decide) (fun q14 => ?_) (fun q14 => ?_)
      · --
        have p13 : ¬ (i9 < 3) := (Int32.not_lt.mpr q14)
        have hsem := zw_ifn p13 hsem
        have jj := hK _ (Option.some.inj hsem).symm
        exact (r_fgt [3] rfl jj)
      · --
        have p13 : (i9 < 3) := (Int32.not_le.mp q14)
        have hsem := zw_ifp p13 hsem
        refine r_aload_n X (pc := 51) (i := 0) (zw_dg dk_P_table 28 rfl) rfl rfl ?_
        refine r_getR X (pc := 52) (r := 39) ci_P (zo hS 0 rfl rfl) rfl (zr hS 0 3 rfl rfl) lk_P_37 (zw_dg dk_P_table 29 rfl) ?_
        refine r_iload_n X (pc := 55) (i := 3) (zw_dg dk_P_table 30 rfl) rfl rfl ?_
        refine r_iconst X (pc := 56) (v := 0) (zw_dg dk_P_table 31 rfl) (by decide) ?_
        obtain ⟨c15, hc15, hsem⟩ := zw_bd hsem
        refine r_zast X (pc := 57) (zo hS 39 rfl rfl) (by rw [(zw_bzn (by decide)).2.2]; exact hc15) (zw_dg dk_P_table 32 rfl) ?_
        refine r_iinc X (pc := 58) (i := 3) (k := 1) (zw_dg dk_P_table 33 rfl) rfl (by decide) (by decide) rfl ?_
        refine r_goto X (pc := 61) (tgt := 46) (zw_dg dk_P_table 34 rfl) (by decide) ?_
        have jj := hP _ (Option.some.inj hsem).symm
        exact (r_fgt [] rfl jj)
    have hsem := hsl12
    refine r_aload_n X (pc := 64) (i := 0) (zw_dg dk_P_table 35 rfl) rfl rfl ?_
    refine r_getR X (pc := 65) (r := 1) ci_P (zo hS 0 rfl rfl) rfl (zr hS 0 0 rfl rfl) lk_P_25 (zw_dg dk_P_table 36 rfl) ?_
    refine r_getI X (pc := 68) ci_Sayings (zo hS 1 rfl rfl) rfl lk_P_114 (zw_dg dk_P_table 37 rfl) ?_
    obtain ⟨rfl, rfl⟩ := zw_in2 hsem
    exact r_iret X (pc := 71) rfl (zw_dg dk_P_table 38 rfl)
def y_P_saying : MethodName := ⟨R_P, "saying", "(IIII)I"⟩
abbrev b_P_saying : ByteArray := prog_1_method_3_code
def dl_P_saying : List (Nat × Instr × Nat) := [(0, .aload_n 0, 1), (1, .getfield 25, 3), (4, .iload_n 1, 1), (5, .iload_n 2, 1), (6, .iload_n 3, 1), (7, .iload 4, 2), (9, .invokevirtual 118, 3), (12, .ireturn, 1)]
theorem dk_P_saying : zw_dk b_P_saying dl_P_saying = true := by decide +kernel
theorem ce_P_saying : zw_cev y_P_saying b_P_saying 5 (some .int) 4 := ⟨⟨kt_in 519 (by decide +kernel) rfl, kt_in 85 (by decide +kernel) rfl, by decide +kernel⟩, kt_in 517 (by decide +kernel) rfl, kt_in 518 (by decide +kernel) rfl⟩
def fn_P_saying (c : zw_Ct) (a1 : Int32) (b2 : Int32) (c3 : Int32) (d4 : Int32) : Option Int32 :=
  (fn_Sayings_numberOf c a1 b2 c3 d4).bind fun r5 =>
  some r5
set_option maxRecDepth 100000 in
theorem km_P_saying {l : Launch} {g : zw_G} {rr : zw_RR} {sh : zw_Sh} {c : zw_Ct} {a1 : Int32} {b2 : Int32} {c3 : Int32} {d4 : Int32} {r : Int32} (hS : zw_Ok 0 101 sh rr) (hsem : fn_P_saying c a1 b2 c3 d4 = some r) : zw_Met l g y_P_saying b_P_saying 5 (some .int) 2 rr sh [.ref 0, .int a1, .int b2, .int c3, .int d4] c (some (.int r)) c := by
  unfold fn_P_saying at hsem
  refine zw_Met.of (by decide +kernel) (Nat.le_of_ble_eq_true rfl) (fun p e s m args below meth cd X => ?_)
  refine zw_eL (L2 := [some (.ref 0), some (.int a1), some (.int b2), some (.int c3), some (.int d4)]) rfl ?_
  refine r_aload_n X (pc := 0) (i := 0) (zw_dg dk_P_saying 0 rfl) rfl rfl ?_
  refine r_getR X (pc := 1) (r := 1) ci_P (zo hS 0 rfl rfl) rfl (zr hS 0 0 rfl rfl) lk_P_25 (zw_dg dk_P_saying 1 rfl) ?_
  refine r_iload_n X (pc := 4) (i := 1) (zw_dg dk_P_saying 2 rfl) rfl rfl ?_
  refine r_iload_n X (pc := 5) (i := 2) (zw_dg dk_P_saying 3 rfl) rfl rfl ?_
  refine r_iload_n X (pc := 6) (i := 3) (zw_dg dk_P_saying 4 rfl) rfl rfl ?_
  refine r_iload X (pc := 7) (i := 4) (zw_dg dk_P_saying 5 rfl) rfl ?_
  obtain ⟨r5, hr5, hsem⟩ := zw_bd hsem
  refine r_callVi X (pc := 9) (As := [_, _, _, _]) (st := []) (km_Sayings_numberOf hS hr5) ce_Sayings_numberOf kw_520 (zo hS 1 rfl rfl) rfl rfl ⟨Nat.le_of_ble_eq_true rfl, Nat.le_of_ble_eq_true rfl⟩ (Nat.le_of_ble_eq_true rfl) (zw_dg dk_P_saying 6 rfl) ?_
  cases hsem
  exact r_iret X (pc := 12) rfl (zw_dg dk_P_saying 7 rfl)
def y_P_turn : MethodName := ⟨R_P, "turn", "(II)I"⟩
abbrev b_P_turn : ByteArray := prog_1_method_5_code
def dl_P_turn : List (Nat × Instr × Nat) := [(0, .iload_n 1, 1), (1, .iconst 0, 1), (2, .bipush 12, 2), (4, .invokestatic 100, 3), (7, .ifCond .eq 16, 3), (10, .iload_n 2, 1), (11, .sipush (-9999), 3), (14, .sipush 9999, 3), (17, .invokestatic 100, 3), (20, .ifCond .ne 5, 3), (23, .iconst (-1), 1), (24, .ireturn, 1), (25, .aload_n 0, 1), (26, .getfield 29, 3), (29, .getfield 140, 3), (32, .iload_n 1, 1), (33, .iaload, 1), (34, .istore_n 3, 1), (35, .aload_n 0, 1), (36, .getfield 29, 3), (39, .getfield 140, 3), (42, .iload_n 1, 1), (43, .iload_n 2, 1), (44, .iastore, 1), (45, .aload_n 0, 1), (46, .getfield 53, 3), (49, .invokevirtual 144, 3), (52, .iload_n 3, 1), (53, .ireturn, 1)]
theorem dk_P_turn : zw_dk b_P_turn dl_P_turn = true := by decide +kernel
theorem ce_P_turn : zw_cev y_P_turn b_P_turn 4 (some .int) 2 := ⟨⟨kt_in 527 (by decide +kernel) rfl, kt_in 85 (by decide +kernel) rfl, by decide +kernel⟩, kt_in 525 (by decide +kernel) rfl, kt_in 526 (by decide +kernel) rfl⟩
def fn_P_turn (c : zw_Ct) (at1 : Int32) (v2 : Int32) : Option (Int32 × zw_Ct) :=
  if ((¬ (¬ (fn_P_within at1 0 12) = 0)) ∨ (¬ (¬ (fn_P_within v2 (-9999) 9999) = 0))) then
  (some ((-1), c))
  else
  ((zw_aI 13 c 4 at1).bind fun x6 =>
  (zw_uI 13 c 4 at1 v2).bind fun c7 =>
  (fn_Pays_turnChanged c7).bind fun c8 =>
  some (x6, c8))
set_option maxRecDepth 100000 in
theorem km_P_turn {l : Launch} {g : zw_G} {rr : zw_RR} {sh : zw_Sh} {c : zw_Ct} {at1 : Int32} {v2 : Int32} {r : Int32} {c2 : zw_Ct} (hS : zw_Ok 0 101 sh rr) (hsem : fn_P_turn c at1 v2 = some (r, c2)) : zw_Met l g y_P_turn b_P_turn 4 (some .int) 2 rr sh [.ref 0, .int at1, .int v2] c (some (.int r)) c2 := by
  unfold fn_P_turn at hsem
  refine zw_Met.of (by decide +kernel) (Nat.le_of_ble_eq_true rfl) (fun p e s m args below meth cd X => ?_)
  refine zw_eL (L2 := [some (.ref 0), some (.int at1), some (.int v2), none]) rfl ?_
  refine zw_cnd (P := ((¬ (¬ (fn_P_within at1 0 12) = 0)) ∨ (¬ (¬ (fn_P_within v2 (-9999) 9999) = 0)))) (J1 := 23) (J2 := 25) (st2 := []) (fun jT jF => ?_) (fun p3 => ?_) (fun p3 => ?_)
  · --
    refine r_iload_n X (pc := 0) (i := 1) (zw_dg dk_P_turn 0 rfl) rfl rfl ?_
    refine r_iconst X (pc := 1) (v := 0) (zw_dg dk_P_turn 1 rfl) (by decide) ?_
    refine r_bipush X (pc := 2) (v := 12) (zw_dg dk_P_turn 2 rfl) (by decide) ?_
    refine r_callSi X (pc := 4) (As := [_, _, _]) (st := []) (km_P_within hS rfl) ce_P_within kw_492 rfl ⟨Nat.le_of_ble_eq_true rfl, Nat.le_of_ble_eq_true rfl⟩ (Nat.le_of_ble_eq_true rfl) (zw_dg dk_P_turn 3 rfl) ?_
    refine r_if_eq X (pc := 7) (tgt := 23) (zw_dg dk_P_turn 4 rfl) (by decide) (fun q4 => ?_) (fun q4 => ?_)
    · --
      exact jT (Or.inl (fun z => z q4))
    · --
      refine r_iload_n X (pc := 10) (i := 2) (zw_dg dk_P_turn 5 rfl) rfl rfl ?_
      refine r_sipush X (pc := 11) (v := (-9999)) (zw_dg dk_P_turn 6 rfl) (by decide) ?_
      refine r_sipush X (pc := 14) (v := 9999) (zw_dg dk_P_turn 7 rfl) (by decide) ?_
      refine r_callSi X (pc := 17) (As := [_, _, _]) (st := []) (km_P_within hS rfl) ce_P_within kw_492 rfl ⟨Nat.le_of_ble_eq_true rfl, Nat.le_of_ble_eq_true rfl⟩ (Nat.le_of_ble_eq_true rfl) (zw_dg dk_P_turn 8 rfl) ?_
      refine r_if_ne X (pc := 20) (tgt := 25) (zw_dg dk_P_turn 9 rfl) (by decide) (fun q5 => ?_) (fun q5 => ?_)
      · --
        exact jF (fun q => q.elim (fun q => q q4) (fun q => q q5))
      · --
        exact jT (Or.inr (fun z => z q5))
  · --
    have hsem := zw_ifp p3 hsem
    refine r_iconst X (pc := 23) (v := (-1)) (zw_dg dk_P_turn 10 rfl) (by decide) ?_
    obtain ⟨rfl, rfl⟩ := zw_in2 hsem
    exact r_iret X (pc := 24) rfl (zw_dg dk_P_turn 11 rfl)
  · --
    have hsem := zw_ifn p3 hsem
    refine r_aload_n X (pc := 25) (i := 0) (zw_dg dk_P_turn 12 rfl) rfl rfl ?_
    refine r_getR X (pc := 26) (r := 3) ci_P (zo hS 0 rfl rfl) rfl (zr hS 0 1 rfl rfl) lk_P_29 (zw_dg dk_P_turn 13 rfl) ?_
    refine r_getR X (pc := 29) (r := 4) ci_Held (zo hS 3 rfl rfl) rfl (zr hS 3 0 rfl rfl) lk_P_140 (zw_dg dk_P_turn 14 rfl) ?_
    refine r_iload_n X (pc := 32) (i := 1) (zw_dg dk_P_turn 15 rfl) rfl rfl ?_
    obtain ⟨x6, hx6, hsem⟩ := zw_bd hsem
    refine r_iald X (pc := 33) (zo hS 4 rfl rfl) hx6 (zw_dg dk_P_turn 16 rfl) ?_
    refine r_istore_n X (pc := 34) (i := 3) (zw_dg dk_P_turn 17 rfl) rfl (by decide) rfl ?_
    refine r_aload_n X (pc := 35) (i := 0) (zw_dg dk_P_turn 18 rfl) rfl rfl ?_
    refine r_getR X (pc := 36) (r := 3) ci_P (zo hS 0 rfl rfl) rfl (zr hS 0 1 rfl rfl) lk_P_29 (zw_dg dk_P_turn 19 rfl) ?_
    refine r_getR X (pc := 39) (r := 4) ci_Held (zo hS 3 rfl rfl) rfl (zr hS 3 0 rfl rfl) lk_P_140 (zw_dg dk_P_turn 20 rfl) ?_
    refine r_iload_n X (pc := 42) (i := 1) (zw_dg dk_P_turn 21 rfl) rfl rfl ?_
    refine r_iload_n X (pc := 43) (i := 2) (zw_dg dk_P_turn 22 rfl) rfl rfl ?_
    obtain ⟨c7, hc7, hsem⟩ := zw_bd hsem
    refine r_iast X (pc := 44) (zo hS 4 rfl rfl) hc7 (zw_dg dk_P_turn 23 rfl) ?_
    refine r_aload_n X (pc := 45) (i := 0) (zw_dg dk_P_turn 24 rfl) rfl rfl ?_
    refine r_getR X (pc := 46) (r := 45) ci_P (zo hS 0 rfl rfl) rfl (zr hS 0 5 rfl rfl) lk_P_53 (zw_dg dk_P_turn 25 rfl) ?_
    obtain ⟨c8, hc8, hsem⟩ := zw_bd hsem
    refine r_callVv X (pc := 49) (As := []) (st := []) (km_Pays_turnChanged hS hc8) ce_Pays_turnChanged kw_528 (zo hS 45 rfl rfl) rfl rfl ⟨Nat.le_of_ble_eq_true rfl, Nat.le_of_ble_eq_true rfl⟩ (Nat.le_of_ble_eq_true rfl) (zw_dg dk_P_turn 26 rfl) ?_
    refine r_iload_n X (pc := 52) (i := 3) (zw_dg dk_P_turn 27 rfl) rfl rfl ?_
    obtain ⟨rfl, rfl⟩ := zw_in2 hsem
    exact r_iret X (pc := 53) rfl (zw_dg dk_P_turn 28 rfl)
def y_P_sheet : MethodName := ⟨R_P, "sheet", "(IIII)I"⟩
abbrev b_P_sheet : ByteArray := prog_1_method_6_code
def dl_P_sheet : List (Nat × Instr × Nat) := [(0, .iload_n 1, 1), (1, .iconst 0, 1), (2, .iconst 3, 1), (3, .invokestatic 100, 3), (6, .ifCond .eq 9, 3), (9, .iload_n 2, 1), (10, .bipush 13, 2), (12, .if_icmp .le 5, 3), (15, .iconst (-1), 1), (16, .ireturn, 1), (17, .iload_n 1, 1), (18, .iconst 3, 1), (19, .if_icmp .ne 7, 3), (22, .iconst 1, 1), (23, .goto 4, 3), (26, .iconst 0, 1), (27, .istore 5, 2), (29, .iload 5, 2), (31, .ifCond .ne 10, 3), (34, .iload_n 2, 1), (35, .ifCond .ge 6, 3), (38, .bipush (-2), 2), (40, .ireturn, 1), (41, .aload_n 0, 1), (42, .getfield 29, 3), (45, .iload_n 1, 1), (46, .iload 5, 2), (48, .ifCond .eq 7, 3), (51, .iconst 0, 1), (52, .goto 4, 3), (55, .iload_n 2, 1), (56, .iload_n 3, 1), (57, .iload 4, 2), (59, .invokevirtual 147, 3), (62, .istore 6, 2), (64, .aload_n 0, 1), (65, .getfield 53, 3), (68, .invokevirtual 144, 3), (71, .iload 5, 2), (73, .ifCond .eq 8, 3), (76, .bipush (-3), 2), (78, .goto 5, 3), (81, .iload 6, 2), (83, .ireturn, 1)]
theorem dk_P_sheet : zw_dk b_P_sheet dl_P_sheet = true := by decide +kernel
theorem ce_P_sheet : zw_cev y_P_sheet b_P_sheet 7 (some .int) 4 := ⟨⟨kt_in 532 (by decide +kernel) rfl, kt_in 85 (by decide +kernel) rfl, by decide +kernel⟩, kt_in 530 (by decide +kernel) rfl, kt_in 531 (by decide +kernel) rfl⟩
def fn_P_sheet (c : zw_Ct) (kind1 : Int32) (n2 : Int32) (f3 : Int32) (step4 : Int32) : Option (Int32 × zw_Ct) :=
  if ((¬ (¬ (fn_P_within kind1 0 3) = 0)) ∨ (13 < n2)) then
  (some ((-1), c))
  else
  ((some ((if (kind1 = 3) then (1 : Int32) else 0) : Int32)).bind fun missing9 =>
  if ((¬ (¬ missing9 = 0)) ∧ (n2 < 0)) then
  (some ((-2), c))
  else
  ((fn_Held_readSheet 3 c kind1 (if (¬ missing9 = 0) then (0 : Int32) else n2) f3 step4).bind fun (r14, c15) =>
  (fn_Pays_turnChanged c15).bind fun c16 =>
  some ((if (¬ missing9 = 0) then ((-3) : Int32) else r14), c16)))
set_option maxRecDepth 100000 in
theorem km_P_sheet {l : Launch} {g : zw_G} {rr : zw_RR} {sh : zw_Sh} {c : zw_Ct} {kind1 : Int32} {n2 : Int32} {f3 : Int32} {step4 : Int32} {r : Int32} {c2 : zw_Ct} (hS : zw_Ok 0 101 sh rr) (hsem : fn_P_sheet c kind1 n2 f3 step4 = some (r, c2)) : zw_Met l g y_P_sheet b_P_sheet 7 (some .int) 3 rr sh [.ref 0, .int kind1, .int n2, .int f3, .int step4] c (some (.int r)) c2 := by
  unfold fn_P_sheet at hsem
  refine zw_Met.of (by decide +kernel) (Nat.le_of_ble_eq_true rfl) (fun p e s m args below meth cd X => ?_)
  refine zw_eL (L2 := [some (.ref 0), some (.int kind1), some (.int n2), some (.int f3), some (.int step4), none, none]) rfl ?_
  refine zw_cnd (P := ((¬ (¬ (fn_P_within kind1 0 3) = 0)) ∨ (13 < n2))) (J1 := 15) (J2 := 17) (st2 := []) (fun jT jF => ?_) (fun p5 => ?_) (fun p5 => ?_)
  · --
    refine r_iload_n X (pc := 0) (i := 1) (zw_dg dk_P_sheet 0 rfl) rfl rfl ?_
    refine r_iconst X (pc := 1) (v := 0) (zw_dg dk_P_sheet 1 rfl) (by decide) ?_
    refine r_iconst X (pc := 2) (v := 3) (zw_dg dk_P_sheet 2 rfl) (by decide) ?_
    refine r_callSi X (pc := 3) (As := [_, _, _]) (st := []) (km_P_within hS rfl) ce_P_within kw_492 rfl ⟨Nat.le_of_ble_eq_true rfl, Nat.le_of_ble_eq_true rfl⟩ (Nat.le_of_ble_eq_true rfl) (zw_dg dk_P_sheet 3 rfl) ?_
    refine r_if_eq X (pc := 6) (tgt := 15) (zw_dg dk_P_sheet 4 rfl) (by decide) (fun q6 => ?_) (fun q6 => ?_)
    · --
      exact jT (Or.inl (fun z => z q6))
    · --
      refine r_iload_n X (pc := 9) (i := 2) (zw_dg dk_P_sheet 5 rfl) rfl rfl ?_
      refine r_bipush X (pc := 10) (v := 13) (zw_dg dk_P_sheet 6 rfl) (by decide) ?_
      refine r_icmp_le X (pc := 12) (tgt := 17) (zw_dg dk_P_sheet 7 rfl) (by decide) (fun q7 => ?_) (fun q7 => ?_)
      · --
        exact jF (fun q => q.elim (fun q => q q6) (Int32.not_lt.mpr q7))
      · --
        exact jT (Or.inr (Int32.not_le.mp q7))
  · --
    have hsem := zw_ifp p5 hsem
    refine r_iconst X (pc := 15) (v := (-1)) (zw_dg dk_P_sheet 8 rfl) (by decide) ?_
    obtain ⟨rfl, rfl⟩ := zw_in2 hsem
    exact r_iret X (pc := 16) rfl (zw_dg dk_P_sheet 9 rfl)
  · --
    have hsem := zw_ifn p5 hsem
    refine zw_ter (P := (kind1 = 3)) (f := Value.int) (x := 1) (y := 0) (J := 27) (st2 := []) (fun jT jF => ?_) ?_
    · --
      refine r_iload_n X (pc := 17) (i := 1) (zw_dg dk_P_sheet 10 rfl) rfl rfl ?_
      refine r_iconst X (pc := 18) (v := 3) (zw_dg dk_P_sheet 11 rfl) (by decide) ?_
      refine r_icmp_ne X (pc := 19) (tgt := 26) (zw_dg dk_P_sheet 12 rfl) (by decide) (fun q8 => ?_) (fun q8 => ?_)
      · --
        refine r_iconst X (pc := 26) (v := 0) (zw_dg dk_P_sheet 15 rfl) (by decide) ?_
        exact jF q8
      · --
        refine r_iconst X (pc := 22) (v := 1) (zw_dg dk_P_sheet 13 rfl) (by decide) ?_
        refine r_goto X (pc := 23) (tgt := 27) (zw_dg dk_P_sheet 14 rfl) (by decide) ?_
        exact jT q8
    obtain ⟨missing9, hmissing9, hsem⟩ := zw_bd hsem
    refine zw_topI hmissing9 ?_
    refine r_istore X (pc := 27) (i := 5) (zw_dg dk_P_sheet 16 rfl) (by decide) rfl ?_
    refine zw_cnd (P := ((¬ (¬ missing9 = 0)) ∧ (n2 < 0))) (J1 := 38) (J2 := 41) (st2 := []) (fun jT jF => ?_) (fun p10 => ?_) (fun p10 => ?_)
    · --
      refine r_iload X (pc := 29) (i := 5) (zw_dg dk_P_sheet 17 rfl) rfl ?_
      refine r_if_ne X (pc := 31) (tgt := 41) (zw_dg dk_P_sheet 18 rfl) (by decide) (fun q11 => ?_) (fun q11 => ?_)
      · --
        exact jF (fun q => (fun q => q q11) q.1)
      · --
        refine r_iload_n X (pc := 34) (i := 2) (zw_dg dk_P_sheet 19 rfl) rfl rfl ?_
        refine r_if_ge X (pc := 35) (tgt := 41) (zw_dg dk_P_sheet 20 rfl) (by decide) (fun q12 => ?_) (fun q12 => ?_)
        · --
          exact jF (fun q => (Int32.not_lt.mpr q12) q.2)
        · --
          exact jT ⟨(fun z => z q11), (Int32.not_le.mp q12)⟩
    · --
      have hsem := zw_ifp p10 hsem
      refine r_bipush X (pc := 38) (v := (-2)) (zw_dg dk_P_sheet 21 rfl) (by decide) ?_
      obtain ⟨rfl, rfl⟩ := zw_in2 hsem
      exact r_iret X (pc := 40) rfl (zw_dg dk_P_sheet 22 rfl)
    · --
      have hsem := zw_ifn p10 hsem
      refine r_aload_n X (pc := 41) (i := 0) (zw_dg dk_P_sheet 23 rfl) rfl rfl ?_
      refine r_getR X (pc := 42) (r := 3) ci_P (zo hS 0 rfl rfl) rfl (zr hS 0 1 rfl rfl) lk_P_29 (zw_dg dk_P_sheet 24 rfl) ?_
      refine r_iload_n X (pc := 45) (i := 1) (zw_dg dk_P_sheet 25 rfl) rfl rfl ?_
      refine zw_ter (P := (¬ missing9 = 0)) (f := Value.int) (x := 0) (y := n2) (J := 56) (st2 := [.int kind1, .ref 3]) (fun jT jF => ?_) ?_
      · --
        refine r_iload X (pc := 46) (i := 5) (zw_dg dk_P_sheet 26 rfl) rfl ?_
        refine r_if_eq X (pc := 48) (tgt := 55) (zw_dg dk_P_sheet 27 rfl) (by decide) (fun q13 => ?_) (fun q13 => ?_)
        · --
          refine r_iload_n X (pc := 55) (i := 2) (zw_dg dk_P_sheet 30 rfl) rfl rfl ?_
          exact jF (fun z => z q13)
        · --
          refine r_iconst X (pc := 51) (v := 0) (zw_dg dk_P_sheet 28 rfl) (by decide) ?_
          refine r_goto X (pc := 52) (tgt := 56) (zw_dg dk_P_sheet 29 rfl) (by decide) ?_
          exact jT q13
      refine r_iload_n X (pc := 56) (i := 3) (zw_dg dk_P_sheet 31 rfl) rfl rfl ?_
      refine r_iload X (pc := 57) (i := 4) (zw_dg dk_P_sheet 32 rfl) rfl ?_
      obtain ⟨⟨r14, c15⟩, hr14_c15, hsem⟩ := zw_bd hsem
      refine r_callVi X (pc := 59) (As := [_, _, _, _]) (st := []) (km_Held_readSheet (zho hS 3 rfl) hr14_c15) ce_Held_readSheet kw_533 (zo hS 3 rfl rfl) rfl rfl ⟨Nat.le_of_ble_eq_true rfl, Nat.le_of_ble_eq_true rfl⟩ (Nat.le_of_ble_eq_true rfl) (zw_dg dk_P_sheet 33 rfl) ?_
      refine r_istore X (pc := 62) (i := 6) (zw_dg dk_P_sheet 34 rfl) (by decide) rfl ?_
      refine r_aload_n X (pc := 64) (i := 0) (zw_dg dk_P_sheet 35 rfl) rfl rfl ?_
      refine r_getR X (pc := 65) (r := 45) ci_P (zo hS 0 rfl rfl) rfl (zr hS 0 5 rfl rfl) lk_P_53 (zw_dg dk_P_sheet 36 rfl) ?_
      obtain ⟨c16, hc16, hsem⟩ := zw_bd hsem
      refine r_callVv X (pc := 68) (As := []) (st := []) (km_Pays_turnChanged hS hc16) ce_Pays_turnChanged kw_528 (zo hS 45 rfl rfl) rfl rfl ⟨Nat.le_of_ble_eq_true rfl, Nat.le_of_ble_eq_true rfl⟩ (Nat.le_of_ble_eq_true rfl) (zw_dg dk_P_sheet 37 rfl) ?_
      refine zw_ter (P := (¬ missing9 = 0)) (f := Value.int) (x := (-3)) (y := r14) (J := 83) (st2 := []) (fun jT jF => ?_) ?_
      · --
        refine r_iload X (pc := 71) (i := 5) (zw_dg dk_P_sheet 38 rfl) rfl ?_
        refine r_if_eq X (pc := 73) (tgt := 81) (zw_dg dk_P_sheet 39 rfl) (by decide) (fun q17 => ?_) (fun q17 => ?_)
        · --
          refine r_iload X (pc := 81) (i := 6) (zw_dg dk_P_sheet 42 rfl) rfl ?_
          exact jF (fun z => z q17)
        · --
          refine r_bipush X (pc := 76) (v := (-3)) (zw_dg dk_P_sheet 40 rfl) (by decide) ?_
          refine r_goto X (pc := 78) (tgt := 83) (zw_dg dk_P_sheet 41 rfl) (by decide) ?_
          exact jT q17
      obtain ⟨rfl, rfl⟩ := zw_in2 hsem
      exact r_iret X (pc := 83) rfl (zw_dg dk_P_sheet 43 rfl)
def y_P_sign : MethodName := ⟨R_P, "sign", "(I)I"⟩
abbrev b_P_sign : ByteArray := prog_1_method_7_code
def dl_P_sign : List (Nat × Instr × Nat) := [(0, .aload_n 0, 1), (1, .getfield 44, 3), (4, .iload_n 1, 1), (5, .invokevirtual 150, 3), (8, .ireturn, 1)]
theorem dk_P_sign : zw_dk b_P_sign dl_P_sign = true := by decide +kernel
theorem ce_P_sign : zw_cev y_P_sign b_P_sign 2 (some .int) 1 := ⟨⟨kt_in 537 (by decide +kernel) rfl, kt_in 85 (by decide +kernel) rfl, by decide +kernel⟩, kt_in 535 (by decide +kernel) rfl, kt_in 536 (by decide +kernel) rfl⟩
def fn_P_sign (c : zw_Ct) (v1 : Int32) : Option (Int32 × zw_Ct) :=
  (fn_Text_addFour c v1).bind fun (r2, c3) =>
  some (r2, c3)
set_option maxRecDepth 100000 in
theorem km_P_sign {l : Launch} {g : zw_G} {rr : zw_RR} {sh : zw_Sh} {c : zw_Ct} {v1 : Int32} {r : Int32} {c2 : zw_Ct} (hS : zw_Ok 0 101 sh rr) (hsem : fn_P_sign c v1 = some (r, c2)) : zw_Met l g y_P_sign b_P_sign 2 (some .int) 2 rr sh [.ref 0, .int v1] c (some (.int r)) c2 := by
  unfold fn_P_sign at hsem
  refine zw_Met.of (by decide +kernel) (Nat.le_of_ble_eq_true rfl) (fun p e s m args below meth cd X => ?_)
  refine zw_eL (L2 := [some (.ref 0), some (.int v1)]) rfl ?_
  refine r_aload_n X (pc := 0) (i := 0) (zw_dg dk_P_sign 0 rfl) rfl rfl ?_
  refine r_getR X (pc := 1) (r := 40) ci_P (zo hS 0 rfl rfl) rfl (zr hS 0 4 rfl rfl) lk_P_44 (zw_dg dk_P_sign 1 rfl) ?_
  refine r_iload_n X (pc := 4) (i := 1) (zw_dg dk_P_sign 2 rfl) rfl rfl ?_
  obtain ⟨⟨r2, c3⟩, hr2_c3, hsem⟩ := zw_bd hsem
  refine r_callVi X (pc := 5) (As := [_]) (st := []) (km_Text_addFour hS hr2_c3) ce_Text_addFour kw_538 (zo hS 40 rfl rfl) rfl rfl ⟨Nat.le_of_ble_eq_true rfl, Nat.le_of_ble_eq_true rfl⟩ (Nat.le_of_ble_eq_true rfl) (zw_dg dk_P_sign 3 rfl) ?_
  obtain ⟨rfl, rfl⟩ := zw_in2 hsem
  exact r_iret X (pc := 8) rfl (zw_dg dk_P_sign 4 rfl)
def y_P_end : MethodName := ⟨R_P, "end", "(I)Z"⟩
abbrev b_P_end : ByteArray := prog_1_method_8_code
def dl_P_end : List (Nat × Instr × Nat) := [(0, .aload_n 0, 1), (1, .getfield 44, 3), (4, .iload_n 1, 1), (5, .invokevirtual 154, 3), (8, .ireturn, 1)]
theorem dk_P_end : zw_dk b_P_end dl_P_end = true := by decide +kernel
theorem ce_P_end : zw_cev y_P_end b_P_end 2 (some .boolean) 1 := ⟨⟨kt_in 545 (by decide +kernel) rfl, kt_in 85 (by decide +kernel) rfl, by decide +kernel⟩, kt_in 543 (by decide +kernel) rfl, kt_in 544 (by decide +kernel) rfl⟩
def fn_P_end (c : zw_Ct) (n1 : Int32) : Option (Int32 × zw_Ct) :=
  (fn_Text_cutTo c n1).bind fun (r2, c3) =>
  (zw_bz r2).bind fun z4 =>
  some (z4, c3)
set_option maxRecDepth 100000 in
theorem km_P_end {l : Launch} {g : zw_G} {rr : zw_RR} {sh : zw_Sh} {c : zw_Ct} {n1 : Int32} {r : Int32} {c2 : zw_Ct} (hS : zw_Ok 0 101 sh rr) (hsem : fn_P_end c n1 = some (r, c2)) : zw_Met l g y_P_end b_P_end 2 (some .boolean) 2 rr sh [.ref 0, .int n1] c (some (.int r)) c2 := by
  unfold fn_P_end at hsem
  refine zw_Met.of (by decide +kernel) (Nat.le_of_ble_eq_true rfl) (fun p e s m args below meth cd X => ?_)
  refine zw_eL (L2 := [some (.ref 0), some (.int n1)]) rfl ?_
  refine r_aload_n X (pc := 0) (i := 0) (zw_dg dk_P_end 0 rfl) rfl rfl ?_
  refine r_getR X (pc := 1) (r := 40) ci_P (zo hS 0 rfl rfl) rfl (zr hS 0 4 rfl rfl) lk_P_44 (zw_dg dk_P_end 1 rfl) ?_
  refine r_iload_n X (pc := 4) (i := 1) (zw_dg dk_P_end 2 rfl) rfl rfl ?_
  obtain ⟨⟨r2, c3⟩, hr2_c3, hsem⟩ := zw_bd hsem
  refine r_callVi X (pc := 5) (As := [_]) (st := []) (km_Text_cutTo hS hr2_c3) ce_Text_cutTo kw_546 (zo hS 40 rfl rfl) rfl rfl ⟨Nat.le_of_ble_eq_true rfl, Nat.le_of_ble_eq_true rfl⟩ (Nat.le_of_ble_eq_true rfl) (zw_dg dk_P_end 3 rfl) ?_
  obtain ⟨z4, hz4, hsem⟩ := zw_bd hsem
  obtain ⟨hzz4, hz4⟩ := zw_bz_of hz4
  refine zw_eqtI hz4 ?_
  have hbz : (z4 : Int32) = 0 ∨ (z4 : Int32) = 1 := (by rw [← hz4]; exact hzz4)
  obtain ⟨rfl, rfl⟩ := zw_in2 hsem
  exact r_zret X (pc := 8) rfl (zw_bzn hbz).1 (zw_dg dk_P_end 4 rfl)
def y_P_tellPay : MethodName := ⟨R_P, "tellPay", "(I)I"⟩
abbrev b_P_tellPay : ByteArray := prog_1_method_57_code
def dl_P_tellPay : List (Nat × Instr × Nat) := [(0, .aload_n 0, 1), (1, .getfield 44, 3), (4, .getfield 373, 3), (7, .ifCond .ne 13, 3), (10, .aload_n 0, 1), (11, .getfield 53, 3), (14, .iload_n 1, 1), (15, .invokevirtual 382, 3), (18, .iconst 0, 1), (19, .ireturn, 1), (20, .aload_n 0, 1), (21, .getfield 44, 3), (24, .invokevirtual 386, 3), (27, .istore_n 2, 1), (28, .iload_n 2, 1), (29, .iconst (-1), 1), (30, .if_icmp .eq 7, 3), (33, .iconst (-1), 1), (34, .iload_n 2, 1), (35, .isub, 1), (36, .ireturn, 1), (37, .aload_n 0, 1), (38, .getfield 53, 3), (41, .iload_n 1, 1), (42, .aload_n 0, 1), (43, .getfield 44, 3), (46, .invokevirtual 389, 3), (49, .iconst 0, 1), (50, .ireturn, 1)]
theorem dk_P_tellPay : zw_dk b_P_tellPay dl_P_tellPay = true := by decide +kernel
theorem ce_P_tellPay : zw_cev y_P_tellPay b_P_tellPay 3 (some .int) 1 := ⟨⟨kt_in 557 (by decide +kernel) rfl, kt_in 85 (by decide +kernel) rfl, by decide +kernel⟩, kt_in 556 (by decide +kernel) rfl, kt_in 1 (by decide +kernel) rfl⟩
def fn_P_tellPay (c : zw_Ct) (i1 : Int32) : Option (Int32 × zw_Ct) :=
  if ((c.1 40 1) = 0) then
  ((fn_Pays_drop c i1).bind fun c9 =>
  some (0, c9))
  else
  ((fn_Text_firstWrong c).bind fun (r4, c5) =>
  if (¬ r4 = (-1)) then
  (some (((-1) - r4), c5))
  else
  ((fn_Pays_tell c5 i1).bind fun c8 =>
  some (0, c8)))
set_option maxRecDepth 100000 in
theorem km_P_tellPay {l : Launch} {g : zw_G} {rr : zw_RR} {sh : zw_Sh} {c : zw_Ct} {i1 : Int32} {r : Int32} {c2 : zw_Ct} (hS : zw_Ok 0 101 sh rr) (hsem : fn_P_tellPay c i1 = some (r, c2)) : zw_Met l g y_P_tellPay b_P_tellPay 3 (some .int) 7 rr sh [.ref 0, .int i1] c (some (.int r)) c2 := by
  unfold fn_P_tellPay at hsem
  refine zw_Met.of (by decide +kernel) (Nat.le_of_ble_eq_true rfl) (fun p e s m args below meth cd X => ?_)
  refine zw_eL (L2 := [some (.ref 0), some (.int i1), none]) rfl ?_
  refine r_aload_n X (pc := 0) (i := 0) (zw_dg dk_P_tellPay 0 rfl) rfl rfl ?_
  refine r_getR X (pc := 1) (r := 40) ci_P (zo hS 0 rfl rfl) rfl (zr hS 0 4 rfl rfl) lk_P_44 (zw_dg dk_P_tellPay 1 rfl) ?_
  refine r_getI X (pc := 4) ci_Text (zo hS 40 rfl rfl) rfl lk_P_373 (zw_dg dk_P_tellPay 2 rfl) ?_
  refine r_if_ne X (pc := 7) (tgt := 20) (zw_dg dk_P_tellPay 3 rfl) (by decide) (fun q3 => ?_) (fun q3 => ?_)
  · --
    have p2 : ¬ ((c.1 40 1) = 0) := q3
    have hsem := zw_ifn p2 hsem
    refine r_aload_n X (pc := 20) (i := 0) (zw_dg dk_P_tellPay 10 rfl) rfl rfl ?_
    refine r_getR X (pc := 21) (r := 40) ci_P (zo hS 0 rfl rfl) rfl (zr hS 0 4 rfl rfl) lk_P_44 (zw_dg dk_P_tellPay 11 rfl) ?_
    obtain ⟨⟨r4, c5⟩, hr4_c5, hsem⟩ := zw_bd hsem
    refine r_callVi X (pc := 24) (As := []) (st := []) (km_Text_firstWrong hS hr4_c5) ce_Text_firstWrong kw_559 (zo hS 40 rfl rfl) rfl rfl ⟨Nat.le_of_ble_eq_true rfl, Nat.le_of_ble_eq_true rfl⟩ (Nat.le_of_ble_eq_true rfl) (zw_dg dk_P_tellPay 12 rfl) ?_
    refine r_istore_n X (pc := 27) (i := 2) (zw_dg dk_P_tellPay 13 rfl) rfl (by decide) rfl ?_
    refine r_iload_n X (pc := 28) (i := 2) (zw_dg dk_P_tellPay 14 rfl) rfl rfl ?_
    refine r_iconst X (pc := 29) (v := (-1)) (zw_dg dk_P_tellPay 15 rfl) (by decide) ?_
    refine r_icmp_eq X (pc := 30) (tgt := 37) (zw_dg dk_P_tellPay 16 rfl) (by decide) (fun q7 => ?_) (fun q7 => ?_)
    · --
      have p6 : ¬ (¬ r4 = (-1)) := (fun z => z q7)
      have hsem := zw_ifn p6 hsem
      refine r_aload_n X (pc := 37) (i := 0) (zw_dg dk_P_tellPay 21 rfl) rfl rfl ?_
      refine r_getR X (pc := 38) (r := 45) ci_P (zo hS 0 rfl rfl) rfl (zr hS 0 5 rfl rfl) lk_P_53 (zw_dg dk_P_tellPay 22 rfl) ?_
      refine r_iload_n X (pc := 41) (i := 1) (zw_dg dk_P_tellPay 23 rfl) rfl rfl ?_
      refine r_aload_n X (pc := 42) (i := 0) (zw_dg dk_P_tellPay 24 rfl) rfl rfl ?_
      refine r_getR X (pc := 43) (r := 40) ci_P (zo hS 0 rfl rfl) rfl (zr hS 0 4 rfl rfl) lk_P_44 (zw_dg dk_P_tellPay 25 rfl) ?_
      obtain ⟨c8, hc8, hsem⟩ := zw_bd hsem
      refine r_callVv X (pc := 46) (As := [_, _]) (st := []) (km_Pays_tell hS hc8) ce_Pays_tell kw_689 (zo hS 45 rfl rfl) rfl rfl ⟨Nat.le_of_ble_eq_true rfl, Nat.le_of_ble_eq_true rfl⟩ (Nat.le_of_ble_eq_true rfl) (zw_dg dk_P_tellPay 26 rfl) ?_
      refine r_iconst X (pc := 49) (v := 0) (zw_dg dk_P_tellPay 27 rfl) (by decide) ?_
      obtain ⟨rfl, rfl⟩ := zw_in2 hsem
      exact r_iret X (pc := 50) rfl (zw_dg dk_P_tellPay 28 rfl)
    · --
      have p6 : (¬ r4 = (-1)) := q7
      have hsem := zw_ifp p6 hsem
      refine r_iconst X (pc := 33) (v := (-1)) (zw_dg dk_P_tellPay 17 rfl) (by decide) ?_
      refine r_iload_n X (pc := 34) (i := 2) (zw_dg dk_P_tellPay 18 rfl) rfl rfl ?_
      refine r_isub X (pc := 35) (zw_dg dk_P_tellPay 19 rfl)  ?_
      obtain ⟨rfl, rfl⟩ := zw_in2 hsem
      exact r_iret X (pc := 36) rfl (zw_dg dk_P_tellPay 20 rfl)
  · --
    have p2 : ((c.1 40 1) = 0) := q3
    have hsem := zw_ifp p2 hsem
    refine r_aload_n X (pc := 10) (i := 0) (zw_dg dk_P_tellPay 4 rfl) rfl rfl ?_
    refine r_getR X (pc := 11) (r := 45) ci_P (zo hS 0 rfl rfl) rfl (zr hS 0 5 rfl rfl) lk_P_53 (zw_dg dk_P_tellPay 5 rfl) ?_
    refine r_iload_n X (pc := 14) (i := 1) (zw_dg dk_P_tellPay 6 rfl) rfl rfl ?_
    obtain ⟨c9, hc9, hsem⟩ := zw_bd hsem
    refine r_callVv X (pc := 15) (As := [_]) (st := []) (km_Pays_drop hS hc9) ce_Pays_drop kw_558 (zo hS 45 rfl rfl) rfl rfl ⟨Nat.le_of_ble_eq_true rfl, Nat.le_of_ble_eq_true rfl⟩ (Nat.le_of_ble_eq_true rfl) (zw_dg dk_P_tellPay 7 rfl) ?_
    refine r_iconst X (pc := 18) (v := 0) (zw_dg dk_P_tellPay 8 rfl) (by decide) ?_
    obtain ⟨rfl, rfl⟩ := zw_in2 hsem
    exact r_iret X (pc := 19) rfl (zw_dg dk_P_tellPay 9 rfl)
def y_P_pay : MethodName := ⟨R_P, "pay", "(I)I"⟩
abbrev b_P_pay : ByteArray := prog_1_method_9_code
def dl_P_pay : List (Nat × Instr × Nat) := [(0, .iload_n 1, 1), (1, .iconst 0, 1), (2, .iconst 3, 1), (3, .invokestatic 100, 3), (6, .ifCond .eq 11, 3), (9, .aload_n 0, 1), (10, .iload_n 1, 1), (11, .invokevirtual 157, 3), (14, .goto 5, 3), (17, .bipush (-100), 2), (19, .istore_n 2, 1), (20, .aload_n 0, 1), (21, .getfield 44, 3), (24, .invokevirtual 160, 3), (27, .iload_n 2, 1), (28, .ireturn, 1)]
theorem dk_P_pay : zw_dk b_P_pay dl_P_pay = true := by decide +kernel
theorem ce_P_pay : zw_cev y_P_pay b_P_pay 3 (some .int) 1 := ⟨⟨kt_in 553 (by decide +kernel) rfl, kt_in 85 (by decide +kernel) rfl, by decide +kernel⟩, kt_in 551 (by decide +kernel) rfl, kt_in 552 (by decide +kernel) rfl⟩
def fn_P_pay (c : zw_Ct) (i1 : Int32) : Option (Int32 × zw_Ct) :=
  (if (¬ (fn_P_within i1 0 3) = 0) then
  ((fn_P_tellPay c i1).bind fun (r6, c7) =>
  some ((r6 : Int32), c7))
  else
  (some (((-100) : Int32), c))).bind fun (v2, c3) =>
  (fn_Text_empty c3).bind fun c8 =>
  some (v2, c8)
set_option maxRecDepth 100000 in
theorem km_P_pay {l : Launch} {g : zw_G} {rr : zw_RR} {sh : zw_Sh} {c : zw_Ct} {i1 : Int32} {r : Int32} {c2 : zw_Ct} (hS : zw_Ok 0 101 sh rr) (hsem : fn_P_pay c i1 = some (r, c2)) : zw_Met l g y_P_pay b_P_pay 3 (some .int) 8 rr sh [.ref 0, .int i1] c (some (.int r)) c2 := by
  unfold fn_P_pay at hsem
  refine zw_Met.of (by decide +kernel) (Nat.le_of_ble_eq_true rfl) (fun p e s m args below meth cd X => ?_)
  refine zw_eL (L2 := [some (.ref 0), some (.int i1), none]) rfl ?_
  obtain ⟨⟨v2, c3⟩, hv2, hsv2⟩ := zw_bd hsem
  refine zw_terO (f := Value.int) (v := v2) (J := 19) (st2 := []) (c2 := c3) (fun jj => ?_) ?_
  · have hsem := hv2
    refine r_iload_n X (pc := 0) (i := 1) (zw_dg dk_P_pay 0 rfl) rfl rfl ?_
    refine r_iconst X (pc := 1) (v := 0) (zw_dg dk_P_pay 1 rfl) (by decide) ?_
    refine r_iconst X (pc := 2) (v := 3) (zw_dg dk_P_pay 2 rfl) (by decide) ?_
    refine r_callSi X (pc := 3) (As := [_, _, _]) (st := []) (km_P_within hS rfl) ce_P_within kw_492 rfl ⟨Nat.le_of_ble_eq_true rfl, Nat.le_of_ble_eq_true rfl⟩ (Nat.le_of_ble_eq_true rfl) (zw_dg dk_P_pay 3 rfl) ?_
    refine r_if_eq X (pc := 6) (tgt := 17) (zw_dg dk_P_pay 4 rfl) (by decide) (fun q5 => ?_) (fun q5 => ?_)
    · --
      have p4 : ¬ (¬ (fn_P_within i1 0 3) = 0) := (fun z => z q5)
      have hsem := zw_ifn p4 hsem
      refine r_bipush X (pc := 17) (v := (-100)) (zw_dg dk_P_pay 9 rfl) (by decide) ?_
      cases hsem; exact jj
    · --
      have p4 : (¬ (fn_P_within i1 0 3) = 0) := q5
      have hsem := zw_ifp p4 hsem
      refine r_aload_n X (pc := 9) (i := 0) (zw_dg dk_P_pay 5 rfl) rfl rfl ?_
      refine r_iload_n X (pc := 10) (i := 1) (zw_dg dk_P_pay 6 rfl) rfl rfl ?_
      obtain ⟨⟨r6, c7⟩, hr6_c7, hsem⟩ := zw_bd hsem
      refine r_callVi X (pc := 11) (As := [_]) (st := []) (km_P_tellPay hS hr6_c7) ce_P_tellPay kw_554 (zo hS 0 rfl rfl) rfl rfl ⟨Nat.le_of_ble_eq_true rfl, Nat.le_of_ble_eq_true rfl⟩ (Nat.le_of_ble_eq_true rfl) (zw_dg dk_P_pay 7 rfl) ?_
      refine r_goto X (pc := 14) (tgt := 19) (zw_dg dk_P_pay 8 rfl) (by decide) ?_
      cases hsem; exact jj
  have hsem := hsv2
  refine r_istore_n X (pc := 19) (i := 2) (zw_dg dk_P_pay 10 rfl) rfl (by decide) rfl ?_
  refine r_aload_n X (pc := 20) (i := 0) (zw_dg dk_P_pay 11 rfl) rfl rfl ?_
  refine r_getR X (pc := 21) (r := 40) ci_P (zo hS 0 rfl rfl) rfl (zr hS 0 4 rfl rfl) lk_P_44 (zw_dg dk_P_pay 12 rfl) ?_
  obtain ⟨c8, hc8, hsem⟩ := zw_bd hsem
  refine r_callVv X (pc := 24) (As := []) (st := []) (km_Text_empty hS hc8) ce_Text_empty kw_696 (zo hS 40 rfl rfl) rfl rfl ⟨Nat.le_of_ble_eq_true rfl, Nat.le_of_ble_eq_true rfl⟩ (Nat.le_of_ble_eq_true rfl) (zw_dg dk_P_pay 13 rfl) ?_
  refine r_iload_n X (pc := 27) (i := 2) (zw_dg dk_P_pay 14 rfl) rfl rfl ?_
  obtain ⟨rfl, rfl⟩ := zw_in2 hsem
  exact r_iret X (pc := 28) rfl (zw_dg dk_P_pay 15 rfl)
def y_P_ends : MethodName := ⟨R_P, "ends", "(I)I"⟩
abbrev b_P_ends : ByteArray := prog_1_method_11_code
def dl_P_ends : List (Nat × Instr × Nat) := [(0, .aload_n 0, 1), (1, .getfield 53, 3), (4, .iload_n 1, 1), (5, .invokevirtual 163, 3), (8, .astore_n 2, 1), (9, .aload_n 2, 1), (10, .ifnonnull 5, 3), (13, .iconst (-1), 1), (14, .ireturn, 1), (15, .aload_n 0, 1), (16, .getfield 53, 3), (19, .aload_n 2, 1), (20, .invokevirtual 169, 3), (23, .istore_n 3, 1), (24, .aload_n 0, 1), (25, .getfield 60, 3), (28, .invokevirtual 173, 3), (31, .aload_n 0, 1), (32, .getfield 60, 3), (35, .aload_n 2, 1), (36, .iload_n 3, 1), (37, .iaload, 1), (38, .i2l, 1), (39, .invokevirtual 176, 3), (42, .aload_n 0, 1), (43, .getfield 60, 3), (46, .aload_n 0, 1), (47, .getfield 53, 3), (50, .aload_n 2, 1), (51, .invokevirtual 180, 3), (54, .i2l, 1), (55, .invokevirtual 176, 3), (58, .aload_n 0, 1), (59, .getfield 60, 3), (62, .iload_n 3, 1), (63, .iconst 4, 1), (64, .idiv, 1), (65, .i2l, 1), (66, .invokevirtual 176, 3), (69, .aload_n 0, 1), (70, .getfield 60, 3), (73, .iload_n 3, 1), (74, .iconst 4, 1), (75, .irem, 1), (76, .i2l, 1), (77, .invokevirtual 176, 3), (80, .iconst 0, 1), (81, .ireturn, 1)]
theorem dk_P_ends : zw_dk b_P_ends dl_P_ends = true := by decide +kernel
theorem ce_P_ends : zw_cev y_P_ends b_P_ends 4 (some .int) 1 := ⟨⟨kt_in 704 (by decide +kernel) rfl, kt_in 85 (by decide +kernel) rfl, by decide +kernel⟩, kt_in 702 (by decide +kernel) rfl, kt_in 703 (by decide +kernel) rfl⟩
def fn_P_ends (c : zw_Ct) (pay1 : Int32) : Option (Int32 × zw_Ct) :=
  (fn_Pays_valuesOf c pay1).bind fun (r2, c3) =>
  if (r2 = none) then
  (some ((-1), c3))
  else
  ((r2).bind fun a6 =>
  (fn_Pays_leastAt c3 a6).bind fun r7 =>
  (fn_Row_clear c3).bind fun c8 =>
  (zw_dI SH 0 c8 a6 r7).bind fun x9 =>
  (fn_Row_add c8 x9.toInt64).bind fun c10 =>
  (fn_Pays_greatestOf c10 a6).bind fun r11 =>
  (fn_Row_add c10 r11.toInt64).bind fun c12 =>
  (fn_Row_add c12 ((r7 / 4)).toInt64).bind fun c13 =>
  (fn_Row_add c13 ((r7 - r7 / 4 * 4)).toInt64).bind fun c14 =>
  some (0, c14))
set_option maxRecDepth 100000 in
theorem km_P_ends {l : Launch} {g : zw_G} {rr : zw_RR} {sh : zw_Sh} {c : zw_Ct} {pay1 : Int32} {r : Int32} {c2 : zw_Ct} (hS : zw_Ok 0 101 sh rr) (hsem : fn_P_ends c pay1 = some (r, c2)) : zw_Met l g y_P_ends b_P_ends 4 (some .int) 5 rr sh [.ref 0, .int pay1] c (some (.int r)) c2 := by
  unfold fn_P_ends at hsem
  refine zw_Met.of (by decide +kernel) (Nat.le_of_ble_eq_true rfl) (fun p e s m args below meth cd X => ?_)
  refine zw_eL (L2 := [some (.ref 0), some (.int pay1), none, none]) rfl ?_
  refine r_aload_n X (pc := 0) (i := 0) (zw_dg dk_P_ends 0 rfl) rfl rfl ?_
  refine r_getR X (pc := 1) (r := 45) ci_P (zo hS 0 rfl rfl) rfl (zr hS 0 5 rfl rfl) lk_P_53 (zw_dg dk_P_ends 1 rfl) ?_
  refine r_iload_n X (pc := 4) (i := 1) (zw_dg dk_P_ends 2 rfl) rfl rfl ?_
  obtain ⟨⟨r2, c3⟩, hr2_c3, hsem⟩ := zw_bd hsem
  refine r_callVO X (pc := 5) (As := [_]) (st := []) (km_Pays_valuesOf hS hr2_c3) ce_Pays_valuesOf kw_705 (zo hS 45 rfl rfl) rfl rfl ⟨Nat.le_of_ble_eq_true rfl, Nat.le_of_ble_eq_true rfl⟩ (Nat.le_of_ble_eq_true rfl) (zw_dg dk_P_ends 3 rfl) ?_
  refine r_astore_nO X (pc := 8) (i := 2) (zw_dg dk_P_ends 4 rfl) rfl (by decide) rfl ?_
  refine r_aload_nO X (pc := 9) (i := 2) (zw_dg dk_P_ends 5 rfl) rfl rfl ?_
  refine r_ifnonnull X (pc := 10) (tgt := 15) (zw_dg dk_P_ends 6 rfl) (by decide) (fun q5 => ?_) (fun q5 => ?_)
  · --
    have p4 : ¬ (r2 = none) := q5
    have hsem := zw_ifn p4 hsem
    refine r_aload_n X (pc := 15) (i := 0) (zw_dg dk_P_ends 9 rfl) rfl rfl ?_
    refine r_getR X (pc := 16) (r := 45) ci_P (zo hS 0 rfl rfl) rfl (zr hS 0 5 rfl rfl) lk_P_53 (zw_dg dk_P_ends 10 rfl) ?_
    refine r_aload_nO X (pc := 19) (i := 2) (zw_dg dk_P_ends 11 rfl) rfl rfl ?_
    obtain ⟨a6, ha6, hs_a6⟩ := zw_bd hsem
    subst ha6
    have hsem := hs_a6
    obtain ⟨r7, hr7, hsem⟩ := zw_bd hsem
    refine r_callVi X (pc := 20) (As := [_]) (st := []) (km_Pays_leastAt hS hr7) ce_Pays_leastAt kw_737 (zo hS 45 rfl rfl) rfl rfl ⟨Nat.le_of_ble_eq_true rfl, Nat.le_of_ble_eq_true rfl⟩ (Nat.le_of_ble_eq_true rfl) (zw_dg dk_P_ends 12 rfl) ?_
    refine r_istore_n X (pc := 23) (i := 3) (zw_dg dk_P_ends 13 rfl) rfl (by decide) rfl ?_
    refine r_aload_n X (pc := 24) (i := 0) (zw_dg dk_P_ends 14 rfl) rfl rfl ?_
    refine r_getR X (pc := 25) (r := 61) ci_P (zo hS 0 rfl rfl) rfl (zr hS 0 6 rfl rfl) lk_P_60 (zw_dg dk_P_ends 15 rfl) ?_
    obtain ⟨c8, hc8, hsem⟩ := zw_bd hsem
    refine r_callVv X (pc := 28) (As := []) (st := []) (km_Row_clear hS hc8) ce_Row_clear kw_741 (zo hS 61 rfl rfl) rfl rfl ⟨Nat.le_of_ble_eq_true rfl, Nat.le_of_ble_eq_true rfl⟩ (Nat.le_of_ble_eq_true rfl) (zw_dg dk_P_ends 16 rfl) ?_
    refine r_aload_n X (pc := 31) (i := 0) (zw_dg dk_P_ends 17 rfl) rfl rfl ?_
    refine r_getR X (pc := 32) (r := 61) ci_P (zo hS 0 rfl rfl) rfl (zr hS 0 6 rfl rfl) lk_P_60 (zw_dg dk_P_ends 18 rfl) ?_
    refine r_aload_n X (pc := 35) (i := 2) (zw_dg dk_P_ends 19 rfl) rfl rfl ?_
    refine r_iload_n X (pc := 36) (i := 3) (zw_dg dk_P_ends 20 rfl) rfl rfl ?_
    obtain ⟨x9, hx9, hsem⟩ := zw_bd hsem
    obtain ⟨_, hnx9, hx9⟩ := zw_bd hx9
    refine r_iald X (pc := 37) (zd hS (zw_len_of hnx9)) hx9 (zw_dg dk_P_ends 21 rfl) ?_
    refine r_i2l X (pc := 38) (zw_dg dk_P_ends 22 rfl)  ?_
    obtain ⟨c10, hc10, hsem⟩ := zw_bd hsem
    refine r_callVv X (pc := 39) (As := [_]) (st := []) (km_Row_add hS hc10) ce_Row_add kw_745 (zo hS 61 rfl rfl) rfl rfl ⟨Nat.le_of_ble_eq_true rfl, Nat.le_of_ble_eq_true rfl⟩ (Nat.le_of_ble_eq_true rfl) (zw_dg dk_P_ends 23 rfl) ?_
    refine r_aload_n X (pc := 42) (i := 0) (zw_dg dk_P_ends 24 rfl) rfl rfl ?_
    refine r_getR X (pc := 43) (r := 61) ci_P (zo hS 0 rfl rfl) rfl (zr hS 0 6 rfl rfl) lk_P_60 (zw_dg dk_P_ends 25 rfl) ?_
    refine r_aload_n X (pc := 46) (i := 0) (zw_dg dk_P_ends 26 rfl) rfl rfl ?_
    refine r_getR X (pc := 47) (r := 45) ci_P (zo hS 0 rfl rfl) rfl (zr hS 0 5 rfl rfl) lk_P_53 (zw_dg dk_P_ends 27 rfl) ?_
    refine r_aload_n X (pc := 50) (i := 2) (zw_dg dk_P_ends 28 rfl) rfl rfl ?_
    obtain ⟨r11, hr11, hsem⟩ := zw_bd hsem
    refine r_callVi X (pc := 51) (As := [_]) (st := [.ref 61]) (km_Pays_greatestOf hS hr11) ce_Pays_greatestOf kw_749 (zo hS 45 rfl rfl) rfl rfl ⟨Nat.le_of_ble_eq_true rfl, Nat.le_of_ble_eq_true rfl⟩ (Nat.le_of_ble_eq_true rfl) (zw_dg dk_P_ends 29 rfl) ?_
    refine r_i2l X (pc := 54) (zw_dg dk_P_ends 30 rfl)  ?_
    obtain ⟨c12, hc12, hsem⟩ := zw_bd hsem
    refine r_callVv X (pc := 55) (As := [_]) (st := []) (km_Row_add hS hc12) ce_Row_add kw_745 (zo hS 61 rfl rfl) rfl rfl ⟨Nat.le_of_ble_eq_true rfl, Nat.le_of_ble_eq_true rfl⟩ (Nat.le_of_ble_eq_true rfl) (zw_dg dk_P_ends 31 rfl) ?_
    refine r_aload_n X (pc := 58) (i := 0) (zw_dg dk_P_ends 32 rfl) rfl rfl ?_
    refine r_getR X (pc := 59) (r := 61) ci_P (zo hS 0 rfl rfl) rfl (zr hS 0 6 rfl rfl) lk_P_60 (zw_dg dk_P_ends 33 rfl) ?_
    refine r_iload_n X (pc := 62) (i := 3) (zw_dg dk_P_ends 34 rfl) rfl rfl ?_
    refine r_iconst X (pc := 63) (v := 4) (zw_dg dk_P_ends 35 rfl) (by decide) ?_
    refine r_idiv X (pc := 64) (zw_dg dk_P_ends 36 rfl) (by decide) ?_
    refine r_i2l X (pc := 65) (zw_dg dk_P_ends 37 rfl)  ?_
    obtain ⟨c13, hc13, hsem⟩ := zw_bd hsem
    refine r_callVv X (pc := 66) (As := [_]) (st := []) (km_Row_add hS hc13) ce_Row_add kw_745 (zo hS 61 rfl rfl) rfl rfl ⟨Nat.le_of_ble_eq_true rfl, Nat.le_of_ble_eq_true rfl⟩ (Nat.le_of_ble_eq_true rfl) (zw_dg dk_P_ends 38 rfl) ?_
    refine r_aload_n X (pc := 69) (i := 0) (zw_dg dk_P_ends 39 rfl) rfl rfl ?_
    refine r_getR X (pc := 70) (r := 61) ci_P (zo hS 0 rfl rfl) rfl (zr hS 0 6 rfl rfl) lk_P_60 (zw_dg dk_P_ends 40 rfl) ?_
    refine r_iload_n X (pc := 73) (i := 3) (zw_dg dk_P_ends 41 rfl) rfl rfl ?_
    refine r_iconst X (pc := 74) (v := 4) (zw_dg dk_P_ends 42 rfl) (by decide) ?_
    refine r_irem X (pc := 75) (zw_dg dk_P_ends 43 rfl) (by decide) ?_
    refine r_i2l X (pc := 76) (zw_dg dk_P_ends 44 rfl)  ?_
    obtain ⟨c14, hc14, hsem⟩ := zw_bd hsem
    refine r_callVv X (pc := 77) (As := [_]) (st := []) (km_Row_add hS hc14) ce_Row_add kw_745 (zo hS 61 rfl rfl) rfl rfl ⟨Nat.le_of_ble_eq_true rfl, Nat.le_of_ble_eq_true rfl⟩ (Nat.le_of_ble_eq_true rfl) (zw_dg dk_P_ends 45 rfl) ?_
    refine r_iconst X (pc := 80) (v := 0) (zw_dg dk_P_ends 46 rfl) (by decide) ?_
    obtain ⟨rfl, rfl⟩ := zw_in2 hsem
    exact r_iret X (pc := 81) rfl (zw_dg dk_P_ends 47 rfl)
  · --
    have p4 : (r2 = none) := q5
    have hsem := zw_ifp p4 hsem
    refine r_iconst X (pc := 13) (v := (-1)) (zw_dg dk_P_ends 7 rfl) (by decide) ?_
    obtain ⟨rfl, rfl⟩ := zw_in2 hsem
    exact r_iret X (pc := 14) rfl (zw_dg dk_P_ends 8 rfl)
def y_P_mean : MethodName := ⟨R_P, "mean", "(III)I"⟩
abbrev b_P_mean : ByteArray := prog_1_method_12_code
def dl_P_mean : List (Nat × Instr × Nat) := [(0, .aload_n 0, 1), (1, .getfield 53, 3), (4, .iload_n 1, 1), (5, .invokevirtual 163, 3), (8, .astore 4, 2), (10, .aload 4, 2), (12, .ifnull 25, 3), (15, .aload_n 0, 1), (16, .getfield 25, 3), (19, .iload_n 2, 1), (20, .invokevirtual 122, 3), (23, .ifCond .eq 14, 3), (26, .aload_n 0, 1), (27, .getfield 25, 3), (30, .iload_n 3, 1), (31, .invokevirtual 122, 3), (34, .ifCond .ne 5, 3), (37, .iconst (-1), 1), (38, .ireturn, 1), (39, .aload_n 0, 1), (40, .getfield 60, 3), (43, .invokevirtual 173, 3), (46, .aload_n 0, 1), (47, .getfield 60, 3), (50, .aload_n 0, 1), (51, .getfield 64, 3), (54, .aload 4, 2), (56, .iload_n 2, 1), (57, .iload_n 3, 1), (58, .invokevirtual 183, 3), (61, .aload_n 0, 1), (62, .getfield 25, 3), (65, .getfield 187, 3), (68, .i2l, 1), (69, .invokevirtual 190, 3), (72, .iconst 0, 1), (73, .ireturn, 1)]
theorem dk_P_mean : zw_dk b_P_mean dl_P_mean = true := by decide +kernel
theorem ce_P_mean : zw_cev y_P_mean b_P_mean 5 (some .int) 3 := ⟨⟨kt_in 757 (by decide +kernel) rfl, kt_in 85 (by decide +kernel) rfl, by decide +kernel⟩, kt_in 755 (by decide +kernel) rfl, kt_in 756 (by decide +kernel) rfl⟩
def fn_P_mean (c : zw_Ct) (pay1 : Int32) (saying2 : Int32) (thought3 : Int32) : Option (Int32 × zw_Ct) :=
  (fn_Pays_valuesOf c pay1).bind fun (r4, c5) =>
  if (((r4 = none) ∨ (¬ (¬ (fn_Sayings_has c5 saying2) = 0))) ∨ (¬ (¬ (fn_Sayings_has c5 thought3) = 0))) then
  (some ((-1), c5))
  else
  ((fn_Row_clear c5).bind fun c10 =>
  (r4).bind fun a11 =>
  (fn_Judge_worth c10 a11 saying2 thought3).bind fun r12 =>
  (fn_Row_addFraction c10 r12 ((c10.1 1 1)).toInt64).bind fun c13 =>
  some (0, c13))
set_option maxRecDepth 100000 in
theorem km_P_mean {l : Launch} {g : zw_G} {rr : zw_RR} {sh : zw_Sh} {c : zw_Ct} {pay1 : Int32} {saying2 : Int32} {thought3 : Int32} {r : Int32} {c2 : zw_Ct} (hS : zw_Ok 0 101 sh rr) (hsem : fn_P_mean c pay1 saying2 thought3 = some (r, c2)) : zw_Met l g y_P_mean b_P_mean 5 (some .int) 5 rr sh [.ref 0, .int pay1, .int saying2, .int thought3] c (some (.int r)) c2 := by
  unfold fn_P_mean at hsem
  refine zw_Met.of (by decide +kernel) (Nat.le_of_ble_eq_true rfl) (fun p e s m args below meth cd X => ?_)
  refine zw_eL (L2 := [some (.ref 0), some (.int pay1), some (.int saying2), some (.int thought3), none]) rfl ?_
  refine r_aload_n X (pc := 0) (i := 0) (zw_dg dk_P_mean 0 rfl) rfl rfl ?_
  refine r_getR X (pc := 1) (r := 45) ci_P (zo hS 0 rfl rfl) rfl (zr hS 0 5 rfl rfl) lk_P_53 (zw_dg dk_P_mean 1 rfl) ?_
  refine r_iload_n X (pc := 4) (i := 1) (zw_dg dk_P_mean 2 rfl) rfl rfl ?_
  obtain ⟨⟨r4, c5⟩, hr4_c5, hsem⟩ := zw_bd hsem
  refine r_callVO X (pc := 5) (As := [_]) (st := []) (km_Pays_valuesOf hS hr4_c5) ce_Pays_valuesOf kw_705 (zo hS 45 rfl rfl) rfl rfl ⟨Nat.le_of_ble_eq_true rfl, Nat.le_of_ble_eq_true rfl⟩ (Nat.le_of_ble_eq_true rfl) (zw_dg dk_P_mean 3 rfl) ?_
  refine r_astoreO X (pc := 8) (i := 4) (zw_dg dk_P_mean 4 rfl) (by decide) rfl ?_
  refine zw_cnd (P := (((r4 = none) ∨ (¬ (¬ (fn_Sayings_has c5 saying2) = 0))) ∨ (¬ (¬ (fn_Sayings_has c5 thought3) = 0)))) (J1 := 37) (J2 := 39) (st2 := []) (fun jT jF => ?_) (fun p6 => ?_) (fun p6 => ?_)
  · --
    refine r_aloadO X (pc := 10) (i := 4) (zw_dg dk_P_mean 5 rfl) rfl ?_
    refine r_ifnull X (pc := 12) (tgt := 37) (zw_dg dk_P_mean 6 rfl) (by decide) (fun q7 => ?_) (fun q7 => ?_)
    · --
      exact jT (Or.inl (Or.inl q7))
    · --
      refine r_aload_n X (pc := 15) (i := 0) (zw_dg dk_P_mean 7 rfl) rfl rfl ?_
      refine r_getR X (pc := 16) (r := 1) ci_P (zo hS 0 rfl rfl) rfl (zr hS 0 0 rfl rfl) lk_P_25 (zw_dg dk_P_mean 8 rfl) ?_
      refine r_iload_n X (pc := 19) (i := 2) (zw_dg dk_P_mean 9 rfl) rfl rfl ?_
      refine r_callVi X (pc := 20) (As := [_]) (st := []) (km_Sayings_has hS rfl) ce_Sayings_has kw_758 (zo hS 1 rfl rfl) rfl rfl ⟨Nat.le_of_ble_eq_true rfl, Nat.le_of_ble_eq_true rfl⟩ (Nat.le_of_ble_eq_true rfl) (zw_dg dk_P_mean 10 rfl) ?_
      refine r_if_eq X (pc := 23) (tgt := 37) (zw_dg dk_P_mean 11 rfl) (by decide) (fun q8 => ?_) (fun q8 => ?_)
      · --
        exact jT (Or.inl (Or.inr (fun z => z q8)))
      · --
        refine r_aload_n X (pc := 26) (i := 0) (zw_dg dk_P_mean 12 rfl) rfl rfl ?_
        refine r_getR X (pc := 27) (r := 1) ci_P (zo hS 0 rfl rfl) rfl (zr hS 0 0 rfl rfl) lk_P_25 (zw_dg dk_P_mean 13 rfl) ?_
        refine r_iload_n X (pc := 30) (i := 3) (zw_dg dk_P_mean 14 rfl) rfl rfl ?_
        refine r_callVi X (pc := 31) (As := [_]) (st := []) (km_Sayings_has hS rfl) ce_Sayings_has kw_758 (zo hS 1 rfl rfl) rfl rfl ⟨Nat.le_of_ble_eq_true rfl, Nat.le_of_ble_eq_true rfl⟩ (Nat.le_of_ble_eq_true rfl) (zw_dg dk_P_mean 15 rfl) ?_
        refine r_if_ne X (pc := 34) (tgt := 39) (zw_dg dk_P_mean 16 rfl) (by decide) (fun q9 => ?_) (fun q9 => ?_)
        · --
          exact jF (fun q => q.elim (fun q => q.elim q7 (fun q => q q8)) (fun q => q q9))
        · --
          exact jT (Or.inr (fun z => z q9))
  · --
    have hsem := zw_ifp p6 hsem
    refine r_iconst X (pc := 37) (v := (-1)) (zw_dg dk_P_mean 17 rfl) (by decide) ?_
    obtain ⟨rfl, rfl⟩ := zw_in2 hsem
    exact r_iret X (pc := 38) rfl (zw_dg dk_P_mean 18 rfl)
  · --
    have hsem := zw_ifn p6 hsem
    refine r_aload_n X (pc := 39) (i := 0) (zw_dg dk_P_mean 19 rfl) rfl rfl ?_
    refine r_getR X (pc := 40) (r := 61) ci_P (zo hS 0 rfl rfl) rfl (zr hS 0 6 rfl rfl) lk_P_60 (zw_dg dk_P_mean 20 rfl) ?_
    obtain ⟨c10, hc10, hsem⟩ := zw_bd hsem
    refine r_callVv X (pc := 43) (As := []) (st := []) (km_Row_clear hS hc10) ce_Row_clear kw_741 (zo hS 61 rfl rfl) rfl rfl ⟨Nat.le_of_ble_eq_true rfl, Nat.le_of_ble_eq_true rfl⟩ (Nat.le_of_ble_eq_true rfl) (zw_dg dk_P_mean 21 rfl) ?_
    refine r_aload_n X (pc := 46) (i := 0) (zw_dg dk_P_mean 22 rfl) rfl rfl ?_
    refine r_getR X (pc := 47) (r := 61) ci_P (zo hS 0 rfl rfl) rfl (zr hS 0 6 rfl rfl) lk_P_60 (zw_dg dk_P_mean 23 rfl) ?_
    refine r_aload_n X (pc := 50) (i := 0) (zw_dg dk_P_mean 24 rfl) rfl rfl ?_
    refine r_getR X (pc := 51) (r := 13) ci_P (zo hS 0 rfl rfl) rfl (zr hS 0 7 rfl rfl) lk_P_64 (zw_dg dk_P_mean 25 rfl) ?_
    refine r_aloadO X (pc := 54) (i := 4) (zw_dg dk_P_mean 26 rfl) rfl ?_
    refine r_iload_n X (pc := 56) (i := 2) (zw_dg dk_P_mean 27 rfl) rfl rfl ?_
    refine r_iload_n X (pc := 57) (i := 3) (zw_dg dk_P_mean 28 rfl) rfl rfl ?_
    obtain ⟨a11, ha11, hs_a11⟩ := zw_bd hsem
    subst ha11
    have hsem := hs_a11
    obtain ⟨r12, hr12, hsem⟩ := zw_bd hsem
    refine r_callVl X (pc := 58) (As := [_, _, _]) (st := [.ref 61]) (km_Judge_worth hS hr12) ce_Judge_worth kw_762 (zo hS 13 rfl rfl) rfl rfl ⟨Nat.le_of_ble_eq_true rfl, Nat.le_of_ble_eq_true rfl⟩ (Nat.le_of_ble_eq_true rfl) (zw_dg dk_P_mean 29 rfl) ?_
    refine r_aload_n X (pc := 61) (i := 0) (zw_dg dk_P_mean 30 rfl) rfl rfl ?_
    refine r_getR X (pc := 62) (r := 1) ci_P (zo hS 0 rfl rfl) rfl (zr hS 0 0 rfl rfl) lk_P_25 (zw_dg dk_P_mean 31 rfl) ?_
    refine r_getI X (pc := 65) ci_Sayings (zo hS 1 rfl rfl) rfl lk_P_187 (zw_dg dk_P_mean 32 rfl) ?_
    refine r_i2l X (pc := 68) (zw_dg dk_P_mean 33 rfl)  ?_
    obtain ⟨c13, hc13, hsem⟩ := zw_bd hsem
    refine r_callVv X (pc := 69) (As := [_, _]) (st := []) (km_Row_addFraction hS hc13) ce_Row_addFraction kw_770 (zo hS 61 rfl rfl) rfl rfl ⟨Nat.le_of_ble_eq_true rfl, Nat.le_of_ble_eq_true rfl⟩ (Nat.le_of_ble_eq_true rfl) (zw_dg dk_P_mean 34 rfl) ?_
    refine r_iconst X (pc := 72) (v := 0) (zw_dg dk_P_mean 35 rfl) (by decide) ?_
    obtain ⟨rfl, rfl⟩ := zw_in2 hsem
    exact r_iret X (pc := 73) rfl (zw_dg dk_P_mean 36 rfl)
def y_P_best : MethodName := ⟨R_P, "best", "(II)I"⟩
abbrev b_P_best : ByteArray := prog_1_method_13_code
def dl_P_best : List (Nat × Instr × Nat) := [(0, .aload_n 0, 1), (1, .getfield 53, 3), (4, .iload_n 1, 1), (5, .invokevirtual 163, 3), (8, .astore_n 3, 1), (9, .aload_n 3, 1), (10, .ifnull 14, 3), (13, .aload_n 0, 1), (14, .getfield 25, 3), (17, .iload_n 2, 1), (18, .invokevirtual 122, 3), (21, .ifCond .ne 5, 3), (24, .iconst (-1), 1), (25, .ireturn, 1), (26, .aload_n 0, 1), (27, .getfield 64, 3), (30, .aload_n 3, 1), (31, .iload_n 2, 1), (32, .aload_n 0, 1), (33, .getfield 60, 3), (36, .invokevirtual 194, 3), (39, .ireturn, 1)]
theorem dk_P_best : zw_dk b_P_best dl_P_best = true := by decide +kernel
theorem ce_P_best : zw_cev y_P_best b_P_best 4 (some .int) 2 := ⟨⟨kt_in 784 (by decide +kernel) rfl, kt_in 85 (by decide +kernel) rfl, by decide +kernel⟩, kt_in 782 (by decide +kernel) rfl, kt_in 783 (by decide +kernel) rfl⟩
def fn_P_best (c : zw_Ct) (pay1 : Int32) (thought2 : Int32) : Option (Int32 × zw_Ct) :=
  (fn_Pays_valuesOf c pay1).bind fun (r3, c4) =>
  if ((r3 = none) ∨ (¬ (¬ (fn_Sayings_has c4 thought2) = 0))) then
  (some ((-1), c4))
  else
  ((r3).bind fun a8 =>
  (fn_Judge_tellBest c4 a8 thought2).bind fun (r9, c10) =>
  some (r9, c10))
set_option maxRecDepth 100000 in
theorem km_P_best {l : Launch} {g : zw_G} {rr : zw_RR} {sh : zw_Sh} {c : zw_Ct} {pay1 : Int32} {thought2 : Int32} {r : Int32} {c2 : zw_Ct} (hS : zw_Ok 0 101 sh rr) (hsem : fn_P_best c pay1 thought2 = some (r, c2)) : zw_Met l g y_P_best b_P_best 4 (some .int) 6 rr sh [.ref 0, .int pay1, .int thought2] c (some (.int r)) c2 := by
  unfold fn_P_best at hsem
  refine zw_Met.of (by decide +kernel) (Nat.le_of_ble_eq_true rfl) (fun p e s m args below meth cd X => ?_)
  refine zw_eL (L2 := [some (.ref 0), some (.int pay1), some (.int thought2), none]) rfl ?_
  refine r_aload_n X (pc := 0) (i := 0) (zw_dg dk_P_best 0 rfl) rfl rfl ?_
  refine r_getR X (pc := 1) (r := 45) ci_P (zo hS 0 rfl rfl) rfl (zr hS 0 5 rfl rfl) lk_P_53 (zw_dg dk_P_best 1 rfl) ?_
  refine r_iload_n X (pc := 4) (i := 1) (zw_dg dk_P_best 2 rfl) rfl rfl ?_
  obtain ⟨⟨r3, c4⟩, hr3_c4, hsem⟩ := zw_bd hsem
  refine r_callVO X (pc := 5) (As := [_]) (st := []) (km_Pays_valuesOf hS hr3_c4) ce_Pays_valuesOf kw_705 (zo hS 45 rfl rfl) rfl rfl ⟨Nat.le_of_ble_eq_true rfl, Nat.le_of_ble_eq_true rfl⟩ (Nat.le_of_ble_eq_true rfl) (zw_dg dk_P_best 3 rfl) ?_
  refine r_astore_nO X (pc := 8) (i := 3) (zw_dg dk_P_best 4 rfl) rfl (by decide) rfl ?_
  refine zw_cnd (P := ((r3 = none) ∨ (¬ (¬ (fn_Sayings_has c4 thought2) = 0)))) (J1 := 24) (J2 := 26) (st2 := []) (fun jT jF => ?_) (fun p5 => ?_) (fun p5 => ?_)
  · --
    refine r_aload_nO X (pc := 9) (i := 3) (zw_dg dk_P_best 5 rfl) rfl rfl ?_
    refine r_ifnull X (pc := 10) (tgt := 24) (zw_dg dk_P_best 6 rfl) (by decide) (fun q6 => ?_) (fun q6 => ?_)
    · --
      exact jT (Or.inl q6)
    · --
      refine r_aload_n X (pc := 13) (i := 0) (zw_dg dk_P_best 7 rfl) rfl rfl ?_
      refine r_getR X (pc := 14) (r := 1) ci_P (zo hS 0 rfl rfl) rfl (zr hS 0 0 rfl rfl) lk_P_25 (zw_dg dk_P_best 8 rfl) ?_
      refine r_iload_n X (pc := 17) (i := 2) (zw_dg dk_P_best 9 rfl) rfl rfl ?_
      refine r_callVi X (pc := 18) (As := [_]) (st := []) (km_Sayings_has hS rfl) ce_Sayings_has kw_758 (zo hS 1 rfl rfl) rfl rfl ⟨Nat.le_of_ble_eq_true rfl, Nat.le_of_ble_eq_true rfl⟩ (Nat.le_of_ble_eq_true rfl) (zw_dg dk_P_best 10 rfl) ?_
      refine r_if_ne X (pc := 21) (tgt := 26) (zw_dg dk_P_best 11 rfl) (by decide) (fun q7 => ?_) (fun q7 => ?_)
      · --
        exact jF (fun q => q.elim q6 (fun q => q q7))
      · --
        exact jT (Or.inr (fun z => z q7))
  · --
    have hsem := zw_ifp p5 hsem
    refine r_iconst X (pc := 24) (v := (-1)) (zw_dg dk_P_best 12 rfl) (by decide) ?_
    obtain ⟨rfl, rfl⟩ := zw_in2 hsem
    exact r_iret X (pc := 25) rfl (zw_dg dk_P_best 13 rfl)
  · --
    have hsem := zw_ifn p5 hsem
    refine r_aload_n X (pc := 26) (i := 0) (zw_dg dk_P_best 14 rfl) rfl rfl ?_
    refine r_getR X (pc := 27) (r := 13) ci_P (zo hS 0 rfl rfl) rfl (zr hS 0 7 rfl rfl) lk_P_64 (zw_dg dk_P_best 15 rfl) ?_
    refine r_aload_nO X (pc := 30) (i := 3) (zw_dg dk_P_best 16 rfl) rfl rfl ?_
    refine r_iload_n X (pc := 31) (i := 2) (zw_dg dk_P_best 17 rfl) rfl rfl ?_
    refine r_aload_n X (pc := 32) (i := 0) (zw_dg dk_P_best 18 rfl) rfl rfl ?_
    refine r_getR X (pc := 33) (r := 61) ci_P (zo hS 0 rfl rfl) rfl (zr hS 0 6 rfl rfl) lk_P_60 (zw_dg dk_P_best 19 rfl) ?_
    obtain ⟨a8, ha8, hs_a8⟩ := zw_bd hsem
    subst ha8
    have hsem := hs_a8
    obtain ⟨⟨r9, c10⟩, hr9_c10, hsem⟩ := zw_bd hsem
    refine r_callVi X (pc := 36) (As := [_, _, _]) (st := []) (km_Judge_tellBest hS hr9_c10) ce_Judge_tellBest kw_785 (zo hS 13 rfl rfl) rfl rfl ⟨Nat.le_of_ble_eq_true rfl, Nat.le_of_ble_eq_true rfl⟩ (Nat.le_of_ble_eq_true rfl) (zw_dg dk_P_best 20 rfl) ?_
    obtain ⟨rfl, rfl⟩ := zw_in2 hsem
    exact r_iret X (pc := 39) rfl (zw_dg dk_P_best 21 rfl)
def y_P_loses : MethodName := ⟨R_P, "loses", "(III)I"⟩
abbrev b_P_loses : ByteArray := prog_1_method_14_code
def dl_P_loses : List (Nat × Instr × Nat) := [(0, .aload_n 0, 1), (1, .getfield 53, 3), (4, .iload_n 1, 1), (5, .invokevirtual 163, 3), (8, .astore 4, 2), (10, .aload 4, 2), (12, .ifnull 25, 3), (15, .aload_n 0, 1), (16, .getfield 25, 3), (19, .iload_n 2, 1), (20, .invokevirtual 122, 3), (23, .ifCond .eq 14, 3), (26, .aload_n 0, 1), (27, .getfield 25, 3), (30, .iload_n 3, 1), (31, .invokevirtual 122, 3), (34, .ifCond .ne 5, 3), (37, .iconst (-1), 1), (38, .ireturn, 1), (39, .aload_n 0, 1), (40, .getfield 64, 3), (43, .aload 4, 2), (45, .iload_n 3, 1), (46, .invokevirtual 198, 3), (49, .aload_n 0, 1), (50, .getfield 64, 3), (53, .aload 4, 2), (55, .iload_n 2, 1), (56, .iload_n 3, 1), (57, .invokevirtual 183, 3), (60, .lsub, 1), (61, .lstore 5, 2), (63, .aload_n 0, 1), (64, .getfield 60, 3), (67, .invokevirtual 173, 3), (70, .aload_n 0, 1), (71, .getfield 60, 3), (74, .lload 5, 2), (76, .aload_n 0, 1), (77, .getfield 25, 3), (80, .getfield 187, 3), (83, .i2l, 1), (84, .invokevirtual 190, 3), (87, .iconst 0, 1), (88, .ireturn, 1)]
theorem dk_P_loses : zw_dk b_P_loses dl_P_loses = true := by decide +kernel
theorem ce_P_loses : zw_cev y_P_loses b_P_loses 7 (some .int) 3 := ⟨⟨kt_in 822 (by decide +kernel) rfl, kt_in 85 (by decide +kernel) rfl, by decide +kernel⟩, kt_in 820 (by decide +kernel) rfl, kt_in 821 (by decide +kernel) rfl⟩
def fn_P_loses (c : zw_Ct) (pay1 : Int32) (saying2 : Int32) (thought3 : Int32) : Option (Int32 × zw_Ct) :=
  (fn_Pays_valuesOf c pay1).bind fun (r4, c5) =>
  if (((r4 = none) ∨ (¬ (¬ (fn_Sayings_has c5 saying2) = 0))) ∨ (¬ (¬ (fn_Sayings_has c5 thought3) = 0))) then
  (some ((-1), c5))
  else
  ((r4).bind fun a10 =>
  (fn_Judge_greatestWorth c5 a10 thought3).bind fun (r11, c12) =>
  (fn_Judge_worth c12 a10 saying2 thought3).bind fun r13 =>
  (some ((r11 - r13) : Int64)).bind fun lost14 =>
  (fn_Row_clear c12).bind fun c15 =>
  (fn_Row_addFraction c15 lost14 ((c15.1 1 1)).toInt64).bind fun c16 =>
  some (0, c16))
set_option maxRecDepth 100000 in
theorem km_P_loses {l : Launch} {g : zw_G} {rr : zw_RR} {sh : zw_Sh} {c : zw_Ct} {pay1 : Int32} {saying2 : Int32} {thought3 : Int32} {r : Int32} {c2 : zw_Ct} (hS : zw_Ok 0 101 sh rr) (hsem : fn_P_loses c pay1 saying2 thought3 = some (r, c2)) : zw_Met l g y_P_loses b_P_loses 7 (some .int) 5 rr sh [.ref 0, .int pay1, .int saying2, .int thought3] c (some (.int r)) c2 := by
  unfold fn_P_loses at hsem
  refine zw_Met.of (by decide +kernel) (Nat.le_of_ble_eq_true rfl) (fun p e s m args below meth cd X => ?_)
  refine zw_eL (L2 := [some (.ref 0), some (.int pay1), some (.int saying2), some (.int thought3), none, none, none]) rfl ?_
  refine r_aload_n X (pc := 0) (i := 0) (zw_dg dk_P_loses 0 rfl) rfl rfl ?_
  refine r_getR X (pc := 1) (r := 45) ci_P (zo hS 0 rfl rfl) rfl (zr hS 0 5 rfl rfl) lk_P_53 (zw_dg dk_P_loses 1 rfl) ?_
  refine r_iload_n X (pc := 4) (i := 1) (zw_dg dk_P_loses 2 rfl) rfl rfl ?_
  obtain ⟨⟨r4, c5⟩, hr4_c5, hsem⟩ := zw_bd hsem
  refine r_callVO X (pc := 5) (As := [_]) (st := []) (km_Pays_valuesOf hS hr4_c5) ce_Pays_valuesOf kw_705 (zo hS 45 rfl rfl) rfl rfl ⟨Nat.le_of_ble_eq_true rfl, Nat.le_of_ble_eq_true rfl⟩ (Nat.le_of_ble_eq_true rfl) (zw_dg dk_P_loses 3 rfl) ?_
  refine r_astoreO X (pc := 8) (i := 4) (zw_dg dk_P_loses 4 rfl) (by decide) rfl ?_
  refine zw_cnd (P := (((r4 = none) ∨ (¬ (¬ (fn_Sayings_has c5 saying2) = 0))) ∨ (¬ (¬ (fn_Sayings_has c5 thought3) = 0)))) (J1 := 37) (J2 := 39) (st2 := []) (fun jT jF => ?_) (fun p6 => ?_) (fun p6 => ?_)
  · --
    refine r_aloadO X (pc := 10) (i := 4) (zw_dg dk_P_loses 5 rfl) rfl ?_
    refine r_ifnull X (pc := 12) (tgt := 37) (zw_dg dk_P_loses 6 rfl) (by decide) (fun q7 => ?_) (fun q7 => ?_)
    · --
      exact jT (Or.inl (Or.inl q7))
    · --
      refine r_aload_n X (pc := 15) (i := 0) (zw_dg dk_P_loses 7 rfl) rfl rfl ?_
      refine r_getR X (pc := 16) (r := 1) ci_P (zo hS 0 rfl rfl) rfl (zr hS 0 0 rfl rfl) lk_P_25 (zw_dg dk_P_loses 8 rfl) ?_
      refine r_iload_n X (pc := 19) (i := 2) (zw_dg dk_P_loses 9 rfl) rfl rfl ?_
      refine r_callVi X (pc := 20) (As := [_]) (st := []) (km_Sayings_has hS rfl) ce_Sayings_has kw_758 (zo hS 1 rfl rfl) rfl rfl ⟨Nat.le_of_ble_eq_true rfl, Nat.le_of_ble_eq_true rfl⟩ (Nat.le_of_ble_eq_true rfl) (zw_dg dk_P_loses 10 rfl) ?_
      refine r_if_eq X (pc := 23) (tgt := 37) (zw_dg dk_P_loses 11 rfl) (by decide) (fun q8 => ?_) (fun q8 => ?_)
      · --
        exact jT (Or.inl (Or.inr (fun z => z q8)))
      · --
        refine r_aload_n X (pc := 26) (i := 0) (zw_dg dk_P_loses 12 rfl) rfl rfl ?_
        refine r_getR X (pc := 27) (r := 1) ci_P (zo hS 0 rfl rfl) rfl (zr hS 0 0 rfl rfl) lk_P_25 (zw_dg dk_P_loses 13 rfl) ?_
        refine r_iload_n X (pc := 30) (i := 3) (zw_dg dk_P_loses 14 rfl) rfl rfl ?_
        refine r_callVi X (pc := 31) (As := [_]) (st := []) (km_Sayings_has hS rfl) ce_Sayings_has kw_758 (zo hS 1 rfl rfl) rfl rfl ⟨Nat.le_of_ble_eq_true rfl, Nat.le_of_ble_eq_true rfl⟩ (Nat.le_of_ble_eq_true rfl) (zw_dg dk_P_loses 15 rfl) ?_
        refine r_if_ne X (pc := 34) (tgt := 39) (zw_dg dk_P_loses 16 rfl) (by decide) (fun q9 => ?_) (fun q9 => ?_)
        · --
          exact jF (fun q => q.elim (fun q => q.elim q7 (fun q => q q8)) (fun q => q q9))
        · --
          exact jT (Or.inr (fun z => z q9))
  · --
    have hsem := zw_ifp p6 hsem
    refine r_iconst X (pc := 37) (v := (-1)) (zw_dg dk_P_loses 17 rfl) (by decide) ?_
    obtain ⟨rfl, rfl⟩ := zw_in2 hsem
    exact r_iret X (pc := 38) rfl (zw_dg dk_P_loses 18 rfl)
  · --
    have hsem := zw_ifn p6 hsem
    refine r_aload_n X (pc := 39) (i := 0) (zw_dg dk_P_loses 19 rfl) rfl rfl ?_
    refine r_getR X (pc := 40) (r := 13) ci_P (zo hS 0 rfl rfl) rfl (zr hS 0 7 rfl rfl) lk_P_64 (zw_dg dk_P_loses 20 rfl) ?_
    refine r_aloadO X (pc := 43) (i := 4) (zw_dg dk_P_loses 21 rfl) rfl ?_
    refine r_iload_n X (pc := 45) (i := 3) (zw_dg dk_P_loses 22 rfl) rfl rfl ?_
    obtain ⟨a10, ha10, hs_a10⟩ := zw_bd hsem
    subst ha10
    have hsem := hs_a10
    obtain ⟨⟨r11, c12⟩, hr11_c12, hsem⟩ := zw_bd hsem
    refine r_callVl X (pc := 46) (As := [_, _]) (st := []) (km_Judge_greatestWorth hS hr11_c12) ce_Judge_greatestWorth kw_823 (zo hS 13 rfl rfl) rfl rfl ⟨Nat.le_of_ble_eq_true rfl, Nat.le_of_ble_eq_true rfl⟩ (Nat.le_of_ble_eq_true rfl) (zw_dg dk_P_loses 23 rfl) ?_
    refine r_aload_n X (pc := 49) (i := 0) (zw_dg dk_P_loses 24 rfl) rfl rfl ?_
    refine r_getR X (pc := 50) (r := 13) ci_P (zo hS 0 rfl rfl) rfl (zr hS 0 7 rfl rfl) lk_P_64 (zw_dg dk_P_loses 25 rfl) ?_
    refine r_aload X (pc := 53) (i := 4) (zw_dg dk_P_loses 26 rfl) rfl ?_
    refine r_iload_n X (pc := 55) (i := 2) (zw_dg dk_P_loses 27 rfl) rfl rfl ?_
    refine r_iload_n X (pc := 56) (i := 3) (zw_dg dk_P_loses 28 rfl) rfl rfl ?_
    obtain ⟨r13, hr13, hsem⟩ := zw_bd hsem
    refine r_callVl X (pc := 57) (As := [_, _, _]) (st := [.long r11]) (km_Judge_worth hS hr13) ce_Judge_worth kw_762 (zo hS 13 rfl rfl) rfl rfl ⟨Nat.le_of_ble_eq_true rfl, Nat.le_of_ble_eq_true rfl⟩ (Nat.le_of_ble_eq_true rfl) (zw_dg dk_P_loses 29 rfl) ?_
    refine r_lsub X (pc := 60) (zw_dg dk_P_loses 30 rfl)  ?_
    obtain ⟨lost14, hlost14, hsem⟩ := zw_bd hsem
    refine zw_topJ hlost14 ?_
    refine r_lstore X (pc := 61) (i := 5) (L2 := [some (.ref 0), some (.int pay1), some (.int saying2), some (.int thought3), some (.ref a10), some (.long lost14), none]) (zw_dg dk_P_loses 31 rfl) (by decide) rfl ?_
    refine r_aload_n X (pc := 63) (i := 0) (zw_dg dk_P_loses 32 rfl) rfl rfl ?_
    refine r_getR X (pc := 64) (r := 61) ci_P (zo hS 0 rfl rfl) rfl (zr hS 0 6 rfl rfl) lk_P_60 (zw_dg dk_P_loses 33 rfl) ?_
    obtain ⟨c15, hc15, hsem⟩ := zw_bd hsem
    refine r_callVv X (pc := 67) (As := []) (st := []) (km_Row_clear hS hc15) ce_Row_clear kw_741 (zo hS 61 rfl rfl) rfl rfl ⟨Nat.le_of_ble_eq_true rfl, Nat.le_of_ble_eq_true rfl⟩ (Nat.le_of_ble_eq_true rfl) (zw_dg dk_P_loses 34 rfl) ?_
    refine r_aload_n X (pc := 70) (i := 0) (zw_dg dk_P_loses 35 rfl) rfl rfl ?_
    refine r_getR X (pc := 71) (r := 61) ci_P (zo hS 0 rfl rfl) rfl (zr hS 0 6 rfl rfl) lk_P_60 (zw_dg dk_P_loses 36 rfl) ?_
    refine r_lload X (pc := 74) (i := 5) (zw_dg dk_P_loses 37 rfl) rfl ?_
    refine r_aload_n X (pc := 76) (i := 0) (zw_dg dk_P_loses 38 rfl) rfl rfl ?_
    refine r_getR X (pc := 77) (r := 1) ci_P (zo hS 0 rfl rfl) rfl (zr hS 0 0 rfl rfl) lk_P_25 (zw_dg dk_P_loses 39 rfl) ?_
    refine r_getI X (pc := 80) ci_Sayings (zo hS 1 rfl rfl) rfl lk_P_187 (zw_dg dk_P_loses 40 rfl) ?_
    refine r_i2l X (pc := 83) (zw_dg dk_P_loses 41 rfl)  ?_
    obtain ⟨c16, hc16, hsem⟩ := zw_bd hsem
    refine r_callVv X (pc := 84) (As := [_, _]) (st := []) (km_Row_addFraction hS hc16) ce_Row_addFraction kw_770 (zo hS 61 rfl rfl) rfl rfl ⟨Nat.le_of_ble_eq_true rfl, Nat.le_of_ble_eq_true rfl⟩ (Nat.le_of_ble_eq_true rfl) (zw_dg dk_P_loses 42 rfl) ?_
    refine r_iconst X (pc := 87) (v := 0) (zw_dg dk_P_loses 43 rfl) (by decide) ?_
    obtain ⟨rfl, rfl⟩ := zw_in2 hsem
    exact r_iret X (pc := 88) rfl (zw_dg dk_P_loses 44 rfl)
def y_P_truly : MethodName := ⟨R_P, "truly", "(I)I"⟩
abbrev b_P_truly : ByteArray := prog_1_method_15_code
def dl_P_truly : List (Nat × Instr × Nat) := [(0, .aload_n 0, 1), (1, .getfield 53, 3), (4, .iload_n 1, 1), (5, .invokevirtual 163, 3), (8, .astore_n 2, 1), (9, .aload_n 2, 1), (10, .ifnonnull 7, 3), (13, .iconst (-1), 1), (14, .goto 15, 3), (17, .aload_n 0, 1), (18, .getfield 64, 3), (21, .aload_n 2, 1), (22, .aload_n 0, 1), (23, .getfield 60, 3), (26, .invokevirtual 202, 3), (29, .ireturn, 1)]
theorem dk_P_truly : zw_dk b_P_truly dl_P_truly = true := by decide +kernel
theorem ce_P_truly : zw_cev y_P_truly b_P_truly 3 (some .int) 1 := ⟨⟨kt_in 827 (by decide +kernel) rfl, kt_in 85 (by decide +kernel) rfl, by decide +kernel⟩, kt_in 825 (by decide +kernel) rfl, kt_in 826 (by decide +kernel) rfl⟩
def fn_P_truly (c : zw_Ct) (pay1 : Int32) : Option (Int32 × zw_Ct) :=
  (fn_Pays_valuesOf c pay1).bind fun (r2, c3) =>
  (if (r2 = none) then
  (some (((-1) : Int32), c3))
  else
  ((r2).bind fun a8 =>
  (fn_Judge_tellTruth c3 a8).bind fun (r9, c10) =>
  some ((r9 : Int32), c10))).bind fun (v4, c5) =>
  some (v4, c5)
set_option maxRecDepth 100000 in
theorem km_P_truly {l : Launch} {g : zw_G} {rr : zw_RR} {sh : zw_Sh} {c : zw_Ct} {pay1 : Int32} {r : Int32} {c2 : zw_Ct} (hS : zw_Ok 0 101 sh rr) (hsem : fn_P_truly c pay1 = some (r, c2)) : zw_Met l g y_P_truly b_P_truly 3 (some .int) 5 rr sh [.ref 0, .int pay1] c (some (.int r)) c2 := by
  unfold fn_P_truly at hsem
  refine zw_Met.of (by decide +kernel) (Nat.le_of_ble_eq_true rfl) (fun p e s m args below meth cd X => ?_)
  refine zw_eL (L2 := [some (.ref 0), some (.int pay1), none]) rfl ?_
  refine r_aload_n X (pc := 0) (i := 0) (zw_dg dk_P_truly 0 rfl) rfl rfl ?_
  refine r_getR X (pc := 1) (r := 45) ci_P (zo hS 0 rfl rfl) rfl (zr hS 0 5 rfl rfl) lk_P_53 (zw_dg dk_P_truly 1 rfl) ?_
  refine r_iload_n X (pc := 4) (i := 1) (zw_dg dk_P_truly 2 rfl) rfl rfl ?_
  obtain ⟨⟨r2, c3⟩, hr2_c3, hsem⟩ := zw_bd hsem
  refine r_callVO X (pc := 5) (As := [_]) (st := []) (km_Pays_valuesOf hS hr2_c3) ce_Pays_valuesOf kw_705 (zo hS 45 rfl rfl) rfl rfl ⟨Nat.le_of_ble_eq_true rfl, Nat.le_of_ble_eq_true rfl⟩ (Nat.le_of_ble_eq_true rfl) (zw_dg dk_P_truly 3 rfl) ?_
  refine r_astore_nO X (pc := 8) (i := 2) (zw_dg dk_P_truly 4 rfl) rfl (by decide) rfl ?_
  obtain ⟨⟨v4, c5⟩, hv4, hsv4⟩ := zw_bd hsem
  refine zw_terO (f := Value.int) (v := v4) (J := 29) (st2 := []) (c2 := c5) (fun jj => ?_) ?_
  · have hsem := hv4
    refine r_aload_nO X (pc := 9) (i := 2) (zw_dg dk_P_truly 5 rfl) rfl rfl ?_
    refine r_ifnonnull X (pc := 10) (tgt := 17) (zw_dg dk_P_truly 6 rfl) (by decide) (fun q7 => ?_) (fun q7 => ?_)
    · --
      have p6 : ¬ (r2 = none) := q7
      have hsem := zw_ifn p6 hsem
      refine r_aload_n X (pc := 17) (i := 0) (zw_dg dk_P_truly 9 rfl) rfl rfl ?_
      refine r_getR X (pc := 18) (r := 13) ci_P (zo hS 0 rfl rfl) rfl (zr hS 0 7 rfl rfl) lk_P_64 (zw_dg dk_P_truly 10 rfl) ?_
      refine r_aload_nO X (pc := 21) (i := 2) (zw_dg dk_P_truly 11 rfl) rfl rfl ?_
      refine r_aload_n X (pc := 22) (i := 0) (zw_dg dk_P_truly 12 rfl) rfl rfl ?_
      refine r_getR X (pc := 23) (r := 61) ci_P (zo hS 0 rfl rfl) rfl (zr hS 0 6 rfl rfl) lk_P_60 (zw_dg dk_P_truly 13 rfl) ?_
      obtain ⟨a8, ha8, hs_a8⟩ := zw_bd hsem
      subst ha8
      have hsem := hs_a8
      obtain ⟨⟨r9, c10⟩, hr9_c10, hsem⟩ := zw_bd hsem
      refine r_callVi X (pc := 26) (As := [_, _]) (st := []) (km_Judge_tellTruth hS hr9_c10) ce_Judge_tellTruth kw_828 (zo hS 13 rfl rfl) rfl rfl ⟨Nat.le_of_ble_eq_true rfl, Nat.le_of_ble_eq_true rfl⟩ (Nat.le_of_ble_eq_true rfl) (zw_dg dk_P_truly 14 rfl) ?_
      cases hsem; exact jj
    · --
      have p6 : (r2 = none) := q7
      have hsem := zw_ifp p6 hsem
      refine r_iconst X (pc := 13) (v := (-1)) (zw_dg dk_P_truly 7 rfl) (by decide) ?_
      refine r_goto X (pc := 14) (tgt := 29) (zw_dg dk_P_truly 8 rfl) (by decide) ?_
      cases hsem; exact jj
  have hsem := hsv4
  obtain ⟨rfl, rfl⟩ := zw_in2 hsem
  exact r_iret X (pc := 29) rfl (zw_dg dk_P_truly 15 rfl)
def y_P_bends : MethodName := ⟨R_P, "bends", "(I)I"⟩
abbrev b_P_bends : ByteArray := prog_1_method_16_code
def dl_P_bends : List (Nat × Instr × Nat) := [(0, .aload_n 0, 1), (1, .getfield 53, 3), (4, .iload_n 1, 1), (5, .invokevirtual 163, 3), (8, .astore_n 2, 1), (9, .aload_n 2, 1), (10, .ifnonnull 7, 3), (13, .iconst (-1), 1), (14, .goto 15, 3), (17, .aload_n 0, 1), (18, .getfield 64, 3), (21, .aload_n 2, 1), (22, .aload_n 0, 1), (23, .getfield 60, 3), (26, .invokevirtual 206, 3), (29, .ireturn, 1)]
theorem dk_P_bends : zw_dk b_P_bends dl_P_bends = true := by decide +kernel
theorem ce_P_bends : zw_cev y_P_bends b_P_bends 3 (some .int) 1 := ⟨⟨kt_in 840 (by decide +kernel) rfl, kt_in 85 (by decide +kernel) rfl, by decide +kernel⟩, kt_in 838 (by decide +kernel) rfl, kt_in 839 (by decide +kernel) rfl⟩
def fn_P_bends (c : zw_Ct) (pay1 : Int32) : Option (Int32 × zw_Ct) :=
  (fn_Pays_valuesOf c pay1).bind fun (r2, c3) =>
  (if (r2 = none) then
  (some (((-1) : Int32), c3))
  else
  ((r2).bind fun a8 =>
  (fn_Judge_tellBends c3 a8).bind fun (r9, c10) =>
  some ((r9 : Int32), c10))).bind fun (v4, c5) =>
  some (v4, c5)
set_option maxRecDepth 100000 in
theorem km_P_bends {l : Launch} {g : zw_G} {rr : zw_RR} {sh : zw_Sh} {c : zw_Ct} {pay1 : Int32} {r : Int32} {c2 : zw_Ct} (hS : zw_Ok 0 101 sh rr) (hsem : fn_P_bends c pay1 = some (r, c2)) : zw_Met l g y_P_bends b_P_bends 3 (some .int) 5 rr sh [.ref 0, .int pay1] c (some (.int r)) c2 := by
  unfold fn_P_bends at hsem
  refine zw_Met.of (by decide +kernel) (Nat.le_of_ble_eq_true rfl) (fun p e s m args below meth cd X => ?_)
  refine zw_eL (L2 := [some (.ref 0), some (.int pay1), none]) rfl ?_
  refine r_aload_n X (pc := 0) (i := 0) (zw_dg dk_P_bends 0 rfl) rfl rfl ?_
  refine r_getR X (pc := 1) (r := 45) ci_P (zo hS 0 rfl rfl) rfl (zr hS 0 5 rfl rfl) lk_P_53 (zw_dg dk_P_bends 1 rfl) ?_
  refine r_iload_n X (pc := 4) (i := 1) (zw_dg dk_P_bends 2 rfl) rfl rfl ?_
  obtain ⟨⟨r2, c3⟩, hr2_c3, hsem⟩ := zw_bd hsem
  refine r_callVO X (pc := 5) (As := [_]) (st := []) (km_Pays_valuesOf hS hr2_c3) ce_Pays_valuesOf kw_705 (zo hS 45 rfl rfl) rfl rfl ⟨Nat.le_of_ble_eq_true rfl, Nat.le_of_ble_eq_true rfl⟩ (Nat.le_of_ble_eq_true rfl) (zw_dg dk_P_bends 3 rfl) ?_
  refine r_astore_nO X (pc := 8) (i := 2) (zw_dg dk_P_bends 4 rfl) rfl (by decide) rfl ?_
  obtain ⟨⟨v4, c5⟩, hv4, hsv4⟩ := zw_bd hsem
  refine zw_terO (f := Value.int) (v := v4) (J := 29) (st2 := []) (c2 := c5) (fun jj => ?_) ?_
  · have hsem := hv4
    refine r_aload_nO X (pc := 9) (i := 2) (zw_dg dk_P_bends 5 rfl) rfl rfl ?_
    refine r_ifnonnull X (pc := 10) (tgt := 17) (zw_dg dk_P_bends 6 rfl) (by decide) (fun q7 => ?_) (fun q7 => ?_)
    · --
      have p6 : ¬ (r2 = none) := q7
      have hsem := zw_ifn p6 hsem
      refine r_aload_n X (pc := 17) (i := 0) (zw_dg dk_P_bends 9 rfl) rfl rfl ?_
      refine r_getR X (pc := 18) (r := 13) ci_P (zo hS 0 rfl rfl) rfl (zr hS 0 7 rfl rfl) lk_P_64 (zw_dg dk_P_bends 10 rfl) ?_
      refine r_aload_nO X (pc := 21) (i := 2) (zw_dg dk_P_bends 11 rfl) rfl rfl ?_
      refine r_aload_n X (pc := 22) (i := 0) (zw_dg dk_P_bends 12 rfl) rfl rfl ?_
      refine r_getR X (pc := 23) (r := 61) ci_P (zo hS 0 rfl rfl) rfl (zr hS 0 6 rfl rfl) lk_P_60 (zw_dg dk_P_bends 13 rfl) ?_
      obtain ⟨a8, ha8, hs_a8⟩ := zw_bd hsem
      subst ha8
      have hsem := hs_a8
      obtain ⟨⟨r9, c10⟩, hr9_c10, hsem⟩ := zw_bd hsem
      refine r_callVi X (pc := 26) (As := [_, _]) (st := []) (km_Judge_tellBends hS hr9_c10) ce_Judge_tellBends kw_841 (zo hS 13 rfl rfl) rfl rfl ⟨Nat.le_of_ble_eq_true rfl, Nat.le_of_ble_eq_true rfl⟩ (Nat.le_of_ble_eq_true rfl) (zw_dg dk_P_bends 14 rfl) ?_
      cases hsem; exact jj
    · --
      have p6 : (r2 = none) := q7
      have hsem := zw_ifp p6 hsem
      refine r_iconst X (pc := 13) (v := (-1)) (zw_dg dk_P_bends 7 rfl) (by decide) ?_
      refine r_goto X (pc := 14) (tgt := 29) (zw_dg dk_P_bends 8 rfl) (by decide) ?_
      cases hsem; exact jj
  have hsem := hsv4
  obtain ⟨rfl, rfl⟩ := zw_in2 hsem
  exact r_iret X (pc := 29) rfl (zw_dg dk_P_bends 15 rfl)
def y_P_could : MethodName := ⟨R_P, "could", "(II)I"⟩
abbrev b_P_could : ByteArray := prog_1_method_17_code
def dl_P_could : List (Nat × Instr × Nat) := [(0, .aload_n 0, 1), (1, .getfield 53, 3), (4, .iload_n 1, 1), (5, .invokevirtual 163, 3), (8, .astore_n 3, 1), (9, .aload_n 3, 1), (10, .ifnull 14, 3), (13, .aload_n 0, 1), (14, .getfield 25, 3), (17, .iload_n 2, 1), (18, .invokevirtual 122, 3), (21, .ifCond .ne 5, 3), (24, .iconst (-1), 1), (25, .ireturn, 1), (26, .aload_n 0, 1), (27, .getfield 64, 3), (30, .aload_n 3, 1), (31, .iload_n 2, 1), (32, .aload_n 0, 1), (33, .getfield 60, 3), (36, .invokevirtual 209, 3), (39, .ireturn, 1)]
theorem dk_P_could : zw_dk b_P_could dl_P_could = true := by decide +kernel
theorem ce_P_could : zw_cev y_P_could b_P_could 4 (some .int) 2 := ⟨⟨kt_in 848 (by decide +kernel) rfl, kt_in 85 (by decide +kernel) rfl, by decide +kernel⟩, kt_in 846 (by decide +kernel) rfl, kt_in 847 (by decide +kernel) rfl⟩
def fn_P_could (c : zw_Ct) (pay1 : Int32) (saying2 : Int32) : Option (Int32 × zw_Ct) :=
  (fn_Pays_valuesOf c pay1).bind fun (r3, c4) =>
  if ((r3 = none) ∨ (¬ (¬ (fn_Sayings_has c4 saying2) = 0))) then
  (some ((-1), c4))
  else
  ((r3).bind fun a8 =>
  (fn_Judge_tellThoughtsFor c4 a8 saying2).bind fun (r9, c10) =>
  some (r9, c10))
set_option maxRecDepth 100000 in
theorem km_P_could {l : Launch} {g : zw_G} {rr : zw_RR} {sh : zw_Sh} {c : zw_Ct} {pay1 : Int32} {saying2 : Int32} {r : Int32} {c2 : zw_Ct} (hS : zw_Ok 0 101 sh rr) (hsem : fn_P_could c pay1 saying2 = some (r, c2)) : zw_Met l g y_P_could b_P_could 4 (some .int) 5 rr sh [.ref 0, .int pay1, .int saying2] c (some (.int r)) c2 := by
  unfold fn_P_could at hsem
  refine zw_Met.of (by decide +kernel) (Nat.le_of_ble_eq_true rfl) (fun p e s m args below meth cd X => ?_)
  refine zw_eL (L2 := [some (.ref 0), some (.int pay1), some (.int saying2), none]) rfl ?_
  refine r_aload_n X (pc := 0) (i := 0) (zw_dg dk_P_could 0 rfl) rfl rfl ?_
  refine r_getR X (pc := 1) (r := 45) ci_P (zo hS 0 rfl rfl) rfl (zr hS 0 5 rfl rfl) lk_P_53 (zw_dg dk_P_could 1 rfl) ?_
  refine r_iload_n X (pc := 4) (i := 1) (zw_dg dk_P_could 2 rfl) rfl rfl ?_
  obtain ⟨⟨r3, c4⟩, hr3_c4, hsem⟩ := zw_bd hsem
  refine r_callVO X (pc := 5) (As := [_]) (st := []) (km_Pays_valuesOf hS hr3_c4) ce_Pays_valuesOf kw_705 (zo hS 45 rfl rfl) rfl rfl ⟨Nat.le_of_ble_eq_true rfl, Nat.le_of_ble_eq_true rfl⟩ (Nat.le_of_ble_eq_true rfl) (zw_dg dk_P_could 3 rfl) ?_
  refine r_astore_nO X (pc := 8) (i := 3) (zw_dg dk_P_could 4 rfl) rfl (by decide) rfl ?_
  refine zw_cnd (P := ((r3 = none) ∨ (¬ (¬ (fn_Sayings_has c4 saying2) = 0)))) (J1 := 24) (J2 := 26) (st2 := []) (fun jT jF => ?_) (fun p5 => ?_) (fun p5 => ?_)
  · --
    refine r_aload_nO X (pc := 9) (i := 3) (zw_dg dk_P_could 5 rfl) rfl rfl ?_
    refine r_ifnull X (pc := 10) (tgt := 24) (zw_dg dk_P_could 6 rfl) (by decide) (fun q6 => ?_) (fun q6 => ?_)
    · --
      exact jT (Or.inl q6)
    · --
      refine r_aload_n X (pc := 13) (i := 0) (zw_dg dk_P_could 7 rfl) rfl rfl ?_
      refine r_getR X (pc := 14) (r := 1) ci_P (zo hS 0 rfl rfl) rfl (zr hS 0 0 rfl rfl) lk_P_25 (zw_dg dk_P_could 8 rfl) ?_
      refine r_iload_n X (pc := 17) (i := 2) (zw_dg dk_P_could 9 rfl) rfl rfl ?_
      refine r_callVi X (pc := 18) (As := [_]) (st := []) (km_Sayings_has hS rfl) ce_Sayings_has kw_758 (zo hS 1 rfl rfl) rfl rfl ⟨Nat.le_of_ble_eq_true rfl, Nat.le_of_ble_eq_true rfl⟩ (Nat.le_of_ble_eq_true rfl) (zw_dg dk_P_could 10 rfl) ?_
      refine r_if_ne X (pc := 21) (tgt := 26) (zw_dg dk_P_could 11 rfl) (by decide) (fun q7 => ?_) (fun q7 => ?_)
      · --
        exact jF (fun q => q.elim q6 (fun q => q q7))
      · --
        exact jT (Or.inr (fun z => z q7))
  · --
    have hsem := zw_ifp p5 hsem
    refine r_iconst X (pc := 24) (v := (-1)) (zw_dg dk_P_could 12 rfl) (by decide) ?_
    obtain ⟨rfl, rfl⟩ := zw_in2 hsem
    exact r_iret X (pc := 25) rfl (zw_dg dk_P_could 13 rfl)
  · --
    have hsem := zw_ifn p5 hsem
    refine r_aload_n X (pc := 26) (i := 0) (zw_dg dk_P_could 14 rfl) rfl rfl ?_
    refine r_getR X (pc := 27) (r := 13) ci_P (zo hS 0 rfl rfl) rfl (zr hS 0 7 rfl rfl) lk_P_64 (zw_dg dk_P_could 15 rfl) ?_
    refine r_aload_nO X (pc := 30) (i := 3) (zw_dg dk_P_could 16 rfl) rfl rfl ?_
    refine r_iload_n X (pc := 31) (i := 2) (zw_dg dk_P_could 17 rfl) rfl rfl ?_
    refine r_aload_n X (pc := 32) (i := 0) (zw_dg dk_P_could 18 rfl) rfl rfl ?_
    refine r_getR X (pc := 33) (r := 61) ci_P (zo hS 0 rfl rfl) rfl (zr hS 0 6 rfl rfl) lk_P_60 (zw_dg dk_P_could 19 rfl) ?_
    obtain ⟨a8, ha8, hs_a8⟩ := zw_bd hsem
    subst ha8
    have hsem := hs_a8
    obtain ⟨⟨r9, c10⟩, hr9_c10, hsem⟩ := zw_bd hsem
    refine r_callVi X (pc := 36) (As := [_, _, _]) (st := []) (km_Judge_tellThoughtsFor hS hr9_c10) ce_Judge_tellThoughtsFor kw_849 (zo hS 13 rfl rfl) rfl rfl ⟨Nat.le_of_ble_eq_true rfl, Nat.le_of_ble_eq_true rfl⟩ (Nat.le_of_ble_eq_true rfl) (zw_dg dk_P_could 20 rfl) ?_
    obtain ⟨rfl, rfl⟩ := zw_in2 hsem
    exact r_iret X (pc := 39) rfl (zw_dg dk_P_could 21 rfl)
def y_P_same : MethodName := ⟨R_P, "same", "(II)I"⟩
abbrev b_P_same : ByteArray := prog_1_method_18_code
def dl_P_same : List (Nat × Instr × Nat) := [(0, .aload_n 0, 1), (1, .getfield 53, 3), (4, .iload_n 1, 1), (5, .invokevirtual 163, 3), (8, .astore_n 3, 1), (9, .aload_n 0, 1), (10, .getfield 53, 3), (13, .iload_n 2, 1), (14, .invokevirtual 163, 3), (17, .astore 4, 2), (19, .aload_n 3, 1), (20, .ifnull 8, 3), (23, .aload 4, 2), (25, .ifnonnull 5, 3), (28, .iconst (-1), 1), (29, .ireturn, 1), (30, .aload_n 0, 1), (31, .getfield 64, 3), (34, .aload_n 3, 1), (35, .iconst 1, 1), (36, .aload 4, 2), (38, .invokevirtual 212, 3), (41, .ifCond .eq 7, 3), (44, .iconst 1, 1), (45, .goto 4, 3), (48, .iconst 0, 1), (49, .ireturn, 1)]
theorem dk_P_same : zw_dk b_P_same dl_P_same = true := by decide +kernel
theorem ce_P_same : zw_cev y_P_same b_P_same 5 (some .int) 2 := ⟨⟨kt_in 856 (by decide +kernel) rfl, kt_in 85 (by decide +kernel) rfl, by decide +kernel⟩, kt_in 854 (by decide +kernel) rfl, kt_in 855 (by decide +kernel) rfl⟩
def fn_P_same (c : zw_Ct) (one1 : Int32) (other2 : Int32) : Option (Int32 × zw_Ct) :=
  (fn_Pays_valuesOf c one1).bind fun (r3, c4) =>
  (fn_Pays_valuesOf c4 other2).bind fun (r5, c6) =>
  if ((r3 = none) ∨ (r5 = none)) then
  (some ((-1), c6))
  else
  ((r3).bind fun a10 =>
  (r5).bind fun a11 =>
  (fn_Judge_differsByEventAlone c6 a10 1 a11).bind fun r12 =>
  some ((if (¬ r12 = 0) then (1 : Int32) else 0), c6))
set_option maxRecDepth 100000 in
theorem km_P_same {l : Launch} {g : zw_G} {rr : zw_RR} {sh : zw_Sh} {c : zw_Ct} {one1 : Int32} {other2 : Int32} {r : Int32} {c2 : zw_Ct} (hS : zw_Ok 0 101 sh rr) (hsem : fn_P_same c one1 other2 = some (r, c2)) : zw_Met l g y_P_same b_P_same 5 (some .int) 5 rr sh [.ref 0, .int one1, .int other2] c (some (.int r)) c2 := by
  unfold fn_P_same at hsem
  refine zw_Met.of (by decide +kernel) (Nat.le_of_ble_eq_true rfl) (fun p e s m args below meth cd X => ?_)
  refine zw_eL (L2 := [some (.ref 0), some (.int one1), some (.int other2), none, none]) rfl ?_
  refine r_aload_n X (pc := 0) (i := 0) (zw_dg dk_P_same 0 rfl) rfl rfl ?_
  refine r_getR X (pc := 1) (r := 45) ci_P (zo hS 0 rfl rfl) rfl (zr hS 0 5 rfl rfl) lk_P_53 (zw_dg dk_P_same 1 rfl) ?_
  refine r_iload_n X (pc := 4) (i := 1) (zw_dg dk_P_same 2 rfl) rfl rfl ?_
  obtain ⟨⟨r3, c4⟩, hr3_c4, hsem⟩ := zw_bd hsem
  refine r_callVO X (pc := 5) (As := [_]) (st := []) (km_Pays_valuesOf hS hr3_c4) ce_Pays_valuesOf kw_705 (zo hS 45 rfl rfl) rfl rfl ⟨Nat.le_of_ble_eq_true rfl, Nat.le_of_ble_eq_true rfl⟩ (Nat.le_of_ble_eq_true rfl) (zw_dg dk_P_same 3 rfl) ?_
  refine r_astore_nO X (pc := 8) (i := 3) (zw_dg dk_P_same 4 rfl) rfl (by decide) rfl ?_
  refine r_aload_n X (pc := 9) (i := 0) (zw_dg dk_P_same 5 rfl) rfl rfl ?_
  refine r_getR X (pc := 10) (r := 45) ci_P (zo hS 0 rfl rfl) rfl (zr hS 0 5 rfl rfl) lk_P_53 (zw_dg dk_P_same 6 rfl) ?_
  refine r_iload_n X (pc := 13) (i := 2) (zw_dg dk_P_same 7 rfl) rfl rfl ?_
  obtain ⟨⟨r5, c6⟩, hr5_c6, hsem⟩ := zw_bd hsem
  refine r_callVO X (pc := 14) (As := [_]) (st := []) (km_Pays_valuesOf hS hr5_c6) ce_Pays_valuesOf kw_705 (zo hS 45 rfl rfl) rfl rfl ⟨Nat.le_of_ble_eq_true rfl, Nat.le_of_ble_eq_true rfl⟩ (Nat.le_of_ble_eq_true rfl) (zw_dg dk_P_same 8 rfl) ?_
  refine r_astoreO X (pc := 17) (i := 4) (L2 := [some (.ref 0), some (.int one1), some (.int other2), some (zw_ov r3), some (zw_ov r5)]) (zw_dg dk_P_same 9 rfl) (by decide) (zw_s1v rfl rfl) ?_
  refine zw_cnd (P := ((r3 = none) ∨ (r5 = none))) (J1 := 28) (J2 := 30) (st2 := []) (fun jT jF => ?_) (fun p7 => ?_) (fun p7 => ?_)
  · --
    refine r_aload_nO X (pc := 19) (i := 3) (zw_dg dk_P_same 10 rfl) rfl rfl ?_
    refine r_ifnull X (pc := 20) (tgt := 28) (zw_dg dk_P_same 11 rfl) (by decide) (fun q8 => ?_) (fun q8 => ?_)
    · --
      exact jT (Or.inl q8)
    · --
      refine r_aloadO X (pc := 23) (i := 4) (zw_dg dk_P_same 12 rfl) rfl ?_
      refine r_ifnonnull X (pc := 25) (tgt := 30) (zw_dg dk_P_same 13 rfl) (by decide) (fun q9 => ?_) (fun q9 => ?_)
      · --
        exact jF (fun q => q.elim q8 q9)
      · --
        exact jT (Or.inr q9)
  · --
    have hsem := zw_ifp p7 hsem
    refine r_iconst X (pc := 28) (v := (-1)) (zw_dg dk_P_same 14 rfl) (by decide) ?_
    obtain ⟨rfl, rfl⟩ := zw_in2 hsem
    exact r_iret X (pc := 29) rfl (zw_dg dk_P_same 15 rfl)
  · --
    have hsem := zw_ifn p7 hsem
    refine r_aload_n X (pc := 30) (i := 0) (zw_dg dk_P_same 16 rfl) rfl rfl ?_
    refine r_getR X (pc := 31) (r := 13) ci_P (zo hS 0 rfl rfl) rfl (zr hS 0 7 rfl rfl) lk_P_64 (zw_dg dk_P_same 17 rfl) ?_
    refine r_aload_nO X (pc := 34) (i := 3) (zw_dg dk_P_same 18 rfl) rfl rfl ?_
    refine r_iconst X (pc := 35) (v := 1) (zw_dg dk_P_same 19 rfl) (by decide) ?_
    refine r_aloadO X (pc := 36) (i := 4) (zw_dg dk_P_same 20 rfl) rfl ?_
    obtain ⟨a10, ha10, hs_a10⟩ := zw_bd hsem
    subst ha10
    have hsem := hs_a10
    obtain ⟨a11, ha11, hs_a11⟩ := zw_bd hsem
    subst ha11
    have hsem := hs_a11
    obtain ⟨r12, hr12, hsem⟩ := zw_bd hsem
    refine r_callVi X (pc := 38) (As := [_, _, _]) (st := []) (km_Judge_differsByEventAlone hS hr12) ce_Judge_differsByEventAlone kw_857 (zo hS 13 rfl rfl) rfl rfl ⟨Nat.le_of_ble_eq_true rfl, Nat.le_of_ble_eq_true rfl⟩ (Nat.le_of_ble_eq_true rfl) (zw_dg dk_P_same 21 rfl) ?_
    refine zw_ter (P := (¬ r12 = 0)) (f := Value.int) (x := 1) (y := 0) (J := 49) (st2 := []) (fun jT jF => ?_) ?_
    · --
      refine r_if_eq X (pc := 41) (tgt := 48) (zw_dg dk_P_same 22 rfl) (by decide) (fun q13 => ?_) (fun q13 => ?_)
      · --
        refine r_iconst X (pc := 48) (v := 0) (zw_dg dk_P_same 25 rfl) (by decide) ?_
        exact jF (fun z => z q13)
      · --
        refine r_iconst X (pc := 44) (v := 1) (zw_dg dk_P_same 23 rfl) (by decide) ?_
        refine r_goto X (pc := 45) (tgt := 49) (zw_dg dk_P_same 24 rfl) (by decide) ?_
        exact jT q13
    obtain ⟨rfl, rfl⟩ := zw_in2 hsem
    exact r_iret X (pc := 49) rfl (zw_dg dk_P_same 26 rfl)
def y_P_alike : MethodName := ⟨R_P, "alike", "(II)I"⟩
abbrev b_P_alike : ByteArray := prog_1_method_19_code
def dl_P_alike : List (Nat × Instr × Nat) := [(0, .aload_n 0, 1), (1, .getfield 53, 3), (4, .iload_n 1, 1), (5, .invokevirtual 163, 3), (8, .astore_n 3, 1), (9, .aload_n 0, 1), (10, .getfield 53, 3), (13, .iload_n 2, 1), (14, .invokevirtual 163, 3), (17, .astore 4, 2), (19, .aload_n 3, 1), (20, .ifnull 8, 3), (23, .aload 4, 2), (25, .ifnonnull 5, 3), (28, .iconst (-1), 1), (29, .ireturn, 1), (30, .aload_n 0, 1), (31, .getfield 64, 3), (34, .aload_n 3, 1), (35, .aload 4, 2), (37, .aload_n 0, 1), (38, .getfield 60, 3), (41, .invokevirtual 216, 3), (44, .ireturn, 1)]
theorem dk_P_alike : zw_dk b_P_alike dl_P_alike = true := by decide +kernel
theorem ce_P_alike : zw_cev y_P_alike b_P_alike 5 (some .int) 2 := ⟨⟨kt_in 864 (by decide +kernel) rfl, kt_in 85 (by decide +kernel) rfl, by decide +kernel⟩, kt_in 862 (by decide +kernel) rfl, kt_in 863 (by decide +kernel) rfl⟩
def fn_P_alike (c : zw_Ct) (one1 : Int32) (other2 : Int32) : Option (Int32 × zw_Ct) :=
  (fn_Pays_valuesOf c one1).bind fun (r3, c4) =>
  (fn_Pays_valuesOf c4 other2).bind fun (r5, c6) =>
  if ((r3 = none) ∨ (r5 = none)) then
  (some ((-1), c6))
  else
  ((r3).bind fun a10 =>
  (r5).bind fun a11 =>
  (fn_Judge_tellFactor c6 a10 a11).bind fun (r12, c13) =>
  some (r12, c13))
set_option maxRecDepth 100000 in
theorem km_P_alike {l : Launch} {g : zw_G} {rr : zw_RR} {sh : zw_Sh} {c : zw_Ct} {one1 : Int32} {other2 : Int32} {r : Int32} {c2 : zw_Ct} (hS : zw_Ok 0 101 sh rr) (hsem : fn_P_alike c one1 other2 = some (r, c2)) : zw_Met l g y_P_alike b_P_alike 5 (some .int) 5 rr sh [.ref 0, .int one1, .int other2] c (some (.int r)) c2 := by
  unfold fn_P_alike at hsem
  refine zw_Met.of (by decide +kernel) (Nat.le_of_ble_eq_true rfl) (fun p e s m args below meth cd X => ?_)
  refine zw_eL (L2 := [some (.ref 0), some (.int one1), some (.int other2), none, none]) rfl ?_
  refine r_aload_n X (pc := 0) (i := 0) (zw_dg dk_P_alike 0 rfl) rfl rfl ?_
  refine r_getR X (pc := 1) (r := 45) ci_P (zo hS 0 rfl rfl) rfl (zr hS 0 5 rfl rfl) lk_P_53 (zw_dg dk_P_alike 1 rfl) ?_
  refine r_iload_n X (pc := 4) (i := 1) (zw_dg dk_P_alike 2 rfl) rfl rfl ?_
  obtain ⟨⟨r3, c4⟩, hr3_c4, hsem⟩ := zw_bd hsem
  refine r_callVO X (pc := 5) (As := [_]) (st := []) (km_Pays_valuesOf hS hr3_c4) ce_Pays_valuesOf kw_705 (zo hS 45 rfl rfl) rfl rfl ⟨Nat.le_of_ble_eq_true rfl, Nat.le_of_ble_eq_true rfl⟩ (Nat.le_of_ble_eq_true rfl) (zw_dg dk_P_alike 3 rfl) ?_
  refine r_astore_nO X (pc := 8) (i := 3) (zw_dg dk_P_alike 4 rfl) rfl (by decide) rfl ?_
  refine r_aload_n X (pc := 9) (i := 0) (zw_dg dk_P_alike 5 rfl) rfl rfl ?_
  refine r_getR X (pc := 10) (r := 45) ci_P (zo hS 0 rfl rfl) rfl (zr hS 0 5 rfl rfl) lk_P_53 (zw_dg dk_P_alike 6 rfl) ?_
  refine r_iload_n X (pc := 13) (i := 2) (zw_dg dk_P_alike 7 rfl) rfl rfl ?_
  obtain ⟨⟨r5, c6⟩, hr5_c6, hsem⟩ := zw_bd hsem
  refine r_callVO X (pc := 14) (As := [_]) (st := []) (km_Pays_valuesOf hS hr5_c6) ce_Pays_valuesOf kw_705 (zo hS 45 rfl rfl) rfl rfl ⟨Nat.le_of_ble_eq_true rfl, Nat.le_of_ble_eq_true rfl⟩ (Nat.le_of_ble_eq_true rfl) (zw_dg dk_P_alike 8 rfl) ?_
  refine r_astoreO X (pc := 17) (i := 4) (L2 := [some (.ref 0), some (.int one1), some (.int other2), some (zw_ov r3), some (zw_ov r5)]) (zw_dg dk_P_alike 9 rfl) (by decide) (zw_s1v rfl rfl) ?_
  refine zw_cnd (P := ((r3 = none) ∨ (r5 = none))) (J1 := 28) (J2 := 30) (st2 := []) (fun jT jF => ?_) (fun p7 => ?_) (fun p7 => ?_)
  · --
    refine r_aload_nO X (pc := 19) (i := 3) (zw_dg dk_P_alike 10 rfl) rfl rfl ?_
    refine r_ifnull X (pc := 20) (tgt := 28) (zw_dg dk_P_alike 11 rfl) (by decide) (fun q8 => ?_) (fun q8 => ?_)
    · --
      exact jT (Or.inl q8)
    · --
      refine r_aloadO X (pc := 23) (i := 4) (zw_dg dk_P_alike 12 rfl) rfl ?_
      refine r_ifnonnull X (pc := 25) (tgt := 30) (zw_dg dk_P_alike 13 rfl) (by decide) (fun q9 => ?_) (fun q9 => ?_)
      · --
        exact jF (fun q => q.elim q8 q9)
      · --
        exact jT (Or.inr q9)
  · --
    have hsem := zw_ifp p7 hsem
    refine r_iconst X (pc := 28) (v := (-1)) (zw_dg dk_P_alike 14 rfl) (by decide) ?_
    obtain ⟨rfl, rfl⟩ := zw_in2 hsem
    exact r_iret X (pc := 29) rfl (zw_dg dk_P_alike 15 rfl)
  · --
    have hsem := zw_ifn p7 hsem
    refine r_aload_n X (pc := 30) (i := 0) (zw_dg dk_P_alike 16 rfl) rfl rfl ?_
    refine r_getR X (pc := 31) (r := 13) ci_P (zo hS 0 rfl rfl) rfl (zr hS 0 7 rfl rfl) lk_P_64 (zw_dg dk_P_alike 17 rfl) ?_
    refine r_aload_nO X (pc := 34) (i := 3) (zw_dg dk_P_alike 18 rfl) rfl rfl ?_
    refine r_aloadO X (pc := 35) (i := 4) (zw_dg dk_P_alike 19 rfl) rfl ?_
    refine r_aload_n X (pc := 37) (i := 0) (zw_dg dk_P_alike 20 rfl) rfl rfl ?_
    refine r_getR X (pc := 38) (r := 61) ci_P (zo hS 0 rfl rfl) rfl (zr hS 0 6 rfl rfl) lk_P_60 (zw_dg dk_P_alike 21 rfl) ?_
    obtain ⟨a10, ha10, hs_a10⟩ := zw_bd hsem
    subst ha10
    have hsem := hs_a10
    obtain ⟨a11, ha11, hs_a11⟩ := zw_bd hsem
    subst ha11
    have hsem := hs_a11
    obtain ⟨⟨r12, c13⟩, hr12_c13, hsem⟩ := zw_bd hsem
    refine r_callVi X (pc := 41) (As := [_, _, _]) (st := []) (km_Judge_tellFactor hS hr12_c13) ce_Judge_tellFactor kw_865 (zo hS 13 rfl rfl) rfl rfl ⟨Nat.le_of_ble_eq_true rfl, Nat.le_of_ble_eq_true rfl⟩ (Nat.le_of_ble_eq_true rfl) (zw_dg dk_P_alike 22 rfl) ?_
    obtain ⟨rfl, rfl⟩ := zw_in2 hsem
    exact r_iret X (pc := 44) rfl (zw_dg dk_P_alike 23 rfl)
def y_P_make : MethodName := ⟨R_P, "make", "(I)I"⟩
abbrev b_P_make : ByteArray := prog_1_method_20_code
def dl_P_make : List (Nat × Instr × Nat) := [(0, .iload_n 1, 1), (1, .iconst 0, 1), (2, .iconst 3, 1), (3, .invokestatic 100, 3), (6, .ifCond .eq 14, 3), (9, .aload_n 0, 1), (10, .getfield 25, 3), (13, .getfield 220, 3), (16, .iconst 2, 1), (17, .if_icmp .eq 5, 3), (20, .iconst (-1), 1), (21, .ireturn, 1), (22, .aload_n 0, 1), (23, .getfield 53, 3), (26, .iload_n 1, 1), (27, .invokevirtual 223, 3), (30, .ifCond .eq 7, 3), (33, .iconst 1, 1), (34, .goto 4, 3), (37, .iconst 0, 1), (38, .ireturn, 1)]
theorem dk_P_make : zw_dk b_P_make dl_P_make = true := by decide +kernel
theorem ce_P_make : zw_cev y_P_make b_P_make 2 (some .int) 1 := ⟨⟨kt_in 873 (by decide +kernel) rfl, kt_in 85 (by decide +kernel) rfl, by decide +kernel⟩, kt_in 871 (by decide +kernel) rfl, kt_in 872 (by decide +kernel) rfl⟩
def fn_P_make (c : zw_Ct) (i1 : Int32) : Option (Int32 × zw_Ct) :=
  if ((¬ (¬ (fn_P_within i1 0 3) = 0)) ∨ (¬ (c.1 1 0) = 2)) then
  (some ((-1), c))
  else
  ((fn_Pays_makeOfTurn c i1).bind fun (r5, c6) =>
  some ((if (¬ r5 = 0) then (1 : Int32) else 0), c6))
set_option maxRecDepth 100000 in
theorem km_P_make {l : Launch} {g : zw_G} {rr : zw_RR} {sh : zw_Sh} {c : zw_Ct} {i1 : Int32} {r : Int32} {c2 : zw_Ct} (hS : zw_Ok 0 101 sh rr) (hsem : fn_P_make c i1 = some (r, c2)) : zw_Met l g y_P_make b_P_make 2 (some .int) 3 rr sh [.ref 0, .int i1] c (some (.int r)) c2 := by
  unfold fn_P_make at hsem
  refine zw_Met.of (by decide +kernel) (Nat.le_of_ble_eq_true rfl) (fun p e s m args below meth cd X => ?_)
  refine zw_eL (L2 := [some (.ref 0), some (.int i1)]) rfl ?_
  refine zw_cnd (P := ((¬ (¬ (fn_P_within i1 0 3) = 0)) ∨ (¬ (c.1 1 0) = 2))) (J1 := 20) (J2 := 22) (st2 := []) (fun jT jF => ?_) (fun p2 => ?_) (fun p2 => ?_)
  · --
    refine r_iload_n X (pc := 0) (i := 1) (zw_dg dk_P_make 0 rfl) rfl rfl ?_
    refine r_iconst X (pc := 1) (v := 0) (zw_dg dk_P_make 1 rfl) (by decide) ?_
    refine r_iconst X (pc := 2) (v := 3) (zw_dg dk_P_make 2 rfl) (by decide) ?_
    refine r_callSi X (pc := 3) (As := [_, _, _]) (st := []) (km_P_within hS rfl) ce_P_within kw_492 rfl ⟨Nat.le_of_ble_eq_true rfl, Nat.le_of_ble_eq_true rfl⟩ (Nat.le_of_ble_eq_true rfl) (zw_dg dk_P_make 3 rfl) ?_
    refine r_if_eq X (pc := 6) (tgt := 20) (zw_dg dk_P_make 4 rfl) (by decide) (fun q3 => ?_) (fun q3 => ?_)
    · --
      exact jT (Or.inl (fun z => z q3))
    · --
      refine r_aload_n X (pc := 9) (i := 0) (zw_dg dk_P_make 5 rfl) rfl rfl ?_
      refine r_getR X (pc := 10) (r := 1) ci_P (zo hS 0 rfl rfl) rfl (zr hS 0 0 rfl rfl) lk_P_25 (zw_dg dk_P_make 6 rfl) ?_
      refine r_getI X (pc := 13) ci_Sayings (zo hS 1 rfl rfl) rfl lk_P_220 (zw_dg dk_P_make 7 rfl) ?_
      refine r_iconst X (pc := 16) (v := 2) (zw_dg dk_P_make 8 rfl) (by decide) ?_
      refine r_icmp_eq X (pc := 17) (tgt := 22) (zw_dg dk_P_make 9 rfl) (by decide) (fun q4 => ?_) (fun q4 => ?_)
      · --
        exact jF (fun q => q.elim (fun q => q q3) (fun z => z q4))
      · --
        exact jT (Or.inr q4)
  · --
    have hsem := zw_ifp p2 hsem
    refine r_iconst X (pc := 20) (v := (-1)) (zw_dg dk_P_make 10 rfl) (by decide) ?_
    obtain ⟨rfl, rfl⟩ := zw_in2 hsem
    exact r_iret X (pc := 21) rfl (zw_dg dk_P_make 11 rfl)
  · --
    have hsem := zw_ifn p2 hsem
    refine r_aload_n X (pc := 22) (i := 0) (zw_dg dk_P_make 12 rfl) rfl rfl ?_
    refine r_getR X (pc := 23) (r := 45) ci_P (zo hS 0 rfl rfl) rfl (zr hS 0 5 rfl rfl) lk_P_53 (zw_dg dk_P_make 13 rfl) ?_
    refine r_iload_n X (pc := 26) (i := 1) (zw_dg dk_P_make 14 rfl) rfl rfl ?_
    obtain ⟨⟨r5, c6⟩, hr5_c6, hsem⟩ := zw_bd hsem
    refine r_callVi X (pc := 27) (As := [_]) (st := []) (km_Pays_makeOfTurn hS hr5_c6) ce_Pays_makeOfTurn kw_874 (zo hS 45 rfl rfl) rfl rfl ⟨Nat.le_of_ble_eq_true rfl, Nat.le_of_ble_eq_true rfl⟩ (Nat.le_of_ble_eq_true rfl) (zw_dg dk_P_make 15 rfl) ?_
    refine zw_ter (P := (¬ r5 = 0)) (f := Value.int) (x := 1) (y := 0) (J := 38) (st2 := []) (fun jT jF => ?_) ?_
    · --
      refine r_if_eq X (pc := 30) (tgt := 37) (zw_dg dk_P_make 16 rfl) (by decide) (fun q7 => ?_) (fun q7 => ?_)
      · --
        refine r_iconst X (pc := 37) (v := 0) (zw_dg dk_P_make 19 rfl) (by decide) ?_
        exact jF (fun z => z q7)
      · --
        refine r_iconst X (pc := 33) (v := 1) (zw_dg dk_P_make 17 rfl) (by decide) ?_
        refine r_goto X (pc := 34) (tgt := 38) (zw_dg dk_P_make 18 rfl) (by decide) ?_
        exact jT q7
    obtain ⟨rfl, rfl⟩ := zw_in2 hsem
    exact r_iret X (pc := 38) rfl (zw_dg dk_P_make 20 rfl)
def y_P_back : MethodName := ⟨R_P, "back", "(I)I"⟩
abbrev b_P_back : ByteArray := prog_1_method_21_code
def dl_P_back : List (Nat × Instr × Nat) := [(0, .aload_n 0, 1), (1, .getfield 53, 3), (4, .iload_n 1, 1), (5, .invokevirtual 163, 3), (8, .astore_n 2, 1), (9, .aload_n 2, 1), (10, .ifnull 14, 3), (13, .aload_n 0, 1), (14, .getfield 25, 3), (17, .getfield 220, 3), (20, .iconst 2, 1), (21, .if_icmp .eq 5, 3), (24, .iconst (-1), 1), (25, .ireturn, 1), (26, .aload_n 0, 1), (27, .getfield 60, 3), (30, .invokevirtual 173, 3), (33, .iconst 0, 1), (34, .istore_n 3, 1), (35, .iload_n 3, 1), (36, .aload_n 0, 1), (37, .getfield 25, 3), (40, .getfield 187, 3), (43, .if_icmp .gt 33, 3), (46, .aload_n 0, 1), (47, .getfield 60, 3), (50, .aload_n 0, 1), (51, .getfield 64, 3), (54, .aload_n 2, 1), (55, .aload_n 0, 1), (56, .getfield 25, 3), (59, .getfield 187, 3), (62, .iload_n 3, 1), (63, .isub, 1), (64, .invokevirtual 198, 3), (67, .invokevirtual 176, 3), (70, .iinc 3 1, 3), (73, .goto (-38), 3), (76, .aload_n 0, 1), (77, .getfield 60, 3), (80, .invokevirtual 226, 3), (83, .ifCond .eq 7, 3), (86, .iconst 1, 1), (87, .goto 4, 3), (90, .iconst 0, 1), (91, .ireturn, 1)]
theorem dk_P_back : zw_dk b_P_back dl_P_back = true := by decide +kernel
theorem ce_P_back : zw_cev y_P_back b_P_back 4 (some .int) 1 := ⟨⟨kt_in 890 (by decide +kernel) rfl, kt_in 85 (by decide +kernel) rfl, by decide +kernel⟩, kt_in 888 (by decide +kernel) rfl, kt_in 889 (by decide +kernel) rfl⟩
def fn_P_back_l1 (r2 : Option Nat) : Int32 × zw_Ct → Option ((zw_Ct) ⊕ (Int32 × zw_Ct)) := fun (k8, c9) =>
  if (k8 ≤ (c9.1 1 1)) then
  ((r2).bind fun a14 =>
  (fn_Judge_greatestWorth c9 a14 ((c9.1 1 1) - k8)).bind fun (r15, c16) =>
  (fn_Row_add c16 r15).bind fun c17 =>
  some (.inr ((k8 + 1), c17)))
  else
  (some (.inl c9))
def fn_P_back (c : zw_Ct) (pay1 : Int32) : Option (Int32 × zw_Ct) :=
  (fn_Pays_valuesOf c pay1).bind fun (r2, c3) =>
  if ((r2 = none) ∨ (¬ (c3.1 1 0) = 2)) then
  (some ((-1), c3))
  else
  ((fn_Row_clear c3).bind fun c7 =>
  (zw_whl (fn_P_back_l1 r2) zw_F (0, c7)).bind fun c10 =>
  (fn_Row_isBent c10).bind fun r18 =>
  some ((if (¬ r18 = 0) then (1 : Int32) else 0), c10))
set_option maxRecDepth 100000 in
theorem km_P_back {l : Launch} {g : zw_G} {rr : zw_RR} {sh : zw_Sh} {c : zw_Ct} {pay1 : Int32} {r : Int32} {c2 : zw_Ct} (hS : zw_Ok 0 101 sh rr) (hsem : fn_P_back c pay1 = some (r, c2)) : zw_Met l g y_P_back b_P_back 4 (some .int) 5 rr sh [.ref 0, .int pay1] c (some (.int r)) c2 := by
  unfold fn_P_back at hsem
  refine zw_Met.of (by decide +kernel) (Nat.le_of_ble_eq_true rfl) (fun p e s m args below meth cd X => ?_)
  refine zw_eL (L2 := [some (.ref 0), some (.int pay1), none, none]) rfl ?_
  refine r_aload_n X (pc := 0) (i := 0) (zw_dg dk_P_back 0 rfl) rfl rfl ?_
  refine r_getR X (pc := 1) (r := 45) ci_P (zo hS 0 rfl rfl) rfl (zr hS 0 5 rfl rfl) lk_P_53 (zw_dg dk_P_back 1 rfl) ?_
  refine r_iload_n X (pc := 4) (i := 1) (zw_dg dk_P_back 2 rfl) rfl rfl ?_
  obtain ⟨⟨r2, c3⟩, hr2_c3, hsem⟩ := zw_bd hsem
  refine r_callVO X (pc := 5) (As := [_]) (st := []) (km_Pays_valuesOf hS hr2_c3) ce_Pays_valuesOf kw_705 (zo hS 45 rfl rfl) rfl rfl ⟨Nat.le_of_ble_eq_true rfl, Nat.le_of_ble_eq_true rfl⟩ (Nat.le_of_ble_eq_true rfl) (zw_dg dk_P_back 3 rfl) ?_
  refine r_astore_nO X (pc := 8) (i := 2) (zw_dg dk_P_back 4 rfl) rfl (by decide) rfl ?_
  refine zw_cnd (P := ((r2 = none) ∨ (¬ (c3.1 1 0) = 2))) (J1 := 24) (J2 := 26) (st2 := []) (fun jT jF => ?_) (fun p4 => ?_) (fun p4 => ?_)
  · --
    refine r_aload_nO X (pc := 9) (i := 2) (zw_dg dk_P_back 5 rfl) rfl rfl ?_
    refine r_ifnull X (pc := 10) (tgt := 24) (zw_dg dk_P_back 6 rfl) (by decide) (fun q5 => ?_) (fun q5 => ?_)
    · --
      exact jT (Or.inl q5)
    · --
      refine r_aload_n X (pc := 13) (i := 0) (zw_dg dk_P_back 7 rfl) rfl rfl ?_
      refine r_getR X (pc := 14) (r := 1) ci_P (zo hS 0 rfl rfl) rfl (zr hS 0 0 rfl rfl) lk_P_25 (zw_dg dk_P_back 8 rfl) ?_
      refine r_getI X (pc := 17) ci_Sayings (zo hS 1 rfl rfl) rfl lk_P_220 (zw_dg dk_P_back 9 rfl) ?_
      refine r_iconst X (pc := 20) (v := 2) (zw_dg dk_P_back 10 rfl) (by decide) ?_
      refine r_icmp_eq X (pc := 21) (tgt := 26) (zw_dg dk_P_back 11 rfl) (by decide) (fun q6 => ?_) (fun q6 => ?_)
      · --
        exact jF (fun q => q.elim q5 (fun z => z q6))
      · --
        exact jT (Or.inr q6)
  · --
    have hsem := zw_ifp p4 hsem
    refine r_iconst X (pc := 24) (v := (-1)) (zw_dg dk_P_back 12 rfl) (by decide) ?_
    obtain ⟨rfl, rfl⟩ := zw_in2 hsem
    exact r_iret X (pc := 25) rfl (zw_dg dk_P_back 13 rfl)
  · --
    have hsem := zw_ifn p4 hsem
    refine r_aload_n X (pc := 26) (i := 0) (zw_dg dk_P_back 14 rfl) rfl rfl ?_
    refine r_getR X (pc := 27) (r := 61) ci_P (zo hS 0 rfl rfl) rfl (zr hS 0 6 rfl rfl) lk_P_60 (zw_dg dk_P_back 15 rfl) ?_
    obtain ⟨c7, hc7, hsem⟩ := zw_bd hsem
    refine r_callVv X (pc := 30) (As := []) (st := []) (km_Row_clear hS hc7) ce_Row_clear kw_741 (zo hS 61 rfl rfl) rfl rfl ⟨Nat.le_of_ble_eq_true rfl, Nat.le_of_ble_eq_true rfl⟩ (Nat.le_of_ble_eq_true rfl) (zw_dg dk_P_back 16 rfl) ?_
    refine r_iconst X (pc := 33) (v := 0) (zw_dg dk_P_back 17 rfl) (by decide) ?_
    refine r_istore_n X (pc := 34) (i := 3) (L2 := [some (.ref 0), some (.int pay1), some (zw_ov r2), some (.int 0)]) (zw_dg dk_P_back 18 rfl) rfl (by decide) (zw_s1v rfl rfl) ?_
    obtain ⟨c10, hl11, hsl11⟩ := zw_bd hsem
    refine r_loop (pc := 35) (pce := 76) hl11 (fun (k8, c9) => [some (.ref 0), some (.int pay1), some (zw_ov r2), some (.int k8)] : Int32 × zw_Ct → zw_Lc) (fun (k8, c9) => c9 : Int32 × zw_Ct → zw_Ct) (fun c10 => [some (.ref 0), some (.int pay1), some (zw_ov r2), none] : zw_Ct → zw_Lc) (fun c10 => c10 : zw_Ct → zw_Ct) ?_ rfl rfl ?_
    · rintro ⟨k8, c9⟩ rr hsem hK hP
      try unfold fn_P_back_l1 at hsem
      refine r_iload_n X (pc := 35) (i := 3) (zw_dg dk_P_back 19 rfl) rfl rfl ?_
      refine r_aload_n X (pc := 36) (i := 0) (zw_dg dk_P_back 20 rfl) rfl rfl ?_
      refine r_getR X (pc := 37) (r := 1) ci_P (zo hS 0 rfl rfl) rfl (zr hS 0 0 rfl rfl) lk_P_25 (zw_dg dk_P_back 21 rfl) ?_
      refine r_getI X (pc := 40) ci_Sayings (zo hS 1 rfl rfl) rfl lk_P_187 (zw_dg dk_P_back 22 rfl) ?_
      refine r_icmp_gt X (pc := 43) (tgt := 76) (zw_dg dk_P_back 23 rfl) (by decide) (fun q13 => ?_) (fun q13 => ?_)
      · --
        have p12 : ¬ (k8 ≤ (c9.1 1 1)) := (Int32.not_le.mpr q13)
        have hsem := zw_ifn p12 hsem
        have jj := hK _ (Option.some.inj hsem).symm
        exact (r_fgt [3] rfl jj)
      · --
        have p12 : (k8 ≤ (c9.1 1 1)) := (Int32.not_lt.mp q13)
        have hsem := zw_ifp p12 hsem
        refine r_aload_n X (pc := 46) (i := 0) (zw_dg dk_P_back 24 rfl) rfl rfl ?_
        refine r_getR X (pc := 47) (r := 61) ci_P (zo hS 0 rfl rfl) rfl (zr hS 0 6 rfl rfl) lk_P_60 (zw_dg dk_P_back 25 rfl) ?_
        refine r_aload_n X (pc := 50) (i := 0) (zw_dg dk_P_back 26 rfl) rfl rfl ?_
        refine r_getR X (pc := 51) (r := 13) ci_P (zo hS 0 rfl rfl) rfl (zr hS 0 7 rfl rfl) lk_P_64 (zw_dg dk_P_back 27 rfl) ?_
        refine r_aload_nO X (pc := 54) (i := 2) (zw_dg dk_P_back 28 rfl) rfl rfl ?_
        refine r_aload_n X (pc := 55) (i := 0) (zw_dg dk_P_back 29 rfl) rfl rfl ?_
        refine r_getR X (pc := 56) (r := 1) ci_P (zo hS 0 rfl rfl) rfl (zr hS 0 0 rfl rfl) lk_P_25 (zw_dg dk_P_back 30 rfl) ?_
        refine r_getI X (pc := 59) ci_Sayings (zo hS 1 rfl rfl) rfl lk_P_187 (zw_dg dk_P_back 31 rfl) ?_
        refine r_iload_n X (pc := 62) (i := 3) (zw_dg dk_P_back 32 rfl) rfl rfl ?_
        refine r_isub X (pc := 63) (zw_dg dk_P_back 33 rfl)  ?_
        obtain ⟨a14, ha14, hs_a14⟩ := zw_bd hsem
        subst ha14
        have hsem := hs_a14
        obtain ⟨⟨r15, c16⟩, hr15_c16, hsem⟩ := zw_bd hsem
        refine r_callVl X (pc := 64) (As := [_, _]) (st := [.ref 61]) (km_Judge_greatestWorth hS hr15_c16) ce_Judge_greatestWorth kw_823 (zo hS 13 rfl rfl) rfl rfl ⟨Nat.le_of_ble_eq_true rfl, Nat.le_of_ble_eq_true rfl⟩ (Nat.le_of_ble_eq_true rfl) (zw_dg dk_P_back 34 rfl) ?_
        obtain ⟨c17, hc17, hsem⟩ := zw_bd hsem
        refine r_callVv X (pc := 67) (As := [_]) (st := []) (km_Row_add hS hc17) ce_Row_add kw_745 (zo hS 61 rfl rfl) rfl rfl ⟨Nat.le_of_ble_eq_true rfl, Nat.le_of_ble_eq_true rfl⟩ (Nat.le_of_ble_eq_true rfl) (zw_dg dk_P_back 35 rfl) ?_
        refine r_iinc X (pc := 70) (i := 3) (k := 1) (zw_dg dk_P_back 36 rfl) rfl (by decide) (by decide) rfl ?_
        refine r_goto X (pc := 73) (tgt := 35) (zw_dg dk_P_back 37 rfl) (by decide) ?_
        have jj := hP _ (Option.some.inj hsem).symm
        exact (r_fgt [] rfl jj)
    have hsem := hsl11
    refine r_aload_n X (pc := 76) (i := 0) (zw_dg dk_P_back 38 rfl) rfl rfl ?_
    refine r_getR X (pc := 77) (r := 61) ci_P (zo hS 0 rfl rfl) rfl (zr hS 0 6 rfl rfl) lk_P_60 (zw_dg dk_P_back 39 rfl) ?_
    obtain ⟨r18, hr18, hsem⟩ := zw_bd hsem
    refine r_callVi X (pc := 80) (As := []) (st := []) (km_Row_isBent hS hr18) ce_Row_isBent kw_891 (zo hS 61 rfl rfl) rfl rfl ⟨Nat.le_of_ble_eq_true rfl, Nat.le_of_ble_eq_true rfl⟩ (Nat.le_of_ble_eq_true rfl) (zw_dg dk_P_back 40 rfl) ?_
    refine zw_ter (P := (¬ r18 = 0)) (f := Value.int) (x := 1) (y := 0) (J := 91) (st2 := []) (fun jT jF => ?_) ?_
    · --
      refine r_if_eq X (pc := 83) (tgt := 90) (zw_dg dk_P_back 41 rfl) (by decide) (fun q19 => ?_) (fun q19 => ?_)
      · --
        refine r_iconst X (pc := 90) (v := 0) (zw_dg dk_P_back 44 rfl) (by decide) ?_
        exact jF (fun z => z q19)
      · --
        refine r_iconst X (pc := 86) (v := 1) (zw_dg dk_P_back 42 rfl) (by decide) ?_
        refine r_goto X (pc := 87) (tgt := 91) (zw_dg dk_P_back 43 rfl) (by decide) ?_
        exact jT q19
    obtain ⟨rfl, rfl⟩ := zw_in2 hsem
    exact r_iret X (pc := 91) rfl (zw_dg dk_P_back 45 rfl)
def y_P_take : MethodName := ⟨R_P, "take", "(I)Z"⟩
abbrev b_P_take : ByteArray := prog_1_method_22_code
def dl_P_take : List (Nat × Instr × Nat) := [(0, .aload_n 0, 1), (1, .getfield 53, 3), (4, .iload_n 1, 1), (5, .invokevirtual 163, 3), (8, .astore_n 2, 1), (9, .aload_n 2, 1), (10, .ifnull 25, 3), (13, .aload_n 0, 1), (14, .getfield 25, 3), (17, .getfield 220, 3), (20, .iconst 2, 1), (21, .if_icmp .ne 14, 3), (24, .aload_n 0, 1), (25, .getfield 64, 3), (28, .aload_n 2, 1), (29, .invokevirtual 230, 3), (32, .ifCond .ne 5, 3), (35, .iconst 0, 1), (36, .ireturn, 1), (37, .iconst 0, 1), (38, .istore_n 3, 1), (39, .iload_n 3, 1), (40, .aload_n 0, 1), (41, .getfield 25, 3), (44, .getfield 187, 3), (47, .if_icmp .gt 28, 3), (50, .aload_n 0, 1), (51, .getfield 29, 3), (54, .getfield 140, 3), (57, .iload_n 3, 1), (58, .aload_n 0, 1), (59, .getfield 64, 3), (62, .aload_n 2, 1), (63, .iload_n 3, 1), (64, .invokevirtual 234, 3), (67, .l2i, 1), (68, .iastore, 1), (69, .iinc 3 1, 3), (72, .goto (-33), 3), (75, .aload_n 0, 1), (76, .getfield 53, 3), (79, .invokevirtual 144, 3), (82, .iconst 1, 1), (83, .ireturn, 1)]
theorem dk_P_take : zw_dk b_P_take dl_P_take = true := by decide +kernel
theorem ce_P_take : zw_cev y_P_take b_P_take 4 (some .boolean) 1 := ⟨⟨kt_in 898 (by decide +kernel) rfl, kt_in 85 (by decide +kernel) rfl, by decide +kernel⟩, kt_in 896 (by decide +kernel) rfl, kt_in 897 (by decide +kernel) rfl⟩
def fn_P_take_l1 (a8 : Nat) : Int32 × zw_Ct → Option ((zw_Ct) ⊕ (Int32 × zw_Ct)) := fun (k13, c14) =>
  if (k13 ≤ (c14.1 1 1)) then
  ((fn_Judge_turnOf c14 a8 k13).bind fun (r19, c20) =>
  (zw_uI 13 c20 4 k13 r19.toInt32).bind fun c21 =>
  some (.inr ((k13 + 1), c21)))
  else
  (some (.inl c14))
def fn_P_take (c : zw_Ct) (pay1 : Int32) : Option (Int32 × zw_Ct) :=
  (fn_Pays_valuesOf c pay1).bind fun (r2, c3) =>
  if (r2 = none) then
  (some (0, c3))
  else
  (if (¬ (c3.1 1 0) = 2) then
  (some (0, c3))
  else
  ((r2).bind fun a8 =>
  (fn_Judge_fitsTurn c3 a8).bind fun (r9, c10) =>
  if (¬ (¬ r9 = 0)) then
  (some (0, c10))
  else
  ((zw_whl (fn_P_take_l1 a8) zw_F (0, c10)).bind fun c15 =>
  (fn_Pays_turnChanged c15).bind fun c22 =>
  some (1, c22))))
set_option maxRecDepth 100000 in
theorem km_P_take {l : Launch} {g : zw_G} {rr : zw_RR} {sh : zw_Sh} {c : zw_Ct} {pay1 : Int32} {r : Int32} {c2 : zw_Ct} (hS : zw_Ok 0 101 sh rr) (hsem : fn_P_take c pay1 = some (r, c2)) : zw_Met l g y_P_take b_P_take 4 (some .boolean) 7 rr sh [.ref 0, .int pay1] c (some (.int r)) c2 := by
  unfold fn_P_take at hsem
  refine zw_Met.of (by decide +kernel) (Nat.le_of_ble_eq_true rfl) (fun p e s m args below meth cd X => ?_)
  refine zw_eL (L2 := [some (.ref 0), some (.int pay1), none, none]) rfl ?_
  refine r_aload_n X (pc := 0) (i := 0) (zw_dg dk_P_take 0 rfl) rfl rfl ?_
  refine r_getR X (pc := 1) (r := 45) ci_P (zo hS 0 rfl rfl) rfl (zr hS 0 5 rfl rfl) lk_P_53 (zw_dg dk_P_take 1 rfl) ?_
  refine r_iload_n X (pc := 4) (i := 1) (zw_dg dk_P_take 2 rfl) rfl rfl ?_
  obtain ⟨⟨r2, c3⟩, hr2_c3, hsem⟩ := zw_bd hsem
  refine r_callVO X (pc := 5) (As := [_]) (st := []) (km_Pays_valuesOf hS hr2_c3) ce_Pays_valuesOf kw_705 (zo hS 45 rfl rfl) rfl rfl ⟨Nat.le_of_ble_eq_true rfl, Nat.le_of_ble_eq_true rfl⟩ (Nat.le_of_ble_eq_true rfl) (zw_dg dk_P_take 3 rfl) ?_
  refine r_astore_nO X (pc := 8) (i := 2) (zw_dg dk_P_take 4 rfl) rfl (by decide) rfl ?_
  refine r_aload_nO X (pc := 9) (i := 2) (zw_dg dk_P_take 5 rfl) rfl rfl ?_
  refine r_ifnull X (pc := 10) (tgt := 35) (zw_dg dk_P_take 6 rfl) (by decide) (fun q5 => ?_) (fun q5 => ?_)
  · --
    have p4 : (r2 = none) := q5
    have hsem := zw_ifp p4 hsem
    refine r_iconst X (pc := 35) (v := 0) (zw_dg dk_P_take 17 rfl) (by decide) ?_
    have hbz : (0 : Int32) = 0 ∨ (0 : Int32) = 1 := (by decide)
    obtain ⟨rfl, rfl⟩ := zw_in2 hsem
    exact r_zret X (pc := 36) rfl (zw_bzn hbz).1 (zw_dg dk_P_take 18 rfl)
  · --
    have p4 : ¬ (r2 = none) := q5
    have hsem := zw_ifn p4 hsem
    refine r_aload_n X (pc := 13) (i := 0) (zw_dg dk_P_take 7 rfl) rfl rfl ?_
    refine r_getR X (pc := 14) (r := 1) ci_P (zo hS 0 rfl rfl) rfl (zr hS 0 0 rfl rfl) lk_P_25 (zw_dg dk_P_take 8 rfl) ?_
    refine r_getI X (pc := 17) ci_Sayings (zo hS 1 rfl rfl) rfl lk_P_220 (zw_dg dk_P_take 9 rfl) ?_
    refine r_iconst X (pc := 20) (v := 2) (zw_dg dk_P_take 10 rfl) (by decide) ?_
    refine r_icmp_ne X (pc := 21) (tgt := 35) (zw_dg dk_P_take 11 rfl) (by decide) (fun q7 => ?_) (fun q7 => ?_)
    · --
      have p6 : (¬ (c3.1 1 0) = 2) := q7
      have hsem := zw_ifp p6 hsem
      refine r_iconst X (pc := 35) (v := 0) (zw_dg dk_P_take 17 rfl) (by decide) ?_
      have hbz : (0 : Int32) = 0 ∨ (0 : Int32) = 1 := (by decide)
      obtain ⟨rfl, rfl⟩ := zw_in2 hsem
      exact r_zret X (pc := 36) rfl (zw_bzn hbz).1 (zw_dg dk_P_take 18 rfl)
    · --
      have p6 : ¬ (¬ (c3.1 1 0) = 2) := (fun z => z q7)
      have hsem := zw_ifn p6 hsem
      refine r_aload_n X (pc := 24) (i := 0) (zw_dg dk_P_take 12 rfl) rfl rfl ?_
      refine r_getR X (pc := 25) (r := 13) ci_P (zo hS 0 rfl rfl) rfl (zr hS 0 7 rfl rfl) lk_P_64 (zw_dg dk_P_take 13 rfl) ?_
      refine r_aload_nO X (pc := 28) (i := 2) (zw_dg dk_P_take 14 rfl) rfl rfl ?_
      obtain ⟨a8, ha8, hs_a8⟩ := zw_bd hsem
      subst ha8
      have hsem := hs_a8
      obtain ⟨⟨r9, c10⟩, hr9_c10, hsem⟩ := zw_bd hsem
      refine r_callVi X (pc := 29) (As := [_]) (st := []) (km_Judge_fitsTurn hS hr9_c10) ce_Judge_fitsTurn kw_899 (zo hS 13 rfl rfl) rfl rfl ⟨Nat.le_of_ble_eq_true rfl, Nat.le_of_ble_eq_true rfl⟩ (Nat.le_of_ble_eq_true rfl) (zw_dg dk_P_take 15 rfl) ?_
      refine r_if_ne X (pc := 32) (tgt := 37) (zw_dg dk_P_take 16 rfl) (by decide) (fun q12 => ?_) (fun q12 => ?_)
      · --
        have p11 : ¬ (¬ (¬ r9 = 0)) := (fun q => q q12)
        have hsem := zw_ifn p11 hsem
        refine r_iconst X (pc := 37) (v := 0) (zw_dg dk_P_take 19 rfl) (by decide) ?_
        refine r_istore_n X (pc := 38) (i := 3) (zw_dg dk_P_take 20 rfl) rfl (by decide) rfl ?_
        obtain ⟨c15, hl16, hsl16⟩ := zw_bd hsem
        refine r_loop (pc := 39) (pce := 75) hl16 (fun (k13, c14) => [some (.ref 0), some (.int pay1), some (.ref a8), some (.int k13)] : Int32 × zw_Ct → zw_Lc) (fun (k13, c14) => c14 : Int32 × zw_Ct → zw_Ct) (fun c15 => [some (.ref 0), some (.int pay1), some (.ref a8), none] : zw_Ct → zw_Lc) (fun c15 => c15 : zw_Ct → zw_Ct) ?_ rfl rfl ?_
        · rintro ⟨k13, c14⟩ rr hsem hK hP
          try unfold fn_P_take_l1 at hsem
          refine r_iload_n X (pc := 39) (i := 3) (zw_dg dk_P_take 21 rfl) rfl rfl ?_
          refine r_aload_n X (pc := 40) (i := 0) (zw_dg dk_P_take 22 rfl) rfl rfl ?_
          refine r_getR X (pc := 41) (r := 1) ci_P (zo hS 0 rfl rfl) rfl (zr hS 0 0 rfl rfl) lk_P_25 (zw_dg dk_P_take 23 rfl) ?_
          refine r_getI X (pc := 44) ci_Sayings (zo hS 1 rfl rfl) rfl lk_P_187 (zw_dg dk_P_take 24 rfl) ?_
          refine r_icmp_gt X (pc := 47) (tgt := 75) (zw_dg dk_P_take 25 rfl) (by decide) (fun q18 => ?_) (fun q18 => ?_)
          · --
            have p17 : ¬ (k13 ≤ (c14.1 1 1)) := (Int32.not_le.mpr q18)
            have hsem := zw_ifn p17 hsem
            have jj := hK _ (Option.some.inj hsem).symm
            exact (r_fgt [3] rfl jj)
          · --
            have p17 : (k13 ≤ (c14.1 1 1)) := (Int32.not_lt.mp q18)
            have hsem := zw_ifp p17 hsem
            refine r_aload_n X (pc := 50) (i := 0) (zw_dg dk_P_take 26 rfl) rfl rfl ?_
            refine r_getR X (pc := 51) (r := 3) ci_P (zo hS 0 rfl rfl) rfl (zr hS 0 1 rfl rfl) lk_P_29 (zw_dg dk_P_take 27 rfl) ?_
            refine r_getR X (pc := 54) (r := 4) ci_Held (zo hS 3 rfl rfl) rfl (zr hS 3 0 rfl rfl) lk_P_140 (zw_dg dk_P_take 28 rfl) ?_
            refine r_iload_n X (pc := 57) (i := 3) (zw_dg dk_P_take 29 rfl) rfl rfl ?_
            refine r_aload_n X (pc := 58) (i := 0) (zw_dg dk_P_take 30 rfl) rfl rfl ?_
            refine r_getR X (pc := 59) (r := 13) ci_P (zo hS 0 rfl rfl) rfl (zr hS 0 7 rfl rfl) lk_P_64 (zw_dg dk_P_take 31 rfl) ?_
            refine r_aload_n X (pc := 62) (i := 2) (zw_dg dk_P_take 32 rfl) rfl rfl ?_
            refine r_iload_n X (pc := 63) (i := 3) (zw_dg dk_P_take 33 rfl) rfl rfl ?_
            obtain ⟨⟨r19, c20⟩, hr19_c20, hsem⟩ := zw_bd hsem
            refine r_callVl X (pc := 64) (As := [_, _]) (st := [.int k13, .ref 4]) (km_Judge_turnOf hS hr19_c20) ce_Judge_turnOf kw_910 (zo hS 13 rfl rfl) rfl rfl ⟨Nat.le_of_ble_eq_true rfl, Nat.le_of_ble_eq_true rfl⟩ (Nat.le_of_ble_eq_true rfl) (zw_dg dk_P_take 34 rfl) ?_
            refine r_l2i X (pc := 67) (zw_dg dk_P_take 35 rfl)  ?_
            obtain ⟨c21, hc21, hsem⟩ := zw_bd hsem
            refine r_iast X (pc := 68) (zo hS 4 rfl rfl) hc21 (zw_dg dk_P_take 36 rfl) ?_
            refine r_iinc X (pc := 69) (i := 3) (k := 1) (zw_dg dk_P_take 37 rfl) rfl (by decide) (by decide) rfl ?_
            refine r_goto X (pc := 72) (tgt := 39) (zw_dg dk_P_take 38 rfl) (by decide) ?_
            have jj := hP _ (Option.some.inj hsem).symm
            exact (r_fgt [] rfl jj)
        have hsem := hsl16
        refine r_aload_n X (pc := 75) (i := 0) (zw_dg dk_P_take 39 rfl) rfl rfl ?_
        refine r_getR X (pc := 76) (r := 45) ci_P (zo hS 0 rfl rfl) rfl (zr hS 0 5 rfl rfl) lk_P_53 (zw_dg dk_P_take 40 rfl) ?_
        obtain ⟨c22, hc22, hsem⟩ := zw_bd hsem
        refine r_callVv X (pc := 79) (As := []) (st := []) (km_Pays_turnChanged hS hc22) ce_Pays_turnChanged kw_528 (zo hS 45 rfl rfl) rfl rfl ⟨Nat.le_of_ble_eq_true rfl, Nat.le_of_ble_eq_true rfl⟩ (Nat.le_of_ble_eq_true rfl) (zw_dg dk_P_take 41 rfl) ?_
        refine r_iconst X (pc := 82) (v := 1) (zw_dg dk_P_take 42 rfl) (by decide) ?_
        have hbz : (1 : Int32) = 0 ∨ (1 : Int32) = 1 := (by decide)
        obtain ⟨rfl, rfl⟩ := zw_in2 hsem
        exact r_zret X (pc := 83) rfl (zw_bzn hbz).1 (zw_dg dk_P_take 43 rfl)
      · --
        have p11 : (¬ (¬ r9 = 0)) := (fun z => z q12)
        have hsem := zw_ifp p11 hsem
        refine r_iconst X (pc := 35) (v := 0) (zw_dg dk_P_take 17 rfl) (by decide) ?_
        have hbz : (0 : Int32) = 0 ∨ (0 : Int32) = 1 := (by decide)
        obtain ⟨rfl, rfl⟩ := zw_in2 hsem
        exact r_zret X (pc := 36) rfl (zw_bzn hbz).1 (zw_dg dk_P_take 18 rfl)
def y_P_mix : MethodName := ⟨R_P, "mix", "(IIIII)Z"⟩
abbrev b_P_mix : ByteArray := prog_1_method_23_code
def dl_P_mix : List (Nat × Instr × Nat) := [(0, .aload_n 0, 1), (1, .getfield 53, 3), (4, .iload_n 2, 1), (5, .invokevirtual 163, 3), (8, .astore 6, 2), (10, .aload_n 0, 1), (11, .getfield 53, 3), (14, .iload_n 3, 1), (15, .invokevirtual 163, 3), (18, .astore 7, 2), (20, .aload 6, 2), (22, .ifnull 17, 3), (25, .aload 7, 2), (27, .ifnull 12, 3), (30, .iload_n 1, 1), (31, .iconst 0, 1), (32, .iconst 3, 1), (33, .invokestatic 100, 3), (36, .ifCond .ne 5, 3), (39, .iconst 0, 1), (40, .ireturn, 1), (41, .iload 4, 2), (43, .bipush (-9), 2), (45, .bipush 9, 2), (47, .invokestatic 100, 3), (50, .ifCond .eq 15, 3), (53, .iload 5, 2), (55, .bipush (-9), 2), (57, .bipush 9, 2), (59, .invokestatic 100, 3), (62, .ifCond .ne 5, 3), (65, .iconst 0, 1), (66, .ireturn, 1), (67, .aload_n 0, 1), (68, .getfield 53, 3), (71, .iload_n 1, 1), (72, .aload 6, 2), (74, .aload 7, 2), (76, .iload 4, 2), (78, .iload 5, 2), (80, .invokevirtual 237, 3), (83, .iconst 1, 1), (84, .ireturn, 1)]
theorem dk_P_mix : zw_dk b_P_mix dl_P_mix = true := by decide +kernel
theorem ce_P_mix : zw_cev y_P_mix b_P_mix 8 (some .boolean) 5 := ⟨⟨kt_in 914 (by decide +kernel) rfl, kt_in 85 (by decide +kernel) rfl, by decide +kernel⟩, kt_in 912 (by decide +kernel) rfl, kt_in 913 (by decide +kernel) rfl⟩
def fn_P_mix (c : zw_Ct) (i1 : Int32) (one2 : Int32) (other3 : Int32) (a4 : Int32) (b5 : Int32) : Option (Int32 × zw_Ct) :=
  (fn_Pays_valuesOf c one2).bind fun (r6, c7) =>
  (fn_Pays_valuesOf c7 other3).bind fun (r8, c9) =>
  if (((r6 = none) ∨ (r8 = none)) ∨ (¬ (¬ (fn_P_within i1 0 3) = 0))) then
  (some (0, c9))
  else
  (if ((¬ (¬ (fn_P_within a4 (-9) 9) = 0)) ∨ (¬ (¬ (fn_P_within b5 (-9) 9) = 0))) then
  (some (0, c9))
  else
  ((r6).bind fun a17 =>
  (r8).bind fun a18 =>
  (fn_Pays_makeOfTwo c9 i1 a17 a18 a4 b5).bind fun c19 =>
  some (1, c19)))
set_option maxRecDepth 100000 in
theorem km_P_mix {l : Launch} {g : zw_G} {rr : zw_RR} {sh : zw_Sh} {c : zw_Ct} {i1 : Int32} {one2 : Int32} {other3 : Int32} {a4 : Int32} {b5 : Int32} {r : Int32} {c2 : zw_Ct} (hS : zw_Ok 0 101 sh rr) (hsem : fn_P_mix c i1 one2 other3 a4 b5 = some (r, c2)) : zw_Met l g y_P_mix b_P_mix 8 (some .boolean) 5 rr sh [.ref 0, .int i1, .int one2, .int other3, .int a4, .int b5] c (some (.int r)) c2 := by
  unfold fn_P_mix at hsem
  refine zw_Met.of (by decide +kernel) (Nat.le_of_ble_eq_true rfl) (fun p e s m args below meth cd X => ?_)
  refine zw_eL (L2 := [some (.ref 0), some (.int i1), some (.int one2), some (.int other3), some (.int a4), some (.int b5), none, none]) rfl ?_
  refine r_aload_n X (pc := 0) (i := 0) (zw_dg dk_P_mix 0 rfl) rfl rfl ?_
  refine r_getR X (pc := 1) (r := 45) ci_P (zo hS 0 rfl rfl) rfl (zr hS 0 5 rfl rfl) lk_P_53 (zw_dg dk_P_mix 1 rfl) ?_
  refine r_iload_n X (pc := 4) (i := 2) (zw_dg dk_P_mix 2 rfl) rfl rfl ?_
  obtain ⟨⟨r6, c7⟩, hr6_c7, hsem⟩ := zw_bd hsem
  refine r_callVO X (pc := 5) (As := [_]) (st := []) (km_Pays_valuesOf hS hr6_c7) ce_Pays_valuesOf kw_705 (zo hS 45 rfl rfl) rfl rfl ⟨Nat.le_of_ble_eq_true rfl, Nat.le_of_ble_eq_true rfl⟩ (Nat.le_of_ble_eq_true rfl) (zw_dg dk_P_mix 3 rfl) ?_
  refine r_astoreO X (pc := 8) (i := 6) (zw_dg dk_P_mix 4 rfl) (by decide) rfl ?_
  refine r_aload_n X (pc := 10) (i := 0) (zw_dg dk_P_mix 5 rfl) rfl rfl ?_
  refine r_getR X (pc := 11) (r := 45) ci_P (zo hS 0 rfl rfl) rfl (zr hS 0 5 rfl rfl) lk_P_53 (zw_dg dk_P_mix 6 rfl) ?_
  refine r_iload_n X (pc := 14) (i := 3) (zw_dg dk_P_mix 7 rfl) rfl rfl ?_
  obtain ⟨⟨r8, c9⟩, hr8_c9, hsem⟩ := zw_bd hsem
  refine r_callVO X (pc := 15) (As := [_]) (st := []) (km_Pays_valuesOf hS hr8_c9) ce_Pays_valuesOf kw_705 (zo hS 45 rfl rfl) rfl rfl ⟨Nat.le_of_ble_eq_true rfl, Nat.le_of_ble_eq_true rfl⟩ (Nat.le_of_ble_eq_true rfl) (zw_dg dk_P_mix 8 rfl) ?_
  refine r_astoreO X (pc := 18) (i := 7) (L2 := [some (.ref 0), some (.int i1), some (.int one2), some (.int other3), some (.int a4), some (.int b5), some (zw_ov r6), some (zw_ov r8)]) (zw_dg dk_P_mix 9 rfl) (by decide) (zw_s1v rfl rfl) ?_
  refine zw_cnd (P := (((r6 = none) ∨ (r8 = none)) ∨ (¬ (¬ (fn_P_within i1 0 3) = 0)))) (J1 := 39) (J2 := 41) (st2 := []) (fun jT jF => ?_) (fun p10 => ?_) (fun p10 => ?_)
  · --
    refine r_aloadO X (pc := 20) (i := 6) (zw_dg dk_P_mix 10 rfl) rfl ?_
    refine r_ifnull X (pc := 22) (tgt := 39) (zw_dg dk_P_mix 11 rfl) (by decide) (fun q11 => ?_) (fun q11 => ?_)
    · --
      exact jT (Or.inl (Or.inl q11))
    · --
      refine r_aloadO X (pc := 25) (i := 7) (zw_dg dk_P_mix 12 rfl) rfl ?_
      refine r_ifnull X (pc := 27) (tgt := 39) (zw_dg dk_P_mix 13 rfl) (by decide) (fun q12 => ?_) (fun q12 => ?_)
      · --
        exact jT (Or.inl (Or.inr q12))
      · --
        refine r_iload_n X (pc := 30) (i := 1) (zw_dg dk_P_mix 14 rfl) rfl rfl ?_
        refine r_iconst X (pc := 31) (v := 0) (zw_dg dk_P_mix 15 rfl) (by decide) ?_
        refine r_iconst X (pc := 32) (v := 3) (zw_dg dk_P_mix 16 rfl) (by decide) ?_
        refine r_callSi X (pc := 33) (As := [_, _, _]) (st := []) (km_P_within hS rfl) ce_P_within kw_492 rfl ⟨Nat.le_of_ble_eq_true rfl, Nat.le_of_ble_eq_true rfl⟩ (Nat.le_of_ble_eq_true rfl) (zw_dg dk_P_mix 17 rfl) ?_
        refine r_if_ne X (pc := 36) (tgt := 41) (zw_dg dk_P_mix 18 rfl) (by decide) (fun q13 => ?_) (fun q13 => ?_)
        · --
          exact jF (fun q => q.elim (fun q => q.elim q11 q12) (fun q => q q13))
        · --
          exact jT (Or.inr (fun z => z q13))
  · --
    have hsem := zw_ifp p10 hsem
    refine r_iconst X (pc := 39) (v := 0) (zw_dg dk_P_mix 19 rfl) (by decide) ?_
    have hbz : (0 : Int32) = 0 ∨ (0 : Int32) = 1 := (by decide)
    obtain ⟨rfl, rfl⟩ := zw_in2 hsem
    exact r_zret X (pc := 40) rfl (zw_bzn hbz).1 (zw_dg dk_P_mix 20 rfl)
  · --
    have hsem := zw_ifn p10 hsem
    refine zw_cnd (P := ((¬ (¬ (fn_P_within a4 (-9) 9) = 0)) ∨ (¬ (¬ (fn_P_within b5 (-9) 9) = 0)))) (J1 := 65) (J2 := 67) (st2 := []) (fun jT jF => ?_) (fun p14 => ?_) (fun p14 => ?_)
    · --
      refine r_iload X (pc := 41) (i := 4) (zw_dg dk_P_mix 21 rfl) rfl ?_
      refine r_bipush X (pc := 43) (v := (-9)) (zw_dg dk_P_mix 22 rfl) (by decide) ?_
      refine r_bipush X (pc := 45) (v := 9) (zw_dg dk_P_mix 23 rfl) (by decide) ?_
      refine r_callSi X (pc := 47) (As := [_, _, _]) (st := []) (km_P_within hS rfl) ce_P_within kw_492 rfl ⟨Nat.le_of_ble_eq_true rfl, Nat.le_of_ble_eq_true rfl⟩ (Nat.le_of_ble_eq_true rfl) (zw_dg dk_P_mix 24 rfl) ?_
      refine r_if_eq X (pc := 50) (tgt := 65) (zw_dg dk_P_mix 25 rfl) (by decide) (fun q15 => ?_) (fun q15 => ?_)
      · --
        exact jT (Or.inl (fun z => z q15))
      · --
        refine r_iload X (pc := 53) (i := 5) (zw_dg dk_P_mix 26 rfl) rfl ?_
        refine r_bipush X (pc := 55) (v := (-9)) (zw_dg dk_P_mix 27 rfl) (by decide) ?_
        refine r_bipush X (pc := 57) (v := 9) (zw_dg dk_P_mix 28 rfl) (by decide) ?_
        refine r_callSi X (pc := 59) (As := [_, _, _]) (st := []) (km_P_within hS rfl) ce_P_within kw_492 rfl ⟨Nat.le_of_ble_eq_true rfl, Nat.le_of_ble_eq_true rfl⟩ (Nat.le_of_ble_eq_true rfl) (zw_dg dk_P_mix 29 rfl) ?_
        refine r_if_ne X (pc := 62) (tgt := 67) (zw_dg dk_P_mix 30 rfl) (by decide) (fun q16 => ?_) (fun q16 => ?_)
        · --
          exact jF (fun q => q.elim (fun q => q q15) (fun q => q q16))
        · --
          exact jT (Or.inr (fun z => z q16))
    · --
      have hsem := zw_ifp p14 hsem
      refine r_iconst X (pc := 65) (v := 0) (zw_dg dk_P_mix 31 rfl) (by decide) ?_
      have hbz : (0 : Int32) = 0 ∨ (0 : Int32) = 1 := (by decide)
      obtain ⟨rfl, rfl⟩ := zw_in2 hsem
      exact r_zret X (pc := 66) rfl (zw_bzn hbz).1 (zw_dg dk_P_mix 32 rfl)
    · --
      have hsem := zw_ifn p14 hsem
      refine r_aload_n X (pc := 67) (i := 0) (zw_dg dk_P_mix 33 rfl) rfl rfl ?_
      refine r_getR X (pc := 68) (r := 45) ci_P (zo hS 0 rfl rfl) rfl (zr hS 0 5 rfl rfl) lk_P_53 (zw_dg dk_P_mix 34 rfl) ?_
      refine r_iload_n X (pc := 71) (i := 1) (zw_dg dk_P_mix 35 rfl) rfl rfl ?_
      refine r_aloadO X (pc := 72) (i := 6) (zw_dg dk_P_mix 36 rfl) rfl ?_
      refine r_aloadO X (pc := 74) (i := 7) (zw_dg dk_P_mix 37 rfl) rfl ?_
      refine r_iload X (pc := 76) (i := 4) (zw_dg dk_P_mix 38 rfl) rfl ?_
      refine r_iload X (pc := 78) (i := 5) (zw_dg dk_P_mix 39 rfl) rfl ?_
      obtain ⟨a17, ha17, hs_a17⟩ := zw_bd hsem
      subst ha17
      have hsem := hs_a17
      obtain ⟨a18, ha18, hs_a18⟩ := zw_bd hsem
      subst ha18
      have hsem := hs_a18
      obtain ⟨c19, hc19, hsem⟩ := zw_bd hsem
      refine r_callVv X (pc := 80) (As := [_, _, _, _, _]) (st := []) (km_Pays_makeOfTwo hS hc19) ce_Pays_makeOfTwo kw_915 (zo hS 45 rfl rfl) rfl rfl ⟨Nat.le_of_ble_eq_true rfl, Nat.le_of_ble_eq_true rfl⟩ (Nat.le_of_ble_eq_true rfl) (zw_dg dk_P_mix 40 rfl) ?_
      refine r_iconst X (pc := 83) (v := 1) (zw_dg dk_P_mix 41 rfl) (by decide) ?_
      have hbz : (1 : Int32) = 0 ∨ (1 : Int32) = 1 := (by decide)
      obtain ⟨rfl, rfl⟩ := zw_in2 hsem
      exact r_zret X (pc := 84) rfl (zw_bzn hbz).1 (zw_dg dk_P_mix 42 rfl)
def y_P_lift : MethodName := ⟨R_P, "lift", "(II)I"⟩
abbrev b_P_lift : ByteArray := prog_1_method_24_code
def dl_P_lift : List (Nat × Instr × Nat) := [(0, .aload_n 0, 1), (1, .getfield 53, 3), (4, .iload_n 2, 1), (5, .invokevirtual 163, 3), (8, .astore_n 3, 1), (9, .aload_n 3, 1), (10, .ifnull 12, 3), (13, .iload_n 1, 1), (14, .iconst 0, 1), (15, .iconst 3, 1), (16, .invokestatic 100, 3), (19, .ifCond .ne 5, 3), (22, .iconst (-1), 1), (23, .ireturn, 1), (24, .aload_n 0, 1), (25, .getfield 53, 3), (28, .iload_n 1, 1), (29, .aload_n 3, 1), (30, .invokevirtual 241, 3), (33, .ireturn, 1)]
theorem dk_P_lift : zw_dk b_P_lift dl_P_lift = true := by decide +kernel
theorem ce_P_lift : zw_cev y_P_lift b_P_lift 4 (some .int) 2 := ⟨⟨kt_in 922 (by decide +kernel) rfl, kt_in 85 (by decide +kernel) rfl, by decide +kernel⟩, kt_in 920 (by decide +kernel) rfl, kt_in 921 (by decide +kernel) rfl⟩
def fn_P_lift (c : zw_Ct) (i1 : Int32) (pay2 : Int32) : Option (Int32 × zw_Ct) :=
  (fn_Pays_valuesOf c pay2).bind fun (r3, c4) =>
  if ((r3 = none) ∨ (¬ (¬ (fn_P_within i1 0 3) = 0))) then
  (some ((-1), c4))
  else
  ((r3).bind fun a8 =>
  (fn_Pays_makeLifted c4 i1 a8).bind fun (r9, c10) =>
  some (r9, c10))
set_option maxRecDepth 100000 in
theorem km_P_lift {l : Launch} {g : zw_G} {rr : zw_RR} {sh : zw_Sh} {c : zw_Ct} {i1 : Int32} {pay2 : Int32} {r : Int32} {c2 : zw_Ct} (hS : zw_Ok 0 101 sh rr) (hsem : fn_P_lift c i1 pay2 = some (r, c2)) : zw_Met l g y_P_lift b_P_lift 4 (some .int) 5 rr sh [.ref 0, .int i1, .int pay2] c (some (.int r)) c2 := by
  unfold fn_P_lift at hsem
  refine zw_Met.of (by decide +kernel) (Nat.le_of_ble_eq_true rfl) (fun p e s m args below meth cd X => ?_)
  refine zw_eL (L2 := [some (.ref 0), some (.int i1), some (.int pay2), none]) rfl ?_
  refine r_aload_n X (pc := 0) (i := 0) (zw_dg dk_P_lift 0 rfl) rfl rfl ?_
  refine r_getR X (pc := 1) (r := 45) ci_P (zo hS 0 rfl rfl) rfl (zr hS 0 5 rfl rfl) lk_P_53 (zw_dg dk_P_lift 1 rfl) ?_
  refine r_iload_n X (pc := 4) (i := 2) (zw_dg dk_P_lift 2 rfl) rfl rfl ?_
  obtain ⟨⟨r3, c4⟩, hr3_c4, hsem⟩ := zw_bd hsem
  refine r_callVO X (pc := 5) (As := [_]) (st := []) (km_Pays_valuesOf hS hr3_c4) ce_Pays_valuesOf kw_705 (zo hS 45 rfl rfl) rfl rfl ⟨Nat.le_of_ble_eq_true rfl, Nat.le_of_ble_eq_true rfl⟩ (Nat.le_of_ble_eq_true rfl) (zw_dg dk_P_lift 3 rfl) ?_
  refine r_astore_nO X (pc := 8) (i := 3) (zw_dg dk_P_lift 4 rfl) rfl (by decide) rfl ?_
  refine zw_cnd (P := ((r3 = none) ∨ (¬ (¬ (fn_P_within i1 0 3) = 0)))) (J1 := 22) (J2 := 24) (st2 := []) (fun jT jF => ?_) (fun p5 => ?_) (fun p5 => ?_)
  · --
    refine r_aload_nO X (pc := 9) (i := 3) (zw_dg dk_P_lift 5 rfl) rfl rfl ?_
    refine r_ifnull X (pc := 10) (tgt := 22) (zw_dg dk_P_lift 6 rfl) (by decide) (fun q6 => ?_) (fun q6 => ?_)
    · --
      exact jT (Or.inl q6)
    · --
      refine r_iload_n X (pc := 13) (i := 1) (zw_dg dk_P_lift 7 rfl) rfl rfl ?_
      refine r_iconst X (pc := 14) (v := 0) (zw_dg dk_P_lift 8 rfl) (by decide) ?_
      refine r_iconst X (pc := 15) (v := 3) (zw_dg dk_P_lift 9 rfl) (by decide) ?_
      refine r_callSi X (pc := 16) (As := [_, _, _]) (st := []) (km_P_within hS rfl) ce_P_within kw_492 rfl ⟨Nat.le_of_ble_eq_true rfl, Nat.le_of_ble_eq_true rfl⟩ (Nat.le_of_ble_eq_true rfl) (zw_dg dk_P_lift 10 rfl) ?_
      refine r_if_ne X (pc := 19) (tgt := 24) (zw_dg dk_P_lift 11 rfl) (by decide) (fun q7 => ?_) (fun q7 => ?_)
      · --
        exact jF (fun q => q.elim q6 (fun q => q q7))
      · --
        exact jT (Or.inr (fun z => z q7))
  · --
    have hsem := zw_ifp p5 hsem
    refine r_iconst X (pc := 22) (v := (-1)) (zw_dg dk_P_lift 12 rfl) (by decide) ?_
    obtain ⟨rfl, rfl⟩ := zw_in2 hsem
    exact r_iret X (pc := 23) rfl (zw_dg dk_P_lift 13 rfl)
  · --
    have hsem := zw_ifn p5 hsem
    refine r_aload_n X (pc := 24) (i := 0) (zw_dg dk_P_lift 14 rfl) rfl rfl ?_
    refine r_getR X (pc := 25) (r := 45) ci_P (zo hS 0 rfl rfl) rfl (zr hS 0 5 rfl rfl) lk_P_53 (zw_dg dk_P_lift 15 rfl) ?_
    refine r_iload_n X (pc := 28) (i := 1) (zw_dg dk_P_lift 16 rfl) rfl rfl ?_
    refine r_aload_nO X (pc := 29) (i := 3) (zw_dg dk_P_lift 17 rfl) rfl rfl ?_
    obtain ⟨a8, ha8, hs_a8⟩ := zw_bd hsem
    subst ha8
    have hsem := hs_a8
    obtain ⟨⟨r9, c10⟩, hr9_c10, hsem⟩ := zw_bd hsem
    refine r_callVi X (pc := 30) (As := [_, _]) (st := []) (km_Pays_makeLifted hS hr9_c10) ce_Pays_makeLifted kw_923 (zo hS 45 rfl rfl) rfl rfl ⟨Nat.le_of_ble_eq_true rfl, Nat.le_of_ble_eq_true rfl⟩ (Nat.le_of_ble_eq_true rfl) (zw_dg dk_P_lift 18 rfl) ?_
    obtain ⟨rfl, rfl⟩ := zw_in2 hsem
    exact r_iret X (pc := 33) rfl (zw_dg dk_P_lift 19 rfl)
def y_P_rank : MethodName := ⟨R_P, "rank", "(III)I"⟩
abbrev b_P_rank : ByteArray := prog_1_method_25_code
def dl_P_rank : List (Nat × Instr × Nat) := [(0, .aload_n 0, 1), (1, .getfield 53, 3), (4, .iload_n 1, 1), (5, .invokevirtual 163, 3), (8, .astore 4, 2), (10, .aload 4, 2), (12, .ifnull 18, 3), (15, .aload_n 0, 1), (16, .getfield 25, 3), (19, .iload_n 2, 1), (20, .invokevirtual 122, 3), (23, .ifCond .eq 7, 3), (26, .iload_n 3, 1), (27, .ifCond .ge 5, 3), (30, .iconst (-1), 1), (31, .ireturn, 1), (32, .iload_n 3, 1), (33, .aload_n 0, 1), (34, .getfield 25, 3), (37, .getfield 114, 3), (40, .if_icmp .lt 6, 3), (43, .bipush (-2), 2), (45, .ireturn, 1), (46, .aload_n 0, 1), (47, .getfield 64, 3), (50, .aload 4, 2), (52, .iload_n 2, 1), (53, .iload_n 3, 1), (54, .aload_n 0, 1), (55, .getfield 60, 3), (58, .invokevirtual 245, 3), (61, .ireturn, 1)]
theorem dk_P_rank : zw_dk b_P_rank dl_P_rank = true := by decide +kernel
theorem ce_P_rank : zw_cev y_P_rank b_P_rank 5 (some .int) 3 := ⟨⟨kt_in 931 (by decide +kernel) rfl, kt_in 85 (by decide +kernel) rfl, by decide +kernel⟩, kt_in 929 (by decide +kernel) rfl, kt_in 930 (by decide +kernel) rfl⟩
def fn_P_rank (c : zw_Ct) (pay1 : Int32) (thought2 : Int32) (k3 : Int32) : Option (Int32 × zw_Ct) :=
  (fn_Pays_valuesOf c pay1).bind fun (r4, c5) =>
  if (((r4 = none) ∨ (¬ (¬ (fn_Sayings_has c5 thought2) = 0))) ∨ (k3 < 0)) then
  (some ((-1), c5))
  else
  (if ((c5.1 1 2) ≤ k3) then
  (some ((-2), c5))
  else
  ((r4).bind fun a12 =>
  (fn_Judge_tellRanked c5 a12 thought2 k3).bind fun (r13, c14) =>
  some (r13, c14)))
set_option maxRecDepth 100000 in
theorem km_P_rank {l : Launch} {g : zw_G} {rr : zw_RR} {sh : zw_Sh} {c : zw_Ct} {pay1 : Int32} {thought2 : Int32} {k3 : Int32} {r : Int32} {c2 : zw_Ct} (hS : zw_Ok 0 101 sh rr) (hsem : fn_P_rank c pay1 thought2 k3 = some (r, c2)) : zw_Met l g y_P_rank b_P_rank 5 (some .int) 5 rr sh [.ref 0, .int pay1, .int thought2, .int k3] c (some (.int r)) c2 := by
  unfold fn_P_rank at hsem
  refine zw_Met.of (by decide +kernel) (Nat.le_of_ble_eq_true rfl) (fun p e s m args below meth cd X => ?_)
  refine zw_eL (L2 := [some (.ref 0), some (.int pay1), some (.int thought2), some (.int k3), none]) rfl ?_
  refine r_aload_n X (pc := 0) (i := 0) (zw_dg dk_P_rank 0 rfl) rfl rfl ?_
  refine r_getR X (pc := 1) (r := 45) ci_P (zo hS 0 rfl rfl) rfl (zr hS 0 5 rfl rfl) lk_P_53 (zw_dg dk_P_rank 1 rfl) ?_
  refine r_iload_n X (pc := 4) (i := 1) (zw_dg dk_P_rank 2 rfl) rfl rfl ?_
  obtain ⟨⟨r4, c5⟩, hr4_c5, hsem⟩ := zw_bd hsem
  refine r_callVO X (pc := 5) (As := [_]) (st := []) (km_Pays_valuesOf hS hr4_c5) ce_Pays_valuesOf kw_705 (zo hS 45 rfl rfl) rfl rfl ⟨Nat.le_of_ble_eq_true rfl, Nat.le_of_ble_eq_true rfl⟩ (Nat.le_of_ble_eq_true rfl) (zw_dg dk_P_rank 3 rfl) ?_
  refine r_astoreO X (pc := 8) (i := 4) (zw_dg dk_P_rank 4 rfl) (by decide) rfl ?_
  refine zw_cnd (P := (((r4 = none) ∨ (¬ (¬ (fn_Sayings_has c5 thought2) = 0))) ∨ (k3 < 0))) (J1 := 30) (J2 := 32) (st2 := []) (fun jT jF => ?_) (fun p6 => ?_) (fun p6 => ?_)
  · --
    refine r_aloadO X (pc := 10) (i := 4) (zw_dg dk_P_rank 5 rfl) rfl ?_
    refine r_ifnull X (pc := 12) (tgt := 30) (zw_dg dk_P_rank 6 rfl) (by decide) (fun q7 => ?_) (fun q7 => ?_)
    · --
      exact jT (Or.inl (Or.inl q7))
    · --
      refine r_aload_n X (pc := 15) (i := 0) (zw_dg dk_P_rank 7 rfl) rfl rfl ?_
      refine r_getR X (pc := 16) (r := 1) ci_P (zo hS 0 rfl rfl) rfl (zr hS 0 0 rfl rfl) lk_P_25 (zw_dg dk_P_rank 8 rfl) ?_
      refine r_iload_n X (pc := 19) (i := 2) (zw_dg dk_P_rank 9 rfl) rfl rfl ?_
      refine r_callVi X (pc := 20) (As := [_]) (st := []) (km_Sayings_has hS rfl) ce_Sayings_has kw_758 (zo hS 1 rfl rfl) rfl rfl ⟨Nat.le_of_ble_eq_true rfl, Nat.le_of_ble_eq_true rfl⟩ (Nat.le_of_ble_eq_true rfl) (zw_dg dk_P_rank 10 rfl) ?_
      refine r_if_eq X (pc := 23) (tgt := 30) (zw_dg dk_P_rank 11 rfl) (by decide) (fun q8 => ?_) (fun q8 => ?_)
      · --
        exact jT (Or.inl (Or.inr (fun z => z q8)))
      · --
        refine r_iload_n X (pc := 26) (i := 3) (zw_dg dk_P_rank 12 rfl) rfl rfl ?_
        refine r_if_ge X (pc := 27) (tgt := 32) (zw_dg dk_P_rank 13 rfl) (by decide) (fun q9 => ?_) (fun q9 => ?_)
        · --
          exact jF (fun q => q.elim (fun q => q.elim q7 (fun q => q q8)) (Int32.not_lt.mpr q9))
        · --
          exact jT (Or.inr (Int32.not_le.mp q9))
  · --
    have hsem := zw_ifp p6 hsem
    refine r_iconst X (pc := 30) (v := (-1)) (zw_dg dk_P_rank 14 rfl) (by decide) ?_
    obtain ⟨rfl, rfl⟩ := zw_in2 hsem
    exact r_iret X (pc := 31) rfl (zw_dg dk_P_rank 15 rfl)
  · --
    have hsem := zw_ifn p6 hsem
    refine r_iload_n X (pc := 32) (i := 3) (zw_dg dk_P_rank 16 rfl) rfl rfl ?_
    refine r_aload_n X (pc := 33) (i := 0) (zw_dg dk_P_rank 17 rfl) rfl rfl ?_
    refine r_getR X (pc := 34) (r := 1) ci_P (zo hS 0 rfl rfl) rfl (zr hS 0 0 rfl rfl) lk_P_25 (zw_dg dk_P_rank 18 rfl) ?_
    refine r_getI X (pc := 37) ci_Sayings (zo hS 1 rfl rfl) rfl lk_P_114 (zw_dg dk_P_rank 19 rfl) ?_
    refine r_icmp_lt X (pc := 40) (tgt := 46) (zw_dg dk_P_rank 20 rfl) (by decide) (fun q11 => ?_) (fun q11 => ?_)
    · --
      have p10 : ¬ ((c5.1 1 2) ≤ k3) := (Int32.not_le.mpr q11)
      have hsem := zw_ifn p10 hsem
      refine r_aload_n X (pc := 46) (i := 0) (zw_dg dk_P_rank 23 rfl) rfl rfl ?_
      refine r_getR X (pc := 47) (r := 13) ci_P (zo hS 0 rfl rfl) rfl (zr hS 0 7 rfl rfl) lk_P_64 (zw_dg dk_P_rank 24 rfl) ?_
      refine r_aloadO X (pc := 50) (i := 4) (zw_dg dk_P_rank 25 rfl) rfl ?_
      refine r_iload_n X (pc := 52) (i := 2) (zw_dg dk_P_rank 26 rfl) rfl rfl ?_
      refine r_iload_n X (pc := 53) (i := 3) (zw_dg dk_P_rank 27 rfl) rfl rfl ?_
      refine r_aload_n X (pc := 54) (i := 0) (zw_dg dk_P_rank 28 rfl) rfl rfl ?_
      refine r_getR X (pc := 55) (r := 61) ci_P (zo hS 0 rfl rfl) rfl (zr hS 0 6 rfl rfl) lk_P_60 (zw_dg dk_P_rank 29 rfl) ?_
      obtain ⟨a12, ha12, hs_a12⟩ := zw_bd hsem
      subst ha12
      have hsem := hs_a12
      obtain ⟨⟨r13, c14⟩, hr13_c14, hsem⟩ := zw_bd hsem
      refine r_callVi X (pc := 58) (As := [_, _, _, _]) (st := []) (km_Judge_tellRanked hS hr13_c14) ce_Judge_tellRanked kw_932 (zo hS 13 rfl rfl) rfl rfl ⟨Nat.le_of_ble_eq_true rfl, Nat.le_of_ble_eq_true rfl⟩ (Nat.le_of_ble_eq_true rfl) (zw_dg dk_P_rank 30 rfl) ?_
      obtain ⟨rfl, rfl⟩ := zw_in2 hsem
      exact r_iret X (pc := 61) rfl (zw_dg dk_P_rank 31 rfl)
    · --
      have p10 : ((c5.1 1 2) ≤ k3) := (Int32.not_lt.mp q11)
      have hsem := zw_ifp p10 hsem
      refine r_bipush X (pc := 43) (v := (-2)) (zw_dg dk_P_rank 21 rfl) (by decide) ?_
      obtain ⟨rfl, rfl⟩ := zw_in2 hsem
      exact r_iret X (pc := 45) rfl (zw_dg dk_P_rank 22 rfl)
def y_P_isLook : MethodName := ⟨R_P, "isLook", "(III)Z"⟩
abbrev b_P_isLook : ByteArray := prog_1_method_58_code
def dl_P_isLook : List (Nat × Instr × Nat) := [(0, .aload_n 0, 1), (1, .getfield 25, 3), (4, .iload_n 1, 1), (5, .invokevirtual 122, 3), (8, .ifCond .eq 29, 3), (11, .iload_n 3, 1), (12, .iconst 0, 1), (13, .sipush 9999, 3), (16, .invokestatic 100, 3), (19, .ifCond .eq 18, 3), (22, .aload_n 0, 1), (23, .getfield 73, 3), (26, .iload_n 2, 1), (27, .invokevirtual 393, 3), (30, .ifCond .eq 7, 3), (33, .iconst 1, 1), (34, .goto 4, 3), (37, .iconst 0, 1), (38, .ireturn, 1)]
theorem dk_P_isLook : zw_dk b_P_isLook dl_P_isLook = true := by decide +kernel
theorem ce_P_isLook : zw_cev y_P_isLook b_P_isLook 4 (some .boolean) 3 := ⟨⟨kt_in 947 (by decide +kernel) rfl, kt_in 85 (by decide +kernel) rfl, by decide +kernel⟩, kt_in 946 (by decide +kernel) rfl, kt_in 16 (by decide +kernel) rfl⟩
def fn_P_isLook (c : zw_Ct) (thought1 : Int32) (lights2 : Int32) (cost3 : Int32) : Option Int32 :=
  (if (¬ (fn_Sayings_has c thought1) = 0) then
  (if (¬ (fn_P_within cost3 0 9999) = 0) then
  ((fn_Lures_areLights c lights2).bind fun r7 =>
  some (decide (¬ r7 = 0)))
  else some false)
  else some false).bind fun b4 =>
  some (if b4 = true then (1 : Int32) else 0)
set_option maxRecDepth 100000 in
theorem km_P_isLook {l : Launch} {g : zw_G} {rr : zw_RR} {sh : zw_Sh} {c : zw_Ct} {thought1 : Int32} {lights2 : Int32} {cost3 : Int32} {r : Int32} (hS : zw_Ok 0 101 sh rr) (hsem : fn_P_isLook c thought1 lights2 cost3 = some r) : zw_Met l g y_P_isLook b_P_isLook 4 (some .boolean) 2 rr sh [.ref 0, .int thought1, .int lights2, .int cost3] c (some (.int r)) c := by
  unfold fn_P_isLook at hsem
  refine zw_Met.of (by decide +kernel) (Nat.le_of_ble_eq_true rfl) (fun p e s m args below meth cd X => ?_)
  refine zw_eL (L2 := [some (.ref 0), some (.int thought1), some (.int lights2), some (.int cost3)]) rfl ?_
  obtain ⟨b4, hb4, hsb4⟩ := zw_bd hsem
  refine zw_terO (f := Value.int) (v := if b4 = true then 1 else 0) (J := 38) (st2 := []) (c2 := c) (fun jj => ?_) ?_
  · have hsem := hb4
    refine r_aload_n X (pc := 0) (i := 0) (zw_dg dk_P_isLook 0 rfl) rfl rfl ?_
    refine r_getR X (pc := 1) (r := 1) ci_P (zo hS 0 rfl rfl) rfl (zr hS 0 0 rfl rfl) lk_P_25 (zw_dg dk_P_isLook 1 rfl) ?_
    refine r_iload_n X (pc := 4) (i := 1) (zw_dg dk_P_isLook 2 rfl) rfl rfl ?_
    refine r_callVi X (pc := 5) (As := [_]) (st := []) (km_Sayings_has hS rfl) ce_Sayings_has kw_758 (zo hS 1 rfl rfl) rfl rfl ⟨Nat.le_of_ble_eq_true rfl, Nat.le_of_ble_eq_true rfl⟩ (Nat.le_of_ble_eq_true rfl) (zw_dg dk_P_isLook 3 rfl) ?_
    refine r_if_eq X (pc := 8) (tgt := 37) (zw_dg dk_P_isLook 4 rfl) (by decide) (fun q5 => ?_) (fun q5 => ?_)
    · --
      have hsem := zw_ifn (fun z => z q5) hsem
      have hb_ := (Option.some.inj hsem).symm
      refine r_iconst X (pc := 37) (v := 0) (zw_dg dk_P_isLook 17 rfl) (by decide) ?_
      rw [hb_] at jj; exact jj
    · --
      have hsem := zw_ifp q5 hsem
      refine r_iload_n X (pc := 11) (i := 3) (zw_dg dk_P_isLook 5 rfl) rfl rfl ?_
      refine r_iconst X (pc := 12) (v := 0) (zw_dg dk_P_isLook 6 rfl) (by decide) ?_
      refine r_sipush X (pc := 13) (v := 9999) (zw_dg dk_P_isLook 7 rfl) (by decide) ?_
      refine r_callSi X (pc := 16) (As := [_, _, _]) (st := []) (km_P_within hS rfl) ce_P_within kw_492 rfl ⟨Nat.le_of_ble_eq_true rfl, Nat.le_of_ble_eq_true rfl⟩ (Nat.le_of_ble_eq_true rfl) (zw_dg dk_P_isLook 8 rfl) ?_
      refine r_if_eq X (pc := 19) (tgt := 37) (zw_dg dk_P_isLook 9 rfl) (by decide) (fun q6 => ?_) (fun q6 => ?_)
      · --
        have hsem := zw_ifn (fun z => z q6) hsem
        have hb_ := (Option.some.inj hsem).symm
        refine r_iconst X (pc := 37) (v := 0) (zw_dg dk_P_isLook 17 rfl) (by decide) ?_
        rw [hb_] at jj; exact jj
      · --
        have hsem := zw_ifp q6 hsem
        refine r_aload_n X (pc := 22) (i := 0) (zw_dg dk_P_isLook 10 rfl) rfl rfl ?_
        refine r_getR X (pc := 23) (r := 63) ci_P (zo hS 0 rfl rfl) rfl (zr hS 0 8 rfl rfl) lk_P_73 (zw_dg dk_P_isLook 11 rfl) ?_
        refine r_iload_n X (pc := 26) (i := 2) (zw_dg dk_P_isLook 12 rfl) rfl rfl ?_
        obtain ⟨r7, hr7, hsem⟩ := zw_bd hsem
        refine r_callVi X (pc := 27) (As := [_]) (st := []) (km_Lures_areLights hS hr7) ce_Lures_areLights kw_948 (zo hS 63 rfl rfl) rfl rfl ⟨Nat.le_of_ble_eq_true rfl, Nat.le_of_ble_eq_true rfl⟩ (Nat.le_of_ble_eq_true rfl) (zw_dg dk_P_isLook 13 rfl) ?_
        refine r_if_eq X (pc := 30) (tgt := 37) (zw_dg dk_P_isLook 14 rfl) (by decide) (fun q8 => ?_) (fun q8 => ?_)
        · --
          have hb_ := (zw_dF hsem (fun z => z q8))
          refine r_iconst X (pc := 37) (v := 0) (zw_dg dk_P_isLook 17 rfl) (by decide) ?_
          rw [hb_] at jj; exact jj
        · --
          have hb_ := (zw_dT hsem q8)
          refine r_iconst X (pc := 33) (v := 1) (zw_dg dk_P_isLook 15 rfl) (by decide) ?_
          refine r_goto X (pc := 34) (tgt := 38) (zw_dg dk_P_isLook 16 rfl) (by decide) ?_
          rw [hb_] at jj; exact jj
  have hsem := hsb4
  have hbz : ((if b4 = true then (1 : Int32) else 0) : Int32) = 0 ∨ ((if b4 = true then (1 : Int32) else 0) : Int32) = 1 := zw_ite01
  cases hsem
  exact r_zret X (pc := 38) rfl (zw_bzn hbz).1 (zw_dg dk_P_isLook 18 rfl)
def y_P_look : MethodName := ⟨R_P, "look", "(IIII)I"⟩
abbrev b_P_look : ByteArray := prog_1_method_26_code
def dl_P_look : List (Nat × Instr × Nat) := [(0, .aload_n 0, 1), (1, .getfield 53, 3), (4, .iload_n 1, 1), (5, .invokevirtual 163, 3), (8, .astore 5, 2), (10, .aload 5, 2), (12, .ifnull 14, 3), (15, .aload_n 0, 1), (16, .iload_n 2, 1), (17, .iload_n 3, 1), (18, .iload 4, 2), (20, .invokevirtual 249, 3), (23, .ifCond .ne 5, 3), (26, .iconst (-1), 1), (27, .ireturn, 1), (28, .aload_n 0, 1), (29, .getfield 73, 3), (32, .aload 5, 2), (34, .iload_n 2, 1), (35, .iload_n 3, 1), (36, .invokevirtual 252, 3), (39, .lstore 6, 2), (41, .aload_n 0, 1), (42, .getfield 60, 3), (45, .invokevirtual 173, 3), (48, .aload_n 0, 1), (49, .getfield 60, 3), (52, .lload 6, 2), (54, .invokevirtual 176, 3), (57, .aload_n 0, 1), (58, .getfield 60, 3), (61, .aload_n 0, 1), (62, .getfield 73, 3), (65, .lload 6, 2), (67, .iload 4, 2), (69, .invokevirtual 255, 3), (72, .i2l, 1), (73, .invokevirtual 176, 3), (76, .iconst 0, 1), (77, .ireturn, 1)]
theorem dk_P_look : zw_dk b_P_look dl_P_look = true := by decide +kernel
theorem ce_P_look : zw_cev y_P_look b_P_look 8 (some .int) 4 := ⟨⟨kt_in 943 (by decide +kernel) rfl, kt_in 85 (by decide +kernel) rfl, by decide +kernel⟩, kt_in 941 (by decide +kernel) rfl, kt_in 942 (by decide +kernel) rfl⟩
def fn_P_look (c : zw_Ct) (pay1 : Int32) (thought2 : Int32) (lights3 : Int32) (cost4 : Int32) : Option (Int32 × zw_Ct) :=
  (fn_Pays_valuesOf c pay1).bind fun (r5, c6) =>
  if (r5 = none) then
  (some ((-1), c6))
  else
  ((fn_P_isLook c6 thought2 lights3 cost4).bind fun r9 =>
  if (¬ (¬ r9 = 0)) then
  (some ((-1), c6))
  else
  ((r5).bind fun a12 =>
  (fn_Lures_gainOfLooking c6 a12 thought2 lights3).bind fun (r13, c14) =>
  (fn_Row_clear c14).bind fun c15 =>
  (fn_Row_add c15 r13).bind fun c16 =>
  (fn_Lures_timesForCost c16 r13 cost4).bind fun r17 =>
  (fn_Row_add c16 r17.toInt64).bind fun c18 =>
  some (0, c18)))
set_option maxRecDepth 100000 in
theorem km_P_look {l : Launch} {g : zw_G} {rr : zw_RR} {sh : zw_Sh} {c : zw_Ct} {pay1 : Int32} {thought2 : Int32} {lights3 : Int32} {cost4 : Int32} {r : Int32} {c2 : zw_Ct} (hS : zw_Ok 0 101 sh rr) (hsem : fn_P_look c pay1 thought2 lights3 cost4 = some (r, c2)) : zw_Met l g y_P_look b_P_look 8 (some .int) 6 rr sh [.ref 0, .int pay1, .int thought2, .int lights3, .int cost4] c (some (.int r)) c2 := by
  unfold fn_P_look at hsem
  refine zw_Met.of (by decide +kernel) (Nat.le_of_ble_eq_true rfl) (fun p e s m args below meth cd X => ?_)
  refine zw_eL (L2 := [some (.ref 0), some (.int pay1), some (.int thought2), some (.int lights3), some (.int cost4), none, none, none]) rfl ?_
  refine r_aload_n X (pc := 0) (i := 0) (zw_dg dk_P_look 0 rfl) rfl rfl ?_
  refine r_getR X (pc := 1) (r := 45) ci_P (zo hS 0 rfl rfl) rfl (zr hS 0 5 rfl rfl) lk_P_53 (zw_dg dk_P_look 1 rfl) ?_
  refine r_iload_n X (pc := 4) (i := 1) (zw_dg dk_P_look 2 rfl) rfl rfl ?_
  obtain ⟨⟨r5, c6⟩, hr5_c6, hsem⟩ := zw_bd hsem
  refine r_callVO X (pc := 5) (As := [_]) (st := []) (km_Pays_valuesOf hS hr5_c6) ce_Pays_valuesOf kw_705 (zo hS 45 rfl rfl) rfl rfl ⟨Nat.le_of_ble_eq_true rfl, Nat.le_of_ble_eq_true rfl⟩ (Nat.le_of_ble_eq_true rfl) (zw_dg dk_P_look 3 rfl) ?_
  refine r_astoreO X (pc := 8) (i := 5) (zw_dg dk_P_look 4 rfl) (by decide) rfl ?_
  refine r_aloadO X (pc := 10) (i := 5) (zw_dg dk_P_look 5 rfl) rfl ?_
  refine r_ifnull X (pc := 12) (tgt := 26) (zw_dg dk_P_look 6 rfl) (by decide) (fun q8 => ?_) (fun q8 => ?_)
  · --
    have p7 : (r5 = none) := q8
    have hsem := zw_ifp p7 hsem
    refine r_iconst X (pc := 26) (v := (-1)) (zw_dg dk_P_look 13 rfl) (by decide) ?_
    obtain ⟨rfl, rfl⟩ := zw_in2 hsem
    exact r_iret X (pc := 27) rfl (zw_dg dk_P_look 14 rfl)
  · --
    have p7 : ¬ (r5 = none) := q8
    have hsem := zw_ifn p7 hsem
    refine r_aload_n X (pc := 15) (i := 0) (zw_dg dk_P_look 7 rfl) rfl rfl ?_
    refine r_iload_n X (pc := 16) (i := 2) (zw_dg dk_P_look 8 rfl) rfl rfl ?_
    refine r_iload_n X (pc := 17) (i := 3) (zw_dg dk_P_look 9 rfl) rfl rfl ?_
    refine r_iload X (pc := 18) (i := 4) (zw_dg dk_P_look 10 rfl) rfl ?_
    obtain ⟨r9, hr9, hsem⟩ := zw_bd hsem
    refine r_callVi X (pc := 20) (As := [_, _, _]) (st := []) (km_P_isLook hS hr9) ce_P_isLook kw_944 (zo hS 0 rfl rfl) rfl rfl ⟨Nat.le_of_ble_eq_true rfl, Nat.le_of_ble_eq_true rfl⟩ (Nat.le_of_ble_eq_true rfl) (zw_dg dk_P_look 11 rfl) ?_
    refine r_if_ne X (pc := 23) (tgt := 28) (zw_dg dk_P_look 12 rfl) (by decide) (fun q11 => ?_) (fun q11 => ?_)
    · --
      have p10 : ¬ (¬ (¬ r9 = 0)) := (fun q => q q11)
      have hsem := zw_ifn p10 hsem
      refine r_aload_n X (pc := 28) (i := 0) (zw_dg dk_P_look 15 rfl) rfl rfl ?_
      refine r_getR X (pc := 29) (r := 63) ci_P (zo hS 0 rfl rfl) rfl (zr hS 0 8 rfl rfl) lk_P_73 (zw_dg dk_P_look 16 rfl) ?_
      refine r_aloadO X (pc := 32) (i := 5) (zw_dg dk_P_look 17 rfl) rfl ?_
      refine r_iload_n X (pc := 34) (i := 2) (zw_dg dk_P_look 18 rfl) rfl rfl ?_
      refine r_iload_n X (pc := 35) (i := 3) (zw_dg dk_P_look 19 rfl) rfl rfl ?_
      obtain ⟨a12, ha12, hs_a12⟩ := zw_bd hsem
      subst ha12
      have hsem := hs_a12
      obtain ⟨⟨r13, c14⟩, hr13_c14, hsem⟩ := zw_bd hsem
      refine r_callVl X (pc := 36) (As := [_, _, _]) (st := []) (km_Lures_gainOfLooking hS hr13_c14) ce_Lures_gainOfLooking kw_952 (zo hS 63 rfl rfl) rfl rfl ⟨Nat.le_of_ble_eq_true rfl, Nat.le_of_ble_eq_true rfl⟩ (Nat.le_of_ble_eq_true rfl) (zw_dg dk_P_look 20 rfl) ?_
      refine r_lstore X (pc := 39) (i := 6) (L2 := [some (.ref 0), some (.int pay1), some (.int thought2), some (.int lights3), some (.int cost4), some (.ref a12), some (.long r13), none]) (zw_dg dk_P_look 21 rfl) (by decide) rfl ?_
      refine r_aload_n X (pc := 41) (i := 0) (zw_dg dk_P_look 22 rfl) rfl rfl ?_
      refine r_getR X (pc := 42) (r := 61) ci_P (zo hS 0 rfl rfl) rfl (zr hS 0 6 rfl rfl) lk_P_60 (zw_dg dk_P_look 23 rfl) ?_
      obtain ⟨c15, hc15, hsem⟩ := zw_bd hsem
      refine r_callVv X (pc := 45) (As := []) (st := []) (km_Row_clear hS hc15) ce_Row_clear kw_741 (zo hS 61 rfl rfl) rfl rfl ⟨Nat.le_of_ble_eq_true rfl, Nat.le_of_ble_eq_true rfl⟩ (Nat.le_of_ble_eq_true rfl) (zw_dg dk_P_look 24 rfl) ?_
      refine r_aload_n X (pc := 48) (i := 0) (zw_dg dk_P_look 25 rfl) rfl rfl ?_
      refine r_getR X (pc := 49) (r := 61) ci_P (zo hS 0 rfl rfl) rfl (zr hS 0 6 rfl rfl) lk_P_60 (zw_dg dk_P_look 26 rfl) ?_
      refine r_lload X (pc := 52) (i := 6) (zw_dg dk_P_look 27 rfl) rfl ?_
      obtain ⟨c16, hc16, hsem⟩ := zw_bd hsem
      refine r_callVv X (pc := 54) (As := [_]) (st := []) (km_Row_add hS hc16) ce_Row_add kw_745 (zo hS 61 rfl rfl) rfl rfl ⟨Nat.le_of_ble_eq_true rfl, Nat.le_of_ble_eq_true rfl⟩ (Nat.le_of_ble_eq_true rfl) (zw_dg dk_P_look 28 rfl) ?_
      refine r_aload_n X (pc := 57) (i := 0) (zw_dg dk_P_look 29 rfl) rfl rfl ?_
      refine r_getR X (pc := 58) (r := 61) ci_P (zo hS 0 rfl rfl) rfl (zr hS 0 6 rfl rfl) lk_P_60 (zw_dg dk_P_look 30 rfl) ?_
      refine r_aload_n X (pc := 61) (i := 0) (zw_dg dk_P_look 31 rfl) rfl rfl ?_
      refine r_getR X (pc := 62) (r := 63) ci_P (zo hS 0 rfl rfl) rfl (zr hS 0 8 rfl rfl) lk_P_73 (zw_dg dk_P_look 32 rfl) ?_
      refine r_lload X (pc := 65) (i := 6) (zw_dg dk_P_look 33 rfl) rfl ?_
      refine r_iload X (pc := 67) (i := 4) (zw_dg dk_P_look 34 rfl) rfl ?_
      obtain ⟨r17, hr17, hsem⟩ := zw_bd hsem
      refine r_callVi X (pc := 69) (As := [_, _]) (st := [.ref 61]) (km_Lures_timesForCost hS hr17) ce_Lures_timesForCost kw_965 (zo hS 63 rfl rfl) rfl rfl ⟨Nat.le_of_ble_eq_true rfl, Nat.le_of_ble_eq_true rfl⟩ (Nat.le_of_ble_eq_true rfl) (zw_dg dk_P_look 35 rfl) ?_
      refine r_i2l X (pc := 72) (zw_dg dk_P_look 36 rfl)  ?_
      obtain ⟨c18, hc18, hsem⟩ := zw_bd hsem
      refine r_callVv X (pc := 73) (As := [_]) (st := []) (km_Row_add hS hc18) ce_Row_add kw_745 (zo hS 61 rfl rfl) rfl rfl ⟨Nat.le_of_ble_eq_true rfl, Nat.le_of_ble_eq_true rfl⟩ (Nat.le_of_ble_eq_true rfl) (zw_dg dk_P_look 37 rfl) ?_
      refine r_iconst X (pc := 76) (v := 0) (zw_dg dk_P_look 38 rfl) (by decide) ?_
      obtain ⟨rfl, rfl⟩ := zw_in2 hsem
      exact r_iret X (pc := 77) rfl (zw_dg dk_P_look 39 rfl)
    · --
      have p10 : (¬ (¬ r9 = 0)) := (fun z => z q11)
      have hsem := zw_ifp p10 hsem
      refine r_iconst X (pc := 26) (v := (-1)) (zw_dg dk_P_look 13 rfl) (by decide) ?_
      obtain ⟨rfl, rfl⟩ := zw_in2 hsem
      exact r_iret X (pc := 27) rfl (zw_dg dk_P_look 14 rfl)
def y_P_purse : MethodName := ⟨R_P, "purse", "(III)I"⟩
abbrev b_P_purse : ByteArray := prog_1_method_27_code
def dl_P_purse : List (Nat × Instr × Nat) := [(0, .aload_n 0, 1), (1, .iload_n 1, 1), (2, .iload_n 2, 1), (3, .iload_n 3, 1), (4, .invokevirtual 249, 3), (7, .ifCond .ne 5, 3), (10, .iconst (-1), 1), (11, .ireturn, 1), (12, .bipush (-2), 2), (14, .istore 4, 2), (16, .sipush 10000, 3), (19, .istore 5, 2), (21, .iconst 0, 1), (22, .istore 6, 2), (24, .iload 6, 2), (26, .iconst 4, 1), (27, .if_icmp .ge 67, 3), (30, .aload_n 0, 1), (31, .getfield 53, 3), (34, .iload 6, 2), (36, .invokevirtual 163, 3), (39, .astore 7, 2), (41, .aload 7, 2), (43, .ifnull 45, 3), (46, .aload_n 0, 1), (47, .getfield 73, 3), (50, .aload_n 0, 1), (51, .getfield 73, 3), (54, .aload 7, 2), (56, .iload_n 1, 1), (57, .iload_n 2, 1), (58, .invokevirtual 252, 3), (61, .iload_n 3, 1), (62, .invokevirtual 255, 3), (65, .istore 8, 2), (67, .iload 8, 2), (69, .iconst (-1), 1), (70, .if_icmp .eq 18, 3), (73, .iload 8, 2), (75, .iload 5, 2), (77, .if_icmp .ge 11, 3), (80, .iload 6, 2), (82, .istore 4, 2), (84, .iload 8, 2), (86, .istore 5, 2), (88, .iinc 6 1, 3), (91, .goto (-67), 3), (94, .iload 4, 2), (96, .bipush (-2), 2), (98, .if_icmp .eq 20, 3), (101, .aload_n 0, 1), (102, .getfield 60, 3), (105, .invokevirtual 173, 3), (108, .aload_n 0, 1), (109, .getfield 60, 3), (112, .iload 5, 2), (114, .i2l, 1), (115, .invokevirtual 176, 3), (118, .iload 4, 2), (120, .ireturn, 1)]
theorem dk_P_purse : zw_dk b_P_purse dl_P_purse = true := by decide +kernel
theorem ce_P_purse : zw_cev y_P_purse b_P_purse 9 (some .int) 3 := ⟨⟨kt_in 975 (by decide +kernel) rfl, kt_in 85 (by decide +kernel) rfl, by decide +kernel⟩, kt_in 973 (by decide +kernel) rfl, kt_in 974 (by decide +kernel) rfl⟩
def fn_P_purse_l1 (thought1 : Int32) (lights2 : Int32) (cost3 : Int32) : Int32 × Int32 × Int32 × zw_Ct → Option ((Int32 × Int32 × zw_Ct) ⊕ (Int32 × Int32 × Int32 × zw_Ct)) := fun (best7, fewest8, pay9, c10) =>
  if (pay9 < 4) then
  ((fn_Pays_valuesOf c10 pay9).bind fun (r17, c18) =>
  (if (¬ r17 = none) then
  ((r17).bind fun a24 =>
  (fn_Lures_gainOfLooking c18 a24 thought1 lights2).bind fun (r25, c26) =>
  (fn_Lures_timesForCost c26 r25 cost3).bind fun r27 =>
  (if ((¬ r27 = (-1)) ∧ (r27 < fewest8)) then
  (some ((pay9 : Int32), (r27 : Int32)))
  else
  (some ((best7 : Int32), (fewest8 : Int32)))).bind fun (best28, fewest29) =>
  some ((best28 : Int32), (fewest29 : Int32), c26))
  else
  (some ((best7 : Int32), (fewest8 : Int32), c18))).bind fun (best19, fewest20, c21) =>
  some (.inr (best19, fewest20, (pay9 + 1), c21)))
  else
  (some (.inl (best7, fewest8, c10)))
def fn_P_purse (c : zw_Ct) (thought1 : Int32) (lights2 : Int32) (cost3 : Int32) : Option (Int32 × zw_Ct) :=
  (fn_P_isLook c thought1 lights2 cost3).bind fun r4 =>
  if (¬ (¬ r4 = 0)) then
  (some ((-1), c))
  else
  ((zw_whl (fn_P_purse_l1 thought1 lights2 cost3) zw_F ((-2), 10000, 0, c)).bind fun (best11, fewest12, c13) =>
  (if (¬ best11 = (-2)) then
  ((fn_Row_clear c13).bind fun c36 =>
  (fn_Row_add c36 fewest12.toInt64).bind fun c37 =>
  some c37)
  else
  (some c13)).bind fun c33 =>
  some (best11, c33))
set_option maxRecDepth 100000 in
theorem km_P_purse {l : Launch} {g : zw_G} {rr : zw_RR} {sh : zw_Sh} {c : zw_Ct} {thought1 : Int32} {lights2 : Int32} {cost3 : Int32} {r : Int32} {c2 : zw_Ct} (hS : zw_Ok 0 101 sh rr) (hsem : fn_P_purse c thought1 lights2 cost3 = some (r, c2)) : zw_Met l g y_P_purse b_P_purse 9 (some .int) 6 rr sh [.ref 0, .int thought1, .int lights2, .int cost3] c (some (.int r)) c2 := by
  unfold fn_P_purse at hsem
  refine zw_Met.of (by decide +kernel) (Nat.le_of_ble_eq_true rfl) (fun p e s m args below meth cd X => ?_)
  refine zw_eL (L2 := [some (.ref 0), some (.int thought1), some (.int lights2), some (.int cost3), none, none, none, none, none]) rfl ?_
  refine r_aload_n X (pc := 0) (i := 0) (zw_dg dk_P_purse 0 rfl) rfl rfl ?_
  refine r_iload_n X (pc := 1) (i := 1) (zw_dg dk_P_purse 1 rfl) rfl rfl ?_
  refine r_iload_n X (pc := 2) (i := 2) (zw_dg dk_P_purse 2 rfl) rfl rfl ?_
  refine r_iload_n X (pc := 3) (i := 3) (zw_dg dk_P_purse 3 rfl) rfl rfl ?_
  obtain ⟨r4, hr4, hsem⟩ := zw_bd hsem
  refine r_callVi X (pc := 4) (As := [_, _, _]) (st := []) (km_P_isLook hS hr4) ce_P_isLook kw_944 (zo hS 0 rfl rfl) rfl rfl ⟨Nat.le_of_ble_eq_true rfl, Nat.le_of_ble_eq_true rfl⟩ (Nat.le_of_ble_eq_true rfl) (zw_dg dk_P_purse 4 rfl) ?_
  refine r_if_ne X (pc := 7) (tgt := 12) (zw_dg dk_P_purse 5 rfl) (by decide) (fun q6 => ?_) (fun q6 => ?_)
  · --
    have p5 : ¬ (¬ (¬ r4 = 0)) := (fun q => q q6)
    have hsem := zw_ifn p5 hsem
    refine r_bipush X (pc := 12) (v := (-2)) (zw_dg dk_P_purse 8 rfl) (by decide) ?_
    refine r_istore X (pc := 14) (i := 4) (zw_dg dk_P_purse 9 rfl) (by decide) rfl ?_
    refine r_sipush X (pc := 16) (v := 10000) (zw_dg dk_P_purse 10 rfl) (by decide) ?_
    refine r_istore X (pc := 19) (i := 5) (zw_dg dk_P_purse 11 rfl) (by decide) rfl ?_
    refine r_iconst X (pc := 21) (v := 0) (zw_dg dk_P_purse 12 rfl) (by decide) ?_
    refine r_istore X (pc := 22) (i := 6) (zw_dg dk_P_purse 13 rfl) (by decide) rfl ?_
    obtain ⟨l14, hl14, hsl14⟩ := zw_bd hsem
    refine r_loop (pc := 24) (pce := 94) hl14 (fun (best7, fewest8, pay9, c10) => [some (.ref 0), some (.int thought1), some (.int lights2), some (.int cost3), some (.int best7), some (.int fewest8), some (.int pay9), none, none] : Int32 × Int32 × Int32 × zw_Ct → zw_Lc) (fun (best7, fewest8, pay9, c10) => c10 : Int32 × Int32 × Int32 × zw_Ct → zw_Ct) (fun (best11, fewest12, c13) => [some (.ref 0), some (.int thought1), some (.int lights2), some (.int cost3), some (.int best11), some (.int fewest12), none, none, none] : Int32 × Int32 × zw_Ct → zw_Lc) (fun (best11, fewest12, c13) => c13 : Int32 × Int32 × zw_Ct → zw_Ct) ?_ rfl rfl ?_
    · rintro ⟨best7, fewest8, pay9, c10⟩ rr hsem hK hP
      try unfold fn_P_purse_l1 at hsem
      refine r_iload X (pc := 24) (i := 6) (zw_dg dk_P_purse 14 rfl) rfl ?_
      refine r_iconst X (pc := 26) (v := 4) (zw_dg dk_P_purse 15 rfl) (by decide) ?_
      refine r_icmp_ge X (pc := 27) (tgt := 94) (zw_dg dk_P_purse 16 rfl) (by decide) (fun q16 => ?_) (fun q16 => ?_)
      · --
        have p15 : ¬ (pay9 < 4) := (Int32.not_lt.mpr q16)
        have hsem := zw_ifn p15 hsem
        have jj := hK _ (Option.some.inj hsem).symm
        exact (r_fgt [6] rfl jj)
      · --
        have p15 : (pay9 < 4) := (Int32.not_le.mp q16)
        have hsem := zw_ifp p15 hsem
        refine r_aload_n X (pc := 30) (i := 0) (zw_dg dk_P_purse 17 rfl) rfl rfl ?_
        refine r_getR X (pc := 31) (r := 45) ci_P (zo hS 0 rfl rfl) rfl (zr hS 0 5 rfl rfl) lk_P_53 (zw_dg dk_P_purse 18 rfl) ?_
        refine r_iload X (pc := 34) (i := 6) (zw_dg dk_P_purse 19 rfl) rfl ?_
        obtain ⟨⟨r17, c18⟩, hr17_c18, hsem⟩ := zw_bd hsem
        refine r_callVO X (pc := 36) (As := [_]) (st := []) (km_Pays_valuesOf hS hr17_c18) ce_Pays_valuesOf kw_705 (zo hS 45 rfl rfl) rfl rfl ⟨Nat.le_of_ble_eq_true rfl, Nat.le_of_ble_eq_true rfl⟩ (Nat.le_of_ble_eq_true rfl) (zw_dg dk_P_purse 20 rfl) ?_
        refine r_astoreO X (pc := 39) (i := 7) (zw_dg dk_P_purse 21 rfl) (by decide) rfl ?_
        obtain ⟨⟨best19, fewest20, c21⟩, ht88, hs88⟩ := zw_bd hsem
        refine zw_jn (J := 88) (L2 := [some (.ref 0), some (.int thought1), some (.int lights2), some (.int cost3), some (.int best19), some (.int fewest20), some (.int pay9), some (zw_ov r17), none]) (c2 := c21) (fun jj => ?_) ?_
        · have hsem := ht88
          refine r_aloadO X (pc := 41) (i := 7) (zw_dg dk_P_purse 22 rfl) rfl ?_
          refine r_ifnull X (pc := 43) (tgt := 88) (zw_dg dk_P_purse 23 rfl) (by decide) (fun q23 => ?_) (fun q23 => ?_)
          · --
            have p22 : ¬ (¬ r17 = none) := (fun z => z q23)
            have hsem := zw_ifn p22 hsem
            obtain ⟨rfl, rfl, rfl⟩ := zw_in3 hsem
            exact (r_fgt [] rfl jj)
          · --
            have p22 : (¬ r17 = none) := q23
            have hsem := zw_ifp p22 hsem
            refine r_aload_n X (pc := 46) (i := 0) (zw_dg dk_P_purse 24 rfl) rfl rfl ?_
            refine r_getR X (pc := 47) (r := 63) ci_P (zo hS 0 rfl rfl) rfl (zr hS 0 8 rfl rfl) lk_P_73 (zw_dg dk_P_purse 25 rfl) ?_
            refine r_aload_n X (pc := 50) (i := 0) (zw_dg dk_P_purse 26 rfl) rfl rfl ?_
            refine r_getR X (pc := 51) (r := 63) ci_P (zo hS 0 rfl rfl) rfl (zr hS 0 8 rfl rfl) lk_P_73 (zw_dg dk_P_purse 27 rfl) ?_
            refine r_aloadO X (pc := 54) (i := 7) (zw_dg dk_P_purse 28 rfl) rfl ?_
            refine r_iload_n X (pc := 56) (i := 1) (zw_dg dk_P_purse 29 rfl) rfl rfl ?_
            refine r_iload_n X (pc := 57) (i := 2) (zw_dg dk_P_purse 30 rfl) rfl rfl ?_
            obtain ⟨a24, ha24, hs_a24⟩ := zw_bd hsem
            subst ha24
            have hsem := hs_a24
            obtain ⟨⟨r25, c26⟩, hr25_c26, hsem⟩ := zw_bd hsem
            refine r_callVl X (pc := 58) (As := [_, _, _]) (st := [.ref 63]) (km_Lures_gainOfLooking hS hr25_c26) ce_Lures_gainOfLooking kw_952 (zo hS 63 rfl rfl) rfl rfl ⟨Nat.le_of_ble_eq_true rfl, Nat.le_of_ble_eq_true rfl⟩ (Nat.le_of_ble_eq_true rfl) (zw_dg dk_P_purse 31 rfl) ?_
            refine r_iload_n X (pc := 61) (i := 3) (zw_dg dk_P_purse 32 rfl) rfl rfl ?_
            obtain ⟨r27, hr27, hsem⟩ := zw_bd hsem
            refine r_callVi X (pc := 62) (As := [_, _]) (st := []) (km_Lures_timesForCost hS hr27) ce_Lures_timesForCost kw_965 (zo hS 63 rfl rfl) rfl rfl ⟨Nat.le_of_ble_eq_true rfl, Nat.le_of_ble_eq_true rfl⟩ (Nat.le_of_ble_eq_true rfl) (zw_dg dk_P_purse 33 rfl) ?_
            refine r_istore X (pc := 65) (i := 8) (zw_dg dk_P_purse 34 rfl) (by decide) rfl ?_
            obtain ⟨⟨best28, fewest29⟩, ht88, hs88⟩ := zw_bd hsem
            refine zw_jn (J := 88) (L2 := [some (.ref 0), some (.int thought1), some (.int lights2), some (.int cost3), some (.int best28), some (.int fewest29), some (.int pay9), some (.ref a24), some (.int r27)]) (c2 := c26) (fun jj => ?_) ?_
            · have hsem := ht88
              refine zw_cnd (P := ((¬ r27 = (-1)) ∧ (r27 < fewest8))) (J1 := 80) (J2 := 88) (st2 := []) (fun jT jF => ?_) (fun p30 => ?_) (fun p30 => ?_)
              · --
                refine r_iload X (pc := 67) (i := 8) (zw_dg dk_P_purse 35 rfl) rfl ?_
                refine r_iconst X (pc := 69) (v := (-1)) (zw_dg dk_P_purse 36 rfl) (by decide) ?_
                refine r_icmp_eq X (pc := 70) (tgt := 88) (zw_dg dk_P_purse 37 rfl) (by decide) (fun q31 => ?_) (fun q31 => ?_)
                · --
                  exact jF (fun q => (fun z => z q31) q.1)
                · --
                  refine r_iload X (pc := 73) (i := 8) (zw_dg dk_P_purse 38 rfl) rfl ?_
                  refine r_iload X (pc := 75) (i := 5) (zw_dg dk_P_purse 39 rfl) rfl ?_
                  refine r_icmp_ge X (pc := 77) (tgt := 88) (zw_dg dk_P_purse 40 rfl) (by decide) (fun q32 => ?_) (fun q32 => ?_)
                  · --
                    exact jF (fun q => (Int32.not_lt.mpr q32) q.2)
                  · --
                    exact jT ⟨q31, (Int32.not_le.mp q32)⟩
              · --
                have hsem := zw_ifp p30 hsem
                refine r_iload X (pc := 80) (i := 6) (zw_dg dk_P_purse 41 rfl) rfl ?_
                refine r_istore X (pc := 82) (i := 4) (zw_dg dk_P_purse 42 rfl) (by decide) rfl ?_
                refine r_iload X (pc := 84) (i := 8) (zw_dg dk_P_purse 43 rfl) rfl ?_
                refine r_istore X (pc := 86) (i := 5) (zw_dg dk_P_purse 44 rfl) (by decide) rfl ?_
                obtain ⟨rfl, rfl⟩ := zw_in2 hsem
                exact (r_fgt [] rfl jj)
              · --
                have hsem := zw_ifn p30 hsem
                obtain ⟨rfl, rfl⟩ := zw_in2 hsem
                exact (r_fgt [] rfl jj)
            have hsem := hs88
            obtain ⟨rfl, rfl, rfl⟩ := zw_in3 hsem
            exact (r_fgt [8] rfl jj)
        have hsem := hs88
        refine r_iinc X (pc := 88) (i := 6) (k := 1) (zw_dg dk_P_purse 45 rfl) rfl (by decide) (by decide) rfl ?_
        refine r_goto X (pc := 91) (tgt := 24) (zw_dg dk_P_purse 46 rfl) (by decide) ?_
        have jj := hP _ (Option.some.inj hsem).symm
        exact (r_fgt [7] rfl jj)
    obtain ⟨best11, fewest12, c13⟩ := l14
    have hsem := hsl14
    obtain ⟨c33, ht118, hs118⟩ := zw_bd hsem
    refine zw_jn (J := 118) (L2 := [some (.ref 0), some (.int thought1), some (.int lights2), some (.int cost3), some (.int best11), some (.int fewest12), none, none, none]) (c2 := c33) (fun jj => ?_) ?_
    · have hsem := ht118
      refine r_iload X (pc := 94) (i := 4) (zw_dg dk_P_purse 47 rfl) rfl ?_
      refine r_bipush X (pc := 96) (v := (-2)) (zw_dg dk_P_purse 48 rfl) (by decide) ?_
      refine r_icmp_eq X (pc := 98) (tgt := 118) (zw_dg dk_P_purse 49 rfl) (by decide) (fun q35 => ?_) (fun q35 => ?_)
      · --
        have p34 : ¬ (¬ best11 = (-2)) := (fun z => z q35)
        have hsem := zw_ifn p34 hsem
        cases hsem
        exact (r_fgt [] rfl jj)
      · --
        have p34 : (¬ best11 = (-2)) := q35
        have hsem := zw_ifp p34 hsem
        refine r_aload_n X (pc := 101) (i := 0) (zw_dg dk_P_purse 50 rfl) rfl rfl ?_
        refine r_getR X (pc := 102) (r := 61) ci_P (zo hS 0 rfl rfl) rfl (zr hS 0 6 rfl rfl) lk_P_60 (zw_dg dk_P_purse 51 rfl) ?_
        obtain ⟨c36, hc36, hsem⟩ := zw_bd hsem
        refine r_callVv X (pc := 105) (As := []) (st := []) (km_Row_clear hS hc36) ce_Row_clear kw_741 (zo hS 61 rfl rfl) rfl rfl ⟨Nat.le_of_ble_eq_true rfl, Nat.le_of_ble_eq_true rfl⟩ (Nat.le_of_ble_eq_true rfl) (zw_dg dk_P_purse 52 rfl) ?_
        refine r_aload_n X (pc := 108) (i := 0) (zw_dg dk_P_purse 53 rfl) rfl rfl ?_
        refine r_getR X (pc := 109) (r := 61) ci_P (zo hS 0 rfl rfl) rfl (zr hS 0 6 rfl rfl) lk_P_60 (zw_dg dk_P_purse 54 rfl) ?_
        refine r_iload X (pc := 112) (i := 5) (zw_dg dk_P_purse 55 rfl) rfl ?_
        refine r_i2l X (pc := 114) (zw_dg dk_P_purse 56 rfl)  ?_
        obtain ⟨c37, hc37, hsem⟩ := zw_bd hsem
        refine r_callVv X (pc := 115) (As := [_]) (st := []) (km_Row_add hS hc37) ce_Row_add kw_745 (zo hS 61 rfl rfl) rfl rfl ⟨Nat.le_of_ble_eq_true rfl, Nat.le_of_ble_eq_true rfl⟩ (Nat.le_of_ble_eq_true rfl) (zw_dg dk_P_purse 57 rfl) ?_
        cases hsem
        exact (r_fgt [] rfl jj)
    have hsem := hs118
    refine r_iload X (pc := 118) (i := 4) (zw_dg dk_P_purse 58 rfl) rfl ?_
    obtain ⟨rfl, rfl⟩ := zw_in2 hsem
    exact r_iret X (pc := 120) rfl (zw_dg dk_P_purse 59 rfl)
  · --
    have p5 : (¬ (¬ r4 = 0)) := (fun z => z q6)
    have hsem := zw_ifp p5 hsem
    refine r_iconst X (pc := 10) (v := (-1)) (zw_dg dk_P_purse 6 rfl) (by decide) ?_
    obtain ⟨rfl, rfl⟩ := zw_in2 hsem
    exact r_iret X (pc := 11) rfl (zw_dg dk_P_purse 7 rfl)
def y_P_minds : MethodName := ⟨R_P, "minds", "(III)I"⟩
abbrev b_P_minds : ByteArray := prog_1_method_28_code
def dl_P_minds : List (Nat × Instr × Nat) := [(0, .aload_n 0, 1), (1, .getfield 53, 3), (4, .iload_n 1, 1), (5, .invokevirtual 163, 3), (8, .astore 4, 2), (10, .aload 4, 2), (12, .ifnull 24, 3), (15, .aload_n 0, 1), (16, .getfield 25, 3), (19, .iload_n 2, 1), (20, .invokevirtual 122, 3), (23, .ifCond .eq 13, 3), (26, .iload_n 3, 1), (27, .iconst 1, 1), (28, .bipush 9, 2), (30, .invokestatic 100, 3), (33, .ifCond .ne 5, 3), (36, .iconst (-1), 1), (37, .ireturn, 1), (38, .aload_n 0, 1), (39, .getfield 73, 3), (42, .aload 4, 2), (44, .iload_n 2, 1), (45, .iload_n 3, 1), (46, .aload_n 0, 1), (47, .getfield 60, 3), (50, .invokevirtual 259, 3), (53, .ireturn, 1)]
theorem dk_P_minds : zw_dk b_P_minds dl_P_minds = true := by decide +kernel
theorem ce_P_minds : zw_cev y_P_minds b_P_minds 5 (some .int) 3 := ⟨⟨kt_in 979 (by decide +kernel) rfl, kt_in 85 (by decide +kernel) rfl, by decide +kernel⟩, kt_in 977 (by decide +kernel) rfl, kt_in 978 (by decide +kernel) rfl⟩
def fn_P_minds (c : zw_Ct) (pay1 : Int32) (thought2 : Int32) (w3 : Int32) : Option (Int32 × zw_Ct) :=
  (fn_Pays_valuesOf c pay1).bind fun (r4, c5) =>
  if (((r4 = none) ∨ (¬ (¬ (fn_Sayings_has c5 thought2) = 0))) ∨ (¬ (¬ (fn_P_within w3 1 9) = 0))) then
  (some ((-1), c5))
  else
  ((r4).bind fun a10 =>
  (fn_Lures_tellMinding c5 a10 thought2 w3).bind fun (r11, c12) =>
  some (r11, c12))
set_option maxRecDepth 100000 in
theorem km_P_minds {l : Launch} {g : zw_G} {rr : zw_RR} {sh : zw_Sh} {c : zw_Ct} {pay1 : Int32} {thought2 : Int32} {w3 : Int32} {r : Int32} {c2 : zw_Ct} (hS : zw_Ok 0 101 sh rr) (hsem : fn_P_minds c pay1 thought2 w3 = some (r, c2)) : zw_Met l g y_P_minds b_P_minds 5 (some .int) 5 rr sh [.ref 0, .int pay1, .int thought2, .int w3] c (some (.int r)) c2 := by
  unfold fn_P_minds at hsem
  refine zw_Met.of (by decide +kernel) (Nat.le_of_ble_eq_true rfl) (fun p e s m args below meth cd X => ?_)
  refine zw_eL (L2 := [some (.ref 0), some (.int pay1), some (.int thought2), some (.int w3), none]) rfl ?_
  refine r_aload_n X (pc := 0) (i := 0) (zw_dg dk_P_minds 0 rfl) rfl rfl ?_
  refine r_getR X (pc := 1) (r := 45) ci_P (zo hS 0 rfl rfl) rfl (zr hS 0 5 rfl rfl) lk_P_53 (zw_dg dk_P_minds 1 rfl) ?_
  refine r_iload_n X (pc := 4) (i := 1) (zw_dg dk_P_minds 2 rfl) rfl rfl ?_
  obtain ⟨⟨r4, c5⟩, hr4_c5, hsem⟩ := zw_bd hsem
  refine r_callVO X (pc := 5) (As := [_]) (st := []) (km_Pays_valuesOf hS hr4_c5) ce_Pays_valuesOf kw_705 (zo hS 45 rfl rfl) rfl rfl ⟨Nat.le_of_ble_eq_true rfl, Nat.le_of_ble_eq_true rfl⟩ (Nat.le_of_ble_eq_true rfl) (zw_dg dk_P_minds 3 rfl) ?_
  refine r_astoreO X (pc := 8) (i := 4) (zw_dg dk_P_minds 4 rfl) (by decide) rfl ?_
  refine zw_cnd (P := (((r4 = none) ∨ (¬ (¬ (fn_Sayings_has c5 thought2) = 0))) ∨ (¬ (¬ (fn_P_within w3 1 9) = 0)))) (J1 := 36) (J2 := 38) (st2 := []) (fun jT jF => ?_) (fun p6 => ?_) (fun p6 => ?_)
  · --
    refine r_aloadO X (pc := 10) (i := 4) (zw_dg dk_P_minds 5 rfl) rfl ?_
    refine r_ifnull X (pc := 12) (tgt := 36) (zw_dg dk_P_minds 6 rfl) (by decide) (fun q7 => ?_) (fun q7 => ?_)
    · --
      exact jT (Or.inl (Or.inl q7))
    · --
      refine r_aload_n X (pc := 15) (i := 0) (zw_dg dk_P_minds 7 rfl) rfl rfl ?_
      refine r_getR X (pc := 16) (r := 1) ci_P (zo hS 0 rfl rfl) rfl (zr hS 0 0 rfl rfl) lk_P_25 (zw_dg dk_P_minds 8 rfl) ?_
      refine r_iload_n X (pc := 19) (i := 2) (zw_dg dk_P_minds 9 rfl) rfl rfl ?_
      refine r_callVi X (pc := 20) (As := [_]) (st := []) (km_Sayings_has hS rfl) ce_Sayings_has kw_758 (zo hS 1 rfl rfl) rfl rfl ⟨Nat.le_of_ble_eq_true rfl, Nat.le_of_ble_eq_true rfl⟩ (Nat.le_of_ble_eq_true rfl) (zw_dg dk_P_minds 10 rfl) ?_
      refine r_if_eq X (pc := 23) (tgt := 36) (zw_dg dk_P_minds 11 rfl) (by decide) (fun q8 => ?_) (fun q8 => ?_)
      · --
        exact jT (Or.inl (Or.inr (fun z => z q8)))
      · --
        refine r_iload_n X (pc := 26) (i := 3) (zw_dg dk_P_minds 12 rfl) rfl rfl ?_
        refine r_iconst X (pc := 27) (v := 1) (zw_dg dk_P_minds 13 rfl) (by decide) ?_
        refine r_bipush X (pc := 28) (v := 9) (zw_dg dk_P_minds 14 rfl) (by decide) ?_
        refine r_callSi X (pc := 30) (As := [_, _, _]) (st := []) (km_P_within hS rfl) ce_P_within kw_492 rfl ⟨Nat.le_of_ble_eq_true rfl, Nat.le_of_ble_eq_true rfl⟩ (Nat.le_of_ble_eq_true rfl) (zw_dg dk_P_minds 15 rfl) ?_
        refine r_if_ne X (pc := 33) (tgt := 38) (zw_dg dk_P_minds 16 rfl) (by decide) (fun q9 => ?_) (fun q9 => ?_)
        · --
          exact jF (fun q => q.elim (fun q => q.elim q7 (fun q => q q8)) (fun q => q q9))
        · --
          exact jT (Or.inr (fun z => z q9))
  · --
    have hsem := zw_ifp p6 hsem
    refine r_iconst X (pc := 36) (v := (-1)) (zw_dg dk_P_minds 17 rfl) (by decide) ?_
    obtain ⟨rfl, rfl⟩ := zw_in2 hsem
    exact r_iret X (pc := 37) rfl (zw_dg dk_P_minds 18 rfl)
  · --
    have hsem := zw_ifn p6 hsem
    refine r_aload_n X (pc := 38) (i := 0) (zw_dg dk_P_minds 19 rfl) rfl rfl ?_
    refine r_getR X (pc := 39) (r := 63) ci_P (zo hS 0 rfl rfl) rfl (zr hS 0 8 rfl rfl) lk_P_73 (zw_dg dk_P_minds 20 rfl) ?_
    refine r_aloadO X (pc := 42) (i := 4) (zw_dg dk_P_minds 21 rfl) rfl ?_
    refine r_iload_n X (pc := 44) (i := 2) (zw_dg dk_P_minds 22 rfl) rfl rfl ?_
    refine r_iload_n X (pc := 45) (i := 3) (zw_dg dk_P_minds 23 rfl) rfl rfl ?_
    refine r_aload_n X (pc := 46) (i := 0) (zw_dg dk_P_minds 24 rfl) rfl rfl ?_
    refine r_getR X (pc := 47) (r := 61) ci_P (zo hS 0 rfl rfl) rfl (zr hS 0 6 rfl rfl) lk_P_60 (zw_dg dk_P_minds 25 rfl) ?_
    obtain ⟨a10, ha10, hs_a10⟩ := zw_bd hsem
    subst ha10
    have hsem := hs_a10
    obtain ⟨⟨r11, c12⟩, hr11_c12, hsem⟩ := zw_bd hsem
    refine r_callVi X (pc := 50) (As := [_, _, _, _]) (st := []) (km_Lures_tellMinding hS hr11_c12) ce_Lures_tellMinding kw_980 (zo hS 63 rfl rfl) rfl rfl ⟨Nat.le_of_ble_eq_true rfl, Nat.le_of_ble_eq_true rfl⟩ (Nat.le_of_ble_eq_true rfl) (zw_dg dk_P_minds 26 rfl) ?_
    obtain ⟨rfl, rfl⟩ := zw_in2 hsem
    exact r_iret X (pc := 53) rfl (zw_dg dk_P_minds 27 rfl)
