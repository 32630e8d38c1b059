/-! PaidForThinking$Text: names, functions, contracts (by program: wip/whole/gen) -/
def y_Text_addFour : MethodName := ⟨R_Text, "addFour", "(I)I"⟩
abbrev b_Text_addFour : ByteArray := prog_12_method_2_code
def dl_Text_addFour : List (Nat × Instr × Nat) := [(0, .aload_n 0, 1), (1, .getfield 25, 3), (4, .iconst 4, 1), (5, .iadd, 1), (6, .bipush 80, 2), (8, .if_icmp .le 5, 3), (11, .iconst (-1), 1), (12, .ireturn, 1), (13, .iconst 0, 1), (14, .istore_n 2, 1), (15, .iload_n 2, 1), (16, .iconst 4, 1), (17, .if_icmp .ge 41, 3), (20, .aload_n 0, 1), (21, .getfield 11, 3), (24, .aload_n 0, 1), (25, .getfield 25, 3), (28, .iload_n 1, 1), (29, .bipush 24, 2), (31, .bipush 8, 2), (33, .iload_n 2, 1), (34, .imul, 1), (35, .isub, 1), (36, .iushr, 1), (37, .sipush 255, 3), (40, .iand, 1), (41, .iastore, 1), (42, .aload_n 0, 1), (43, .dup, 1), (44, .getfield 25, 3), (47, .iconst 1, 1), (48, .iadd, 1), (49, .putfield 25, 3), (52, .iinc 2 1, 3), (55, .goto (-40), 3), (58, .aload_n 0, 1), (59, .getfield 25, 3), (62, .ireturn, 1)]
theorem dk_Text_addFour : zw_dk b_Text_addFour dl_Text_addFour = true := by decide +kernel
theorem ce_Text_addFour : zw_cev y_Text_addFour b_Text_addFour 3 (some .int) 1 := ⟨⟨kt_in 541 (by decide +kernel) rfl, kt_in 91 (by decide +kernel) rfl, by decide +kernel⟩, kt_in 539 (by decide +kernel) rfl, kt_in 540 (by decide +kernel) rfl⟩
def fn_Text_addFour_l1 (v1 : Int32) : Int32 × zw_Ct → Option ((zw_Ct) ⊕ (Int32 × zw_Ct)) := fun (i4, c5) =>
  if (i4 < 4) then
  ((zw_uI 80 c5 41 (c5.1 40 1) ((v1.toUInt32 >>> ((24 - (8 * i4)).toUInt32 &&& Int32.toUInt32 31)).toInt32 &&& 255)).bind fun c10 =>
  (some (zw_wI c10 40 1 ((c10.1 40 1) + 1))).bind fun c11 =>
  some (.inr ((i4 + 1), c11)))
  else
  (some (.inl c5))
def fn_Text_addFour (c : zw_Ct) (v1 : Int32) : Option (Int32 × zw_Ct) :=
  if (80 < ((c.1 40 1) + 4)) then
  (some ((-1), c))
  else
  ((zw_whl (fn_Text_addFour_l1 v1) zw_F (0, c)).bind fun c6 =>
  some ((c6.1 40 1), c6))
set_option maxRecDepth 100000 in
theorem km_Text_addFour {l : Launch} {g : zw_G} {rr : zw_RR} {sh : zw_Sh} {c : zw_Ct} {v1 : Int32} {r : Int32} {c2 : zw_Ct} (hS : zw_Ok 0 101 sh rr) (hsem : fn_Text_addFour c v1 = some (r, c2)) : zw_Met l g y_Text_addFour b_Text_addFour 3 (some .int) 1 rr sh [.ref 40, .int v1] c (some (.int r)) c2 := by
  unfold fn_Text_addFour at hsem
  refine zw_Met.of (by decide +kernel) (Nat.le_of_ble_eq_true rfl) (fun p e s m args below meth cd X => ?_)
  refine zw_eL (L2 := [some (.ref 40), some (.int v1), none]) rfl ?_
  refine r_aload_n X (pc := 0) (i := 0) (zw_dg dk_Text_addFour 0 rfl) rfl rfl ?_
  refine r_getI X (pc := 1) ci_Text (zo hS 40 rfl rfl) rfl lk_Text_25 (zw_dg dk_Text_addFour 1 rfl) ?_
  refine r_iconst X (pc := 4) (v := 4) (zw_dg dk_Text_addFour 2 rfl) (by decide) ?_
  refine r_iadd X (pc := 5) (zw_dg dk_Text_addFour 3 rfl)  ?_
  refine r_bipush X (pc := 6) (v := 80) (zw_dg dk_Text_addFour 4 rfl) (by decide) ?_
  refine r_icmp_le X (pc := 8) (tgt := 13) (zw_dg dk_Text_addFour 5 rfl) (by decide) (fun q3 => ?_) (fun q3 => ?_)
  · --
    have p2 : ¬ (80 < ((c.1 40 1) + 4)) := (Int32.not_lt.mpr q3)
    have hsem := zw_ifn p2 hsem
    refine r_iconst X (pc := 13) (v := 0) (zw_dg dk_Text_addFour 8 rfl) (by decide) ?_
    refine r_istore_n X (pc := 14) (i := 2) (zw_dg dk_Text_addFour 9 rfl) rfl (by decide) rfl ?_
    obtain ⟨c6, hl7, hsl7⟩ := zw_bd hsem
    refine r_loop (pc := 15) (pce := 58) hl7 (fun (i4, c5) => [some (.ref 40), some (.int v1), some (.int i4)] : Int32 × zw_Ct → zw_Lc) (fun (i4, c5) => c5 : Int32 × zw_Ct → zw_Ct) (fun c6 => [some (.ref 40), some (.int v1), none] : zw_Ct → zw_Lc) (fun c6 => c6 : zw_Ct → zw_Ct) ?_ rfl rfl ?_
    · rintro ⟨i4, c5⟩ rr hsem hK hP
      try unfold fn_Text_addFour_l1 at hsem
      refine r_iload_n X (pc := 15) (i := 2) (zw_dg dk_Text_addFour 10 rfl) rfl rfl ?_
      refine r_iconst X (pc := 16) (v := 4) (zw_dg dk_Text_addFour 11 rfl) (by decide) ?_
      refine r_icmp_ge X (pc := 17) (tgt := 58) (zw_dg dk_Text_addFour 12 rfl) (by decide) (fun q9 => ?_) (fun q9 => ?_)
      · --
        have p8 : ¬ (i4 < 4) := (Int32.not_lt.mpr q9)
        have hsem := zw_ifn p8 hsem
        have jj := hK _ (Option.some.inj hsem).symm
        exact (r_fgt [2] rfl jj)
      · --
        have p8 : (i4 < 4) := (Int32.not_le.mp q9)
        have hsem := zw_ifp p8 hsem
        refine r_aload_n X (pc := 20) (i := 0) (zw_dg dk_Text_addFour 13 rfl) rfl rfl ?_
        refine r_getR X (pc := 21) (r := 41) ci_Text (zo hS 40 rfl rfl) rfl (zr hS 40 0 rfl rfl) lk_Text_11 (zw_dg dk_Text_addFour 14 rfl) ?_
        refine r_aload_n X (pc := 24) (i := 0) (zw_dg dk_Text_addFour 15 rfl) rfl rfl ?_
        refine r_getI X (pc := 25) ci_Text (zo hS 40 rfl rfl) rfl lk_Text_25 (zw_dg dk_Text_addFour 16 rfl) ?_
        refine r_iload_n X (pc := 28) (i := 1) (zw_dg dk_Text_addFour 17 rfl) rfl rfl ?_
        refine r_bipush X (pc := 29) (v := 24) (zw_dg dk_Text_addFour 18 rfl) (by decide) ?_
        refine r_bipush X (pc := 31) (v := 8) (zw_dg dk_Text_addFour 19 rfl) (by decide) ?_
        refine r_iload_n X (pc := 33) (i := 2) (zw_dg dk_Text_addFour 20 rfl) rfl rfl ?_
        refine r_imul X (pc := 34) (zw_dg dk_Text_addFour 21 rfl)  ?_
        refine r_isub X (pc := 35) (zw_dg dk_Text_addFour 22 rfl)  ?_
        refine r_iushr X (pc := 36) (zw_dg dk_Text_addFour 23 rfl)  ?_
        refine r_sipush X (pc := 37) (v := 255) (zw_dg dk_Text_addFour 24 rfl) (by decide) ?_
        refine r_iand X (pc := 40) (zw_dg dk_Text_addFour 25 rfl)  ?_
        obtain ⟨c10, hc10, hsem⟩ := zw_bd hsem
        refine r_iast X (pc := 41) (zo hS 41 rfl rfl) hc10 (zw_dg dk_Text_addFour 26 rfl) ?_
        refine r_aload_n X (pc := 42) (i := 0) (zw_dg dk_Text_addFour 27 rfl) rfl rfl ?_
        refine r_dup X (pc := 43) (zw_dg dk_Text_addFour 28 rfl) rfl ?_
        refine r_getI X (pc := 44) ci_Text (zo hS 40 rfl rfl) rfl lk_Text_25 (zw_dg dk_Text_addFour 29 rfl) ?_
        refine r_iconst X (pc := 47) (v := 1) (zw_dg dk_Text_addFour 30 rfl) (by decide) ?_
        refine r_iadd X (pc := 48) (zw_dg dk_Text_addFour 31 rfl)  ?_
        refine r_putI X (pc := 49) ci_Text (zo hS 40 rfl rfl) rfl lk_Text_25 rfl ⟨rfl, rfl⟩ (zw_dg dk_Text_addFour 32 rfl) ?_
        obtain ⟨c11, hc11, hsem⟩ := zw_bd hsem
        refine zw_topC hc11 ?_
        refine r_iinc X (pc := 52) (i := 2) (k := 1) (zw_dg dk_Text_addFour 33 rfl) rfl (by decide) (by decide) rfl ?_
        refine r_goto X (pc := 55) (tgt := 15) (zw_dg dk_Text_addFour 34 rfl) (by decide) ?_
        have jj := hP _ (Option.some.inj hsem).symm
        exact (r_fgt [] rfl jj)
    have hsem := hsl7
    refine r_aload_n X (pc := 58) (i := 0) (zw_dg dk_Text_addFour 35 rfl) rfl rfl ?_
    refine r_getI X (pc := 59) ci_Text (zo hS 40 rfl rfl) rfl lk_Text_25 (zw_dg dk_Text_addFour 36 rfl) ?_
    cases hsem
    exact r_iret X (pc := 62) rfl (zw_dg dk_Text_addFour 37 rfl)
  · --
    have p2 : (80 < ((c.1 40 1) + 4)) := (Int32.not_le.mp q3)
    have hsem := zw_ifp p2 hsem
    refine r_iconst X (pc := 11) (v := (-1)) (zw_dg dk_Text_addFour 6 rfl) (by decide) ?_
    cases hsem
    exact r_iret X (pc := 12) rfl (zw_dg dk_Text_addFour 7 rfl)
def y_Text_cutTo : MethodName := ⟨R_Text, "cutTo", "(I)Z"⟩
abbrev b_Text_cutTo : ByteArray := prog_12_method_3_code
def dl_Text_cutTo : List (Nat × Instr × Nat) := [(0, .iload_n 1, 1), (1, .ifCond .lt 11, 3), (4, .iload_n 1, 1), (5, .aload_n 0, 1), (6, .getfield 25, 3), (9, .if_icmp .le 5, 3), (12, .iconst 0, 1), (13, .ireturn, 1), (14, .aload_n 0, 1), (15, .iload_n 1, 1), (16, .putfield 25, 3), (19, .iconst 1, 1), (20, .ireturn, 1)]
theorem dk_Text_cutTo : zw_dk b_Text_cutTo dl_Text_cutTo = true := by decide +kernel
theorem ce_Text_cutTo : zw_cev y_Text_cutTo b_Text_cutTo 2 (some .boolean) 1 := ⟨⟨kt_in 549 (by decide +kernel) rfl, kt_in 91 (by decide +kernel) rfl, by decide +kernel⟩, kt_in 547 (by decide +kernel) rfl, kt_in 548 (by decide +kernel) rfl⟩
def fn_Text_cutTo (c : zw_Ct) (n1 : Int32) : Option (Int32 × zw_Ct) :=
  if ((n1 < 0) ∨ ((c.1 40 1) < n1)) then
  (some (0, c))
  else
  ((some (zw_wI c 40 1 n1)).bind fun c5 =>
  some (1, c5))
set_option maxRecDepth 100000 in
theorem km_Text_cutTo {l : Launch} {g : zw_G} {rr : zw_RR} {sh : zw_Sh} {c : zw_Ct} {n1 : Int32} {r : Int32} {c2 : zw_Ct} (hS : zw_Ok 0 101 sh rr) (hsem : fn_Text_cutTo c n1 = some (r, c2)) : zw_Met l g y_Text_cutTo b_Text_cutTo 2 (some .boolean) 1 rr sh [.ref 40, .int n1] c (some (.int r)) c2 := by
  unfold fn_Text_cutTo at hsem
  refine zw_Met.of (by decide +kernel) (Nat.le_of_ble_eq_true rfl) (fun p e s m args below meth cd X => ?_)
  refine zw_eL (L2 := [some (.ref 40), some (.int n1)]) rfl ?_
  refine zw_cnd (P := ((n1 < 0) ∨ ((c.1 40 1) < n1))) (J1 := 12) (J2 := 14) (st2 := []) (fun jT jF => ?_) (fun p2 => ?_) (fun p2 => ?_)
  · --
    refine r_iload_n X (pc := 0) (i := 1) (zw_dg dk_Text_cutTo 0 rfl) rfl rfl ?_
    refine r_if_lt X (pc := 1) (tgt := 12) (zw_dg dk_Text_cutTo 1 rfl) (by decide) (fun q3 => ?_) (fun q3 => ?_)
    · --
      exact jT (Or.inl q3)
    · --
      refine r_iload_n X (pc := 4) (i := 1) (zw_dg dk_Text_cutTo 2 rfl) rfl rfl ?_
      refine r_aload_n X (pc := 5) (i := 0) (zw_dg dk_Text_cutTo 3 rfl) rfl rfl ?_
      refine r_getI X (pc := 6) ci_Text (zo hS 40 rfl rfl) rfl lk_Text_25 (zw_dg dk_Text_cutTo 4 rfl) ?_
      refine r_icmp_le X (pc := 9) (tgt := 14) (zw_dg dk_Text_cutTo 5 rfl) (by decide) (fun q4 => ?_) (fun q4 => ?_)
      · --
        exact jF (fun q => q.elim q3 (Int32.not_lt.mpr q4))
      · --
        exact jT (Or.inr (Int32.not_le.mp q4))
  · --
    have hsem := zw_ifp p2 hsem
    refine r_iconst X (pc := 12) (v := 0) (zw_dg dk_Text_cutTo 6 rfl) (by decide) ?_
    have hbz : (0 : Int32) = 0 ∨ (0 : Int32) = 1 := (by decide)
    cases hsem
    exact r_zret X (pc := 13) rfl (zw_bzn hbz).1 (zw_dg dk_Text_cutTo 7 rfl)
  · --
    have hsem := zw_ifn p2 hsem
    refine r_aload_n X (pc := 14) (i := 0) (zw_dg dk_Text_cutTo 8 rfl) rfl rfl ?_
    refine r_iload_n X (pc := 15) (i := 1) (zw_dg dk_Text_cutTo 9 rfl) rfl rfl ?_
    refine r_putI X (pc := 16) ci_Text (zo hS 40 rfl rfl) rfl lk_Text_25 rfl ⟨rfl, rfl⟩ (zw_dg dk_Text_cutTo 10 rfl) ?_
    obtain ⟨c5, hc5, hsem⟩ := zw_bd hsem
    refine zw_topC hc5 ?_
    refine r_iconst X (pc := 19) (v := 1) (zw_dg dk_Text_cutTo 11 rfl) (by decide) ?_
    have hbz : (1 : Int32) = 0 ∨ (1 : Int32) = 1 := (by decide)
    cases hsem
    exact r_zret X (pc := 20) rfl (zw_bzn hbz).1 (zw_dg dk_Text_cutTo 12 rfl)
def y_Text_empty : MethodName := ⟨R_Text, "empty", "()V"⟩
abbrev b_Text_empty : ByteArray := prog_12_method_4_code
def dl_Text_empty : List (Nat × Instr × Nat) := [(0, .aload_n 0, 1), (1, .iconst 0, 1), (2, .putfield 25, 3), (5, .return_, 1)]
theorem dk_Text_empty : zw_dk b_Text_empty dl_Text_empty = true := by decide +kernel
theorem ce_Text_empty : zw_cev y_Text_empty b_Text_empty 1 (none) 0 := ⟨⟨kt_in 699 (by decide +kernel) rfl, kt_in 91 (by decide +kernel) rfl, by decide +kernel⟩, kt_in 697 (by decide +kernel) rfl, kt_in 698 (by decide +kernel) rfl⟩
def fn_Text_empty (c : zw_Ct) : Option zw_Ct :=
  (some (zw_wI c 40 1 0)).bind fun c3 =>
  some c3
set_option maxRecDepth 100000 in
theorem km_Text_empty {l : Launch} {g : zw_G} {rr : zw_RR} {sh : zw_Sh} {c : zw_Ct} {c2 : zw_Ct} (hS : zw_Ok 0 101 sh rr) (hsem : fn_Text_empty c = some c2) : zw_Met l g y_Text_empty b_Text_empty 1 (none) 1 rr sh [.ref 40] c none c2 := by
  unfold fn_Text_empty at hsem
  refine zw_Met.of (by decide +kernel) (Nat.le_of_ble_eq_true rfl) (fun p e s m args below meth cd X => ?_)
  refine zw_eL (L2 := [some (.ref 40)]) rfl ?_
  refine r_aload_n X (pc := 0) (i := 0) (zw_dg dk_Text_empty 0 rfl) rfl rfl ?_
  refine r_iconst X (pc := 1) (v := 0) (zw_dg dk_Text_empty 1 rfl) (by decide) ?_
  refine r_putI X (pc := 2) ci_Text (zo hS 40 rfl rfl) rfl lk_Text_25 rfl ⟨rfl, rfl⟩ (zw_dg dk_Text_empty 2 rfl) ?_
  obtain ⟨c3, hc3, hsem⟩ := zw_bd hsem
  refine zw_topC hc3 ?_
  cases hsem
  exact r_vret X (pc := 5) rfl (zw_dg dk_Text_empty 3 rfl)
def y_Text_startReading : MethodName := ⟨R_Text, "startReading", "()V"⟩
abbrev b_Text_startReading : ByteArray := prog_12_method_6_code
def dl_Text_startReading : List (Nat × Instr × Nat) := [(0, .aload_n 0, 1), (1, .iconst 0, 1), (2, .putfield 56, 3), (5, .aload_n 0, 1), (6, .iconst 0, 1), (7, .putfield 59, 3), (10, .aload_n 0, 1), (11, .iconst 0, 1), (12, .putfield 49, 3), (15, .aload_n 0, 1), (16, .iconst 0, 1), (17, .putfield 62, 3), (20, .aload_n 0, 1), (21, .getfield 21, 3), (24, .iconst 0, 1), (25, .iconst 0, 1), (26, .bastore, 1), (27, .aload_n 0, 1), (28, .iconst 1, 1), (29, .putfield 38, 3), (32, .return_, 1)]
theorem dk_Text_startReading : zw_dk b_Text_startReading dl_Text_startReading = true := by decide +kernel
theorem ce_Text_startReading : zw_cev y_Text_startReading b_Text_startReading 1 (none) 0 := ⟨⟨kt_in 566 (by decide +kernel) rfl, kt_in 91 (by decide +kernel) rfl, by decide +kernel⟩, kt_in 565 (by decide +kernel) rfl, kt_in 2 (by decide +kernel) rfl⟩
def fn_Text_startReading (c : zw_Ct) : Option zw_Ct :=
  (some (zw_wI c 40 3 0)).bind fun c3 =>
  (some (zw_wI c3 40 5 0)).bind fun c4 =>
  (some (zw_wI c4 40 7 0)).bind fun c5 =>
  (some (zw_wI c5 40 8 0)).bind fun c6 =>
  (zw_uI 6 c6 44 0 0).bind fun c7 =>
  (some (zw_wI c7 40 9 1)).bind fun c8 =>
  some c8
set_option maxRecDepth 100000 in
theorem km_Text_startReading {l : Launch} {g : zw_G} {rr : zw_RR} {sh : zw_Sh} {c : zw_Ct} {c2 : zw_Ct} (hS : zw_Ok 0 101 sh rr) (hsem : fn_Text_startReading c = some c2) : zw_Met l g y_Text_startReading b_Text_startReading 1 (none) 1 rr sh [.ref 40] c none c2 := by
  unfold fn_Text_startReading at hsem
  refine zw_Met.of (by decide +kernel) (Nat.le_of_ble_eq_true rfl) (fun p e s m args below meth cd X => ?_)
  refine zw_eL (L2 := [some (.ref 40)]) rfl ?_
  refine r_aload_n X (pc := 0) (i := 0) (zw_dg dk_Text_startReading 0 rfl) rfl rfl ?_
  refine r_iconst X (pc := 1) (v := 0) (zw_dg dk_Text_startReading 1 rfl) (by decide) ?_
  refine r_putI X (pc := 2) ci_Text (zo hS 40 rfl rfl) rfl lk_Text_56 rfl ⟨rfl, rfl⟩ (zw_dg dk_Text_startReading 2 rfl) ?_
  obtain ⟨c3, hc3, hsem⟩ := zw_bd hsem
  refine zw_topC hc3 ?_
  refine r_aload_n X (pc := 5) (i := 0) (zw_dg dk_Text_startReading 3 rfl) rfl rfl ?_
  refine r_iconst X (pc := 6) (v := 0) (zw_dg dk_Text_startReading 4 rfl) (by decide) ?_
  refine r_putI X (pc := 7) ci_Text (zo hS 40 rfl rfl) rfl lk_Text_59 rfl ⟨rfl, rfl⟩ (zw_dg dk_Text_startReading 5 rfl) ?_
  obtain ⟨c4, hc4, hsem⟩ := zw_bd hsem
  refine zw_topC hc4 ?_
  refine r_aload_n X (pc := 10) (i := 0) (zw_dg dk_Text_startReading 6 rfl) rfl rfl ?_
  refine r_iconst X (pc := 11) (v := 0) (zw_dg dk_Text_startReading 7 rfl) (by decide) ?_
  refine r_putI X (pc := 12) ci_Text (zo hS 40 rfl rfl) rfl lk_Text_49 rfl ⟨rfl, rfl⟩ (zw_dg dk_Text_startReading 8 rfl) ?_
  obtain ⟨c5, hc5, hsem⟩ := zw_bd hsem
  refine zw_topC hc5 ?_
  refine r_aload_n X (pc := 15) (i := 0) (zw_dg dk_Text_startReading 9 rfl) rfl rfl ?_
  refine r_iconst X (pc := 16) (v := 0) (zw_dg dk_Text_startReading 10 rfl) (by decide) ?_
  refine r_putI X (pc := 17) ci_Text (zo hS 40 rfl rfl) rfl lk_Text_62 rfl ⟨rfl, rfl⟩ (zw_dg dk_Text_startReading 11 rfl) ?_
  obtain ⟨c6, hc6, hsem⟩ := zw_bd hsem
  refine zw_topC hc6 ?_
  refine r_aload_n X (pc := 20) (i := 0) (zw_dg dk_Text_startReading 12 rfl) rfl rfl ?_
  refine r_getR X (pc := 21) (r := 44) ci_Text (zo hS 40 rfl rfl) rfl (zr hS 40 6 rfl rfl) lk_Text_21 (zw_dg dk_Text_startReading 13 rfl) ?_
  refine r_iconst X (pc := 24) (v := 0) (zw_dg dk_Text_startReading 14 rfl) (by decide) ?_
  refine r_iconst X (pc := 25) (v := 0) (zw_dg dk_Text_startReading 15 rfl) (by decide) ?_
  obtain ⟨c7, hc7, hsem⟩ := zw_bd hsem
  refine r_zast X (pc := 26) (zo hS 44 rfl rfl) (by rw [(zw_bzn (by decide)).2.2]; exact hc7) (zw_dg dk_Text_startReading 16 rfl) ?_
  refine r_aload_n X (pc := 27) (i := 0) (zw_dg dk_Text_startReading 17 rfl) rfl rfl ?_
  refine r_iconst X (pc := 28) (v := 1) (zw_dg dk_Text_startReading 18 rfl) (by decide) ?_
  refine r_putI X (pc := 29) ci_Text (zo hS 40 rfl rfl) rfl lk_Text_38 rfl ⟨by decide, by decide⟩ (zw_dg dk_Text_startReading 19 rfl) ?_
  obtain ⟨c8, hc8, hsem⟩ := zw_bd hsem
  refine zw_topC hc8 ?_
  cases hsem
  exact r_vret X (pc := 32) rfl (zw_dg dk_Text_startReading 20 rfl)
def y_Text_hold : MethodName := ⟨R_Text, "hold", "(I)V"⟩
abbrev b_Text_hold : ByteArray := prog_12_method_13_code
def dl_Text_hold : List (Nat × Instr × Nat) := [(0, .aload_n 0, 1), (1, .getfield 59, 3), (4, .bipush 60, 2), (6, .if_icmp .ge 23, 3), (9, .aload_n 0, 1), (10, .getfield 18, 3), (13, .aload_n 0, 1), (14, .getfield 59, 3), (17, .iload_n 1, 1), (18, .iastore, 1), (19, .aload_n 0, 1), (20, .dup, 1), (21, .getfield 59, 3), (24, .iconst 1, 1), (25, .iadd, 1), (26, .putfield 59, 3), (29, .return_, 1)]
theorem dk_Text_hold : zw_dk b_Text_hold dl_Text_hold = true := by decide +kernel
theorem ce_Text_hold : zw_cev y_Text_hold b_Text_hold 2 (none) 1 := ⟨⟨kt_in 575 (by decide +kernel) rfl, kt_in 91 (by decide +kernel) rfl, by decide +kernel⟩, kt_in 574 (by decide +kernel) rfl, kt_in 4 (by decide +kernel) rfl⟩
def fn_Text_hold (c : zw_Ct) (sign1 : Int32) : Option zw_Ct :=
  (if ((c.1 40 5) < 60) then
  ((zw_uI 60 c 43 (c.1 40 5) sign1).bind fun c6 =>
  (some (zw_wI c6 40 5 ((c6.1 40 5) + 1))).bind fun c7 =>
  some c7)
  else
  (some c)).bind fun c3 =>
  some c3
set_option maxRecDepth 100000 in
theorem km_Text_hold {l : Launch} {g : zw_G} {rr : zw_RR} {sh : zw_Sh} {c : zw_Ct} {sign1 : Int32} {c2 : zw_Ct} (hS : zw_Ok 0 101 sh rr) (hsem : fn_Text_hold c sign1 = some c2) : zw_Met l g y_Text_hold b_Text_hold 2 (none) 1 rr sh [.ref 40, .int sign1] c none c2 := by
  unfold fn_Text_hold at hsem
  refine zw_Met.of (by decide +kernel) (Nat.le_of_ble_eq_true rfl) (fun p e s m args below meth cd X => ?_)
  refine zw_eL (L2 := [some (.ref 40), some (.int sign1)]) rfl ?_
  obtain ⟨c3, ht29, hs29⟩ := zw_bd hsem
  refine zw_jn (J := 29) (L2 := [some (.ref 40), some (.int sign1)]) (c2 := c3) (fun jj => ?_) ?_
  · have hsem := ht29
    refine r_aload_n X (pc := 0) (i := 0) (zw_dg dk_Text_hold 0 rfl) rfl rfl ?_
    refine r_getI X (pc := 1) ci_Text (zo hS 40 rfl rfl) rfl lk_Text_59 (zw_dg dk_Text_hold 1 rfl) ?_
    refine r_bipush X (pc := 4) (v := 60) (zw_dg dk_Text_hold 2 rfl) (by decide) ?_
    refine r_icmp_ge X (pc := 6) (tgt := 29) (zw_dg dk_Text_hold 3 rfl) (by decide) (fun q5 => ?_) (fun q5 => ?_)
    · --
      have p4 : ¬ ((c.1 40 5) < 60) := (Int32.not_lt.mpr q5)
      have hsem := zw_ifn p4 hsem
      cases hsem
      exact (r_fgt [] rfl jj)
    · --
      have p4 : ((c.1 40 5) < 60) := (Int32.not_le.mp q5)
      have hsem := zw_ifp p4 hsem
      refine r_aload_n X (pc := 9) (i := 0) (zw_dg dk_Text_hold 4 rfl) rfl rfl ?_
      refine r_getR X (pc := 10) (r := 43) ci_Text (zo hS 40 rfl rfl) rfl (zr hS 40 4 rfl rfl) lk_Text_18 (zw_dg dk_Text_hold 5 rfl) ?_
      refine r_aload_n X (pc := 13) (i := 0) (zw_dg dk_Text_hold 6 rfl) rfl rfl ?_
      refine r_getI X (pc := 14) ci_Text (zo hS 40 rfl rfl) rfl lk_Text_59 (zw_dg dk_Text_hold 7 rfl) ?_
      refine r_iload_n X (pc := 17) (i := 1) (zw_dg dk_Text_hold 8 rfl) rfl rfl ?_
      obtain ⟨c6, hc6, hsem⟩ := zw_bd hsem
      refine r_iast X (pc := 18) (zo hS 43 rfl rfl) hc6 (zw_dg dk_Text_hold 9 rfl) ?_
      refine r_aload_n X (pc := 19) (i := 0) (zw_dg dk_Text_hold 10 rfl) rfl rfl ?_
      refine r_dup X (pc := 20) (zw_dg dk_Text_hold 11 rfl) rfl ?_
      refine r_getI X (pc := 21) ci_Text (zo hS 40 rfl rfl) rfl lk_Text_59 (zw_dg dk_Text_hold 12 rfl) ?_
      refine r_iconst X (pc := 24) (v := 1) (zw_dg dk_Text_hold 13 rfl) (by decide) ?_
      refine r_iadd X (pc := 25) (zw_dg dk_Text_hold 14 rfl)  ?_
      refine r_putI X (pc := 26) ci_Text (zo hS 40 rfl rfl) rfl lk_Text_59 rfl ⟨rfl, rfl⟩ (zw_dg dk_Text_hold 15 rfl) ?_
      obtain ⟨c7, hc7, hsem⟩ := zw_bd hsem
      refine zw_topC hc7 ?_
      cases hsem
      exact (r_fgt [] rfl jj)
  have hsem := hs29
  cases hsem
  exact r_vret X (pc := 29) rfl (zw_dg dk_Text_hold 16 rfl)
def y_Text_opens : MethodName := ⟨R_Text, "opens", "()Z"⟩
abbrev b_Text_opens : ByteArray := prog_12_method_10_code
def dl_Text_opens : List (Nat × Instr × Nat) := [(0, .aload_n 0, 1), (1, .getfield 49, 3), (4, .iconst 5, 1), (5, .if_icmp .lt 5, 3), (8, .iconst 0, 1), (9, .ireturn, 1), (10, .aload_n 0, 1), (11, .dup, 1), (12, .getfield 49, 3), (15, .iconst 1, 1), (16, .iadd, 1), (17, .putfield 49, 3), (20, .aload_n 0, 1), (21, .getfield 21, 3), (24, .aload_n 0, 1), (25, .getfield 49, 3), (28, .iconst 0, 1), (29, .bastore, 1), (30, .aload_n 0, 1), (31, .bipush 40, 2), (33, .invokevirtual 65, 3), (36, .iconst 1, 1), (37, .ireturn, 1)]
theorem dk_Text_opens : zw_dk b_Text_opens dl_Text_opens = true := by decide +kernel
theorem ce_Text_opens : zw_cev y_Text_opens b_Text_opens 1 (some .boolean) 0 := ⟨⟨kt_in 579 (by decide +kernel) rfl, kt_in 91 (by decide +kernel) rfl, by decide +kernel⟩, kt_in 578 (by decide +kernel) rfl, kt_in 5 (by decide +kernel) rfl⟩
def fn_Text_opens (c : zw_Ct) : Option (Int32 × zw_Ct) :=
  if (5 ≤ (c.1 40 7)) then
  (some (0, c))
  else
  ((some (zw_wI c 40 7 ((c.1 40 7) + 1))).bind fun c3 =>
  (zw_uI 6 c3 44 (c3.1 40 7) 0).bind fun c4 =>
  (fn_Text_hold c4 40).bind fun c5 =>
  some (1, c5))
set_option maxRecDepth 100000 in
theorem km_Text_opens {l : Launch} {g : zw_G} {rr : zw_RR} {sh : zw_Sh} {c : zw_Ct} {r : Int32} {c2 : zw_Ct} (hS : zw_Ok 0 101 sh rr) (hsem : fn_Text_opens c = some (r, c2)) : zw_Met l g y_Text_opens b_Text_opens 1 (some .boolean) 2 rr sh [.ref 40] c (some (.int r)) c2 := by
  unfold fn_Text_opens at hsem
  refine zw_Met.of (by decide +kernel) (Nat.le_of_ble_eq_true rfl) (fun p e s m args below meth cd X => ?_)
  refine zw_eL (L2 := [some (.ref 40)]) rfl ?_
  refine r_aload_n X (pc := 0) (i := 0) (zw_dg dk_Text_opens 0 rfl) rfl rfl ?_
  refine r_getI X (pc := 1) ci_Text (zo hS 40 rfl rfl) rfl lk_Text_49 (zw_dg dk_Text_opens 1 rfl) ?_
  refine r_iconst X (pc := 4) (v := 5) (zw_dg dk_Text_opens 2 rfl) (by decide) ?_
  refine r_icmp_lt X (pc := 5) (tgt := 10) (zw_dg dk_Text_opens 3 rfl) (by decide) (fun q2 => ?_) (fun q2 => ?_)
  · --
    have p1 : ¬ (5 ≤ (c.1 40 7)) := (Int32.not_le.mpr q2)
    have hsem := zw_ifn p1 hsem
    refine r_aload_n X (pc := 10) (i := 0) (zw_dg dk_Text_opens 6 rfl) rfl rfl ?_
    refine r_dup X (pc := 11) (zw_dg dk_Text_opens 7 rfl) rfl ?_
    refine r_getI X (pc := 12) ci_Text (zo hS 40 rfl rfl) rfl lk_Text_49 (zw_dg dk_Text_opens 8 rfl) ?_
    refine r_iconst X (pc := 15) (v := 1) (zw_dg dk_Text_opens 9 rfl) (by decide) ?_
    refine r_iadd X (pc := 16) (zw_dg dk_Text_opens 10 rfl)  ?_
    refine r_putI X (pc := 17) ci_Text (zo hS 40 rfl rfl) rfl lk_Text_49 rfl ⟨rfl, rfl⟩ (zw_dg dk_Text_opens 11 rfl) ?_
    obtain ⟨c3, hc3, hsem⟩ := zw_bd hsem
    refine zw_topC hc3 ?_
    refine r_aload_n X (pc := 20) (i := 0) (zw_dg dk_Text_opens 12 rfl) rfl rfl ?_
    refine r_getR X (pc := 21) (r := 44) ci_Text (zo hS 40 rfl rfl) rfl (zr hS 40 6 rfl rfl) lk_Text_21 (zw_dg dk_Text_opens 13 rfl) ?_
    refine r_aload_n X (pc := 24) (i := 0) (zw_dg dk_Text_opens 14 rfl) rfl rfl ?_
    refine r_getI X (pc := 25) ci_Text (zo hS 40 rfl rfl) rfl lk_Text_49 (zw_dg dk_Text_opens 15 rfl) ?_
    refine r_iconst X (pc := 28) (v := 0) (zw_dg dk_Text_opens 16 rfl) (by decide) ?_
    obtain ⟨c4, hc4, hsem⟩ := zw_bd hsem
    refine r_zast X (pc := 29) (zo hS 44 rfl rfl) (by rw [(zw_bzn (by decide)).2.2]; exact hc4) (zw_dg dk_Text_opens 17 rfl) ?_
    refine r_aload_n X (pc := 30) (i := 0) (zw_dg dk_Text_opens 18 rfl) rfl rfl ?_
    refine r_bipush X (pc := 31) (v := 40) (zw_dg dk_Text_opens 19 rfl) (by decide) ?_
    obtain ⟨c5, hc5, hsem⟩ := zw_bd hsem
    refine r_callVv X (pc := 33) (As := [_]) (st := []) (km_Text_hold hS hc5) ce_Text_hold kw_572 (zo hS 40 rfl rfl) rfl rfl ⟨Nat.le_of_ble_eq_true rfl, Nat.le_of_ble_eq_true rfl⟩ (Nat.le_of_ble_eq_true rfl) (zw_dg dk_Text_opens 20 rfl) ?_
    refine r_iconst X (pc := 36) (v := 1) (zw_dg dk_Text_opens 21 rfl) (by decide) ?_
    have hbz : (1 : Int32) = 0 ∨ (1 : Int32) = 1 := (by decide)
    cases hsem
    exact r_zret X (pc := 37) rfl (zw_bzn hbz).1 (zw_dg dk_Text_opens 22 rfl)
  · --
    have p1 : (5 ≤ (c.1 40 7)) := (Int32.not_lt.mp q2)
    have hsem := zw_ifp p1 hsem
    refine r_iconst X (pc := 8) (v := 0) (zw_dg dk_Text_opens 4 rfl) (by decide) ?_
    have hbz : (0 : Int32) = 0 ∨ (0 : Int32) = 1 := (by decide)
    cases hsem
    exact r_zret X (pc := 9) rfl (zw_bzn hbz).1 (zw_dg dk_Text_opens 5 rfl)
def y_Text_isDigit : MethodName := ⟨R_Text, "isDigit", "(I)Z"⟩
abbrev b_Text_isDigit : ByteArray := prog_12_method_16_code
def dl_Text_isDigit : List (Nat × Instr × Nat) := [(0, .iload_n 0, 1), (1, .bipush 48, 2), (3, .if_icmp .lt 13, 3), (6, .iload_n 0, 1), (7, .bipush 57, 2), (9, .if_icmp .gt 7, 3), (12, .iconst 1, 1), (13, .goto 4, 3), (16, .iconst 0, 1), (17, .ireturn, 1)]
theorem dk_Text_isDigit : zw_dk b_Text_isDigit dl_Text_isDigit = true := by decide +kernel
theorem ce_Text_isDigit : zw_ces y_Text_isDigit b_Text_isDigit 1 (some .boolean) 1 := ⟨⟨kt_in 582 (by decide +kernel) rfl, kt_in 91 (by decide +kernel) rfl, by decide +kernel⟩, kt_in 581 (by decide +kernel) rfl⟩
def fn_Text_isDigit (sign1 : Int32) : Int32 :=
  (if ((48 ≤ sign1) ∧ (sign1 ≤ 57)) then (1 : Int32) else 0)
theorem kb_Text_isDigit (sign1 : Int32) : fn_Text_isDigit sign1 = 0 ∨ fn_Text_isDigit sign1 = 1 := by
  unfold fn_Text_isDigit
  first | exact zw_ite01
set_option maxRecDepth 100000 in
theorem km_Text_isDigit {l : Launch} {g : zw_G} {rr : zw_RR} {sh : zw_Sh} {c : zw_Ct} {sign1 : Int32} {r : Int32} (hS : zw_Ok 0 101 sh rr) (hsem : fn_Text_isDigit sign1 = r) : zw_Met l g y_Text_isDigit b_Text_isDigit 1 (some .boolean) 1 rr sh [.int sign1] c (some (.int r)) c := by
  unfold fn_Text_isDigit at hsem
  refine zw_Met.of (by decide +kernel) (Nat.le_of_ble_eq_true rfl) (fun p e s m args below meth cd X => ?_)
  refine zw_eL (L2 := [some (.int sign1)]) rfl ?_
  refine zw_ter (P := ((48 ≤ sign1) ∧ (sign1 ≤ 57))) (f := Value.int) (x := 1) (y := 0) (J := 17) (st2 := []) (fun jT jF => ?_) ?_
  · --
    refine r_iload_n X (pc := 0) (i := 0) (zw_dg dk_Text_isDigit 0 rfl) rfl rfl ?_
    refine r_bipush X (pc := 1) (v := 48) (zw_dg dk_Text_isDigit 1 rfl) (by decide) ?_
    refine r_icmp_lt X (pc := 3) (tgt := 16) (zw_dg dk_Text_isDigit 2 rfl) (by decide) (fun q2 => ?_) (fun q2 => ?_)
    · --
      refine r_iconst X (pc := 16) (v := 0) (zw_dg dk_Text_isDigit 8 rfl) (by decide) ?_
      exact jF (fun q => (Int32.not_le.mpr q2) q.1)
    · --
      refine r_iload_n X (pc := 6) (i := 0) (zw_dg dk_Text_isDigit 3 rfl) rfl rfl ?_
      refine r_bipush X (pc := 7) (v := 57) (zw_dg dk_Text_isDigit 4 rfl) (by decide) ?_
      refine r_icmp_gt X (pc := 9) (tgt := 16) (zw_dg dk_Text_isDigit 5 rfl) (by decide) (fun q3 => ?_) (fun q3 => ?_)
      · --
        refine r_iconst X (pc := 16) (v := 0) (zw_dg dk_Text_isDigit 8 rfl) (by decide) ?_
        exact jF (fun q => (Int32.not_le.mpr q3) q.2)
      · --
        refine r_iconst X (pc := 12) (v := 1) (zw_dg dk_Text_isDigit 6 rfl) (by decide) ?_
        refine r_goto X (pc := 13) (tgt := 17) (zw_dg dk_Text_isDigit 7 rfl) (by decide) ?_
        exact jT ⟨(Int32.not_lt.mp q2), (Int32.not_lt.mp q3)⟩
  have hsem : ((if ((48 ≤ sign1) ∧ (sign1 ≤ 57)) then (1 : Int32) else 0) : _) = r := hsem
  have hbz : ((if ((48 ≤ sign1) ∧ (sign1 ≤ 57)) then (1 : Int32) else 0) : Int32) = 0 ∨ ((if ((48 ≤ sign1) ∧ (sign1 ≤ 57)) then (1 : Int32) else 0) : Int32) = 1 := zw_ite01
  cases hsem
  exact r_zret X (pc := 17) rfl (zw_bzn hbz).1 (zw_dg dk_Text_isDigit 9 rfl)
def y_Text_write : MethodName := ⟨R_Text, "write", "(I)V"⟩
abbrev b_Text_write : ByteArray := prog_12_method_14_code
def dl_Text_write : List (Nat × Instr × Nat) := [(0, .aload_n 0, 1), (1, .getfield 56, 3), (4, .bipush 60, 2), (6, .if_icmp .ge 23, 3), (9, .aload_n 0, 1), (10, .getfield 15, 3), (13, .aload_n 0, 1), (14, .getfield 56, 3), (17, .iload_n 1, 1), (18, .iastore, 1), (19, .aload_n 0, 1), (20, .dup, 1), (21, .getfield 56, 3), (24, .iconst 1, 1), (25, .iadd, 1), (26, .putfield 56, 3), (29, .return_, 1)]
theorem dk_Text_write : zw_dk b_Text_write dl_Text_write = true := by decide +kernel
theorem ce_Text_write : zw_cev y_Text_write b_Text_write 2 (none) 1 := ⟨⟨kt_in 669 (by decide +kernel) rfl, kt_in 91 (by decide +kernel) rfl, by decide +kernel⟩, kt_in 668 (by decide +kernel) rfl, kt_in 6 (by decide +kernel) rfl⟩
def fn_Text_write (c : zw_Ct) (c3 : Int32) : Option zw_Ct :=
  (if ((c.1 40 3) < 60) then
  ((zw_uI 60 c 42 (c.1 40 3) c3).bind fun c7 =>
  (some (zw_wI c7 40 3 ((c7.1 40 3) + 1))).bind fun c8 =>
  some c8)
  else
  (some c)).bind fun c4 =>
  some c4
set_option maxRecDepth 100000 in
theorem km_Text_write {l : Launch} {g : zw_G} {rr : zw_RR} {sh : zw_Sh} {c : zw_Ct} {c3 : Int32} {c2 : zw_Ct} (hS : zw_Ok 0 101 sh rr) (hsem : fn_Text_write c c3 = some c2) : zw_Met l g y_Text_write b_Text_write 2 (none) 1 rr sh [.ref 40, .int c3] c none c2 := by
  unfold fn_Text_write at hsem
  refine zw_Met.of (by decide +kernel) (Nat.le_of_ble_eq_true rfl) (fun p e s m args below meth cd X => ?_)
  refine zw_eL (L2 := [some (.ref 40), some (.int c3)]) rfl ?_
  obtain ⟨c4, ht29, hs29⟩ := zw_bd hsem
  refine zw_jn (J := 29) (L2 := [some (.ref 40), some (.int c3)]) (c2 := c4) (fun jj => ?_) ?_
  · have hsem := ht29
    refine r_aload_n X (pc := 0) (i := 0) (zw_dg dk_Text_write 0 rfl) rfl rfl ?_
    refine r_getI X (pc := 1) ci_Text (zo hS 40 rfl rfl) rfl lk_Text_56 (zw_dg dk_Text_write 1 rfl) ?_
    refine r_bipush X (pc := 4) (v := 60) (zw_dg dk_Text_write 2 rfl) (by decide) ?_
    refine r_icmp_ge X (pc := 6) (tgt := 29) (zw_dg dk_Text_write 3 rfl) (by decide) (fun q6 => ?_) (fun q6 => ?_)
    · --
      have p5 : ¬ ((c.1 40 3) < 60) := (Int32.not_lt.mpr q6)
      have hsem := zw_ifn p5 hsem
      cases hsem
      exact (r_fgt [] rfl jj)
    · --
      have p5 : ((c.1 40 3) < 60) := (Int32.not_le.mp q6)
      have hsem := zw_ifp p5 hsem
      refine r_aload_n X (pc := 9) (i := 0) (zw_dg dk_Text_write 4 rfl) rfl rfl ?_
      refine r_getR X (pc := 10) (r := 42) ci_Text (zo hS 40 rfl rfl) rfl (zr hS 40 2 rfl rfl) lk_Text_15 (zw_dg dk_Text_write 5 rfl) ?_
      refine r_aload_n X (pc := 13) (i := 0) (zw_dg dk_Text_write 6 rfl) rfl rfl ?_
      refine r_getI X (pc := 14) ci_Text (zo hS 40 rfl rfl) rfl lk_Text_56 (zw_dg dk_Text_write 7 rfl) ?_
      refine r_iload_n X (pc := 17) (i := 1) (zw_dg dk_Text_write 8 rfl) rfl rfl ?_
      obtain ⟨c7, hc7, hsem⟩ := zw_bd hsem
      refine r_iast X (pc := 18) (zo hS 42 rfl rfl) hc7 (zw_dg dk_Text_write 9 rfl) ?_
      refine r_aload_n X (pc := 19) (i := 0) (zw_dg dk_Text_write 10 rfl) rfl rfl ?_
      refine r_dup X (pc := 20) (zw_dg dk_Text_write 11 rfl) rfl ?_
      refine r_getI X (pc := 21) ci_Text (zo hS 40 rfl rfl) rfl lk_Text_56 (zw_dg dk_Text_write 12 rfl) ?_
      refine r_iconst X (pc := 24) (v := 1) (zw_dg dk_Text_write 13 rfl) (by decide) ?_
      refine r_iadd X (pc := 25) (zw_dg dk_Text_write 14 rfl)  ?_
      refine r_putI X (pc := 26) ci_Text (zo hS 40 rfl rfl) rfl lk_Text_56 rfl ⟨rfl, rfl⟩ (zw_dg dk_Text_write 15 rfl) ?_
      obtain ⟨c8, hc8, hsem⟩ := zw_bd hsem
      refine zw_topC hc8 ?_
      cases hsem
      exact (r_fgt [] rfl jj)
  have hsem := hs29
  cases hsem
  exact r_vret X (pc := 29) rfl (zw_dg dk_Text_write 16 rfl)
def y_Text_takesThing : MethodName := ⟨R_Text, "takesThing", "(I)Z"⟩
abbrev b_Text_takesThing : ByteArray := prog_12_method_7_code
def dl_Text_takesThing : List (Nat × Instr × Nat) := [(0, .iload_n 1, 1), (1, .bipush 45, 2), (3, .if_icmp .ne 12, 3), (6, .aload_n 0, 1), (7, .sipush 256, 3), (10, .invokevirtual 65, 3), (13, .iconst 1, 1), (14, .ireturn, 1), (15, .iload_n 1, 1), (16, .bipush 40, 2), (18, .if_icmp .ne 8, 3), (21, .aload_n 0, 1), (22, .invokevirtual 68, 3), (25, .ireturn, 1), (26, .iload_n 1, 1), (27, .invokestatic 72, 3), (30, .istore_n 2, 1), (31, .ldc 75, 2), (33, .iload_n 1, 1), (34, .i2c, 1), (35, .invokevirtual 77, 3), (38, .istore_n 3, 1), (39, .iload_n 2, 1), (40, .ifCond .ne 9, 3), (43, .iload_n 3, 1), (44, .ifCond .ge 5, 3), (47, .iconst 0, 1), (48, .ireturn, 1), (49, .aload_n 0, 1), (50, .iload_n 2, 1), (51, .ifCond .eq 10, 3), (54, .iload_n 1, 1), (55, .bipush 48, 2), (57, .isub, 1), (58, .goto 8, 3), (61, .sipush 10000, 3), (64, .iload_n 3, 1), (65, .iadd, 1), (66, .invokevirtual 83, 3), (69, .aload_n 0, 1), (70, .iload_n 2, 1), (71, .ifCond .eq 7, 3), (74, .iconst 1, 1), (75, .goto 4, 3), (78, .iconst 0, 1), (79, .putfield 62, 3), (82, .aload_n 0, 1), (83, .iconst 0, 1), (84, .putfield 38, 3), (87, .iconst 1, 1), (88, .ireturn, 1)]
theorem dk_Text_takesThing : zw_dk b_Text_takesThing dl_Text_takesThing = true := by decide +kernel
theorem ce_Text_takesThing : zw_cev y_Text_takesThing b_Text_takesThing 4 (some .boolean) 1 := ⟨⟨kt_in 571 (by decide +kernel) rfl, kt_in 91 (by decide +kernel) rfl, by decide +kernel⟩, kt_in 570 (by decide +kernel) rfl, kt_in 3 (by decide +kernel) rfl⟩
def fn_Text_takesThing (c : zw_Ct) (sign1 : Int32) : Option (Int32 × zw_Ct) :=
  if (sign1 = 45) then
  ((fn_Text_hold c 256).bind fun c19 =>
  some (1, c19))
  else
  (if (sign1 = 40) then
  ((fn_Text_opens c).bind fun (r16, c17) =>
  (zw_bz r16).bind fun z18 =>
  some (z18, c17))
  else
  ((some ((fn_Text_isDigit sign1) : Int32)).bind fun digit6 =>
  (some ((fn_ix (sign1.toUInt32 % 65536).toInt32) : Int32)).bind fun thing7 =>
  if ((¬ (¬ digit6 = 0)) ∧ (thing7 < 0)) then
  (some (0, c))
  else
  ((fn_Text_write c (if (¬ digit6 = 0) then ((sign1 - 48) : Int32) else (10000 + thing7))).bind fun c12 =>
  (some (zw_wI c12 40 8 (if (¬ digit6 = 0) then (1 : Int32) else 0))).bind fun c14 =>
  (some (zw_wI c14 40 9 0)).bind fun c15 =>
  some (1, c15))))
set_option maxRecDepth 100000 in
theorem km_Text_takesThing {l : Launch} {g : zw_G} {rr : zw_RR} {sh : zw_Sh} {c : zw_Ct} {sign1 : Int32} {r : Int32} {c2 : zw_Ct} (hS : zw_Ok 0 101 sh rr) (hsem : fn_Text_takesThing c sign1 = some (r, c2)) : zw_Met l g y_Text_takesThing b_Text_takesThing 4 (some .boolean) 5 rr sh [.ref 40, .int sign1] c (some (.int r)) c2 := by
  unfold fn_Text_takesThing at hsem
  refine zw_Met.of (by decide +kernel) (Nat.le_of_ble_eq_true rfl) (fun p e s m args below meth cd X => ?_)
  refine zw_eL (L2 := [some (.ref 40), some (.int sign1), none, none]) rfl ?_
  refine r_iload_n X (pc := 0) (i := 1) (zw_dg dk_Text_takesThing 0 rfl) rfl rfl ?_
  refine r_bipush X (pc := 1) (v := 45) (zw_dg dk_Text_takesThing 1 rfl) (by decide) ?_
  refine r_icmp_ne X (pc := 3) (tgt := 15) (zw_dg dk_Text_takesThing 2 rfl) (by decide) (fun q3 => ?_) (fun q3 => ?_)
  · --
    have p2 : ¬ (sign1 = 45) := q3
    have hsem := zw_ifn p2 hsem
    refine r_iload_n X (pc := 15) (i := 1) (zw_dg dk_Text_takesThing 8 rfl) rfl rfl ?_
    refine r_bipush X (pc := 16) (v := 40) (zw_dg dk_Text_takesThing 9 rfl) (by decide) ?_
    refine r_icmp_ne X (pc := 18) (tgt := 26) (zw_dg dk_Text_takesThing 10 rfl) (by decide) (fun q5 => ?_) (fun q5 => ?_)
    · --
      have p4 : ¬ (sign1 = 40) := q5
      have hsem := zw_ifn p4 hsem
      refine r_iload_n X (pc := 26) (i := 1) (zw_dg dk_Text_takesThing 14 rfl) rfl rfl ?_
      refine r_callSi X (pc := 27) (As := [_]) (st := []) (km_Text_isDigit hS rfl) ce_Text_isDigit kw_580 rfl ⟨Nat.le_of_ble_eq_true rfl, Nat.le_of_ble_eq_true rfl⟩ (Nat.le_of_ble_eq_true rfl) (zw_dg dk_Text_takesThing 15 rfl) ?_
      obtain ⟨digit6, hdigit6, hsem⟩ := zw_bd hsem
      refine zw_topI hdigit6 ?_
      refine r_istore_n X (pc := 30) (i := 2) (zw_dg dk_Text_takesThing 16 rfl) rfl (by decide) rfl ?_
      refine r_indexOf X (pc := 31) (zw_dg dk_Text_takesThing 17 rfl) (zw_dg dk_Text_takesThing 18 rfl) (zw_dg dk_Text_takesThing 19 rfl) (zw_dg dk_Text_takesThing 20 rfl) rfl ⟨Nat.le_of_ble_eq_true rfl, Nat.le_of_ble_eq_true rfl⟩ (Nat.le_of_ble_eq_true rfl) ?_
      obtain ⟨thing7, hthing7, hsem⟩ := zw_bd hsem
      refine zw_topI hthing7 ?_
      refine r_istore_n X (pc := 38) (i := 3) (zw_dg dk_Text_takesThing 21 rfl) rfl (by decide) rfl ?_
      refine zw_cnd (P := ((¬ (¬ digit6 = 0)) ∧ (thing7 < 0))) (J1 := 47) (J2 := 49) (st2 := []) (fun jT jF => ?_) (fun p8 => ?_) (fun p8 => ?_)
      · --
        refine r_iload_n X (pc := 39) (i := 2) (zw_dg dk_Text_takesThing 22 rfl) rfl rfl ?_
        refine r_if_ne X (pc := 40) (tgt := 49) (zw_dg dk_Text_takesThing 23 rfl) (by decide) (fun q9 => ?_) (fun q9 => ?_)
        · --
          exact jF (fun q => (fun q => q q9) q.1)
        · --
          refine r_iload_n X (pc := 43) (i := 3) (zw_dg dk_Text_takesThing 24 rfl) rfl rfl ?_
          refine r_if_ge X (pc := 44) (tgt := 49) (zw_dg dk_Text_takesThing 25 rfl) (by decide) (fun q10 => ?_) (fun q10 => ?_)
          · --
            exact jF (fun q => (Int32.not_lt.mpr q10) q.2)
          · --
            exact jT ⟨(fun z => z q9), (Int32.not_le.mp q10)⟩
      · --
        have hsem := zw_ifp p8 hsem
        refine r_iconst X (pc := 47) (v := 0) (zw_dg dk_Text_takesThing 26 rfl) (by decide) ?_
        have hbz : (0 : Int32) = 0 ∨ (0 : Int32) = 1 := (by decide)
        cases hsem
        exact r_zret X (pc := 48) rfl (zw_bzn hbz).1 (zw_dg dk_Text_takesThing 27 rfl)
      · --
        have hsem := zw_ifn p8 hsem
        refine r_aload_n X (pc := 49) (i := 0) (zw_dg dk_Text_takesThing 28 rfl) rfl rfl ?_
        refine zw_ter (P := (¬ digit6 = 0)) (f := Value.int) (x := (sign1 - 48)) (y := (10000 + thing7)) (J := 66) (st2 := [.ref 40]) (fun jT jF => ?_) ?_
        · --
          refine r_iload_n X (pc := 50) (i := 2) (zw_dg dk_Text_takesThing 29 rfl) rfl rfl ?_
          refine r_if_eq X (pc := 51) (tgt := 61) (zw_dg dk_Text_takesThing 30 rfl) (by decide) (fun q11 => ?_) (fun q11 => ?_)
          · --
            refine r_sipush X (pc := 61) (v := 10000) (zw_dg dk_Text_takesThing 35 rfl) (by decide) ?_
            refine r_iload_n X (pc := 64) (i := 3) (zw_dg dk_Text_takesThing 36 rfl) rfl rfl ?_
            refine r_iadd X (pc := 65) (zw_dg dk_Text_takesThing 37 rfl)  ?_
            exact jF (fun z => z q11)
          · --
            refine r_iload_n X (pc := 54) (i := 1) (zw_dg dk_Text_takesThing 31 rfl) rfl rfl ?_
            refine r_bipush X (pc := 55) (v := 48) (zw_dg dk_Text_takesThing 32 rfl) (by decide) ?_
            refine r_isub X (pc := 57) (zw_dg dk_Text_takesThing 33 rfl)  ?_
            refine r_goto X (pc := 58) (tgt := 66) (zw_dg dk_Text_takesThing 34 rfl) (by decide) ?_
            exact jT q11
        obtain ⟨c12, hc12, hsem⟩ := zw_bd hsem
        refine r_callVv X (pc := 66) (As := [_]) (st := []) (km_Text_write hS hc12) ce_Text_write kw_666 (zo hS 40 rfl rfl) rfl rfl ⟨Nat.le_of_ble_eq_true rfl, Nat.le_of_ble_eq_true rfl⟩ (Nat.le_of_ble_eq_true rfl) (zw_dg dk_Text_takesThing 38 rfl) ?_
        refine r_aload_n X (pc := 69) (i := 0) (zw_dg dk_Text_takesThing 39 rfl) rfl rfl ?_
        refine zw_ter (P := (¬ digit6 = 0)) (f := Value.int) (x := 1) (y := 0) (J := 79) (st2 := [.ref 40]) (fun jT jF => ?_) ?_
        · --
          refine r_iload_n X (pc := 70) (i := 2) (zw_dg dk_Text_takesThing 40 rfl) rfl rfl ?_
          refine r_if_eq X (pc := 71) (tgt := 78) (zw_dg dk_Text_takesThing 41 rfl) (by decide) (fun q13 => ?_) (fun q13 => ?_)
          · --
            refine r_iconst X (pc := 78) (v := 0) (zw_dg dk_Text_takesThing 44 rfl) (by decide) ?_
            exact jF (fun z => z q13)
          · --
            refine r_iconst X (pc := 74) (v := 1) (zw_dg dk_Text_takesThing 42 rfl) (by decide) ?_
            refine r_goto X (pc := 75) (tgt := 79) (zw_dg dk_Text_takesThing 43 rfl) (by decide) ?_
            exact jT q13
        refine r_putI X (pc := 79) ci_Text (zo hS 40 rfl rfl) rfl lk_Text_62 rfl ⟨rfl, rfl⟩ (zw_dg dk_Text_takesThing 45 rfl) ?_
        obtain ⟨c14, hc14, hsem⟩ := zw_bd hsem
        refine zw_topC hc14 ?_
        refine r_aload_n X (pc := 82) (i := 0) (zw_dg dk_Text_takesThing 46 rfl) rfl rfl ?_
        refine r_iconst X (pc := 83) (v := 0) (zw_dg dk_Text_takesThing 47 rfl) (by decide) ?_
        refine r_putI X (pc := 84) ci_Text (zo hS 40 rfl rfl) rfl lk_Text_38 rfl ⟨by decide, by decide⟩ (zw_dg dk_Text_takesThing 48 rfl) ?_
        obtain ⟨c15, hc15, hsem⟩ := zw_bd hsem
        refine zw_topC hc15 ?_
        refine r_iconst X (pc := 87) (v := 1) (zw_dg dk_Text_takesThing 49 rfl) (by decide) ?_
        have hbz : (1 : Int32) = 0 ∨ (1 : Int32) = 1 := (by decide)
        cases hsem
        exact r_zret X (pc := 88) rfl (zw_bzn hbz).1 (zw_dg dk_Text_takesThing 50 rfl)
    · --
      have p4 : (sign1 = 40) := q5
      have hsem := zw_ifp p4 hsem
      refine r_aload_n X (pc := 21) (i := 0) (zw_dg dk_Text_takesThing 11 rfl) rfl rfl ?_
      obtain ⟨⟨r16, c17⟩, hr16_c17, hsem⟩ := zw_bd hsem
      refine r_callVi X (pc := 22) (As := []) (st := []) (km_Text_opens hS hr16_c17) ce_Text_opens kw_576 (zo hS 40 rfl rfl) rfl rfl ⟨Nat.le_of_ble_eq_true rfl, Nat.le_of_ble_eq_true rfl⟩ (Nat.le_of_ble_eq_true rfl) (zw_dg dk_Text_takesThing 12 rfl) ?_
      obtain ⟨z18, hz18, hsem⟩ := zw_bd hsem
      obtain ⟨hzz18, hz18⟩ := zw_bz_of hz18
      refine zw_eqtI hz18 ?_
      have hbz : (z18 : Int32) = 0 ∨ (z18 : Int32) = 1 := (by rw [← hz18]; exact hzz18)
      cases hsem
      exact r_zret X (pc := 25) rfl (zw_bzn hbz).1 (zw_dg dk_Text_takesThing 13 rfl)
  · --
    have p2 : (sign1 = 45) := q3
    have hsem := zw_ifp p2 hsem
    refine r_aload_n X (pc := 6) (i := 0) (zw_dg dk_Text_takesThing 3 rfl) rfl rfl ?_
    refine r_sipush X (pc := 7) (v := 256) (zw_dg dk_Text_takesThing 4 rfl) (by decide) ?_
    obtain ⟨c19, hc19, hsem⟩ := zw_bd hsem
    refine r_callVv X (pc := 10) (As := [_]) (st := []) (km_Text_hold hS hc19) ce_Text_hold kw_572 (zo hS 40 rfl rfl) rfl rfl ⟨Nat.le_of_ble_eq_true rfl, Nat.le_of_ble_eq_true rfl⟩ (Nat.le_of_ble_eq_true rfl) (zw_dg dk_Text_takesThing 5 rfl) ?_
    refine r_iconst X (pc := 13) (v := 1) (zw_dg dk_Text_takesThing 6 rfl) (by decide) ?_
    have hbz : (1 : Int32) = 0 ∨ (1 : Int32) = 1 := (by decide)
    cases hsem
    exact r_zret X (pc := 14) rfl (zw_bzn hbz).1 (zw_dg dk_Text_takesThing 7 rfl)
def y_Text_goesOn : MethodName := ⟨R_Text, "goesOn", "(I)Z"⟩
abbrev b_Text_goesOn : ByteArray := prog_12_method_9_code
def dl_Text_goesOn : List (Nat × Instr × Nat) := [(0, .aload_n 0, 1), (1, .getfield 62, 3), (4, .ifCond .eq 18, 3), (7, .aload_n 0, 1), (8, .getfield 62, 3), (11, .iconst 4, 1), (12, .if_icmp .ge 10, 3), (15, .aload_n 0, 1), (16, .getfield 56, 3), (19, .ifCond .ne 5, 3), (22, .iconst 0, 1), (23, .ireturn, 1), (24, .aload_n 0, 1), (25, .getfield 15, 3), (28, .aload_n 0, 1), (29, .getfield 56, 3), (32, .iconst 1, 1), (33, .isub, 1), (34, .aload_n 0, 1), (35, .getfield 15, 3), (38, .aload_n 0, 1), (39, .getfield 56, 3), (42, .iconst 1, 1), (43, .isub, 1), (44, .iaload, 1), (45, .bipush 10, 2), (47, .imul, 1), (48, .iload_n 1, 1), (49, .iadd, 1), (50, .bipush 48, 2), (52, .isub, 1), (53, .iastore, 1), (54, .aload_n 0, 1), (55, .dup, 1), (56, .getfield 62, 3), (59, .iconst 1, 1), (60, .iadd, 1), (61, .putfield 62, 3), (64, .iconst 1, 1), (65, .ireturn, 1)]
theorem dk_Text_goesOn : zw_dk b_Text_goesOn dl_Text_goesOn = true := by decide +kernel
theorem ce_Text_goesOn : zw_cev y_Text_goesOn b_Text_goesOn 2 (some .boolean) 1 := ⟨⟨kt_in 677 (by decide +kernel) rfl, kt_in 91 (by decide +kernel) rfl, by decide +kernel⟩, kt_in 676 (by decide +kernel) rfl, kt_in 8 (by decide +kernel) rfl⟩
def fn_Text_goesOn (c : zw_Ct) (sign1 : Int32) : Option (Int32 × zw_Ct) :=
  if ((((c.1 40 8) = 0) ∨ (4 ≤ (c.1 40 8))) ∨ ((c.1 40 3) = 0)) then
  (some (0, c))
  else
  ((zw_aI 60 c 42 ((c.1 40 3) - 1)).bind fun x6 =>
  (zw_uI 60 c 42 ((c.1 40 3) - 1) (((x6 * 10) + sign1) - 48)).bind fun c7 =>
  (some (zw_wI c7 40 8 ((c7.1 40 8) + 1))).bind fun c8 =>
  some (1, c8))
set_option maxRecDepth 100000 in
theorem km_Text_goesOn {l : Launch} {g : zw_G} {rr : zw_RR} {sh : zw_Sh} {c : zw_Ct} {sign1 : Int32} {r : Int32} {c2 : zw_Ct} (hS : zw_Ok 0 101 sh rr) (hsem : fn_Text_goesOn c sign1 = some (r, c2)) : zw_Met l g y_Text_goesOn b_Text_goesOn 2 (some .boolean) 1 rr sh [.ref 40, .int sign1] c (some (.int r)) c2 := by
  unfold fn_Text_goesOn at hsem
  refine zw_Met.of (by decide +kernel) (Nat.le_of_ble_eq_true rfl) (fun p e s m args below meth cd X => ?_)
  refine zw_eL (L2 := [some (.ref 40), some (.int sign1)]) rfl ?_
  refine zw_cnd (P := ((((c.1 40 8) = 0) ∨ (4 ≤ (c.1 40 8))) ∨ ((c.1 40 3) = 0))) (J1 := 22) (J2 := 24) (st2 := []) (fun jT jF => ?_) (fun p2 => ?_) (fun p2 => ?_)
  · --
    refine r_aload_n X (pc := 0) (i := 0) (zw_dg dk_Text_goesOn 0 rfl) rfl rfl ?_
    refine r_getI X (pc := 1) ci_Text (zo hS 40 rfl rfl) rfl lk_Text_62 (zw_dg dk_Text_goesOn 1 rfl) ?_
    refine r_if_eq X (pc := 4) (tgt := 22) (zw_dg dk_Text_goesOn 2 rfl) (by decide) (fun q3 => ?_) (fun q3 => ?_)
    · --
      exact jT (Or.inl (Or.inl q3))
    · --
      refine r_aload_n X (pc := 7) (i := 0) (zw_dg dk_Text_goesOn 3 rfl) rfl rfl ?_
      refine r_getI X (pc := 8) ci_Text (zo hS 40 rfl rfl) rfl lk_Text_62 (zw_dg dk_Text_goesOn 4 rfl) ?_
      refine r_iconst X (pc := 11) (v := 4) (zw_dg dk_Text_goesOn 5 rfl) (by decide) ?_
      refine r_icmp_ge X (pc := 12) (tgt := 22) (zw_dg dk_Text_goesOn 6 rfl) (by decide) (fun q4 => ?_) (fun q4 => ?_)
      · --
        exact jT (Or.inl (Or.inr q4))
      · --
        refine r_aload_n X (pc := 15) (i := 0) (zw_dg dk_Text_goesOn 7 rfl) rfl rfl ?_
        refine r_getI X (pc := 16) ci_Text (zo hS 40 rfl rfl) rfl lk_Text_56 (zw_dg dk_Text_goesOn 8 rfl) ?_
        refine r_if_ne X (pc := 19) (tgt := 24) (zw_dg dk_Text_goesOn 9 rfl) (by decide) (fun q5 => ?_) (fun q5 => ?_)
        · --
          exact jF (fun q => q.elim (fun q => q.elim q3 q4) q5)
        · --
          exact jT (Or.inr q5)
  · --
    have hsem := zw_ifp p2 hsem
    refine r_iconst X (pc := 22) (v := 0) (zw_dg dk_Text_goesOn 10 rfl) (by decide) ?_
    have hbz : (0 : Int32) = 0 ∨ (0 : Int32) = 1 := (by decide)
    cases hsem
    exact r_zret X (pc := 23) rfl (zw_bzn hbz).1 (zw_dg dk_Text_goesOn 11 rfl)
  · --
    have hsem := zw_ifn p2 hsem
    refine r_aload_n X (pc := 24) (i := 0) (zw_dg dk_Text_goesOn 12 rfl) rfl rfl ?_
    refine r_getR X (pc := 25) (r := 42) ci_Text (zo hS 40 rfl rfl) rfl (zr hS 40 2 rfl rfl) lk_Text_15 (zw_dg dk_Text_goesOn 13 rfl) ?_
    refine r_aload_n X (pc := 28) (i := 0) (zw_dg dk_Text_goesOn 14 rfl) rfl rfl ?_
    refine r_getI X (pc := 29) ci_Text (zo hS 40 rfl rfl) rfl lk_Text_56 (zw_dg dk_Text_goesOn 15 rfl) ?_
    refine r_iconst X (pc := 32) (v := 1) (zw_dg dk_Text_goesOn 16 rfl) (by decide) ?_
    refine r_isub X (pc := 33) (zw_dg dk_Text_goesOn 17 rfl)  ?_
    refine r_aload_n X (pc := 34) (i := 0) (zw_dg dk_Text_goesOn 18 rfl) rfl rfl ?_
    refine r_getR X (pc := 35) (r := 42) ci_Text (zo hS 40 rfl rfl) rfl (zr hS 40 2 rfl rfl) lk_Text_15 (zw_dg dk_Text_goesOn 19 rfl) ?_
    refine r_aload_n X (pc := 38) (i := 0) (zw_dg dk_Text_goesOn 20 rfl) rfl rfl ?_
    refine r_getI X (pc := 39) ci_Text (zo hS 40 rfl rfl) rfl lk_Text_56 (zw_dg dk_Text_goesOn 21 rfl) ?_
    refine r_iconst X (pc := 42) (v := 1) (zw_dg dk_Text_goesOn 22 rfl) (by decide) ?_
    refine r_isub X (pc := 43) (zw_dg dk_Text_goesOn 23 rfl)  ?_
    obtain ⟨x6, hx6, hsem⟩ := zw_bd hsem
    refine r_iald X (pc := 44) (zo hS 42 rfl rfl) hx6 (zw_dg dk_Text_goesOn 24 rfl) ?_
    refine r_bipush X (pc := 45) (v := 10) (zw_dg dk_Text_goesOn 25 rfl) (by decide) ?_
    refine r_imul X (pc := 47) (zw_dg dk_Text_goesOn 26 rfl)  ?_
    refine r_iload_n X (pc := 48) (i := 1) (zw_dg dk_Text_goesOn 27 rfl) rfl rfl ?_
    refine r_iadd X (pc := 49) (zw_dg dk_Text_goesOn 28 rfl)  ?_
    refine r_bipush X (pc := 50) (v := 48) (zw_dg dk_Text_goesOn 29 rfl) (by decide) ?_
    refine r_isub X (pc := 52) (zw_dg dk_Text_goesOn 30 rfl)  ?_
    obtain ⟨c7, hc7, hsem⟩ := zw_bd hsem
    refine r_iast X (pc := 53) (zo hS 42 rfl rfl) hc7 (zw_dg dk_Text_goesOn 31 rfl) ?_
    refine r_aload_n X (pc := 54) (i := 0) (zw_dg dk_Text_goesOn 32 rfl) rfl rfl ?_
    refine r_dup X (pc := 55) (zw_dg dk_Text_goesOn 33 rfl) rfl ?_
    refine r_getI X (pc := 56) ci_Text (zo hS 40 rfl rfl) rfl lk_Text_62 (zw_dg dk_Text_goesOn 34 rfl) ?_
    refine r_iconst X (pc := 59) (v := 1) (zw_dg dk_Text_goesOn 35 rfl) (by decide) ?_
    refine r_iadd X (pc := 60) (zw_dg dk_Text_goesOn 36 rfl)  ?_
    refine r_putI X (pc := 61) ci_Text (zo hS 40 rfl rfl) rfl lk_Text_62 rfl ⟨rfl, rfl⟩ (zw_dg dk_Text_goesOn 37 rfl) ?_
    obtain ⟨c8, hc8, hsem⟩ := zw_bd hsem
    refine zw_topC hc8 ?_
    refine r_iconst X (pc := 64) (v := 1) (zw_dg dk_Text_goesOn 38 rfl) (by decide) ?_
    have hbz : (1 : Int32) = 0 ∨ (1 : Int32) = 1 := (by decide)
    cases hsem
    exact r_zret X (pc := 65) rfl (zw_bzn hbz).1 (zw_dg dk_Text_goesOn 39 rfl)
def y_Text_bond : MethodName := ⟨R_Text, "bond", "(I)I"⟩
abbrev b_Text_bond : ByteArray := prog_12_method_15_code
def dl_Text_bond : List (Nat × Instr × Nat) := [(0, .iload_n 0, 1), (1, .lookupswitch 83 #[(42, 79), (43, 77), (45, 77), (47, 79), (60, 75), (61, 75), (62, 75), (256, 81)], 75), (76, .iconst 1, 1), (77, .ireturn, 1), (78, .iconst 2, 1), (79, .ireturn, 1), (80, .iconst 3, 1), (81, .ireturn, 1), (82, .iconst 4, 1), (83, .ireturn, 1), (84, .iconst 0, 1), (85, .ireturn, 1)]
theorem dk_Text_bond : zw_dk b_Text_bond dl_Text_bond = true := by decide +kernel
theorem ce_Text_bond : zw_ces y_Text_bond b_Text_bond 1 (some .int) 1 := ⟨⟨kt_in 688 (by decide +kernel) rfl, kt_in 91 (by decide +kernel) rfl, by decide +kernel⟩, kt_in 687 (by decide +kernel) rfl⟩
def fn_Text_bond (sign1 : Int32) : Int32 :=
  if sign1 = 60 ∨ sign1 = 62 ∨ sign1 = 61 then
  (1)
  else
  (if sign1 = 43 ∨ sign1 = 45 then
  (2)
  else
  (if sign1 = 42 ∨ sign1 = 47 then
  (3)
  else
  (if sign1 = 256 then
  (4)
  else
  (0))))
set_option maxRecDepth 100000 in
theorem km_Text_bond {l : Launch} {g : zw_G} {rr : zw_RR} {sh : zw_Sh} {c : zw_Ct} {sign1 : Int32} {r : Int32} (hS : zw_Ok 0 101 sh rr) (hsem : fn_Text_bond sign1 = r) : zw_Met l g y_Text_bond b_Text_bond 1 (some .int) 1 rr sh [.int sign1] c (some (.int r)) c := by
  unfold fn_Text_bond at hsem
  refine zw_Met.of (by decide +kernel) (Nat.le_of_ble_eq_true rfl) (fun p e s m args below meth cd X => ?_)
  refine zw_eL (L2 := [some (.int sign1)]) rfl ?_
  refine r_iload_n X (pc := 0) (i := 0) (zw_dg dk_Text_bond 0 rfl) rfl rfl ?_
  by_cases k2 : sign1 = 60 ∨ sign1 = 62 ∨ sign1 = 61
  · have hsem := zw_ifp k2 hsem
    rcases k2 with k2 | k2 | k2
    · refine zw_eqtI k2 ?_
      refine r_lookup X (pc := 1) (tgt := 76) (off := 75) (zw_dg dk_Text_bond 1 rfl) (by decide) (by decide) (by decide) ?_
      refine r_iconst X (pc := 76) (v := 1) (zw_dg dk_Text_bond 2 rfl) (by decide) ?_
      have hsem : (1 : _) = r := hsem
      cases hsem
      exact r_iret X (pc := 77) rfl (zw_dg dk_Text_bond 3 rfl)
    · refine zw_eqtI k2 ?_
      refine r_lookup X (pc := 1) (tgt := 76) (off := 75) (zw_dg dk_Text_bond 1 rfl) (by decide) (by decide) (by decide) ?_
      refine r_iconst X (pc := 76) (v := 1) (zw_dg dk_Text_bond 2 rfl) (by decide) ?_
      have hsem : (1 : _) = r := hsem
      cases hsem
      exact r_iret X (pc := 77) rfl (zw_dg dk_Text_bond 3 rfl)
    · refine zw_eqtI k2 ?_
      refine r_lookup X (pc := 1) (tgt := 76) (off := 75) (zw_dg dk_Text_bond 1 rfl) (by decide) (by decide) (by decide) ?_
      refine r_iconst X (pc := 76) (v := 1) (zw_dg dk_Text_bond 2 rfl) (by decide) ?_
      have hsem : (1 : _) = r := hsem
      cases hsem
      exact r_iret X (pc := 77) rfl (zw_dg dk_Text_bond 3 rfl)
  · have hsem := zw_ifn k2 hsem
    by_cases k3 : sign1 = 43 ∨ sign1 = 45
    · have hsem := zw_ifp k3 hsem
      rcases k3 with k3 | k3
      · refine zw_eqtI k3 ?_
        refine r_lookup X (pc := 1) (tgt := 78) (off := 77) (zw_dg dk_Text_bond 1 rfl) (by decide) (by decide) (by decide) ?_
        refine r_iconst X (pc := 78) (v := 2) (zw_dg dk_Text_bond 4 rfl) (by decide) ?_
        have hsem : (2 : _) = r := hsem
        cases hsem
        exact r_iret X (pc := 79) rfl (zw_dg dk_Text_bond 5 rfl)
      · refine zw_eqtI k3 ?_
        refine r_lookup X (pc := 1) (tgt := 78) (off := 77) (zw_dg dk_Text_bond 1 rfl) (by decide) (by decide) (by decide) ?_
        refine r_iconst X (pc := 78) (v := 2) (zw_dg dk_Text_bond 4 rfl) (by decide) ?_
        have hsem : (2 : _) = r := hsem
        cases hsem
        exact r_iret X (pc := 79) rfl (zw_dg dk_Text_bond 5 rfl)
    · have hsem := zw_ifn k3 hsem
      by_cases k4 : sign1 = 42 ∨ sign1 = 47
      · have hsem := zw_ifp k4 hsem
        rcases k4 with k4 | k4
        · refine zw_eqtI k4 ?_
          refine r_lookup X (pc := 1) (tgt := 80) (off := 79) (zw_dg dk_Text_bond 1 rfl) (by decide) (by decide) (by decide) ?_
          refine r_iconst X (pc := 80) (v := 3) (zw_dg dk_Text_bond 6 rfl) (by decide) ?_
          have hsem : (3 : _) = r := hsem
          cases hsem
          exact r_iret X (pc := 81) rfl (zw_dg dk_Text_bond 7 rfl)
        · refine zw_eqtI k4 ?_
          refine r_lookup X (pc := 1) (tgt := 80) (off := 79) (zw_dg dk_Text_bond 1 rfl) (by decide) (by decide) (by decide) ?_
          refine r_iconst X (pc := 80) (v := 3) (zw_dg dk_Text_bond 6 rfl) (by decide) ?_
          have hsem : (3 : _) = r := hsem
          cases hsem
          exact r_iret X (pc := 81) rfl (zw_dg dk_Text_bond 7 rfl)
      · have hsem := zw_ifn k4 hsem
        by_cases k5 : sign1 = 256
        · have hsem := zw_ifp k5 hsem
          refine zw_eqtI k5 ?_
          refine r_lookup X (pc := 1) (tgt := 82) (off := 81) (zw_dg dk_Text_bond 1 rfl) (by decide) (by decide) (by decide) ?_
          refine r_iconst X (pc := 82) (v := 4) (zw_dg dk_Text_bond 8 rfl) (by decide) ?_
          have hsem : (4 : _) = r := hsem
          cases hsem
          exact r_iret X (pc := 83) rfl (zw_dg dk_Text_bond 9 rfl)
        · have hsem := zw_ifn k5 hsem
          refine r_lookup X (pc := 1) (tgt := 84) (off := 83) (zw_dg dk_Text_bond 1 rfl) (by decide) (by
            show Op.lookupswitch.offset [(42, 79), (43, 77), (45, 77), (47, 79), (60, 75), (61, 75), (62, 75), (256, 81)] _ _ = _
            rw [lv_osw (fun z => k4 (Or.inl z)) (show (42 : Int32).toInt = 42 from by decide)]
            rw [lv_osw (fun z => k3 (Or.inl z)) (show (43 : Int32).toInt = 43 from by decide)]
            rw [lv_osw (fun z => k3 (Or.inr z)) (show (45 : Int32).toInt = 45 from by decide)]
            rw [lv_osw (fun z => k4 (Or.inr z)) (show (47 : Int32).toInt = 47 from by decide)]
            rw [lv_osw (fun z => k2 (Or.inl z)) (show (60 : Int32).toInt = 60 from by decide)]
            rw [lv_osw (fun z => k2 (Or.inr (Or.inr z))) (show (61 : Int32).toInt = 61 from by decide)]
            rw [lv_osw (fun z => k2 (Or.inr (Or.inl z))) (show (62 : Int32).toInt = 62 from by decide)]
            rw [lv_osw (fun z => k5 z) (show (256 : Int32).toInt = 256 from by decide)]
            rfl) (by decide) ?_
          refine r_iconst X (pc := 84) (v := 0) (zw_dg dk_Text_bond 10 rfl) (by decide) ?_
          have hsem : (0 : _) = r := hsem
          cases hsem
          exact r_iret X (pc := 85) rfl (zw_dg dk_Text_bond 11 rfl)
def y_Text_release : MethodName := ⟨R_Text, "release", "(I)V"⟩
abbrev b_Text_release : ByteArray := prog_12_method_12_code
def dl_Text_release : List (Nat × Instr × Nat) := [(0, .aload_n 0, 1), (1, .getfield 59, 3), (4, .ifCond .le 53, 3), (7, .aload_n 0, 1), (8, .getfield 18, 3), (11, .aload_n 0, 1), (12, .getfield 59, 3), (15, .iconst 1, 1), (16, .isub, 1), (17, .iaload, 1), (18, .invokestatic 92, 3), (21, .iload_n 1, 1), (22, .if_icmp .lt 35, 3), (25, .aload_n 0, 1), (26, .sipush 20000, 3), (29, .aload_n 0, 1), (30, .getfield 18, 3), (33, .aload_n 0, 1), (34, .getfield 59, 3), (37, .iconst 1, 1), (38, .isub, 1), (39, .iaload, 1), (40, .iadd, 1), (41, .invokevirtual 83, 3), (44, .aload_n 0, 1), (45, .dup, 1), (46, .getfield 59, 3), (49, .iconst 1, 1), (50, .isub, 1), (51, .putfield 59, 3), (54, .goto (-54), 3), (57, .return_, 1)]
theorem dk_Text_release : zw_dk b_Text_release dl_Text_release = true := by decide +kernel
theorem ce_Text_release : zw_cev y_Text_release b_Text_release 2 (none) 1 := ⟨⟨kt_in 685 (by decide +kernel) rfl, kt_in 91 (by decide +kernel) rfl, by decide +kernel⟩, kt_in 684 (by decide +kernel) rfl, kt_in 10 (by decide +kernel) rfl⟩
def fn_Text_release_l1 (bond1 : Int32) : zw_Ct → Option ((zw_Ct) ⊕ (zw_Ct)) := fun c3 =>
  (if (0 < (c3.1 40 5)) then
  ((zw_aI 60 c3 43 ((c3.1 40 5) - 1)).bind fun x8 =>
  some (decide (bond1 ≤ (fn_Text_bond x8))))
  else some false).bind fun b6 =>
  if b6 = true then
  ((zw_aI 60 c3 43 ((c3.1 40 5) - 1)).bind fun x10 =>
  (fn_Text_write c3 (20000 + x10)).bind fun c11 =>
  (some (zw_wI c11 40 5 ((c11.1 40 5) - 1))).bind fun c12 =>
  some (.inr c12))
  else
  (some (.inl c3))
def fn_Text_release (c : zw_Ct) (bond1 : Int32) : Option zw_Ct :=
  (zw_whl (fn_Text_release_l1 bond1) zw_F c).bind fun c4 =>
  some c4
set_option maxRecDepth 100000 in
theorem km_Text_release {l : Launch} {g : zw_G} {rr : zw_RR} {sh : zw_Sh} {c : zw_Ct} {bond1 : Int32} {c2 : zw_Ct} (hS : zw_Ok 0 101 sh rr) (hsem : fn_Text_release c bond1 = some c2) : zw_Met l g y_Text_release b_Text_release 2 (none) 2 rr sh [.ref 40, .int bond1] c none c2 := by
  unfold fn_Text_release at hsem
  refine zw_Met.of (by decide +kernel) (Nat.le_of_ble_eq_true rfl) (fun p e s m args below meth cd X => ?_)
  refine zw_eL (L2 := [some (.ref 40), some (.int bond1)]) rfl ?_
  obtain ⟨c4, hl5, hsl5⟩ := zw_bd hsem
  refine r_loop (pc := 0) (pce := 57) hl5 (fun c3 => [some (.ref 40), some (.int bond1)] : zw_Ct → zw_Lc) (fun c3 => c3 : zw_Ct → zw_Ct) (fun c4 => [some (.ref 40), some (.int bond1)] : zw_Ct → zw_Lc) (fun c4 => c4 : zw_Ct → zw_Ct) ?_ rfl rfl ?_
  · rintro c3 rr hsem hK hP
    try unfold fn_Text_release_l1 at hsem
    obtain ⟨b6, hb6, hsb6⟩ := zw_bd hsem
    refine zw_cndB (b := b6) (J1 := 25) (J2 := 57) (st2 := []) (fun jT jF => ?_) (fun hbb6 => ?_) (fun hbb6 => ?_)
    · have hsem := hb6
      refine r_aload_n X (pc := 0) (i := 0) (zw_dg dk_Text_release 0 rfl) rfl rfl ?_
      refine r_getI X (pc := 1) ci_Text (zo hS 40 rfl rfl) rfl lk_Text_59 (zw_dg dk_Text_release 1 rfl) ?_
      refine r_if_le X (pc := 4) (tgt := 57) (zw_dg dk_Text_release 2 rfl) (by decide) (fun q7 => ?_) (fun q7 => ?_)
      · --
        have hsem := zw_ifn (Int32.not_lt.mpr q7) hsem
        exact jF (Option.some.inj hsem).symm
      · --
        have hsem := zw_ifp (Int32.not_le.mp q7) hsem
        refine r_aload_n X (pc := 7) (i := 0) (zw_dg dk_Text_release 3 rfl) rfl rfl ?_
        refine r_getR X (pc := 8) (r := 43) ci_Text (zo hS 40 rfl rfl) rfl (zr hS 40 4 rfl rfl) lk_Text_18 (zw_dg dk_Text_release 4 rfl) ?_
        refine r_aload_n X (pc := 11) (i := 0) (zw_dg dk_Text_release 5 rfl) rfl rfl ?_
        refine r_getI X (pc := 12) ci_Text (zo hS 40 rfl rfl) rfl lk_Text_59 (zw_dg dk_Text_release 6 rfl) ?_
        refine r_iconst X (pc := 15) (v := 1) (zw_dg dk_Text_release 7 rfl) (by decide) ?_
        refine r_isub X (pc := 16) (zw_dg dk_Text_release 8 rfl)  ?_
        obtain ⟨x8, hx8, hsem⟩ := zw_bd hsem
        refine r_iald X (pc := 17) (zo hS 43 rfl rfl) hx8 (zw_dg dk_Text_release 9 rfl) ?_
        refine r_callSi X (pc := 18) (As := [_]) (st := []) (km_Text_bond hS rfl) ce_Text_bond kw_686 rfl ⟨Nat.le_of_ble_eq_true rfl, Nat.le_of_ble_eq_true rfl⟩ (Nat.le_of_ble_eq_true rfl) (zw_dg dk_Text_release 10 rfl) ?_
        refine r_iload_n X (pc := 21) (i := 1) (zw_dg dk_Text_release 11 rfl) rfl rfl ?_
        refine r_icmp_lt X (pc := 22) (tgt := 57) (zw_dg dk_Text_release 12 rfl) (by decide) (fun q9 => ?_) (fun q9 => ?_)
        · --
          exact jF (zw_dF hsem (Int32.not_le.mpr q9))
        · --
          exact jT (zw_dT hsem (Int32.not_lt.mp q9))
    · have hsem := zw_ifp hbb6 hsb6
      refine r_aload_n X (pc := 25) (i := 0) (zw_dg dk_Text_release 13 rfl) rfl rfl ?_
      refine r_sipush X (pc := 26) (v := 20000) (zw_dg dk_Text_release 14 rfl) (by decide) ?_
      refine r_aload_n X (pc := 29) (i := 0) (zw_dg dk_Text_release 15 rfl) rfl rfl ?_
      refine r_getR X (pc := 30) (r := 43) ci_Text (zo hS 40 rfl rfl) rfl (zr hS 40 4 rfl rfl) lk_Text_18 (zw_dg dk_Text_release 16 rfl) ?_
      refine r_aload_n X (pc := 33) (i := 0) (zw_dg dk_Text_release 17 rfl) rfl rfl ?_
      refine r_getI X (pc := 34) ci_Text (zo hS 40 rfl rfl) rfl lk_Text_59 (zw_dg dk_Text_release 18 rfl) ?_
      refine r_iconst X (pc := 37) (v := 1) (zw_dg dk_Text_release 19 rfl) (by decide) ?_
      refine r_isub X (pc := 38) (zw_dg dk_Text_release 20 rfl)  ?_
      obtain ⟨x10, hx10, hsem⟩ := zw_bd hsem
      refine r_iald X (pc := 39) (zo hS 43 rfl rfl) hx10 (zw_dg dk_Text_release 21 rfl) ?_
      refine r_iadd X (pc := 40) (zw_dg dk_Text_release 22 rfl)  ?_
      obtain ⟨c11, hc11, hsem⟩ := zw_bd hsem
      refine r_callVv X (pc := 41) (As := [_]) (st := []) (km_Text_write hS hc11) ce_Text_write kw_666 (zo hS 40 rfl rfl) rfl rfl ⟨Nat.le_of_ble_eq_true rfl, Nat.le_of_ble_eq_true rfl⟩ (Nat.le_of_ble_eq_true rfl) (zw_dg dk_Text_release 23 rfl) ?_
      refine r_aload_n X (pc := 44) (i := 0) (zw_dg dk_Text_release 24 rfl) rfl rfl ?_
      refine r_dup X (pc := 45) (zw_dg dk_Text_release 25 rfl) rfl ?_
      refine r_getI X (pc := 46) ci_Text (zo hS 40 rfl rfl) rfl lk_Text_59 (zw_dg dk_Text_release 26 rfl) ?_
      refine r_iconst X (pc := 49) (v := 1) (zw_dg dk_Text_release 27 rfl) (by decide) ?_
      refine r_isub X (pc := 50) (zw_dg dk_Text_release 28 rfl)  ?_
      refine r_putI X (pc := 51) ci_Text (zo hS 40 rfl rfl) rfl lk_Text_59 rfl ⟨rfl, rfl⟩ (zw_dg dk_Text_release 29 rfl) ?_
      obtain ⟨c12, hc12, hsem⟩ := zw_bd hsem
      refine zw_topC hc12 ?_
      refine r_goto X (pc := 54) (tgt := 0) (zw_dg dk_Text_release 30 rfl) (by decide) ?_
      have jj := hP _ (Option.some.inj hsem).symm
      exact (r_fgt [] rfl jj)
    · have hsem := zw_ifn (by rw [hbb6]; exact Bool.false_ne_true) hsb6
      have jj := hK _ (Option.some.inj hsem).symm
      exact (r_fgt [] rfl jj)
  have hsem := hsl5
  cases hsem
  exact r_vret X (pc := 57) rfl (zw_dg dk_Text_release 31 rfl)
def y_Text_closes : MethodName := ⟨R_Text, "closes", "()Z"⟩
abbrev b_Text_closes : ByteArray := prog_12_method_11_code
def dl_Text_closes : List (Nat × Instr × Nat) := [(0, .aload_n 0, 1), (1, .getfield 49, 3), (4, .ifCond .ne 5, 3), (7, .iconst 0, 1), (8, .ireturn, 1), (9, .aload_n 0, 1), (10, .iconst 1, 1), (11, .invokevirtual 52, 3), (14, .aload_n 0, 1), (15, .dup, 1), (16, .getfield 59, 3), (19, .iconst 1, 1), (20, .isub, 1), (21, .putfield 59, 3), (24, .aload_n 0, 1), (25, .dup, 1), (26, .getfield 49, 3), (29, .iconst 1, 1), (30, .isub, 1), (31, .putfield 49, 3), (34, .iconst 1, 1), (35, .ireturn, 1)]
theorem dk_Text_closes : zw_dk b_Text_closes dl_Text_closes = true := by decide +kernel
theorem ce_Text_closes : zw_cev y_Text_closes b_Text_closes 1 (some .boolean) 0 := ⟨⟨kt_in 681 (by decide +kernel) rfl, kt_in 91 (by decide +kernel) rfl, by decide +kernel⟩, kt_in 680 (by decide +kernel) rfl, kt_in 9 (by decide +kernel) rfl⟩
def fn_Text_closes (c : zw_Ct) : Option (Int32 × zw_Ct) :=
  if ((c.1 40 7) = 0) then
  (some (0, c))
  else
  ((fn_Text_release c 1).bind fun c3 =>
  (some (zw_wI c3 40 5 ((c3.1 40 5) - 1))).bind fun c4 =>
  (some (zw_wI c4 40 7 ((c4.1 40 7) - 1))).bind fun c5 =>
  some (1, c5))
set_option maxRecDepth 100000 in
theorem km_Text_closes {l : Launch} {g : zw_G} {rr : zw_RR} {sh : zw_Sh} {c : zw_Ct} {r : Int32} {c2 : zw_Ct} (hS : zw_Ok 0 101 sh rr) (hsem : fn_Text_closes c = some (r, c2)) : zw_Met l g y_Text_closes b_Text_closes 1 (some .boolean) 3 rr sh [.ref 40] c (some (.int r)) c2 := by
  unfold fn_Text_closes at hsem
  refine zw_Met.of (by decide +kernel) (Nat.le_of_ble_eq_true rfl) (fun p e s m args below meth cd X => ?_)
  refine zw_eL (L2 := [some (.ref 40)]) rfl ?_
  refine r_aload_n X (pc := 0) (i := 0) (zw_dg dk_Text_closes 0 rfl) rfl rfl ?_
  refine r_getI X (pc := 1) ci_Text (zo hS 40 rfl rfl) rfl lk_Text_49 (zw_dg dk_Text_closes 1 rfl) ?_
  refine r_if_ne X (pc := 4) (tgt := 9) (zw_dg dk_Text_closes 2 rfl) (by decide) (fun q2 => ?_) (fun q2 => ?_)
  · --
    have p1 : ¬ ((c.1 40 7) = 0) := q2
    have hsem := zw_ifn p1 hsem
    refine r_aload_n X (pc := 9) (i := 0) (zw_dg dk_Text_closes 5 rfl) rfl rfl ?_
    refine r_iconst X (pc := 10) (v := 1) (zw_dg dk_Text_closes 6 rfl) (by decide) ?_
    obtain ⟨c3, hc3, hsem⟩ := zw_bd hsem
    refine r_callVv X (pc := 11) (As := [_]) (st := []) (km_Text_release hS hc3) ce_Text_release kw_682 (zo hS 40 rfl rfl) rfl rfl ⟨Nat.le_of_ble_eq_true rfl, Nat.le_of_ble_eq_true rfl⟩ (Nat.le_of_ble_eq_true rfl) (zw_dg dk_Text_closes 7 rfl) ?_
    refine r_aload_n X (pc := 14) (i := 0) (zw_dg dk_Text_closes 8 rfl) rfl rfl ?_
    refine r_dup X (pc := 15) (zw_dg dk_Text_closes 9 rfl) rfl ?_
    refine r_getI X (pc := 16) ci_Text (zo hS 40 rfl rfl) rfl lk_Text_59 (zw_dg dk_Text_closes 10 rfl) ?_
    refine r_iconst X (pc := 19) (v := 1) (zw_dg dk_Text_closes 11 rfl) (by decide) ?_
    refine r_isub X (pc := 20) (zw_dg dk_Text_closes 12 rfl)  ?_
    refine r_putI X (pc := 21) ci_Text (zo hS 40 rfl rfl) rfl lk_Text_59 rfl ⟨rfl, rfl⟩ (zw_dg dk_Text_closes 13 rfl) ?_
    obtain ⟨c4, hc4, hsem⟩ := zw_bd hsem
    refine zw_topC hc4 ?_
    refine r_aload_n X (pc := 24) (i := 0) (zw_dg dk_Text_closes 14 rfl) rfl rfl ?_
    refine r_dup X (pc := 25) (zw_dg dk_Text_closes 15 rfl) rfl ?_
    refine r_getI X (pc := 26) ci_Text (zo hS 40 rfl rfl) rfl lk_Text_49 (zw_dg dk_Text_closes 16 rfl) ?_
    refine r_iconst X (pc := 29) (v := 1) (zw_dg dk_Text_closes 17 rfl) (by decide) ?_
    refine r_isub X (pc := 30) (zw_dg dk_Text_closes 18 rfl)  ?_
    refine r_putI X (pc := 31) ci_Text (zo hS 40 rfl rfl) rfl lk_Text_49 rfl ⟨rfl, rfl⟩ (zw_dg dk_Text_closes 19 rfl) ?_
    obtain ⟨c5, hc5, hsem⟩ := zw_bd hsem
    refine zw_topC hc5 ?_
    refine r_iconst X (pc := 34) (v := 1) (zw_dg dk_Text_closes 20 rfl) (by decide) ?_
    have hbz : (1 : Int32) = 0 ∨ (1 : Int32) = 1 := (by decide)
    cases hsem
    exact r_zret X (pc := 35) rfl (zw_bzn hbz).1 (zw_dg dk_Text_closes 21 rfl)
  · --
    have p1 : ((c.1 40 7) = 0) := q2
    have hsem := zw_ifp p1 hsem
    refine r_iconst X (pc := 7) (v := 0) (zw_dg dk_Text_closes 3 rfl) (by decide) ?_
    have hbz : (0 : Int32) = 0 ∨ (0 : Int32) = 1 := (by decide)
    cases hsem
    exact r_zret X (pc := 8) rfl (zw_bzn hbz).1 (zw_dg dk_Text_closes 4 rfl)
def y_Text_takesJoin : MethodName := ⟨R_Text, "takesJoin", "(I)Z"⟩
abbrev b_Text_takesJoin : ByteArray := prog_12_method_8_code
def dl_Text_takesJoin : List (Nat × Instr × Nat) := [(0, .iload_n 1, 1), (1, .invokestatic 72, 3), (4, .ifCond .eq 9, 3), (7, .aload_n 0, 1), (8, .iload_n 1, 1), (9, .invokevirtual 86, 3), (12, .ireturn, 1), (13, .aload_n 0, 1), (14, .iconst 0, 1), (15, .putfield 62, 3), (18, .iload_n 1, 1), (19, .bipush 41, 2), (21, .if_icmp .ne 8, 3), (24, .aload_n 0, 1), (25, .invokevirtual 89, 3), (28, .ireturn, 1), (29, .iload_n 1, 1), (30, .invokestatic 92, 3), (33, .istore_n 2, 1), (34, .iload_n 2, 1), (35, .ifCond .eq 20, 3), (38, .iload_n 2, 1), (39, .iconst 1, 1), (40, .if_icmp .ne 17, 3), (43, .aload_n 0, 1), (44, .getfield 21, 3), (47, .aload_n 0, 1), (48, .getfield 49, 3), (51, .baload, 1), (52, .ifCond .eq 5, 3), (55, .iconst 0, 1), (56, .ireturn, 1), (57, .aload_n 0, 1), (58, .getfield 21, 3), (61, .aload_n 0, 1), (62, .getfield 49, 3), (65, .dup2, 1), (66, .baload, 1), (67, .iload_n 2, 1), (68, .iconst 1, 1), (69, .if_icmp .ne 7, 3), (72, .iconst 1, 1), (73, .goto 4, 3), (76, .iconst 0, 1), (77, .ior, 1), (78, .bastore, 1), (79, .aload_n 0, 1), (80, .iload_n 2, 1), (81, .invokevirtual 52, 3), (84, .aload_n 0, 1), (85, .iload_n 1, 1), (86, .invokevirtual 65, 3), (89, .aload_n 0, 1), (90, .iconst 1, 1), (91, .putfield 38, 3), (94, .iconst 1, 1), (95, .ireturn, 1)]
theorem dk_Text_takesJoin : zw_dk b_Text_takesJoin dl_Text_takesJoin = true := by decide +kernel
theorem ce_Text_takesJoin : zw_cev y_Text_takesJoin b_Text_takesJoin 3 (some .boolean) 1 := ⟨⟨kt_in 673 (by decide +kernel) rfl, kt_in 91 (by decide +kernel) rfl, by decide +kernel⟩, kt_in 672 (by decide +kernel) rfl, kt_in 7 (by decide +kernel) rfl⟩
def fn_Text_takesJoin (c : zw_Ct) (sign1 : Int32) : Option (Int32 × zw_Ct) :=
  if (¬ (fn_Text_isDigit sign1) = 0) then
  ((fn_Text_goesOn c sign1).bind fun (r24, c25) =>
  (zw_bz r24).bind fun z26 =>
  some (z26, c25))
  else
  ((some (zw_wI c 40 8 0)).bind fun c4 =>
  if (sign1 = 41) then
  ((fn_Text_closes c4).bind fun (r21, c22) =>
  (zw_bz r21).bind fun z23 =>
  some (z23, c22))
  else
  ((some ((fn_Text_bond sign1) : Int32)).bind fun bond7 =>
  if (bond7 = 0) then
  (some (0, c4))
  else
  ((if (bond7 = 1) then
  ((zw_aI 6 c4 44 (c4.1 40 7)).bind fun x12 =>
  some (decide (¬ x12 = 0)))
  else some false).bind fun b10 =>
  if b10 = true then
  (some (0, c4))
  else
  ((zw_aI 6 c4 44 (c4.1 40 7)).bind fun x14 =>
  (zw_bz (x14 ||| (if (bond7 = 1) then (1 : Int32) else 0))).bind fun z16 =>
  (zw_uI 6 c4 44 (c4.1 40 7) z16).bind fun c17 =>
  (fn_Text_release c17 bond7).bind fun c18 =>
  (fn_Text_hold c18 sign1).bind fun c19 =>
  (some (zw_wI c19 40 9 1)).bind fun c20 =>
  some (1, c20)))))
set_option maxRecDepth 100000 in
theorem km_Text_takesJoin {l : Launch} {g : zw_G} {rr : zw_RR} {sh : zw_Sh} {c : zw_Ct} {sign1 : Int32} {r : Int32} {c2 : zw_Ct} (hS : zw_Ok 0 101 sh rr) (hsem : fn_Text_takesJoin c sign1 = some (r, c2)) : zw_Met l g y_Text_takesJoin b_Text_takesJoin 3 (some .boolean) 4 rr sh [.ref 40, .int sign1] c (some (.int r)) c2 := by
  unfold fn_Text_takesJoin at hsem
  refine zw_Met.of (by decide +kernel) (Nat.le_of_ble_eq_true rfl) (fun p e s m args below meth cd X => ?_)
  refine zw_eL (L2 := [some (.ref 40), some (.int sign1), none]) rfl ?_
  refine r_iload_n X (pc := 0) (i := 1) (zw_dg dk_Text_takesJoin 0 rfl) rfl rfl ?_
  refine r_callSi X (pc := 1) (As := [_]) (st := []) (km_Text_isDigit hS rfl) ce_Text_isDigit kw_580 rfl ⟨Nat.le_of_ble_eq_true rfl, Nat.le_of_ble_eq_true rfl⟩ (Nat.le_of_ble_eq_true rfl) (zw_dg dk_Text_takesJoin 1 rfl) ?_
  refine r_if_eq X (pc := 4) (tgt := 13) (zw_dg dk_Text_takesJoin 2 rfl) (by decide) (fun q3 => ?_) (fun q3 => ?_)
  · --
    have p2 : ¬ (¬ (fn_Text_isDigit sign1) = 0) := (fun z => z q3)
    have hsem := zw_ifn p2 hsem
    refine r_aload_n X (pc := 13) (i := 0) (zw_dg dk_Text_takesJoin 7 rfl) rfl rfl ?_
    refine r_iconst X (pc := 14) (v := 0) (zw_dg dk_Text_takesJoin 8 rfl) (by decide) ?_
    refine r_putI X (pc := 15) ci_Text (zo hS 40 rfl rfl) rfl lk_Text_62 rfl ⟨rfl, rfl⟩ (zw_dg dk_Text_takesJoin 9 rfl) ?_
    obtain ⟨c4, hc4, hsem⟩ := zw_bd hsem
    refine zw_topC hc4 ?_
    refine r_iload_n X (pc := 18) (i := 1) (zw_dg dk_Text_takesJoin 10 rfl) rfl rfl ?_
    refine r_bipush X (pc := 19) (v := 41) (zw_dg dk_Text_takesJoin 11 rfl) (by decide) ?_
    refine r_icmp_ne X (pc := 21) (tgt := 29) (zw_dg dk_Text_takesJoin 12 rfl) (by decide) (fun q6 => ?_) (fun q6 => ?_)
    · --
      have p5 : ¬ (sign1 = 41) := q6
      have hsem := zw_ifn p5 hsem
      refine r_iload_n X (pc := 29) (i := 1) (zw_dg dk_Text_takesJoin 16 rfl) rfl rfl ?_
      refine r_callSi X (pc := 30) (As := [_]) (st := []) (km_Text_bond hS rfl) ce_Text_bond kw_686 rfl ⟨Nat.le_of_ble_eq_true rfl, Nat.le_of_ble_eq_true rfl⟩ (Nat.le_of_ble_eq_true rfl) (zw_dg dk_Text_takesJoin 17 rfl) ?_
      obtain ⟨bond7, hbond7, hsem⟩ := zw_bd hsem
      refine zw_topI hbond7 ?_
      refine r_istore_n X (pc := 33) (i := 2) (zw_dg dk_Text_takesJoin 18 rfl) rfl (by decide) rfl ?_
      refine r_iload_n X (pc := 34) (i := 2) (zw_dg dk_Text_takesJoin 19 rfl) rfl rfl ?_
      refine r_if_eq X (pc := 35) (tgt := 55) (zw_dg dk_Text_takesJoin 20 rfl) (by decide) (fun q9 => ?_) (fun q9 => ?_)
      · --
        have p8 : (bond7 = 0) := q9
        have hsem := zw_ifp p8 hsem
        refine r_iconst X (pc := 55) (v := 0) (zw_dg dk_Text_takesJoin 30 rfl) (by decide) ?_
        have hbz : (0 : Int32) = 0 ∨ (0 : Int32) = 1 := (by decide)
        cases hsem
        exact r_zret X (pc := 56) rfl (zw_bzn hbz).1 (zw_dg dk_Text_takesJoin 31 rfl)
      · --
        have p8 : ¬ (bond7 = 0) := q9
        have hsem := zw_ifn p8 hsem
        obtain ⟨b10, hb10, hsb10⟩ := zw_bd hsem
        refine zw_cndB (b := b10) (J1 := 55) (J2 := 57) (st2 := []) (fun jT jF => ?_) (fun hbb10 => ?_) (fun hbb10 => ?_)
        · have hsem := hb10
          refine r_iload_n X (pc := 38) (i := 2) (zw_dg dk_Text_takesJoin 21 rfl) rfl rfl ?_
          refine r_iconst X (pc := 39) (v := 1) (zw_dg dk_Text_takesJoin 22 rfl) (by decide) ?_
          refine r_icmp_ne X (pc := 40) (tgt := 57) (zw_dg dk_Text_takesJoin 23 rfl) (by decide) (fun q11 => ?_) (fun q11 => ?_)
          · --
            have hsem := zw_ifn q11 hsem
            exact jF (Option.some.inj hsem).symm
          · --
            have hsem := zw_ifp q11 hsem
            refine r_aload_n X (pc := 43) (i := 0) (zw_dg dk_Text_takesJoin 24 rfl) rfl rfl ?_
            refine r_getR X (pc := 44) (r := 44) ci_Text (zo hS 40 rfl rfl) rfl (zr hS 40 6 rfl rfl) lk_Text_21 (zw_dg dk_Text_takesJoin 25 rfl) ?_
            refine r_aload_n X (pc := 47) (i := 0) (zw_dg dk_Text_takesJoin 26 rfl) rfl rfl ?_
            refine r_getI X (pc := 48) ci_Text (zo hS 40 rfl rfl) rfl lk_Text_49 (zw_dg dk_Text_takesJoin 27 rfl) ?_
            obtain ⟨x12, hx12, hsem⟩ := zw_bd hsem
            refine r_zald X (pc := 51) (zo hS 44 rfl rfl) hx12 (zw_dg dk_Text_takesJoin 28 rfl) ?_
            refine r_if_eq X (pc := 52) (tgt := 57) (zw_dg dk_Text_takesJoin 29 rfl) (by decide) (fun q13 => ?_) (fun q13 => ?_)
            · --
              exact jF (zw_dF hsem (fun z => z q13))
            · --
              exact jT (zw_dT hsem q13)
        · have hsem := zw_ifp hbb10 hsb10
          refine r_iconst X (pc := 55) (v := 0) (zw_dg dk_Text_takesJoin 30 rfl) (by decide) ?_
          have hbz : (0 : Int32) = 0 ∨ (0 : Int32) = 1 := (by decide)
          cases hsem
          exact r_zret X (pc := 56) rfl (zw_bzn hbz).1 (zw_dg dk_Text_takesJoin 31 rfl)
        · have hsem := zw_ifn (by rw [hbb10]; exact Bool.false_ne_true) hsb10
          refine r_aload_n X (pc := 57) (i := 0) (zw_dg dk_Text_takesJoin 32 rfl) rfl rfl ?_
          refine r_getR X (pc := 58) (r := 44) ci_Text (zo hS 40 rfl rfl) rfl (zr hS 40 6 rfl rfl) lk_Text_21 (zw_dg dk_Text_takesJoin 33 rfl) ?_
          refine r_aload_n X (pc := 61) (i := 0) (zw_dg dk_Text_takesJoin 34 rfl) rfl rfl ?_
          refine r_getI X (pc := 62) ci_Text (zo hS 40 rfl rfl) rfl lk_Text_49 (zw_dg dk_Text_takesJoin 35 rfl) ?_
          refine r_dup2 X (pc := 65) (zw_dg dk_Text_takesJoin 36 rfl) rfl rfl ?_
          obtain ⟨x14, hx14, hsem⟩ := zw_bd hsem
          refine r_zald X (pc := 66) (zo hS 44 rfl rfl) hx14 (zw_dg dk_Text_takesJoin 37 rfl) ?_
          refine zw_ter (P := (bond7 = 1)) (f := Value.int) (x := 1) (y := 0) (J := 77) (st2 := [.int x14, .int (c4.1 40 7), .ref 44]) (fun jT jF => ?_) ?_
          · --
            refine r_iload_n X (pc := 67) (i := 2) (zw_dg dk_Text_takesJoin 38 rfl) rfl rfl ?_
            refine r_iconst X (pc := 68) (v := 1) (zw_dg dk_Text_takesJoin 39 rfl) (by decide) ?_
            refine r_icmp_ne X (pc := 69) (tgt := 76) (zw_dg dk_Text_takesJoin 40 rfl) (by decide) (fun q15 => ?_) (fun q15 => ?_)
            · --
              refine r_iconst X (pc := 76) (v := 0) (zw_dg dk_Text_takesJoin 43 rfl) (by decide) ?_
              exact jF q15
            · --
              refine r_iconst X (pc := 72) (v := 1) (zw_dg dk_Text_takesJoin 41 rfl) (by decide) ?_
              refine r_goto X (pc := 73) (tgt := 77) (zw_dg dk_Text_takesJoin 42 rfl) (by decide) ?_
              exact jT q15
          refine r_ior X (pc := 77) (zw_dg dk_Text_takesJoin 44 rfl)  ?_
          obtain ⟨z16, hz16, hsem⟩ := zw_bd hsem
          obtain ⟨hzz16, hz16⟩ := zw_bz_of hz16
          refine zw_eqtI3 hz16 ?_
          obtain ⟨c17, hc17, hsem⟩ := zw_bd hsem
          refine r_zast X (pc := 78) (zo hS 44 rfl rfl) (by rw [(zw_bzn (by rw [← hz16]; exact hzz16)).2.2]; exact hc17) (zw_dg dk_Text_takesJoin 45 rfl) ?_
          refine r_aload_n X (pc := 79) (i := 0) (zw_dg dk_Text_takesJoin 46 rfl) rfl rfl ?_
          refine r_iload_n X (pc := 80) (i := 2) (zw_dg dk_Text_takesJoin 47 rfl) rfl rfl ?_
          obtain ⟨c18, hc18, hsem⟩ := zw_bd hsem
          refine r_callVv X (pc := 81) (As := [_]) (st := []) (km_Text_release hS hc18) ce_Text_release kw_682 (zo hS 40 rfl rfl) rfl rfl ⟨Nat.le_of_ble_eq_true rfl, Nat.le_of_ble_eq_true rfl⟩ (Nat.le_of_ble_eq_true rfl) (zw_dg dk_Text_takesJoin 48 rfl) ?_
          refine r_aload_n X (pc := 84) (i := 0) (zw_dg dk_Text_takesJoin 49 rfl) rfl rfl ?_
          refine r_iload_n X (pc := 85) (i := 1) (zw_dg dk_Text_takesJoin 50 rfl) rfl rfl ?_
          obtain ⟨c19, hc19, hsem⟩ := zw_bd hsem
          refine r_callVv X (pc := 86) (As := [_]) (st := []) (km_Text_hold hS hc19) ce_Text_hold kw_572 (zo hS 40 rfl rfl) rfl rfl ⟨Nat.le_of_ble_eq_true rfl, Nat.le_of_ble_eq_true rfl⟩ (Nat.le_of_ble_eq_true rfl) (zw_dg dk_Text_takesJoin 51 rfl) ?_
          refine r_aload_n X (pc := 89) (i := 0) (zw_dg dk_Text_takesJoin 52 rfl) rfl rfl ?_
          refine r_iconst X (pc := 90) (v := 1) (zw_dg dk_Text_takesJoin 53 rfl) (by decide) ?_
          refine r_putI X (pc := 91) ci_Text (zo hS 40 rfl rfl) rfl lk_Text_38 rfl ⟨by decide, by decide⟩ (zw_dg dk_Text_takesJoin 54 rfl) ?_
          obtain ⟨c20, hc20, hsem⟩ := zw_bd hsem
          refine zw_topC hc20 ?_
          refine r_iconst X (pc := 94) (v := 1) (zw_dg dk_Text_takesJoin 55 rfl) (by decide) ?_
          have hbz : (1 : Int32) = 0 ∨ (1 : Int32) = 1 := (by decide)
          cases hsem
          exact r_zret X (pc := 95) rfl (zw_bzn hbz).1 (zw_dg dk_Text_takesJoin 56 rfl)
    · --
      have p5 : (sign1 = 41) := q6
      have hsem := zw_ifp p5 hsem
      refine r_aload_n X (pc := 24) (i := 0) (zw_dg dk_Text_takesJoin 13 rfl) rfl rfl ?_
      obtain ⟨⟨r21, c22⟩, hr21_c22, hsem⟩ := zw_bd hsem
      refine r_callVi X (pc := 25) (As := []) (st := []) (km_Text_closes hS hr21_c22) ce_Text_closes kw_678 (zo hS 40 rfl rfl) rfl rfl ⟨Nat.le_of_ble_eq_true rfl, Nat.le_of_ble_eq_true rfl⟩ (Nat.le_of_ble_eq_true rfl) (zw_dg dk_Text_takesJoin 14 rfl) ?_
      obtain ⟨z23, hz23, hsem⟩ := zw_bd hsem
      obtain ⟨hzz23, hz23⟩ := zw_bz_of hz23
      refine zw_eqtI hz23 ?_
      have hbz : (z23 : Int32) = 0 ∨ (z23 : Int32) = 1 := (by rw [← hz23]; exact hzz23)
      cases hsem
      exact r_zret X (pc := 28) rfl (zw_bzn hbz).1 (zw_dg dk_Text_takesJoin 15 rfl)
  · --
    have p2 : (¬ (fn_Text_isDigit sign1) = 0) := q3
    have hsem := zw_ifp p2 hsem
    refine r_aload_n X (pc := 7) (i := 0) (zw_dg dk_Text_takesJoin 3 rfl) rfl rfl ?_
    refine r_iload_n X (pc := 8) (i := 1) (zw_dg dk_Text_takesJoin 4 rfl) rfl rfl ?_
    obtain ⟨⟨r24, c25⟩, hr24_c25, hsem⟩ := zw_bd hsem
    refine r_callVi X (pc := 9) (As := [_]) (st := []) (km_Text_goesOn hS hr24_c25) ce_Text_goesOn kw_674 (zo hS 40 rfl rfl) rfl rfl ⟨Nat.le_of_ble_eq_true rfl, Nat.le_of_ble_eq_true rfl⟩ (Nat.le_of_ble_eq_true rfl) (zw_dg dk_Text_takesJoin 5 rfl) ?_
    obtain ⟨z26, hz26, hsem⟩ := zw_bd hsem
    obtain ⟨hzz26, hz26⟩ := zw_bz_of hz26
    refine zw_eqtI hz26 ?_
    have hbz : (z26 : Int32) = 0 ∨ (z26 : Int32) = 1 := (by rw [← hz26]; exact hzz26)
    cases hsem
    exact r_zret X (pc := 12) rfl (zw_bzn hbz).1 (zw_dg dk_Text_takesJoin 6 rfl)
def y_Text_firstWrong : MethodName := ⟨R_Text, "firstWrong", "()I"⟩
abbrev b_Text_firstWrong : ByteArray := prog_12_method_5_code
def dl_Text_firstWrong : List (Nat × Instr × Nat) := [(0, .aload_n 0, 1), (1, .invokevirtual 29, 3), (4, .aload_n 0, 1), (5, .getfield 25, 3), (8, .bipush 60, 2), (10, .invokestatic 32, 3), (13, .istore_n 1, 1), (14, .iconst 0, 1), (15, .istore_n 2, 1), (16, .iload_n 2, 1), (17, .iload_n 1, 1), (18, .if_icmp .ge 46, 3), (21, .aload_n 0, 1), (22, .getfield 38, 3), (25, .ifCond .eq 16, 3), (28, .aload_n 0, 1), (29, .aload_n 0, 1), (30, .getfield 11, 3), (33, .iload_n 2, 1), (34, .iaload, 1), (35, .invokevirtual 42, 3), (38, .goto 13, 3), (41, .aload_n 0, 1), (42, .aload_n 0, 1), (43, .getfield 11, 3), (46, .iload_n 2, 1), (47, .iaload, 1), (48, .invokevirtual 46, 3), (51, .istore_n 3, 1), (52, .iload_n 3, 1), (53, .ifCond .ne 5, 3), (56, .iload_n 2, 1), (57, .ireturn, 1), (58, .iinc 2 1, 3), (61, .goto (-45), 3), (64, .aload_n 0, 1), (65, .getfield 25, 3), (68, .bipush 60, 2), (70, .if_icmp .gt 17, 3), (73, .aload_n 0, 1), (74, .getfield 38, 3), (77, .ifCond .ne 10, 3), (80, .aload_n 0, 1), (81, .getfield 49, 3), (84, .ifCond .le 5, 3), (87, .iload_n 1, 1), (88, .ireturn, 1), (89, .aload_n 0, 1), (90, .iconst 1, 1), (91, .invokevirtual 52, 3), (94, .iconst (-1), 1), (95, .ireturn, 1)]
theorem dk_Text_firstWrong : zw_dk b_Text_firstWrong dl_Text_firstWrong = true := by decide +kernel
theorem ce_Text_firstWrong : zw_cev y_Text_firstWrong b_Text_firstWrong 4 (some .int) 0 := ⟨⟨kt_in 562 (by decide +kernel) rfl, kt_in 91 (by decide +kernel) rfl, by decide +kernel⟩, kt_in 560 (by decide +kernel) rfl, kt_in 561 (by decide +kernel) rfl⟩
def fn_Text_firstWrong_l1 (end4 : Int32) : Int32 × zw_Ct → Option (((Int32 × zw_Ct) ⊕ (zw_Ct)) ⊕ (Int32 × zw_Ct)) := fun (p5, c6) =>
  if (p5 < end4) then
  ((if (¬ (c6.1 40 9) = 0) then
  ((zw_aI 80 c6 41 p5).bind fun x18 =>
  (fn_Text_takesThing c6 x18).bind fun (r19, c20) =>
  some ((r19 : Int32), c20))
  else
  ((zw_aI 80 c6 41 p5).bind fun x15 =>
  (fn_Text_takesJoin c6 x15).bind fun (r16, c17) =>
  some ((r16 : Int32), c17))).bind fun (v11, c12) =>
  if (¬ (¬ v11 = 0)) then
  (some (.inl (.inl (p5, c12))))
  else
  (some (.inr ((p5 + 1), c12))))
  else
  (some (.inl (.inr c6)))
def fn_Text_firstWrong (c : zw_Ct) : Option (Int32 × zw_Ct) :=
  (fn_Text_startReading c).bind fun c3 =>
  (some ((if 60 < (c3.1 40 1) then 60 else (c3.1 40 1)) : Int32)).bind fun end4 =>
  (zw_whl (fn_Text_firstWrong_l1 end4) zw_F (0, c3)).bind fun q => match q with
    | .inl w => some w
    | .inr c7 =>
    if (((60 < (c7.1 40 1)) ∨ (¬ (c7.1 40 9) = 0)) ∨ (0 < (c7.1 40 7))) then
    (some (end4, c7))
    else
    ((fn_Text_release c7 1).bind fun c27 =>
    some ((-1), c27))
set_option maxRecDepth 100000 in
theorem km_Text_firstWrong {l : Launch} {g : zw_G} {rr : zw_RR} {sh : zw_Sh} {c : zw_Ct} {r : Int32} {c2 : zw_Ct} (hS : zw_Ok 0 101 sh rr) (hsem : fn_Text_firstWrong c = some (r, c2)) : zw_Met l g y_Text_firstWrong b_Text_firstWrong 4 (some .int) 6 rr sh [.ref 40] c (some (.int r)) c2 := by
  unfold fn_Text_firstWrong at hsem
  refine zw_Met.of (by decide +kernel) (Nat.le_of_ble_eq_true rfl) (fun p e s m args below meth cd X => ?_)
  refine zw_eL (L2 := [some (.ref 40), none, none, none]) rfl ?_
  refine r_aload_n X (pc := 0) (i := 0) (zw_dg dk_Text_firstWrong 0 rfl) rfl rfl ?_
  obtain ⟨c3, hc3, hsem⟩ := zw_bd hsem
  refine r_callVv X (pc := 1) (As := []) (st := []) (km_Text_startReading hS hc3) ce_Text_startReading kw_563 (zo hS 40 rfl rfl) rfl rfl ⟨Nat.le_of_ble_eq_true rfl, Nat.le_of_ble_eq_true rfl⟩ (Nat.le_of_ble_eq_true rfl) (zw_dg dk_Text_firstWrong 1 rfl) ?_
  refine r_aload_n X (pc := 4) (i := 0) (zw_dg dk_Text_firstWrong 2 rfl) rfl rfl ?_
  refine r_getI X (pc := 5) ci_Text (zo hS 40 rfl rfl) rfl lk_Text_25 (zw_dg dk_Text_firstWrong 3 rfl) ?_
  refine r_bipush X (pc := 8) (v := 60) (zw_dg dk_Text_firstWrong 4 rfl) (by decide) ?_
  refine r_mmin X (pc := 10) kw_567 mws_min kw_88 mwc_min ⟨Nat.le_of_ble_eq_true rfl, Nat.le_of_ble_eq_true rfl⟩ (st := []) (Nat.le_of_ble_eq_true rfl) (zw_dg dk_Text_firstWrong 5 rfl) ?_
  obtain ⟨end4, hend4, hsem⟩ := zw_bd hsem
  refine zw_topI hend4 ?_
  refine r_istore_n X (pc := 13) (i := 1) (zw_dg dk_Text_firstWrong 6 rfl) rfl (by decide) rfl ?_
  refine r_iconst X (pc := 14) (v := 0) (zw_dg dk_Text_firstWrong 7 rfl) (by decide) ?_
  refine r_istore_n X (pc := 15) (i := 2) (zw_dg dk_Text_firstWrong 8 rfl) rfl (by decide) rfl ?_
  obtain ⟨l8, hl8, hsl8⟩ := zw_bd hsem
  refine r_loopR (pc := 16) (pce := 64) hl8 (fun (p5, c6) => [some (.ref 40), some (.int end4), some (.int p5), none] : Int32 × zw_Ct → zw_Lc) (fun (p5, c6) => c6 : Int32 × zw_Ct → zw_Ct) (fun c7 => [some (.ref 40), some (.int end4), none, none] : zw_Ct → zw_Lc) (fun c7 => c7 : zw_Ct → zw_Ct) (fun w => w = (r, c2)) ?_ rfl rfl ?_ ?_
  · rintro ⟨p5, c6⟩ rr hsem hR hK hP
    try unfold fn_Text_firstWrong_l1 at hsem
    refine r_iload_n X (pc := 16) (i := 2) (zw_dg dk_Text_firstWrong 9 rfl) rfl rfl ?_
    refine r_iload_n X (pc := 17) (i := 1) (zw_dg dk_Text_firstWrong 10 rfl) rfl rfl ?_
    refine r_icmp_ge X (pc := 18) (tgt := 64) (zw_dg dk_Text_firstWrong 11 rfl) (by decide) (fun q10 => ?_) (fun q10 => ?_)
    · --
      have p9 : ¬ (p5 < end4) := (Int32.not_lt.mpr q10)
      have hsem := zw_ifn p9 hsem
      have jj := hK _ (Option.some.inj hsem).symm
      exact (r_fgt [2] rfl jj)
    · --
      have p9 : (p5 < end4) := (Int32.not_le.mp q10)
      have hsem := zw_ifp p9 hsem
      obtain ⟨⟨v11, c12⟩, hv11, hsv11⟩ := zw_bd hsem
      refine zw_terO (f := Value.int) (v := v11) (J := 51) (st2 := []) (c2 := c12) (fun jj => ?_) ?_
      · have hsem := hv11
        refine r_aload_n X (pc := 21) (i := 0) (zw_dg dk_Text_firstWrong 12 rfl) rfl rfl ?_
        refine r_getI X (pc := 22) ci_Text (zo hS 40 rfl rfl) rfl lk_Text_38 (zw_dg dk_Text_firstWrong 13 rfl) ?_
        refine r_if_eq X (pc := 25) (tgt := 41) (zw_dg dk_Text_firstWrong 14 rfl) (by decide) (fun q14 => ?_) (fun q14 => ?_)
        · --
          have p13 : ¬ (¬ (c6.1 40 9) = 0) := (fun z => z q14)
          have hsem := zw_ifn p13 hsem
          refine r_aload_n X (pc := 41) (i := 0) (zw_dg dk_Text_firstWrong 22 rfl) rfl rfl ?_
          refine r_aload_n X (pc := 42) (i := 0) (zw_dg dk_Text_firstWrong 23 rfl) rfl rfl ?_
          refine r_getR X (pc := 43) (r := 41) ci_Text (zo hS 40 rfl rfl) rfl (zr hS 40 0 rfl rfl) lk_Text_11 (zw_dg dk_Text_firstWrong 24 rfl) ?_
          refine r_iload_n X (pc := 46) (i := 2) (zw_dg dk_Text_firstWrong 25 rfl) rfl rfl ?_
          obtain ⟨x15, hx15, hsem⟩ := zw_bd hsem
          refine r_iald X (pc := 47) (zo hS 41 rfl rfl) hx15 (zw_dg dk_Text_firstWrong 26 rfl) ?_
          obtain ⟨⟨r16, c17⟩, hr16_c17, hsem⟩ := zw_bd hsem
          refine r_callVi X (pc := 48) (As := [_]) (st := []) (km_Text_takesJoin hS hr16_c17) ce_Text_takesJoin kw_670 (zo hS 40 rfl rfl) rfl rfl ⟨Nat.le_of_ble_eq_true rfl, Nat.le_of_ble_eq_true rfl⟩ (Nat.le_of_ble_eq_true rfl) (zw_dg dk_Text_firstWrong 27 rfl) ?_
          cases hsem; exact jj
        · --
          have p13 : (¬ (c6.1 40 9) = 0) := q14
          have hsem := zw_ifp p13 hsem
          refine r_aload_n X (pc := 28) (i := 0) (zw_dg dk_Text_firstWrong 15 rfl) rfl rfl ?_
          refine r_aload_n X (pc := 29) (i := 0) (zw_dg dk_Text_firstWrong 16 rfl) rfl rfl ?_
          refine r_getR X (pc := 30) (r := 41) ci_Text (zo hS 40 rfl rfl) rfl (zr hS 40 0 rfl rfl) lk_Text_11 (zw_dg dk_Text_firstWrong 17 rfl) ?_
          refine r_iload_n X (pc := 33) (i := 2) (zw_dg dk_Text_firstWrong 18 rfl) rfl rfl ?_
          obtain ⟨x18, hx18, hsem⟩ := zw_bd hsem
          refine r_iald X (pc := 34) (zo hS 41 rfl rfl) hx18 (zw_dg dk_Text_firstWrong 19 rfl) ?_
          obtain ⟨⟨r19, c20⟩, hr19_c20, hsem⟩ := zw_bd hsem
          refine r_callVi X (pc := 35) (As := [_]) (st := []) (km_Text_takesThing hS hr19_c20) ce_Text_takesThing kw_568 (zo hS 40 rfl rfl) rfl rfl ⟨Nat.le_of_ble_eq_true rfl, Nat.le_of_ble_eq_true rfl⟩ (Nat.le_of_ble_eq_true rfl) (zw_dg dk_Text_firstWrong 20 rfl) ?_
          refine r_goto X (pc := 38) (tgt := 51) (zw_dg dk_Text_firstWrong 21 rfl) (by decide) ?_
          cases hsem; exact jj
      have hsem := hsv11
      refine r_istore_n X (pc := 51) (i := 3) (zw_dg dk_Text_firstWrong 28 rfl) rfl (by decide) rfl ?_
      refine r_iload_n X (pc := 52) (i := 3) (zw_dg dk_Text_firstWrong 29 rfl) rfl rfl ?_
      refine r_if_ne X (pc := 53) (tgt := 58) (zw_dg dk_Text_firstWrong 30 rfl) (by decide) (fun q22 => ?_) (fun q22 => ?_)
      · --
        have p21 : ¬ (¬ (¬ v11 = 0)) := (fun q => q q22)
        have hsem := zw_ifn p21 hsem
        refine r_iinc X (pc := 58) (i := 2) (k := 1) (zw_dg dk_Text_firstWrong 33 rfl) rfl (by decide) (by decide) rfl ?_
        refine r_goto X (pc := 61) (tgt := 16) (zw_dg dk_Text_firstWrong 34 rfl) (by decide) ?_
        have jj := hP _ (Option.some.inj hsem).symm
        exact (r_fgt [3] rfl jj)
      · --
        have p21 : (¬ (¬ v11 = 0)) := (fun z => z q22)
        have hsem := zw_ifp p21 hsem
        refine r_iload_n X (pc := 56) (i := 2) (zw_dg dk_Text_firstWrong 31 rfl) rfl rfl ?_
        have hret := hR _ (Option.some.inj hsem).symm
        cases hret
        exact r_iret X (pc := 57) rfl (zw_dg dk_Text_firstWrong 32 rfl)
  · intro w hw
    subst hw
    exact Option.some.inj hsl8
  rintro c7 hw
  subst hw
  have hsem := hsl8
  refine zw_cnd (P := (((60 < (c7.1 40 1)) ∨ (¬ (c7.1 40 9) = 0)) ∨ (0 < (c7.1 40 7)))) (J1 := 87) (J2 := 89) (st2 := []) (fun jT jF => ?_) (fun p23 => ?_) (fun p23 => ?_)
  · --
    refine r_aload_n X (pc := 64) (i := 0) (zw_dg dk_Text_firstWrong 35 rfl) rfl rfl ?_
    refine r_getI X (pc := 65) ci_Text (zo hS 40 rfl rfl) rfl lk_Text_25 (zw_dg dk_Text_firstWrong 36 rfl) ?_
    refine r_bipush X (pc := 68) (v := 60) (zw_dg dk_Text_firstWrong 37 rfl) (by decide) ?_
    refine r_icmp_gt X (pc := 70) (tgt := 87) (zw_dg dk_Text_firstWrong 38 rfl) (by decide) (fun q24 => ?_) (fun q24 => ?_)
    · --
      exact jT (Or.inl (Or.inl q24))
    · --
      refine r_aload_n X (pc := 73) (i := 0) (zw_dg dk_Text_firstWrong 39 rfl) rfl rfl ?_
      refine r_getI X (pc := 74) ci_Text (zo hS 40 rfl rfl) rfl lk_Text_38 (zw_dg dk_Text_firstWrong 40 rfl) ?_
      refine r_if_ne X (pc := 77) (tgt := 87) (zw_dg dk_Text_firstWrong 41 rfl) (by decide) (fun q25 => ?_) (fun q25 => ?_)
      · --
        exact jT (Or.inl (Or.inr q25))
      · --
        refine r_aload_n X (pc := 80) (i := 0) (zw_dg dk_Text_firstWrong 42 rfl) rfl rfl ?_
        refine r_getI X (pc := 81) ci_Text (zo hS 40 rfl rfl) rfl lk_Text_49 (zw_dg dk_Text_firstWrong 43 rfl) ?_
        refine r_if_le X (pc := 84) (tgt := 89) (zw_dg dk_Text_firstWrong 44 rfl) (by decide) (fun q26 => ?_) (fun q26 => ?_)
        · --
          exact jF (fun q => q.elim (fun q => q.elim q24 (fun z => z q25)) (Int32.not_lt.mpr q26))
        · --
          exact jT (Or.inr (Int32.not_le.mp q26))
  · --
    have hsem := zw_ifp p23 hsem
    refine r_iload_n X (pc := 87) (i := 1) (zw_dg dk_Text_firstWrong 45 rfl) rfl rfl ?_
    cases hsem
    exact r_iret X (pc := 88) rfl (zw_dg dk_Text_firstWrong 46 rfl)
  · --
    have hsem := zw_ifn p23 hsem
    refine r_aload_n X (pc := 89) (i := 0) (zw_dg dk_Text_firstWrong 47 rfl) rfl rfl ?_
    refine r_iconst X (pc := 90) (v := 1) (zw_dg dk_Text_firstWrong 48 rfl) (by decide) ?_
    obtain ⟨c27, hc27, hsem⟩ := zw_bd hsem
    refine r_callVv X (pc := 91) (As := [_]) (st := []) (km_Text_release hS hc27) ce_Text_release kw_682 (zo hS 40 rfl rfl) rfl rfl ⟨Nat.le_of_ble_eq_true rfl, Nat.le_of_ble_eq_true rfl⟩ (Nat.le_of_ble_eq_true rfl) (zw_dg dk_Text_firstWrong 49 rfl) ?_
    refine r_iconst X (pc := 94) (v := (-1)) (zw_dg dk_Text_firstWrong 50 rfl) (by decide) ?_
    cases hsem
    exact r_iret X (pc := 95) rfl (zw_dg dk_Text_firstWrong 51 rfl)
