/-! PaidForThinking$Held: names, functions, contracts (by program: wip/whole/gen) -/
def y_Held_entry : MethodName := ⟨R_Held, "entry", "(II)I"⟩
abbrev b_Held_entry : ByteArray := prog_4_method_3_code
def dl_Held_entry : List (Nat × Instr × Nat) := [(0, .iload_n 0, 1), (1, .ifCond .ne 8, 3), (4, .iload_n 1, 1), (5, .i2b, 1), (6, .goto 14, 3), (9, .iload_n 0, 1), (10, .iconst 1, 1), (11, .if_icmp .ne 8, 3), (14, .iload_n 1, 1), (15, .i2s, 1), (16, .goto 4, 3), (19, .iload_n 1, 1), (20, .istore_n 2, 1), (21, .sipush (-9999), 3), (24, .sipush 9999, 3), (27, .iload_n 2, 1), (28, .invokestatic 41, 3), (31, .invokestatic 46, 3), (34, .ireturn, 1)]
theorem dk_Held_entry : zw_dk b_Held_entry dl_Held_entry = true := by decide +kernel
theorem ce_Held_entry : zw_ces y_Held_entry b_Held_entry 3 (some .int) 2 := ⟨⟨kt_in 179 (by decide +kernel) rfl, kt_in 87 (by decide +kernel) rfl, by decide +kernel⟩, kt_in 178 (by decide +kernel) rfl⟩
def fn_Held_entry (kind1 : Int32) (v2 : Int32) : Int32 :=
  (if (-9999) < (if (if (kind1 = 0) then (v2.toInt8.toInt32 : Int32) else (if (kind1 = 1) then (v2.toInt16.toInt32 : Int32) else v2)) < 9999 then (if (kind1 = 0) then (v2.toInt8.toInt32 : Int32) else (if (kind1 = 1) then (v2.toInt16.toInt32 : Int32) else v2)) else 9999) then (if (if (kind1 = 0) then (v2.toInt8.toInt32 : Int32) else (if (kind1 = 1) then (v2.toInt16.toInt32 : Int32) else v2)) < 9999 then (if (kind1 = 0) then (v2.toInt8.toInt32 : Int32) else (if (kind1 = 1) then (v2.toInt16.toInt32 : Int32) else v2)) else 9999) else (-9999))
set_option maxRecDepth 100000 in
theorem km_Held_entry {l : Launch} {g : zw_G} {rr : zw_RR} {sh : zw_Sh} {c : zw_Ct} {kind1 : Int32} {v2 : Int32} {r : Int32}  (hsem : fn_Held_entry kind1 v2 = r) : zw_Met l g y_Held_entry b_Held_entry 3 (some .int) 1 rr sh [.int kind1, .int v2] c (some (.int r)) c := by
  unfold fn_Held_entry at hsem
  refine zw_Met.of (by decide +kernel) (Nat.le_of_ble_eq_true rfl) (fun p e s m args below meth cd X => ?_)
  refine zw_eL (L2 := [some (.int kind1), some (.int v2), none]) rfl ?_
  refine zw_ter (P := (kind1 = 0)) (f := Value.int) (x := v2.toInt8.toInt32) (y := (if (kind1 = 1) then (v2.toInt16.toInt32 : Int32) else v2)) (J := 20) (st2 := []) (fun jT jF => ?_) ?_
  · --
    refine r_iload_n X (pc := 0) (i := 0) (zw_dg dk_Held_entry 0 rfl) rfl rfl ?_
    refine r_if_ne X (pc := 1) (tgt := 9) (zw_dg dk_Held_entry 1 rfl) (by decide) (fun q3 => ?_) (fun q3 => ?_)
    · --
      refine zw_ter (P := (kind1 = 1)) (f := Value.int) (x := v2.toInt16.toInt32) (y := v2) (J := 20) (st2 := []) (fun jT jF => ?_) ?_
      · --
        refine r_iload_n X (pc := 9) (i := 0) (zw_dg dk_Held_entry 5 rfl) rfl rfl ?_
        refine r_iconst X (pc := 10) (v := 1) (zw_dg dk_Held_entry 6 rfl) (by decide) ?_
        refine r_icmp_ne X (pc := 11) (tgt := 19) (zw_dg dk_Held_entry 7 rfl) (by decide) (fun q4 => ?_) (fun q4 => ?_)
        · --
          refine r_iload_n X (pc := 19) (i := 1) (zw_dg dk_Held_entry 11 rfl) rfl rfl ?_
          exact jF q4
        · --
          refine r_iload_n X (pc := 14) (i := 1) (zw_dg dk_Held_entry 8 rfl) rfl rfl ?_
          refine r_i2s X (pc := 15) (zw_dg dk_Held_entry 9 rfl)  ?_
          refine r_goto X (pc := 16) (tgt := 20) (zw_dg dk_Held_entry 10 rfl) (by decide) ?_
          exact jT q4
      exact jF q3
    · --
      refine r_iload_n X (pc := 4) (i := 1) (zw_dg dk_Held_entry 2 rfl) rfl rfl ?_
      refine r_i2b X (pc := 5) (zw_dg dk_Held_entry 3 rfl)  ?_
      refine r_goto X (pc := 6) (tgt := 20) (zw_dg dk_Held_entry 4 rfl) (by decide) ?_
      exact jT q3
  refine r_istore_n X (pc := 20) (i := 2) (zw_dg dk_Held_entry 12 rfl) rfl (by decide) rfl ?_
  refine r_sipush X (pc := 21) (v := (-9999)) (zw_dg dk_Held_entry 13 rfl) (by decide) ?_
  refine r_sipush X (pc := 24) (v := 9999) (zw_dg dk_Held_entry 14 rfl) (by decide) ?_
  refine r_iload_n X (pc := 27) (i := 2) (zw_dg dk_Held_entry 15 rfl) rfl rfl ?_
  refine r_mmin X (pc := 28) kw_180 mws_min kw_88 mwc_min ⟨Nat.le_of_ble_eq_true rfl, Nat.le_of_ble_eq_true rfl⟩ (st := [.int (-9999)]) (Nat.le_of_ble_eq_true rfl) (zw_dg dk_Held_entry 16 rfl) ?_
  refine r_mmax X (pc := 31) kw_183 mws_max kw_88 mwc_max ⟨Nat.le_of_ble_eq_true rfl, Nat.le_of_ble_eq_true rfl⟩ (st := []) (Nat.le_of_ble_eq_true rfl) (zw_dg dk_Held_entry 17 rfl) ?_
  have hsem : ((if (-9999) < (if (if (kind1 = 0) then (v2.toInt8.toInt32 : Int32) else (if (kind1 = 1) then (v2.toInt16.toInt32 : Int32) else v2)) < 9999 then (if (kind1 = 0) then (v2.toInt8.toInt32 : Int32) else (if (kind1 = 1) then (v2.toInt16.toInt32 : Int32) else v2)) else 9999) then (if (if (kind1 = 0) then (v2.toInt8.toInt32 : Int32) else (if (kind1 = 1) then (v2.toInt16.toInt32 : Int32) else v2)) < 9999 then (if (kind1 = 0) then (v2.toInt8.toInt32 : Int32) else (if (kind1 = 1) then (v2.toInt16.toInt32 : Int32) else v2)) else 9999) else (-9999)) : _) = r := hsem
  cases hsem
  exact r_iret X (pc := 34) rfl (zw_dg dk_Held_entry 18 rfl)
def y_Held_readSheet : MethodName := ⟨R_Held, "readSheet", "(IIII)I"⟩
abbrev b_Held_readSheet : ByteArray := prog_4_method_2_code
def dl_Held_readSheet : List (Nat × Instr × Nat) := [(0, .iconst 0, 1), (1, .istore 5, 2), (3, .iconst 0, 1), (4, .istore 6, 2), (6, .iload 6, 2), (8, .bipush 13, 2), (10, .if_icmp .ge 53, 3), (13, .aload_n 0, 1), (14, .getfield 9, 3), (17, .iload 6, 2), (19, .iload 6, 2), (21, .iload_n 2, 1), (22, .if_icmp .ge 17, 3), (25, .iload_n 1, 1), (26, .iload_n 3, 1), (27, .iload 6, 2), (29, .iload 4, 2), (31, .imul, 1), (32, .iadd, 1), (33, .invokestatic 37, 3), (36, .goto 8, 3), (39, .iload 6, 2), (41, .iload 6, 2), (43, .imul, 1), (44, .iastore, 1), (45, .iload 5, 2), (47, .aload_n 0, 1), (48, .getfield 9, 3), (51, .iload 6, 2), (53, .iaload, 1), (54, .iadd, 1), (55, .istore 5, 2), (57, .iinc 6 1, 3), (60, .goto (-54), 3), (63, .iload 5, 2), (65, .ireturn, 1)]
theorem dk_Held_readSheet : zw_dk b_Held_readSheet dl_Held_readSheet = true := by decide +kernel
theorem ce_Held_readSheet : zw_cev y_Held_readSheet b_Held_readSheet 7 (some .int) 4 := ⟨⟨kt_in 176 (by decide +kernel) rfl, kt_in 87 (by decide +kernel) rfl, by decide +kernel⟩, kt_in 174 (by decide +kernel) rfl, kt_in 175 (by decide +kernel) rfl⟩
def fn_Held_readSheet_l1 (o : Nat) (n2 : Int32) (kind1 : Int32) (f3 : Int32) (step4 : Int32) : Int32 × Int32 × zw_Ct → Option ((Int32 × zw_Ct) ⊕ (Int32 × Int32 × zw_Ct)) := fun (sum5, i6, c7) =>
  if (i6 < 13) then
  ((zw_uI 13 c7 (o + 1) i6 (if (i6 < n2) then ((fn_Held_entry kind1 (f3 + (i6 * step4))) : Int32) else (i6 * i6))).bind fun c14 =>
  (zw_aI 13 c14 (o + 1) i6).bind fun x15 =>
  (some ((sum5 + x15) : Int32)).bind fun sum16 =>
  some (.inr (sum16, (i6 + 1), c14)))
  else
  (some (.inl (sum5, c7)))
def fn_Held_readSheet (o : Nat) (c : zw_Ct) (kind1 : Int32) (n2 : Int32) (f3 : Int32) (step4 : Int32) : Option (Int32 × zw_Ct) :=
  (zw_whl (fn_Held_readSheet_l1 o n2 kind1 f3 step4) zw_F (0, 0, c)).bind fun (sum8, c9) =>
  some (sum8, c9)
set_option maxRecDepth 100000 in
theorem km_Held_readSheet {l : Launch} {g : zw_G} {rr : zw_RR} {sh : zw_Sh} {c : zw_Ct} {o : Nat} {kind1 : Int32} {n2 : Int32} {f3 : Int32} {step4 : Int32} {r : Int32} {c2 : zw_Ct} (hO : zw_HO o sh rr) (hsem : fn_Held_readSheet o c kind1 n2 f3 step4 = some (r, c2)) : zw_Met l g y_Held_readSheet b_Held_readSheet 7 (some .int) 2 rr sh [.ref o, .int kind1, .int n2, .int f3, .int step4] c (some (.int r)) c2 := by
  unfold fn_Held_readSheet at hsem
  refine zw_Met.of (by decide +kernel) (Nat.le_of_ble_eq_true rfl) (fun p e s m args below meth cd X => ?_)
  refine zw_eL (L2 := [some (.ref o), some (.int kind1), some (.int n2), some (.int f3), some (.int step4), none, none]) rfl ?_
  refine r_iconst X (pc := 0) (v := 0) (zw_dg dk_Held_readSheet 0 rfl) (by decide) ?_
  refine r_istore X (pc := 1) (i := 5) (zw_dg dk_Held_readSheet 1 rfl) (by decide) rfl ?_
  refine r_iconst X (pc := 3) (v := 0) (zw_dg dk_Held_readSheet 2 rfl) (by decide) ?_
  refine r_istore X (pc := 4) (i := 6) (zw_dg dk_Held_readSheet 3 rfl) (by decide) rfl ?_
  obtain ⟨l10, hl10, hsl10⟩ := zw_bd hsem
  refine r_loop (pc := 6) (pce := 63) hl10 (fun (sum5, i6, c7) => [some (.ref o), some (.int kind1), some (.int n2), some (.int f3), some (.int step4), some (.int sum5), some (.int i6)] : Int32 × Int32 × zw_Ct → zw_Lc) (fun (sum5, i6, c7) => c7 : Int32 × Int32 × zw_Ct → zw_Ct) (fun (sum8, c9) => [some (.ref o), some (.int kind1), some (.int n2), some (.int f3), some (.int step4), some (.int sum8), none] : Int32 × zw_Ct → zw_Lc) (fun (sum8, c9) => c9 : Int32 × zw_Ct → zw_Ct) ?_ rfl rfl ?_
  · rintro ⟨sum5, i6, c7⟩ rr hsem hK hP
    try unfold fn_Held_readSheet_l1 at hsem
    refine r_iload X (pc := 6) (i := 6) (zw_dg dk_Held_readSheet 4 rfl) rfl ?_
    refine r_bipush X (pc := 8) (v := 13) (zw_dg dk_Held_readSheet 5 rfl) (by decide) ?_
    refine r_icmp_ge X (pc := 10) (tgt := 63) (zw_dg dk_Held_readSheet 6 rfl) (by decide) (fun q12 => ?_) (fun q12 => ?_)
    · --
      have p11 : ¬ (i6 < 13) := (Int32.not_lt.mpr q12)
      have hsem := zw_ifn p11 hsem
      have jj := hK _ (Option.some.inj hsem).symm
      exact (r_fgt [6] rfl jj)
    · --
      have p11 : (i6 < 13) := (Int32.not_le.mp q12)
      have hsem := zw_ifp p11 hsem
      refine r_aload_n X (pc := 13) (i := 0) (zw_dg dk_Held_readSheet 7 rfl) rfl rfl ?_
      refine r_getR X (pc := 14) (r := (o + 1)) ci_Held (zh hO 0 rfl) rfl (zhr hO 0 rfl) lk_Held_9 (zw_dg dk_Held_readSheet 8 rfl) ?_
      refine r_iload X (pc := 17) (i := 6) (zw_dg dk_Held_readSheet 9 rfl) rfl ?_
      refine zw_ter (P := (i6 < n2)) (f := Value.int) (x := (fn_Held_entry kind1 (f3 + (i6 * step4)))) (y := (i6 * i6)) (J := 44) (st2 := [.int i6, .ref (o + 1)]) (fun jT jF => ?_) ?_
      · --
        refine r_iload X (pc := 19) (i := 6) (zw_dg dk_Held_readSheet 10 rfl) rfl ?_
        refine r_iload_n X (pc := 21) (i := 2) (zw_dg dk_Held_readSheet 11 rfl) rfl rfl ?_
        refine r_icmp_ge X (pc := 22) (tgt := 39) (zw_dg dk_Held_readSheet 12 rfl) (by decide) (fun q13 => ?_) (fun q13 => ?_)
        · --
          refine r_iload X (pc := 39) (i := 6) (zw_dg dk_Held_readSheet 21 rfl) rfl ?_
          refine r_iload X (pc := 41) (i := 6) (zw_dg dk_Held_readSheet 22 rfl) rfl ?_
          refine r_imul X (pc := 43) (zw_dg dk_Held_readSheet 23 rfl)  ?_
          exact jF (Int32.not_lt.mpr q13)
        · --
          refine r_iload_n X (pc := 25) (i := 1) (zw_dg dk_Held_readSheet 13 rfl) rfl rfl ?_
          refine r_iload_n X (pc := 26) (i := 3) (zw_dg dk_Held_readSheet 14 rfl) rfl rfl ?_
          refine r_iload X (pc := 27) (i := 6) (zw_dg dk_Held_readSheet 15 rfl) rfl ?_
          refine r_iload X (pc := 29) (i := 4) (zw_dg dk_Held_readSheet 16 rfl) rfl ?_
          refine r_imul X (pc := 31) (zw_dg dk_Held_readSheet 17 rfl)  ?_
          refine r_iadd X (pc := 32) (zw_dg dk_Held_readSheet 18 rfl)  ?_
          refine r_callSi X (pc := 33) (As := [_, _]) (st := [.int i6, .ref (o + 1)]) (km_Held_entry rfl) ce_Held_entry kw_177 rfl ⟨Nat.le_of_ble_eq_true rfl, Nat.le_of_ble_eq_true rfl⟩ (Nat.le_of_ble_eq_true rfl) (zw_dg dk_Held_readSheet 19 rfl) ?_
          refine r_goto X (pc := 36) (tgt := 44) (zw_dg dk_Held_readSheet 20 rfl) (by decide) ?_
          exact jT (Int32.not_le.mp q13)
      obtain ⟨c14, hc14, hsem⟩ := zw_bd hsem
      refine r_iast X (pc := 44) (zh hO 1 rfl) hc14 (zw_dg dk_Held_readSheet 24 rfl) ?_
      refine r_iload X (pc := 45) (i := 5) (zw_dg dk_Held_readSheet 25 rfl) rfl ?_
      refine r_aload_n X (pc := 47) (i := 0) (zw_dg dk_Held_readSheet 26 rfl) rfl rfl ?_
      refine r_getR X (pc := 48) (r := (o + 1)) ci_Held (zh hO 0 rfl) rfl (zhr hO 0 rfl) lk_Held_9 (zw_dg dk_Held_readSheet 27 rfl) ?_
      refine r_iload X (pc := 51) (i := 6) (zw_dg dk_Held_readSheet 28 rfl) rfl ?_
      obtain ⟨x15, hx15, hsem⟩ := zw_bd hsem
      refine r_iald X (pc := 53) (zh hO 1 rfl) hx15 (zw_dg dk_Held_readSheet 29 rfl) ?_
      refine r_iadd X (pc := 54) (zw_dg dk_Held_readSheet 30 rfl)  ?_
      obtain ⟨sum16, hsum16, hsem⟩ := zw_bd hsem
      refine zw_topI hsum16 ?_
      refine r_istore X (pc := 55) (i := 5) (zw_dg dk_Held_readSheet 31 rfl) (by decide) rfl ?_
      refine r_iinc X (pc := 57) (i := 6) (k := 1) (zw_dg dk_Held_readSheet 32 rfl) rfl (by decide) (by decide) rfl ?_
      refine r_goto X (pc := 60) (tgt := 6) (zw_dg dk_Held_readSheet 33 rfl) (by decide) ?_
      have jj := hP _ (Option.some.inj hsem).symm
      exact (r_fgt [] rfl jj)
  obtain ⟨sum8, c9⟩ := l10
  have hsem := hsl10
  refine r_iload X (pc := 63) (i := 5) (zw_dg dk_Held_readSheet 34 rfl) rfl ?_
  cases hsem
  exact r_iret X (pc := 65) rfl (zw_dg dk_Held_readSheet 35 rfl)
def y_Held_dropPeople : MethodName := ⟨R_Held, "dropPeople", "()V"⟩
abbrev b_Held_dropPeople : ByteArray := prog_4_method_5_code
def dl_Held_dropPeople : List (Nat × Instr × Nat) := [(0, .aload_n 0, 1), (1, .iconst 0, 1), (2, .putfield 56, 3), (5, .aload_n 0, 1), (6, .iconst 0, 1), (7, .putfield 59, 3), (10, .return_, 1)]
theorem dk_Held_dropPeople : zw_dk b_Held_dropPeople dl_Held_dropPeople = true := by decide +kernel
theorem ce_Held_dropPeople : zw_cev y_Held_dropPeople b_Held_dropPeople 1 (none) 0 := ⟨⟨kt_in 503 (by decide +kernel) rfl, kt_in 87 (by decide +kernel) rfl, by decide +kernel⟩, kt_in 501 (by decide +kernel) rfl, kt_in 502 (by decide +kernel) rfl⟩
def fn_Held_dropPeople (o : Nat) (c : zw_Ct) : Option zw_Ct :=
  (some (zw_wI c o 2 0)).bind fun c3 =>
  (some (zw_wI c3 o 6 0)).bind fun c4 =>
  some c4
set_option maxRecDepth 100000 in
theorem km_Held_dropPeople {l : Launch} {g : zw_G} {rr : zw_RR} {sh : zw_Sh} {c : zw_Ct} {o : Nat} {c2 : zw_Ct} (hO : zw_HO o sh rr) (hsem : fn_Held_dropPeople o c = some c2) : zw_Met l g y_Held_dropPeople b_Held_dropPeople 1 (none) 1 rr sh [.ref o] c none c2 := by
  unfold fn_Held_dropPeople at hsem
  refine zw_Met.of (by decide +kernel) (Nat.le_of_ble_eq_true rfl) (fun p e s m args below meth cd X => ?_)
  refine zw_eL (L2 := [some (.ref o)]) rfl ?_
  refine r_aload_n X (pc := 0) (i := 0) (zw_dg dk_Held_dropPeople 0 rfl) rfl rfl ?_
  refine r_iconst X (pc := 1) (v := 0) (zw_dg dk_Held_dropPeople 1 rfl) (by decide) ?_
  refine r_putI X (pc := 2) ci_Held (zh hO 0 rfl) rfl lk_Held_56 rfl ⟨rfl, rfl⟩ (zw_dg dk_Held_dropPeople 2 rfl) ?_
  obtain ⟨c3, hc3, hsem⟩ := zw_bd hsem
  refine zw_topC hc3 ?_
  refine r_aload_n X (pc := 5) (i := 0) (zw_dg dk_Held_dropPeople 3 rfl) rfl rfl ?_
  refine r_iconst X (pc := 6) (v := 0) (zw_dg dk_Held_dropPeople 4 rfl) (by decide) ?_
  refine r_putI X (pc := 7) ci_Held (zh hO 0 rfl) rfl lk_Held_59 rfl ⟨rfl, rfl⟩ (zw_dg dk_Held_dropPeople 5 rfl) ?_
  obtain ⟨c4, hc4, hsem⟩ := zw_bd hsem
  refine zw_topC hc4 ?_
  cases hsem
  exact r_vret X (pc := 10) rfl (zw_dg dk_Held_dropPeople 6 rfl)
def y_Held_dropAllButTurn : MethodName := ⟨R_Held, "dropAllButTurn", "()V"⟩
abbrev b_Held_dropAllButTurn : ByteArray := prog_4_method_4_code
def dl_Held_dropAllButTurn : List (Nat × Instr × Nat) := [(0, .aload_n 0, 1), (1, .invokevirtual 49, 3), (4, .aload_n 0, 1), (5, .iconst 0, 1), (6, .putfield 52, 3), (9, .return_, 1)]
theorem dk_Held_dropAllButTurn : zw_dk b_Held_dropAllButTurn dl_Held_dropAllButTurn = true := by decide +kernel
theorem ce_Held_dropAllButTurn : zw_cev y_Held_dropAllButTurn b_Held_dropAllButTurn 1 (none) 0 := ⟨⟨kt_in 499 (by decide +kernel) rfl, kt_in 87 (by decide +kernel) rfl, by decide +kernel⟩, kt_in 497 (by decide +kernel) rfl, kt_in 498 (by decide +kernel) rfl⟩
def fn_Held_dropAllButTurn (o : Nat) (c : zw_Ct) : Option zw_Ct :=
  (fn_Held_dropPeople o c).bind fun c3 =>
  (some (zw_wI c3 o 9 0)).bind fun c4 =>
  some c4
set_option maxRecDepth 100000 in
theorem km_Held_dropAllButTurn {l : Launch} {g : zw_G} {rr : zw_RR} {sh : zw_Sh} {c : zw_Ct} {o : Nat} {c2 : zw_Ct} (hO : zw_HO o sh rr) (hsem : fn_Held_dropAllButTurn o c = some c2) : zw_Met l g y_Held_dropAllButTurn b_Held_dropAllButTurn 1 (none) 2 rr sh [.ref o] c none c2 := by
  unfold fn_Held_dropAllButTurn at hsem
  refine zw_Met.of (by decide +kernel) (Nat.le_of_ble_eq_true rfl) (fun p e s m args below meth cd X => ?_)
  refine zw_eL (L2 := [some (.ref o)]) rfl ?_
  refine r_aload_n X (pc := 0) (i := 0) (zw_dg dk_Held_dropAllButTurn 0 rfl) rfl rfl ?_
  obtain ⟨c3, hc3, hsem⟩ := zw_bd hsem
  refine r_callVv X (pc := 1) (As := []) (st := []) (km_Held_dropPeople hO hc3) ce_Held_dropPeople kw_500 (zh hO 0 rfl) rfl rfl ⟨Nat.le_of_ble_eq_true rfl, Nat.le_of_ble_eq_true rfl⟩ (Nat.le_of_ble_eq_true rfl) (zw_dg dk_Held_dropAllButTurn 1 rfl) ?_
  refine r_aload_n X (pc := 4) (i := 0) (zw_dg dk_Held_dropAllButTurn 2 rfl) rfl rfl ?_
  refine r_iconst X (pc := 5) (v := 0) (zw_dg dk_Held_dropAllButTurn 3 rfl) (by decide) ?_
  refine r_putI X (pc := 6) ci_Held (zh hO 0 rfl) rfl lk_Held_52 rfl ⟨rfl, rfl⟩ (zw_dg dk_Held_dropAllButTurn 4 rfl) ?_
  obtain ⟨c4, hc4, hsem⟩ := zw_bd hsem
  refine zw_topC hc4 ?_
  cases hsem
  exact r_vret X (pc := 9) rfl (zw_dg dk_Held_dropAllButTurn 5 rfl)
def y_Held_hasPerson : MethodName := ⟨R_Held, "hasPerson", "(I)Z"⟩
abbrev b_Held_hasPerson : ByteArray := prog_4_method_6_code
def dl_Held_hasPerson : List (Nat × Instr × Nat) := [(0, .iload_n 1, 1), (1, .ifCond .lt 15, 3), (4, .iload_n 1, 1), (5, .aload_n 0, 1), (6, .getfield 56, 3), (9, .if_icmp .ge 7, 3), (12, .iconst 1, 1), (13, .goto 4, 3), (16, .iconst 0, 1), (17, .ireturn, 1)]
theorem dk_Held_hasPerson : zw_dk b_Held_hasPerson dl_Held_hasPerson = true := by decide +kernel
theorem ce_Held_hasPerson : zw_cev y_Held_hasPerson b_Held_hasPerson 2 (some .boolean) 1 := ⟨⟨kt_in 1054 (by decide +kernel) rfl, kt_in 87 (by decide +kernel) rfl, by decide +kernel⟩, kt_in 1052 (by decide +kernel) rfl, kt_in 1053 (by decide +kernel) rfl⟩
def fn_Held_hasPerson (o : Nat) (c : zw_Ct) (who1 : Int32) : Int32 :=
  (if ((0 ≤ who1) ∧ (who1 < (c.1 o 2))) then (1 : Int32) else 0)
theorem kb_Held_hasPerson (o : Nat) (c : zw_Ct) (who1 : Int32) : fn_Held_hasPerson o c who1 = 0 ∨ fn_Held_hasPerson o c who1 = 1 := by
  unfold fn_Held_hasPerson
  first | exact zw_ite01
set_option maxRecDepth 100000 in
theorem km_Held_hasPerson {l : Launch} {g : zw_G} {rr : zw_RR} {sh : zw_Sh} {c : zw_Ct} {o : Nat} {who1 : Int32} {r : Int32} (hO : zw_HO o sh rr) (hsem : fn_Held_hasPerson o c who1 = r) : zw_Met l g y_Held_hasPerson b_Held_hasPerson 2 (some .boolean) 1 rr sh [.ref o, .int who1] c (some (.int r)) c := by
  unfold fn_Held_hasPerson at hsem
  refine zw_Met.of (by decide +kernel) (Nat.le_of_ble_eq_true rfl) (fun p e s m args below meth cd X => ?_)
  refine zw_eL (L2 := [some (.ref o), some (.int who1)]) rfl ?_
  refine zw_ter (P := ((0 ≤ who1) ∧ (who1 < (c.1 o 2)))) (f := Value.int) (x := 1) (y := 0) (J := 17) (st2 := []) (fun jT jF => ?_) ?_
  · --
    refine r_iload_n X (pc := 0) (i := 1) (zw_dg dk_Held_hasPerson 0 rfl) rfl rfl ?_
    refine r_if_lt X (pc := 1) (tgt := 16) (zw_dg dk_Held_hasPerson 1 rfl) (by decide) (fun q2 => ?_) (fun q2 => ?_)
    · --
      refine r_iconst X (pc := 16) (v := 0) (zw_dg dk_Held_hasPerson 8 rfl) (by decide) ?_
      exact jF (fun q => (Int32.not_le.mpr q2) q.1)
    · --
      refine r_iload_n X (pc := 4) (i := 1) (zw_dg dk_Held_hasPerson 2 rfl) rfl rfl ?_
      refine r_aload_n X (pc := 5) (i := 0) (zw_dg dk_Held_hasPerson 3 rfl) rfl rfl ?_
      refine r_getI X (pc := 6) ci_Held (zh hO 0 rfl) rfl lk_Held_56 (zw_dg dk_Held_hasPerson 4 rfl) ?_
      refine r_icmp_ge X (pc := 9) (tgt := 16) (zw_dg dk_Held_hasPerson 5 rfl) (by decide) (fun q3 => ?_) (fun q3 => ?_)
      · --
        refine r_iconst X (pc := 16) (v := 0) (zw_dg dk_Held_hasPerson 8 rfl) (by decide) ?_
        exact jF (fun q => (Int32.not_lt.mpr q3) q.2)
      · --
        refine r_iconst X (pc := 12) (v := 1) (zw_dg dk_Held_hasPerson 6 rfl) (by decide) ?_
        refine r_goto X (pc := 13) (tgt := 17) (zw_dg dk_Held_hasPerson 7 rfl) (by decide) ?_
        exact jT ⟨(Int32.not_lt.mp q2), (Int32.not_le.mp q3)⟩
  have hsem : ((if ((0 ≤ who1) ∧ (who1 < (c.1 o 2))) then (1 : Int32) else 0) : _) = r := hsem
  have hbz : ((if ((0 ≤ who1) ∧ (who1 < (c.1 o 2))) then (1 : Int32) else 0) : Int32) = 0 ∨ ((if ((0 ≤ who1) ∧ (who1 < (c.1 o 2))) then (1 : Int32) else 0) : Int32) = 1 := zw_ite01
  cases hsem
  exact r_zret X (pc := 17) rfl (zw_bzn hbz).1 (zw_dg dk_Held_hasPerson 9 rfl)
def y_Held_setWord : MethodName := ⟨R_Held, "setWord", "(III)V"⟩
abbrev b_Held_setWord : ByteArray := prog_4_method_7_code
def dl_Held_setWord : List (Nat × Instr × Nat) := [(0, .aload_n 0, 1), (1, .getfield 27, 3), (4, .iload_n 1, 1), (5, .iload_n 2, 1), (6, .iastore, 1), (7, .aload_n 0, 1), (8, .getfield 30, 3), (11, .iload_n 1, 1), (12, .iload_n 3, 1), (13, .iastore, 1), (14, .aload_n 0, 1), (15, .dup, 1), (16, .getfield 52, 3), (19, .iconst 1, 1), (20, .iload_n 1, 1), (21, .ishl, 1), (22, .ior, 1), (23, .putfield 52, 3), (26, .return_, 1)]
theorem dk_Held_setWord : zw_dk b_Held_setWord dl_Held_setWord = true := by decide +kernel
theorem ce_Held_setWord : zw_cev y_Held_setWord b_Held_setWord 4 (none) 3 := ⟨⟨kt_in 1233 (by decide +kernel) rfl, kt_in 87 (by decide +kernel) rfl, by decide +kernel⟩, kt_in 1231 (by decide +kernel) rfl, kt_in 1232 (by decide +kernel) rfl⟩
def fn_Held_setWord (o : Nat) (c : zw_Ct) (i1 : Int32) (from2 : Int32) (to3 : Int32) : Option zw_Ct :=
  (zw_uI 6 c (o + 6) i1 from2).bind fun c4 =>
  (zw_uI 6 c4 (o + 7) i1 to3).bind fun c5 =>
  (some (zw_wI c5 o 9 ((c5.1 o 9) ||| (1 <<< (i1 &&& 31))))).bind fun c6 =>
  some c6
set_option maxRecDepth 100000 in
theorem km_Held_setWord {l : Launch} {g : zw_G} {rr : zw_RR} {sh : zw_Sh} {c : zw_Ct} {o : Nat} {i1 : Int32} {from2 : Int32} {to3 : Int32} {c2 : zw_Ct} (hO : zw_HO o sh rr) (hsem : fn_Held_setWord o c i1 from2 to3 = some c2) : zw_Met l g y_Held_setWord b_Held_setWord 4 (none) 1 rr sh [.ref o, .int i1, .int from2, .int to3] c none c2 := by
  unfold fn_Held_setWord at hsem
  refine zw_Met.of (by decide +kernel) (Nat.le_of_ble_eq_true rfl) (fun p e s m args below meth cd X => ?_)
  refine zw_eL (L2 := [some (.ref o), some (.int i1), some (.int from2), some (.int to3)]) rfl ?_
  refine r_aload_n X (pc := 0) (i := 0) (zw_dg dk_Held_setWord 0 rfl) rfl rfl ?_
  refine r_getR X (pc := 1) (r := (o + 6)) ci_Held (zh hO 0 rfl) rfl (zhr hO 7 rfl) lk_Held_27 (zw_dg dk_Held_setWord 1 rfl) ?_
  refine r_iload_n X (pc := 4) (i := 1) (zw_dg dk_Held_setWord 2 rfl) rfl rfl ?_
  refine r_iload_n X (pc := 5) (i := 2) (zw_dg dk_Held_setWord 3 rfl) rfl rfl ?_
  obtain ⟨c4, hc4, hsem⟩ := zw_bd hsem
  refine r_iast X (pc := 6) (zh hO 6 rfl) hc4 (zw_dg dk_Held_setWord 4 rfl) ?_
  refine r_aload_n X (pc := 7) (i := 0) (zw_dg dk_Held_setWord 5 rfl) rfl rfl ?_
  refine r_getR X (pc := 8) (r := (o + 7)) ci_Held (zh hO 0 rfl) rfl (zhr hO 8 rfl) lk_Held_30 (zw_dg dk_Held_setWord 6 rfl) ?_
  refine r_iload_n X (pc := 11) (i := 1) (zw_dg dk_Held_setWord 7 rfl) rfl rfl ?_
  refine r_iload_n X (pc := 12) (i := 3) (zw_dg dk_Held_setWord 8 rfl) rfl rfl ?_
  obtain ⟨c5, hc5, hsem⟩ := zw_bd hsem
  refine r_iast X (pc := 13) (zh hO 7 rfl) hc5 (zw_dg dk_Held_setWord 9 rfl) ?_
  refine r_aload_n X (pc := 14) (i := 0) (zw_dg dk_Held_setWord 10 rfl) rfl rfl ?_
  refine r_dup X (pc := 15) (zw_dg dk_Held_setWord 11 rfl) rfl ?_
  refine r_getI X (pc := 16) ci_Held (zh hO 0 rfl) rfl lk_Held_52 (zw_dg dk_Held_setWord 12 rfl) ?_
  refine r_iconst X (pc := 19) (v := 1) (zw_dg dk_Held_setWord 13 rfl) (by decide) ?_
  refine r_iload_n X (pc := 20) (i := 1) (zw_dg dk_Held_setWord 14 rfl) rfl rfl ?_
  refine r_ishl X (pc := 21) (zw_dg dk_Held_setWord 15 rfl)  ?_
  refine r_ior X (pc := 22) (zw_dg dk_Held_setWord 16 rfl)  ?_
  refine r_putI X (pc := 23) ci_Held (zh hO 0 rfl) rfl lk_Held_52 rfl ⟨rfl, rfl⟩ (zw_dg dk_Held_setWord 17 rfl) ?_
  obtain ⟨c6, hc6, hsem⟩ := zw_bd hsem
  refine zw_topC hc6 ?_
  cases hsem
  exact r_vret X (pc := 26) rfl (zw_dg dk_Held_setWord 18 rfl)
def y_Held_isWord : MethodName := ⟨R_Held, "isWord", "(I)Z"⟩
abbrev b_Held_isWord : ByteArray := prog_4_method_8_code
def dl_Held_isWord : List (Nat × Instr × Nat) := [(0, .iload_n 1, 1), (1, .ifCond .lt 25, 3), (4, .iload_n 1, 1), (5, .bipush 6, 2), (7, .if_icmp .ge 19, 3), (10, .aload_n 0, 1), (11, .getfield 52, 3), (14, .iload_n 1, 1), (15, .ishr, 1), (16, .iconst 1, 1), (17, .iand, 1), (18, .iconst 1, 1), (19, .if_icmp .ne 7, 3), (22, .iconst 1, 1), (23, .goto 4, 3), (26, .iconst 0, 1), (27, .ireturn, 1)]
theorem dk_Held_isWord : zw_dk b_Held_isWord dl_Held_isWord = true := by decide +kernel
theorem ce_Held_isWord : zw_cev y_Held_isWord b_Held_isWord 2 (some .boolean) 1 := ⟨⟨kt_in 1250 (by decide +kernel) rfl, kt_in 87 (by decide +kernel) rfl, by decide +kernel⟩, kt_in 1248 (by decide +kernel) rfl, kt_in 1249 (by decide +kernel) rfl⟩
def fn_Held_isWord (o : Nat) (c : zw_Ct) (i1 : Int32) : Int32 :=
  (if (((0 ≤ i1) ∧ (i1 < 6)) ∧ ((((c.1 o 9) >>> (i1 &&& 31)) &&& 1) = 1)) then (1 : Int32) else 0)
theorem kb_Held_isWord (o : Nat) (c : zw_Ct) (i1 : Int32) : fn_Held_isWord o c i1 = 0 ∨ fn_Held_isWord o c i1 = 1 := by
  unfold fn_Held_isWord
  first | exact zw_ite01
set_option maxRecDepth 100000 in
theorem km_Held_isWord {l : Launch} {g : zw_G} {rr : zw_RR} {sh : zw_Sh} {c : zw_Ct} {o : Nat} {i1 : Int32} {r : Int32} (hO : zw_HO o sh rr) (hsem : fn_Held_isWord o c i1 = r) : zw_Met l g y_Held_isWord b_Held_isWord 2 (some .boolean) 1 rr sh [.ref o, .int i1] c (some (.int r)) c := by
  unfold fn_Held_isWord at hsem
  refine zw_Met.of (by decide +kernel) (Nat.le_of_ble_eq_true rfl) (fun p e s m args below meth cd X => ?_)
  refine zw_eL (L2 := [some (.ref o), some (.int i1)]) rfl ?_
  refine zw_ter (P := (((0 ≤ i1) ∧ (i1 < 6)) ∧ ((((c.1 o 9) >>> (i1 &&& 31)) &&& 1) = 1))) (f := Value.int) (x := 1) (y := 0) (J := 27) (st2 := []) (fun jT jF => ?_) ?_
  · --
    refine r_iload_n X (pc := 0) (i := 1) (zw_dg dk_Held_isWord 0 rfl) rfl rfl ?_
    refine r_if_lt X (pc := 1) (tgt := 26) (zw_dg dk_Held_isWord 1 rfl) (by decide) (fun q2 => ?_) (fun q2 => ?_)
    · --
      refine r_iconst X (pc := 26) (v := 0) (zw_dg dk_Held_isWord 15 rfl) (by decide) ?_
      exact jF (fun q => (fun q => (Int32.not_le.mpr q2) q.1) q.1)
    · --
      refine r_iload_n X (pc := 4) (i := 1) (zw_dg dk_Held_isWord 2 rfl) rfl rfl ?_
      refine r_bipush X (pc := 5) (v := 6) (zw_dg dk_Held_isWord 3 rfl) (by decide) ?_
      refine r_icmp_ge X (pc := 7) (tgt := 26) (zw_dg dk_Held_isWord 4 rfl) (by decide) (fun q3 => ?_) (fun q3 => ?_)
      · --
        refine r_iconst X (pc := 26) (v := 0) (zw_dg dk_Held_isWord 15 rfl) (by decide) ?_
        exact jF (fun q => (fun q => (Int32.not_lt.mpr q3) q.2) q.1)
      · --
        refine r_aload_n X (pc := 10) (i := 0) (zw_dg dk_Held_isWord 5 rfl) rfl rfl ?_
        refine r_getI X (pc := 11) ci_Held (zh hO 0 rfl) rfl lk_Held_52 (zw_dg dk_Held_isWord 6 rfl) ?_
        refine r_iload_n X (pc := 14) (i := 1) (zw_dg dk_Held_isWord 7 rfl) rfl rfl ?_
        refine r_ishr X (pc := 15) (zw_dg dk_Held_isWord 8 rfl)  ?_
        refine r_iconst X (pc := 16) (v := 1) (zw_dg dk_Held_isWord 9 rfl) (by decide) ?_
        refine r_iand X (pc := 17) (zw_dg dk_Held_isWord 10 rfl)  ?_
        refine r_iconst X (pc := 18) (v := 1) (zw_dg dk_Held_isWord 11 rfl) (by decide) ?_
        refine r_icmp_ne X (pc := 19) (tgt := 26) (zw_dg dk_Held_isWord 12 rfl) (by decide) (fun q4 => ?_) (fun q4 => ?_)
        · --
          refine r_iconst X (pc := 26) (v := 0) (zw_dg dk_Held_isWord 15 rfl) (by decide) ?_
          exact jF (fun q => q4 q.2)
        · --
          refine r_iconst X (pc := 22) (v := 1) (zw_dg dk_Held_isWord 13 rfl) (by decide) ?_
          refine r_goto X (pc := 23) (tgt := 27) (zw_dg dk_Held_isWord 14 rfl) (by decide) ?_
          exact jT ⟨⟨(Int32.not_lt.mp q2), (Int32.not_le.mp q3)⟩, q4⟩
  have hsem : ((if (((0 ≤ i1) ∧ (i1 < 6)) ∧ ((((c.1 o 9) >>> (i1 &&& 31)) &&& 1) = 1)) then (1 : Int32) else 0) : _) = r := hsem
  have hbz : ((if (((0 ≤ i1) ∧ (i1 < 6)) ∧ ((((c.1 o 9) >>> (i1 &&& 31)) &&& 1) = 1)) then (1 : Int32) else 0) : Int32) = 0 ∨ ((if (((0 ≤ i1) ∧ (i1 < 6)) ∧ ((((c.1 o 9) >>> (i1 &&& 31)) &&& 1) = 1)) then (1 : Int32) else 0) : Int32) = 1 := zw_ite01
  cases hsem
  exact r_zret X (pc := 27) rfl (zw_bzn hbz).1 (zw_dg dk_Held_isWord 16 rfl)
def y_Held_isWordFor : MethodName := ⟨R_Held, "isWordFor", "(II)Z"⟩
abbrev b_Held_isWordFor : ByteArray := prog_4_method_9_code
def dl_Held_isWordFor : List (Nat × Instr × Nat) := [(0, .aload_n 0, 1), (1, .iload_n 1, 1), (2, .invokevirtual 62, 3), (5, .ifCond .eq 27, 3), (8, .iload_n 2, 1), (9, .aload_n 0, 1), (10, .getfield 27, 3), (13, .iload_n 1, 1), (14, .iaload, 1), (15, .if_icmp .lt 17, 3), (18, .iload_n 2, 1), (19, .aload_n 0, 1), (20, .getfield 30, 3), (23, .iload_n 1, 1), (24, .iaload, 1), (25, .if_icmp .gt 7, 3), (28, .iconst 1, 1), (29, .goto 4, 3), (32, .iconst 0, 1), (33, .ireturn, 1)]
theorem dk_Held_isWordFor : zw_dk b_Held_isWordFor dl_Held_isWordFor = true := by decide +kernel
theorem ce_Held_isWordFor : zw_cev y_Held_isWordFor b_Held_isWordFor 3 (some .boolean) 2 := ⟨⟨kt_in 1246 (by decide +kernel) rfl, kt_in 87 (by decide +kernel) rfl, by decide +kernel⟩, kt_in 1244 (by decide +kernel) rfl, kt_in 1245 (by decide +kernel) rfl⟩
def fn_Held_isWordFor (o : Nat) (c : zw_Ct) (i1 : Int32) (part2 : Int32) : Option Int32 :=
  (if (¬ (fn_Held_isWord o c i1) = 0) then
  ((zw_aI 6 c (o + 6) i1).bind fun x5 =>
  if (x5 ≤ part2) then
  ((zw_aI 6 c (o + 7) i1).bind fun x7 =>
  some (decide (part2 ≤ x7)))
  else some false)
  else some false).bind fun b3 =>
  some (if b3 = true then (1 : Int32) else 0)
set_option maxRecDepth 100000 in
theorem km_Held_isWordFor {l : Launch} {g : zw_G} {rr : zw_RR} {sh : zw_Sh} {c : zw_Ct} {o : Nat} {i1 : Int32} {part2 : Int32} {r : Int32} (hO : zw_HO o sh rr) (hsem : fn_Held_isWordFor o c i1 part2 = some r) : zw_Met l g y_Held_isWordFor b_Held_isWordFor 3 (some .boolean) 2 rr sh [.ref o, .int i1, .int part2] c (some (.int r)) c := by
  unfold fn_Held_isWordFor at hsem
  refine zw_Met.of (by decide +kernel) (Nat.le_of_ble_eq_true rfl) (fun p e s m args below meth cd X => ?_)
  refine zw_eL (L2 := [some (.ref o), some (.int i1), some (.int part2)]) rfl ?_
  obtain ⟨b3, hb3, hsb3⟩ := zw_bd hsem
  refine zw_terO (f := Value.int) (v := if b3 = true then 1 else 0) (J := 33) (st2 := []) (c2 := c) (fun jj => ?_) ?_
  · have hsem := hb3
    refine r_aload_n X (pc := 0) (i := 0) (zw_dg dk_Held_isWordFor 0 rfl) rfl rfl ?_
    refine r_iload_n X (pc := 1) (i := 1) (zw_dg dk_Held_isWordFor 1 rfl) rfl rfl ?_
    refine r_callVi X (pc := 2) (As := [_]) (st := []) (km_Held_isWord hO rfl) ce_Held_isWord kw_1247 (zh hO 0 rfl) rfl rfl ⟨Nat.le_of_ble_eq_true rfl, Nat.le_of_ble_eq_true rfl⟩ (Nat.le_of_ble_eq_true rfl) (zw_dg dk_Held_isWordFor 2 rfl) ?_
    refine r_if_eq X (pc := 5) (tgt := 32) (zw_dg dk_Held_isWordFor 3 rfl) (by decide) (fun q4 => ?_) (fun q4 => ?_)
    · --
      have hsem := zw_ifn (fun z => z q4) hsem
      have hb_ := (Option.some.inj hsem).symm
      refine r_iconst X (pc := 32) (v := 0) (zw_dg dk_Held_isWordFor 18 rfl) (by decide) ?_
      rw [hb_] at jj; exact jj
    · --
      have hsem := zw_ifp q4 hsem
      refine r_iload_n X (pc := 8) (i := 2) (zw_dg dk_Held_isWordFor 4 rfl) rfl rfl ?_
      refine r_aload_n X (pc := 9) (i := 0) (zw_dg dk_Held_isWordFor 5 rfl) rfl rfl ?_
      refine r_getR X (pc := 10) (r := (o + 6)) ci_Held (zh hO 0 rfl) rfl (zhr hO 7 rfl) lk_Held_27 (zw_dg dk_Held_isWordFor 6 rfl) ?_
      refine r_iload_n X (pc := 13) (i := 1) (zw_dg dk_Held_isWordFor 7 rfl) rfl rfl ?_
      obtain ⟨x5, hx5, hsem⟩ := zw_bd hsem
      refine r_iald X (pc := 14) (zh hO 6 rfl) hx5 (zw_dg dk_Held_isWordFor 8 rfl) ?_
      refine r_icmp_lt X (pc := 15) (tgt := 32) (zw_dg dk_Held_isWordFor 9 rfl) (by decide) (fun q6 => ?_) (fun q6 => ?_)
      · --
        have hsem := zw_ifn (Int32.not_le.mpr q6) hsem
        have hb_ := (Option.some.inj hsem).symm
        refine r_iconst X (pc := 32) (v := 0) (zw_dg dk_Held_isWordFor 18 rfl) (by decide) ?_
        rw [hb_] at jj; exact jj
      · --
        have hsem := zw_ifp (Int32.not_lt.mp q6) hsem
        refine r_iload_n X (pc := 18) (i := 2) (zw_dg dk_Held_isWordFor 10 rfl) rfl rfl ?_
        refine r_aload_n X (pc := 19) (i := 0) (zw_dg dk_Held_isWordFor 11 rfl) rfl rfl ?_
        refine r_getR X (pc := 20) (r := (o + 7)) ci_Held (zh hO 0 rfl) rfl (zhr hO 8 rfl) lk_Held_30 (zw_dg dk_Held_isWordFor 12 rfl) ?_
        refine r_iload_n X (pc := 23) (i := 1) (zw_dg dk_Held_isWordFor 13 rfl) rfl rfl ?_
        obtain ⟨x7, hx7, hsem⟩ := zw_bd hsem
        refine r_iald X (pc := 24) (zh hO 7 rfl) hx7 (zw_dg dk_Held_isWordFor 14 rfl) ?_
        refine r_icmp_gt X (pc := 25) (tgt := 32) (zw_dg dk_Held_isWordFor 15 rfl) (by decide) (fun q8 => ?_) (fun q8 => ?_)
        · --
          have hb_ := (zw_dF hsem (Int32.not_le.mpr q8))
          refine r_iconst X (pc := 32) (v := 0) (zw_dg dk_Held_isWordFor 18 rfl) (by decide) ?_
          rw [hb_] at jj; exact jj
        · --
          have hb_ := (zw_dT hsem (Int32.not_lt.mp q8))
          refine r_iconst X (pc := 28) (v := 1) (zw_dg dk_Held_isWordFor 16 rfl) (by decide) ?_
          refine r_goto X (pc := 29) (tgt := 33) (zw_dg dk_Held_isWordFor 17 rfl) (by decide) ?_
          rw [hb_] at jj; exact jj
  have hsem := hsb3
  have hbz : ((if b3 = true then (1 : Int32) else 0) : Int32) = 0 ∨ ((if b3 = true then (1 : Int32) else 0) : Int32) = 1 := zw_ite01
  cases hsem
  exact r_zret X (pc := 33) rfl (zw_bzn hbz).1 (zw_dg dk_Held_isWordFor 19 rfl)
def y_Held_wordsFor : MethodName := ⟨R_Held, "wordsFor", "(I)I"⟩
abbrev b_Held_wordsFor : ByteArray := prog_4_method_10_code
def dl_Held_wordsFor : List (Nat × Instr × Nat) := [(0, .iconst 0, 1), (1, .istore_n 2, 1), (2, .iconst 0, 1), (3, .istore_n 3, 1), (4, .iload_n 3, 1), (5, .bipush 6, 2), (7, .if_icmp .ge 24, 3), (10, .aload_n 0, 1), (11, .iload_n 3, 1), (12, .iload_n 1, 1), (13, .invokevirtual 66, 3), (16, .ifCond .eq 9, 3), (19, .iload_n 2, 1), (20, .iconst 1, 1), (21, .iload_n 3, 1), (22, .ishl, 1), (23, .ior, 1), (24, .istore_n 2, 1), (25, .iinc 3 1, 3), (28, .goto (-24), 3), (31, .iload_n 2, 1), (32, .ireturn, 1)]
theorem dk_Held_wordsFor : zw_dk b_Held_wordsFor dl_Held_wordsFor = true := by decide +kernel
theorem ce_Held_wordsFor : zw_cev y_Held_wordsFor b_Held_wordsFor 4 (some .int) 1 := ⟨⟨kt_in 1242 (by decide +kernel) rfl, kt_in 87 (by decide +kernel) rfl, by decide +kernel⟩, kt_in 1240 (by decide +kernel) rfl, kt_in 1241 (by decide +kernel) rfl⟩
def fn_Held_wordsFor_l1 (o : Nat) (c : zw_Ct) (part1 : Int32) : Int32 × Int32 → Option ((Int32) ⊕ (Int32 × Int32)) := fun (bits2, i3) =>
  if (i3 < 6) then
  ((fn_Held_isWordFor o c i3 part1).bind fun r8 =>
  (if (¬ r8 = 0) then
  ((some ((bits2 ||| (1 <<< (i3 &&& 31))) : Int32)).bind fun bits12 =>
  some (bits12 : Int32))
  else
  (some (bits2 : Int32))).bind fun bits9 =>
  some (.inr (bits9, (i3 + 1))))
  else
  (some (.inl bits2))
def fn_Held_wordsFor (o : Nat) (c : zw_Ct) (part1 : Int32) : Option Int32 :=
  (zw_whl (fn_Held_wordsFor_l1 o c part1) zw_F (0, 0)).bind fun bits4 =>
  some bits4
set_option maxRecDepth 100000 in
theorem km_Held_wordsFor {l : Launch} {g : zw_G} {rr : zw_RR} {sh : zw_Sh} {c : zw_Ct} {o : Nat} {part1 : Int32} {r : Int32} (hO : zw_HO o sh rr) (hsem : fn_Held_wordsFor o c part1 = some r) : zw_Met l g y_Held_wordsFor b_Held_wordsFor 4 (some .int) 3 rr sh [.ref o, .int part1] c (some (.int r)) c := by
  unfold fn_Held_wordsFor at hsem
  refine zw_Met.of (by decide +kernel) (Nat.le_of_ble_eq_true rfl) (fun p e s m args below meth cd X => ?_)
  refine zw_eL (L2 := [some (.ref o), some (.int part1), none, none]) rfl ?_
  refine r_iconst X (pc := 0) (v := 0) (zw_dg dk_Held_wordsFor 0 rfl) (by decide) ?_
  refine r_istore_n X (pc := 1) (i := 2) (zw_dg dk_Held_wordsFor 1 rfl) rfl (by decide) rfl ?_
  refine r_iconst X (pc := 2) (v := 0) (zw_dg dk_Held_wordsFor 2 rfl) (by decide) ?_
  refine r_istore_n X (pc := 3) (i := 3) (zw_dg dk_Held_wordsFor 3 rfl) rfl (by decide) rfl ?_
  obtain ⟨bits4, hl5, hsl5⟩ := zw_bd hsem
  refine r_loop (pc := 4) (pce := 31) hl5 (fun (bits2, i3) => [some (.ref o), some (.int part1), some (.int bits2), some (.int i3)] : Int32 × Int32 → zw_Lc) (fun (bits2, i3) => c : Int32 × Int32 → zw_Ct) (fun bits4 => [some (.ref o), some (.int part1), some (.int bits4), none] : Int32 → zw_Lc) (fun bits4 => c : Int32 → zw_Ct) ?_ rfl rfl ?_
  · rintro ⟨bits2, i3⟩ rr hsem hK hP
    try unfold fn_Held_wordsFor_l1 at hsem
    refine r_iload_n X (pc := 4) (i := 3) (zw_dg dk_Held_wordsFor 4 rfl) rfl rfl ?_
    refine r_bipush X (pc := 5) (v := 6) (zw_dg dk_Held_wordsFor 5 rfl) (by decide) ?_
    refine r_icmp_ge X (pc := 7) (tgt := 31) (zw_dg dk_Held_wordsFor 6 rfl) (by decide) (fun q7 => ?_) (fun q7 => ?_)
    · --
      have p6 : ¬ (i3 < 6) := (Int32.not_lt.mpr q7)
      have hsem := zw_ifn p6 hsem
      have jj := hK _ (Option.some.inj hsem).symm
      exact (r_fgt [3] rfl jj)
    · --
      have p6 : (i3 < 6) := (Int32.not_le.mp q7)
      have hsem := zw_ifp p6 hsem
      refine r_aload_n X (pc := 10) (i := 0) (zw_dg dk_Held_wordsFor 7 rfl) rfl rfl ?_
      refine r_iload_n X (pc := 11) (i := 3) (zw_dg dk_Held_wordsFor 8 rfl) rfl rfl ?_
      refine r_iload_n X (pc := 12) (i := 1) (zw_dg dk_Held_wordsFor 9 rfl) rfl rfl ?_
      obtain ⟨r8, hr8, hsem⟩ := zw_bd hsem
      refine r_callVi X (pc := 13) (As := [_, _]) (st := []) (km_Held_isWordFor hO hr8) ce_Held_isWordFor kw_1243 (zh hO 0 rfl) rfl rfl ⟨Nat.le_of_ble_eq_true rfl, Nat.le_of_ble_eq_true rfl⟩ (Nat.le_of_ble_eq_true rfl) (zw_dg dk_Held_wordsFor 10 rfl) ?_
      obtain ⟨bits9, ht25, hs25⟩ := zw_bd hsem
      refine zw_jn (J := 25) (L2 := [some (.ref o), some (.int part1), some (.int bits9), some (.int i3)]) (c2 := c) (fun jj => ?_) ?_
      · have hsem := ht25
        refine r_if_eq X (pc := 16) (tgt := 25) (zw_dg dk_Held_wordsFor 11 rfl) (by decide) (fun q11 => ?_) (fun q11 => ?_)
        · --
          have p10 : ¬ (¬ r8 = 0) := (fun z => z q11)
          have hsem := zw_ifn p10 hsem
          cases hsem
          exact (r_fgt [] rfl jj)
        · --
          have p10 : (¬ r8 = 0) := q11
          have hsem := zw_ifp p10 hsem
          refine r_iload_n X (pc := 19) (i := 2) (zw_dg dk_Held_wordsFor 12 rfl) rfl rfl ?_
          refine r_iconst X (pc := 20) (v := 1) (zw_dg dk_Held_wordsFor 13 rfl) (by decide) ?_
          refine r_iload_n X (pc := 21) (i := 3) (zw_dg dk_Held_wordsFor 14 rfl) rfl rfl ?_
          refine r_ishl X (pc := 22) (zw_dg dk_Held_wordsFor 15 rfl)  ?_
          refine r_ior X (pc := 23) (zw_dg dk_Held_wordsFor 16 rfl)  ?_
          obtain ⟨bits12, hbits12, hsem⟩ := zw_bd hsem
          refine zw_topI hbits12 ?_
          refine r_istore_n X (pc := 24) (i := 2) (zw_dg dk_Held_wordsFor 17 rfl) rfl (by decide) rfl ?_
          cases hsem
          exact (r_fgt [] rfl jj)
      have hsem := hs25
      refine r_iinc X (pc := 25) (i := 3) (k := 1) (zw_dg dk_Held_wordsFor 18 rfl) rfl (by decide) (by decide) rfl ?_
      refine r_goto X (pc := 28) (tgt := 4) (zw_dg dk_Held_wordsFor 19 rfl) (by decide) ?_
      have jj := hP _ (Option.some.inj hsem).symm
      exact (r_fgt [] rfl jj)
  have hsem := hsl5
  refine r_iload_n X (pc := 31) (i := 2) (zw_dg dk_Held_wordsFor 20 rfl) rfl rfl ?_
  cases hsem
  exact r_iret X (pc := 32) rfl (zw_dg dk_Held_wordsFor 21 rfl)
def y_Held_addEvening : MethodName := ⟨R_Held, "addEvening", "(III)Z"⟩
abbrev b_Held_addEvening : ByteArray := prog_4_method_11_code
def dl_Held_addEvening : List (Nat × Instr × Nat) := [(0, .aload_n 0, 1), (1, .getfield 59, 3), (4, .bipush 40, 2), (6, .if_icmp .lt 5, 3), (9, .iconst 0, 1), (10, .ireturn, 1), (11, .aload_n 0, 1), (12, .getfield 18, 3), (15, .aload_n 0, 1), (16, .getfield 59, 3), (19, .iload_n 1, 1), (20, .iastore, 1), (21, .aload_n 0, 1), (22, .getfield 21, 3), (25, .aload_n 0, 1), (26, .getfield 59, 3), (29, .iload_n 2, 1), (30, .iastore, 1), (31, .aload_n 0, 1), (32, .getfield 24, 3), (35, .aload_n 0, 1), (36, .getfield 59, 3), (39, .iload_n 3, 1), (40, .iastore, 1), (41, .aload_n 0, 1), (42, .dup, 1), (43, .getfield 59, 3), (46, .iconst 1, 1), (47, .iadd, 1), (48, .putfield 59, 3), (51, .iconst 1, 1), (52, .ireturn, 1)]
theorem dk_Held_addEvening : zw_dk b_Held_addEvening dl_Held_addEvening = true := by decide +kernel
theorem ce_Held_addEvening : zw_cev y_Held_addEvening b_Held_addEvening 4 (some .boolean) 3 := ⟨⟨kt_in 1258 (by decide +kernel) rfl, kt_in 87 (by decide +kernel) rfl, by decide +kernel⟩, kt_in 1256 (by decide +kernel) rfl, kt_in 1257 (by decide +kernel) rfl⟩
def fn_Held_addEvening (o : Nat) (c : zw_Ct) (who1 : Int32) (saying2 : Int32) (event3 : Int32) : Option (Int32 × zw_Ct) :=
  if (40 ≤ (c.1 o 6)) then
  (some (0, c))
  else
  ((zw_uI 40 c (o + 3) (c.1 o 6) who1).bind fun c6 =>
  (zw_uI 40 c6 (o + 4) (c6.1 o 6) saying2).bind fun c7 =>
  (zw_uI 40 c7 (o + 5) (c7.1 o 6) event3).bind fun c8 =>
  (some (zw_wI c8 o 6 ((c8.1 o 6) + 1))).bind fun c9 =>
  some (1, c9))
set_option maxRecDepth 100000 in
theorem km_Held_addEvening {l : Launch} {g : zw_G} {rr : zw_RR} {sh : zw_Sh} {c : zw_Ct} {o : Nat} {who1 : Int32} {saying2 : Int32} {event3 : Int32} {r : Int32} {c2 : zw_Ct} (hO : zw_HO o sh rr) (hsem : fn_Held_addEvening o c who1 saying2 event3 = some (r, c2)) : zw_Met l g y_Held_addEvening b_Held_addEvening 4 (some .boolean) 1 rr sh [.ref o, .int who1, .int saying2, .int event3] c (some (.int r)) c2 := by
  unfold fn_Held_addEvening at hsem
  refine zw_Met.of (by decide +kernel) (Nat.le_of_ble_eq_true rfl) (fun p e s m args below meth cd X => ?_)
  refine zw_eL (L2 := [some (.ref o), some (.int who1), some (.int saying2), some (.int event3)]) rfl ?_
  refine r_aload_n X (pc := 0) (i := 0) (zw_dg dk_Held_addEvening 0 rfl) rfl rfl ?_
  refine r_getI X (pc := 1) ci_Held (zh hO 0 rfl) rfl lk_Held_59 (zw_dg dk_Held_addEvening 1 rfl) ?_
  refine r_bipush X (pc := 4) (v := 40) (zw_dg dk_Held_addEvening 2 rfl) (by decide) ?_
  refine r_icmp_lt X (pc := 6) (tgt := 11) (zw_dg dk_Held_addEvening 3 rfl) (by decide) (fun q5 => ?_) (fun q5 => ?_)
  · --
    have p4 : ¬ (40 ≤ (c.1 o 6)) := (Int32.not_le.mpr q5)
    have hsem := zw_ifn p4 hsem
    refine r_aload_n X (pc := 11) (i := 0) (zw_dg dk_Held_addEvening 6 rfl) rfl rfl ?_
    refine r_getR X (pc := 12) (r := (o + 3)) ci_Held (zh hO 0 rfl) rfl (zhr hO 3 rfl) lk_Held_18 (zw_dg dk_Held_addEvening 7 rfl) ?_
    refine r_aload_n X (pc := 15) (i := 0) (zw_dg dk_Held_addEvening 8 rfl) rfl rfl ?_
    refine r_getI X (pc := 16) ci_Held (zh hO 0 rfl) rfl lk_Held_59 (zw_dg dk_Held_addEvening 9 rfl) ?_
    refine r_iload_n X (pc := 19) (i := 1) (zw_dg dk_Held_addEvening 10 rfl) rfl rfl ?_
    obtain ⟨c6, hc6, hsem⟩ := zw_bd hsem
    refine r_iast X (pc := 20) (zh hO 3 rfl) hc6 (zw_dg dk_Held_addEvening 11 rfl) ?_
    refine r_aload_n X (pc := 21) (i := 0) (zw_dg dk_Held_addEvening 12 rfl) rfl rfl ?_
    refine r_getR X (pc := 22) (r := (o + 4)) ci_Held (zh hO 0 rfl) rfl (zhr hO 4 rfl) lk_Held_21 (zw_dg dk_Held_addEvening 13 rfl) ?_
    refine r_aload_n X (pc := 25) (i := 0) (zw_dg dk_Held_addEvening 14 rfl) rfl rfl ?_
    refine r_getI X (pc := 26) ci_Held (zh hO 0 rfl) rfl lk_Held_59 (zw_dg dk_Held_addEvening 15 rfl) ?_
    refine r_iload_n X (pc := 29) (i := 2) (zw_dg dk_Held_addEvening 16 rfl) rfl rfl ?_
    obtain ⟨c7, hc7, hsem⟩ := zw_bd hsem
    refine r_iast X (pc := 30) (zh hO 4 rfl) hc7 (zw_dg dk_Held_addEvening 17 rfl) ?_
    refine r_aload_n X (pc := 31) (i := 0) (zw_dg dk_Held_addEvening 18 rfl) rfl rfl ?_
    refine r_getR X (pc := 32) (r := (o + 5)) ci_Held (zh hO 0 rfl) rfl (zhr hO 5 rfl) lk_Held_24 (zw_dg dk_Held_addEvening 19 rfl) ?_
    refine r_aload_n X (pc := 35) (i := 0) (zw_dg dk_Held_addEvening 20 rfl) rfl rfl ?_
    refine r_getI X (pc := 36) ci_Held (zh hO 0 rfl) rfl lk_Held_59 (zw_dg dk_Held_addEvening 21 rfl) ?_
    refine r_iload_n X (pc := 39) (i := 3) (zw_dg dk_Held_addEvening 22 rfl) rfl rfl ?_
    obtain ⟨c8, hc8, hsem⟩ := zw_bd hsem
    refine r_iast X (pc := 40) (zh hO 5 rfl) hc8 (zw_dg dk_Held_addEvening 23 rfl) ?_
    refine r_aload_n X (pc := 41) (i := 0) (zw_dg dk_Held_addEvening 24 rfl) rfl rfl ?_
    refine r_dup X (pc := 42) (zw_dg dk_Held_addEvening 25 rfl) rfl ?_
    refine r_getI X (pc := 43) ci_Held (zh hO 0 rfl) rfl lk_Held_59 (zw_dg dk_Held_addEvening 26 rfl) ?_
    refine r_iconst X (pc := 46) (v := 1) (zw_dg dk_Held_addEvening 27 rfl) (by decide) ?_
    refine r_iadd X (pc := 47) (zw_dg dk_Held_addEvening 28 rfl)  ?_
    refine r_putI X (pc := 48) ci_Held (zh hO 0 rfl) rfl lk_Held_59 rfl ⟨rfl, rfl⟩ (zw_dg dk_Held_addEvening 29 rfl) ?_
    obtain ⟨c9, hc9, hsem⟩ := zw_bd hsem
    refine zw_topC hc9 ?_
    refine r_iconst X (pc := 51) (v := 1) (zw_dg dk_Held_addEvening 30 rfl) (by decide) ?_
    have hbz : (1 : Int32) = 0 ∨ (1 : Int32) = 1 := (by decide)
    cases hsem
    exact r_zret X (pc := 52) rfl (zw_bzn hbz).1 (zw_dg dk_Held_addEvening 31 rfl)
  · --
    have p4 : (40 ≤ (c.1 o 6)) := (Int32.not_lt.mp q5)
    have hsem := zw_ifp p4 hsem
    refine r_iconst X (pc := 9) (v := 0) (zw_dg dk_Held_addEvening 4 rfl) (by decide) ?_
    have hbz : (0 : Int32) = 0 ∨ (0 : Int32) = 1 := (by decide)
    cases hsem
    exact r_zret X (pc := 10) rfl (zw_bzn hbz).1 (zw_dg dk_Held_addEvening 5 rfl)
def y_Held_copy : MethodName := ⟨R_Held, "copy", "(LPaidForThinking$Held;)V"⟩
abbrev b_Held_copy : ByteArray := prog_4_method_12_code
def dl_Held_copy : List (Nat × Instr × Nat) := [(0, .aload_n 1, 1), (1, .getfield 9, 3), (4, .iconst 0, 1), (5, .aload_n 0, 1), (6, .getfield 9, 3), (9, .iconst 0, 1), (10, .bipush 13, 2), (12, .invokestatic 70, 3), (15, .aload_n 1, 1), (16, .getfield 15, 3), (19, .iconst 0, 1), (20, .aload_n 0, 1), (21, .getfield 15, 3), (24, .iconst 0, 1), (25, .bipush 6, 2), (27, .invokestatic 70, 3), (30, .aload_n 1, 1), (31, .getfield 18, 3), (34, .iconst 0, 1), (35, .aload_n 0, 1), (36, .getfield 18, 3), (39, .iconst 0, 1), (40, .bipush 40, 2), (42, .invokestatic 70, 3), (45, .aload_n 1, 1), (46, .getfield 21, 3), (49, .iconst 0, 1), (50, .aload_n 0, 1), (51, .getfield 21, 3), (54, .iconst 0, 1), (55, .bipush 40, 2), (57, .invokestatic 70, 3), (60, .aload_n 1, 1), (61, .getfield 24, 3), (64, .iconst 0, 1), (65, .aload_n 0, 1), (66, .getfield 24, 3), (69, .iconst 0, 1), (70, .bipush 40, 2), (72, .invokestatic 70, 3), (75, .aload_n 1, 1), (76, .getfield 27, 3), (79, .iconst 0, 1), (80, .aload_n 0, 1), (81, .getfield 27, 3), (84, .iconst 0, 1), (85, .bipush 6, 2), (87, .invokestatic 70, 3), (90, .aload_n 1, 1), (91, .getfield 30, 3), (94, .iconst 0, 1), (95, .aload_n 0, 1), (96, .getfield 30, 3), (99, .iconst 0, 1), (100, .bipush 6, 2), (102, .invokestatic 70, 3), (105, .aload_n 0, 1), (106, .aload_n 1, 1), (107, .getfield 56, 3), (110, .putfield 56, 3), (113, .aload_n 0, 1), (114, .aload_n 1, 1), (115, .getfield 59, 3), (118, .putfield 59, 3), (121, .aload_n 0, 1), (122, .aload_n 1, 1), (123, .getfield 52, 3), (126, .putfield 52, 3), (129, .return_, 1)]
theorem dk_Held_copy : zw_dk b_Held_copy dl_Held_copy = true := by decide +kernel
theorem ce_Held_copy : zw_cev y_Held_copy b_Held_copy 2 (none) 1 := ⟨⟨kt_in 1341 (by decide +kernel) rfl, kt_in 87 (by decide +kernel) rfl, by decide +kernel⟩, kt_in 1339 (by decide +kernel) rfl, kt_in 1340 (by decide +kernel) rfl⟩
def fn_Held_copy (o : Nat) (c : zw_Ct) (o2 : Nat) : Option zw_Ct :=
  (zw_cp 13 13 c (o2 + 1) 0 (o + 1) 0 13).bind fun c3 =>
  (zw_cp 6 6 c3 (o2 + 2) 0 (o + 2) 0 6).bind fun c4 =>
  (zw_cp 40 40 c4 (o2 + 3) 0 (o + 3) 0 40).bind fun c5 =>
  (zw_cp 40 40 c5 (o2 + 4) 0 (o + 4) 0 40).bind fun c6 =>
  (zw_cp 40 40 c6 (o2 + 5) 0 (o + 5) 0 40).bind fun c7 =>
  (zw_cp 6 6 c7 (o2 + 6) 0 (o + 6) 0 6).bind fun c8 =>
  (zw_cp 6 6 c8 (o2 + 7) 0 (o + 7) 0 6).bind fun c9 =>
  (some (zw_wI c9 o 2 (c9.1 o2 2))).bind fun c10 =>
  (some (zw_wI c10 o 6 (c10.1 o2 6))).bind fun c11 =>
  (some (zw_wI c11 o 9 (c11.1 o2 9))).bind fun c12 =>
  some c12
set_option maxRecDepth 100000 in
theorem km_Held_copy {l : Launch} {g : zw_G} {rr : zw_RR} {sh : zw_Sh} {c : zw_Ct} {o : Nat} {o2 : Nat} {c2 : zw_Ct} (hO : zw_HO o sh rr) (hO2 : zw_HO o2 sh rr) (hsem : fn_Held_copy o c o2 = some c2) : zw_Met l g y_Held_copy b_Held_copy 2 (none) 1 rr sh [.ref o, .ref o2] c none c2 := by
  unfold fn_Held_copy at hsem
  refine zw_Met.of (by decide +kernel) (Nat.le_of_ble_eq_true rfl) (fun p e s m args below meth cd X => ?_)
  refine zw_eL (L2 := [some (.ref o), some (.ref o2)]) rfl ?_
  refine r_aload_n X (pc := 0) (i := 1) (zw_dg dk_Held_copy 0 rfl) rfl rfl ?_
  refine r_getR X (pc := 1) (r := (o2 + 1)) ci_Held (zh hO2 0 rfl) rfl (zhr hO2 0 rfl) lk_Held_9 (zw_dg dk_Held_copy 1 rfl) ?_
  refine r_iconst X (pc := 4) (v := 0) (zw_dg dk_Held_copy 2 rfl) (by decide) ?_
  refine r_aload_n X (pc := 5) (i := 0) (zw_dg dk_Held_copy 3 rfl) rfl rfl ?_
  refine r_getR X (pc := 6) (r := (o + 1)) ci_Held (zh hO 0 rfl) rfl (zhr hO 0 rfl) lk_Held_9 (zw_dg dk_Held_copy 4 rfl) ?_
  refine r_iconst X (pc := 9) (v := 0) (zw_dg dk_Held_copy 5 rfl) (by decide) ?_
  refine r_bipush X (pc := 10) (v := 13) (zw_dg dk_Held_copy 6 rfl) (by decide) ?_
  obtain ⟨c3, hc3, hsem⟩ := zw_bd hsem
  refine r_copy X (pc := 12) kw_1342 kw_695 kw_694 kw_108 (zh hO2 1 rfl) (zh hO 1 rfl) hc3 ⟨Nat.le_of_ble_eq_true rfl, by decide⟩ (st := []) (Nat.le_of_ble_eq_true rfl) (zw_dg dk_Held_copy 7 rfl) ?_
  refine r_aload_n X (pc := 15) (i := 1) (zw_dg dk_Held_copy 8 rfl) rfl rfl ?_
  refine r_getR X (pc := 16) (r := (o2 + 2)) ci_Held (zh hO2 0 rfl) rfl (zhr hO2 1 rfl) lk_Held_15 (zw_dg dk_Held_copy 9 rfl) ?_
  refine r_iconst X (pc := 19) (v := 0) (zw_dg dk_Held_copy 10 rfl) (by decide) ?_
  refine r_aload_n X (pc := 20) (i := 0) (zw_dg dk_Held_copy 11 rfl) rfl rfl ?_
  refine r_getR X (pc := 21) (r := (o + 2)) ci_Held (zh hO 0 rfl) rfl (zhr hO 1 rfl) lk_Held_15 (zw_dg dk_Held_copy 12 rfl) ?_
  refine r_iconst X (pc := 24) (v := 0) (zw_dg dk_Held_copy 13 rfl) (by decide) ?_
  refine r_bipush X (pc := 25) (v := 6) (zw_dg dk_Held_copy 14 rfl) (by decide) ?_
  obtain ⟨c4, hc4, hsem⟩ := zw_bd hsem
  refine r_copy X (pc := 27) kw_1342 kw_695 kw_694 kw_108 (zh hO2 2 rfl) (zh hO 2 rfl) hc4 ⟨Nat.le_of_ble_eq_true rfl, by decide⟩ (st := []) (Nat.le_of_ble_eq_true rfl) (zw_dg dk_Held_copy 15 rfl) ?_
  refine r_aload_n X (pc := 30) (i := 1) (zw_dg dk_Held_copy 16 rfl) rfl rfl ?_
  refine r_getR X (pc := 31) (r := (o2 + 3)) ci_Held (zh hO2 0 rfl) rfl (zhr hO2 3 rfl) lk_Held_18 (zw_dg dk_Held_copy 17 rfl) ?_
  refine r_iconst X (pc := 34) (v := 0) (zw_dg dk_Held_copy 18 rfl) (by decide) ?_
  refine r_aload_n X (pc := 35) (i := 0) (zw_dg dk_Held_copy 19 rfl) rfl rfl ?_
  refine r_getR X (pc := 36) (r := (o + 3)) ci_Held (zh hO 0 rfl) rfl (zhr hO 3 rfl) lk_Held_18 (zw_dg dk_Held_copy 20 rfl) ?_
  refine r_iconst X (pc := 39) (v := 0) (zw_dg dk_Held_copy 21 rfl) (by decide) ?_
  refine r_bipush X (pc := 40) (v := 40) (zw_dg dk_Held_copy 22 rfl) (by decide) ?_
  obtain ⟨c5, hc5, hsem⟩ := zw_bd hsem
  refine r_copy X (pc := 42) kw_1342 kw_695 kw_694 kw_108 (zh hO2 3 rfl) (zh hO 3 rfl) hc5 ⟨Nat.le_of_ble_eq_true rfl, by decide⟩ (st := []) (Nat.le_of_ble_eq_true rfl) (zw_dg dk_Held_copy 23 rfl) ?_
  refine r_aload_n X (pc := 45) (i := 1) (zw_dg dk_Held_copy 24 rfl) rfl rfl ?_
  refine r_getR X (pc := 46) (r := (o2 + 4)) ci_Held (zh hO2 0 rfl) rfl (zhr hO2 4 rfl) lk_Held_21 (zw_dg dk_Held_copy 25 rfl) ?_
  refine r_iconst X (pc := 49) (v := 0) (zw_dg dk_Held_copy 26 rfl) (by decide) ?_
  refine r_aload_n X (pc := 50) (i := 0) (zw_dg dk_Held_copy 27 rfl) rfl rfl ?_
  refine r_getR X (pc := 51) (r := (o + 4)) ci_Held (zh hO 0 rfl) rfl (zhr hO 4 rfl) lk_Held_21 (zw_dg dk_Held_copy 28 rfl) ?_
  refine r_iconst X (pc := 54) (v := 0) (zw_dg dk_Held_copy 29 rfl) (by decide) ?_
  refine r_bipush X (pc := 55) (v := 40) (zw_dg dk_Held_copy 30 rfl) (by decide) ?_
  obtain ⟨c6, hc6, hsem⟩ := zw_bd hsem
  refine r_copy X (pc := 57) kw_1342 kw_695 kw_694 kw_108 (zh hO2 4 rfl) (zh hO 4 rfl) hc6 ⟨Nat.le_of_ble_eq_true rfl, by decide⟩ (st := []) (Nat.le_of_ble_eq_true rfl) (zw_dg dk_Held_copy 31 rfl) ?_
  refine r_aload_n X (pc := 60) (i := 1) (zw_dg dk_Held_copy 32 rfl) rfl rfl ?_
  refine r_getR X (pc := 61) (r := (o2 + 5)) ci_Held (zh hO2 0 rfl) rfl (zhr hO2 5 rfl) lk_Held_24 (zw_dg dk_Held_copy 33 rfl) ?_
  refine r_iconst X (pc := 64) (v := 0) (zw_dg dk_Held_copy 34 rfl) (by decide) ?_
  refine r_aload_n X (pc := 65) (i := 0) (zw_dg dk_Held_copy 35 rfl) rfl rfl ?_
  refine r_getR X (pc := 66) (r := (o + 5)) ci_Held (zh hO 0 rfl) rfl (zhr hO 5 rfl) lk_Held_24 (zw_dg dk_Held_copy 36 rfl) ?_
  refine r_iconst X (pc := 69) (v := 0) (zw_dg dk_Held_copy 37 rfl) (by decide) ?_
  refine r_bipush X (pc := 70) (v := 40) (zw_dg dk_Held_copy 38 rfl) (by decide) ?_
  obtain ⟨c7, hc7, hsem⟩ := zw_bd hsem
  refine r_copy X (pc := 72) kw_1342 kw_695 kw_694 kw_108 (zh hO2 5 rfl) (zh hO 5 rfl) hc7 ⟨Nat.le_of_ble_eq_true rfl, by decide⟩ (st := []) (Nat.le_of_ble_eq_true rfl) (zw_dg dk_Held_copy 39 rfl) ?_
  refine r_aload_n X (pc := 75) (i := 1) (zw_dg dk_Held_copy 40 rfl) rfl rfl ?_
  refine r_getR X (pc := 76) (r := (o2 + 6)) ci_Held (zh hO2 0 rfl) rfl (zhr hO2 7 rfl) lk_Held_27 (zw_dg dk_Held_copy 41 rfl) ?_
  refine r_iconst X (pc := 79) (v := 0) (zw_dg dk_Held_copy 42 rfl) (by decide) ?_
  refine r_aload_n X (pc := 80) (i := 0) (zw_dg dk_Held_copy 43 rfl) rfl rfl ?_
  refine r_getR X (pc := 81) (r := (o + 6)) ci_Held (zh hO 0 rfl) rfl (zhr hO 7 rfl) lk_Held_27 (zw_dg dk_Held_copy 44 rfl) ?_
  refine r_iconst X (pc := 84) (v := 0) (zw_dg dk_Held_copy 45 rfl) (by decide) ?_
  refine r_bipush X (pc := 85) (v := 6) (zw_dg dk_Held_copy 46 rfl) (by decide) ?_
  obtain ⟨c8, hc8, hsem⟩ := zw_bd hsem
  refine r_copy X (pc := 87) kw_1342 kw_695 kw_694 kw_108 (zh hO2 6 rfl) (zh hO 6 rfl) hc8 ⟨Nat.le_of_ble_eq_true rfl, by decide⟩ (st := []) (Nat.le_of_ble_eq_true rfl) (zw_dg dk_Held_copy 47 rfl) ?_
  refine r_aload_n X (pc := 90) (i := 1) (zw_dg dk_Held_copy 48 rfl) rfl rfl ?_
  refine r_getR X (pc := 91) (r := (o2 + 7)) ci_Held (zh hO2 0 rfl) rfl (zhr hO2 8 rfl) lk_Held_30 (zw_dg dk_Held_copy 49 rfl) ?_
  refine r_iconst X (pc := 94) (v := 0) (zw_dg dk_Held_copy 50 rfl) (by decide) ?_
  refine r_aload_n X (pc := 95) (i := 0) (zw_dg dk_Held_copy 51 rfl) rfl rfl ?_
  refine r_getR X (pc := 96) (r := (o + 7)) ci_Held (zh hO 0 rfl) rfl (zhr hO 8 rfl) lk_Held_30 (zw_dg dk_Held_copy 52 rfl) ?_
  refine r_iconst X (pc := 99) (v := 0) (zw_dg dk_Held_copy 53 rfl) (by decide) ?_
  refine r_bipush X (pc := 100) (v := 6) (zw_dg dk_Held_copy 54 rfl) (by decide) ?_
  obtain ⟨c9, hc9, hsem⟩ := zw_bd hsem
  refine r_copy X (pc := 102) kw_1342 kw_695 kw_694 kw_108 (zh hO2 7 rfl) (zh hO 7 rfl) hc9 ⟨Nat.le_of_ble_eq_true rfl, by decide⟩ (st := []) (Nat.le_of_ble_eq_true rfl) (zw_dg dk_Held_copy 55 rfl) ?_
  refine r_aload_n X (pc := 105) (i := 0) (zw_dg dk_Held_copy 56 rfl) rfl rfl ?_
  refine r_aload_n X (pc := 106) (i := 1) (zw_dg dk_Held_copy 57 rfl) rfl rfl ?_
  refine r_getI X (pc := 107) ci_Held (zh hO2 0 rfl) rfl lk_Held_56 (zw_dg dk_Held_copy 58 rfl) ?_
  refine r_putI X (pc := 110) ci_Held (zh hO 0 rfl) rfl lk_Held_56 rfl ⟨rfl, rfl⟩ (zw_dg dk_Held_copy 59 rfl) ?_
  obtain ⟨c10, hc10, hsem⟩ := zw_bd hsem
  refine zw_topC hc10 ?_
  refine r_aload_n X (pc := 113) (i := 0) (zw_dg dk_Held_copy 60 rfl) rfl rfl ?_
  refine r_aload_n X (pc := 114) (i := 1) (zw_dg dk_Held_copy 61 rfl) rfl rfl ?_
  refine r_getI X (pc := 115) ci_Held (zh hO2 0 rfl) rfl lk_Held_59 (zw_dg dk_Held_copy 62 rfl) ?_
  refine r_putI X (pc := 118) ci_Held (zh hO 0 rfl) rfl lk_Held_59 rfl ⟨rfl, rfl⟩ (zw_dg dk_Held_copy 63 rfl) ?_
  obtain ⟨c11, hc11, hsem⟩ := zw_bd hsem
  refine zw_topC hc11 ?_
  refine r_aload_n X (pc := 121) (i := 0) (zw_dg dk_Held_copy 64 rfl) rfl rfl ?_
  refine r_aload_n X (pc := 122) (i := 1) (zw_dg dk_Held_copy 65 rfl) rfl rfl ?_
  refine r_getI X (pc := 123) ci_Held (zh hO2 0 rfl) rfl lk_Held_52 (zw_dg dk_Held_copy 66 rfl) ?_
  refine r_putI X (pc := 126) ci_Held (zh hO 0 rfl) rfl lk_Held_52 rfl ⟨rfl, rfl⟩ (zw_dg dk_Held_copy 67 rfl) ?_
  obtain ⟨c12, hc12, hsem⟩ := zw_bd hsem
  refine zw_topC hc12 ?_
  cases hsem
  exact r_vret X (pc := 129) rfl (zw_dg dk_Held_copy 68 rfl)
