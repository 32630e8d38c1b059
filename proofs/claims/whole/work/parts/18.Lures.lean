/-! PaidForThinking$Lures: names, functions, contracts (by program: wip/whole/gen) -/
def y_Lures_areLights : MethodName := ⟨R_Lures, "areLights", "(I)Z"⟩
abbrev b_Lures_areLights : ByteArray := prog_7_method_2_code
def dl_Lures_areLights : List (Nat × Instr × Nat) := [(0, .iconst 1, 1), (1, .istore_n 2, 1), (2, .iconst 0, 1), (3, .istore_n 3, 1), (4, .iload_n 3, 1), (5, .aload_n 0, 1), (6, .getfield 15, 3), (9, .getfield 27, 3), (12, .if_icmp .ge 14, 3), (15, .iload_n 2, 1), (16, .bipush 10, 2), (18, .imul, 1), (19, .istore_n 2, 1), (20, .iinc 3 1, 3), (23, .goto (-19), 3), (26, .iload_n 1, 1), (27, .ifCond .lt 12, 3), (30, .iload_n 1, 1), (31, .iload_n 2, 1), (32, .if_icmp .ge 7, 3), (35, .iconst 1, 1), (36, .goto 4, 3), (39, .iconst 0, 1), (40, .ireturn, 1)]
theorem dk_Lures_areLights : zw_dk b_Lures_areLights dl_Lures_areLights = true := by decide +kernel
theorem ce_Lures_areLights : zw_cev y_Lures_areLights b_Lures_areLights 4 (some .boolean) 1 := ⟨⟨kt_in 951 (by decide +kernel) rfl, kt_in 94 (by decide +kernel) rfl, by decide +kernel⟩, kt_in 949 (by decide +kernel) rfl, kt_in 950 (by decide +kernel) rfl⟩
def fn_Lures_areLights_l1 (c : zw_Ct) : Int32 × Int32 → Option ((Int32) ⊕ (Int32 × Int32)) := fun (end2, e3) =>
  if (e3 < (c.1 1 0)) then
  ((some ((end2 * 10) : Int32)).bind fun end8 =>
  some (.inr (end8, (e3 + 1))))
  else
  (some (.inl end2))
def fn_Lures_areLights (c : zw_Ct) (lights1 : Int32) : Option Int32 :=
  (zw_whl (fn_Lures_areLights_l1 c) zw_F (1, 0)).bind fun end4 =>
  some (if ((0 ≤ lights1) ∧ (lights1 < end4)) then (1 : Int32) else 0)
set_option maxRecDepth 100000 in
theorem km_Lures_areLights {l : Launch} {g : zw_G} {rr : zw_RR} {sh : zw_Sh} {c : zw_Ct} {lights1 : Int32} {r : Int32} (hS : zw_Ok 0 101 sh rr) (hsem : fn_Lures_areLights c lights1 = some r) : zw_Met l g y_Lures_areLights b_Lures_areLights 4 (some .boolean) 1 rr sh [.ref 63, .int lights1] c (some (.int r)) c := by
  unfold fn_Lures_areLights at hsem
  refine zw_Met.of (by decide +kernel) (Nat.le_of_ble_eq_true rfl) (fun p e s m args below meth cd X => ?_)
  refine zw_eL (L2 := [some (.ref 63), some (.int lights1), none, none]) rfl ?_
  refine r_iconst X (pc := 0) (v := 1) (zw_dg dk_Lures_areLights 0 rfl) (by decide) ?_
  refine r_istore_n X (pc := 1) (i := 2) (zw_dg dk_Lures_areLights 1 rfl) rfl (by decide) rfl ?_
  refine r_iconst X (pc := 2) (v := 0) (zw_dg dk_Lures_areLights 2 rfl) (by decide) ?_
  refine r_istore_n X (pc := 3) (i := 3) (zw_dg dk_Lures_areLights 3 rfl) rfl (by decide) rfl ?_
  obtain ⟨end4, hl5, hsl5⟩ := zw_bd hsem
  refine r_loop (pc := 4) (pce := 26) hl5 (fun (end2, e3) => [some (.ref 63), some (.int lights1), some (.int end2), some (.int e3)] : Int32 × Int32 → zw_Lc) (fun (end2, e3) => c : Int32 × Int32 → zw_Ct) (fun end4 => [some (.ref 63), some (.int lights1), some (.int end4), none] : Int32 → zw_Lc) (fun end4 => c : Int32 → zw_Ct) ?_ rfl rfl ?_
  · rintro ⟨end2, e3⟩ rr hsem hK hP
    try unfold fn_Lures_areLights_l1 at hsem
    refine r_iload_n X (pc := 4) (i := 3) (zw_dg dk_Lures_areLights 4 rfl) rfl rfl ?_
    refine r_aload_n X (pc := 5) (i := 0) (zw_dg dk_Lures_areLights 5 rfl) rfl rfl ?_
    refine r_getR X (pc := 6) (r := 1) ci_Lures (zo hS 63 rfl rfl) rfl (zr hS 63 0 rfl rfl) lk_Lures_15 (zw_dg dk_Lures_areLights 6 rfl) ?_
    refine r_getI X (pc := 9) ci_Sayings (zo hS 1 rfl rfl) rfl lk_Lures_27 (zw_dg dk_Lures_areLights 7 rfl) ?_
    refine r_icmp_ge X (pc := 12) (tgt := 26) (zw_dg dk_Lures_areLights 8 rfl) (by decide) (fun q7 => ?_) (fun q7 => ?_)
    · --
      have p6 : ¬ (e3 < (c.1 1 0)) := (Int32.not_lt.mpr q7)
      have hsem := zw_ifn p6 hsem
      have jj := hK _ (Option.some.inj hsem).symm
      exact (r_fgt [3] rfl jj)
    · --
      have p6 : (e3 < (c.1 1 0)) := (Int32.not_le.mp q7)
      have hsem := zw_ifp p6 hsem
      refine r_iload_n X (pc := 15) (i := 2) (zw_dg dk_Lures_areLights 9 rfl) rfl rfl ?_
      refine r_bipush X (pc := 16) (v := 10) (zw_dg dk_Lures_areLights 10 rfl) (by decide) ?_
      refine r_imul X (pc := 18) (zw_dg dk_Lures_areLights 11 rfl)  ?_
      obtain ⟨end8, hend8, hsem⟩ := zw_bd hsem
      refine zw_topI hend8 ?_
      refine r_istore_n X (pc := 19) (i := 2) (zw_dg dk_Lures_areLights 12 rfl) rfl (by decide) rfl ?_
      refine r_iinc X (pc := 20) (i := 3) (k := 1) (zw_dg dk_Lures_areLights 13 rfl) rfl (by decide) (by decide) rfl ?_
      refine r_goto X (pc := 23) (tgt := 4) (zw_dg dk_Lures_areLights 14 rfl) (by decide) ?_
      have jj := hP _ (Option.some.inj hsem).symm
      exact (r_fgt [] rfl jj)
  have hsem := hsl5
  refine zw_ter (P := ((0 ≤ lights1) ∧ (lights1 < end4))) (f := Value.int) (x := 1) (y := 0) (J := 40) (st2 := []) (fun jT jF => ?_) ?_
  · --
    refine r_iload_n X (pc := 26) (i := 1) (zw_dg dk_Lures_areLights 15 rfl) rfl rfl ?_
    refine r_if_lt X (pc := 27) (tgt := 39) (zw_dg dk_Lures_areLights 16 rfl) (by decide) (fun q9 => ?_) (fun q9 => ?_)
    · --
      refine r_iconst X (pc := 39) (v := 0) (zw_dg dk_Lures_areLights 22 rfl) (by decide) ?_
      exact jF (fun q => (Int32.not_le.mpr q9) q.1)
    · --
      refine r_iload_n X (pc := 30) (i := 1) (zw_dg dk_Lures_areLights 17 rfl) rfl rfl ?_
      refine r_iload_n X (pc := 31) (i := 2) (zw_dg dk_Lures_areLights 18 rfl) rfl rfl ?_
      refine r_icmp_ge X (pc := 32) (tgt := 39) (zw_dg dk_Lures_areLights 19 rfl) (by decide) (fun q10 => ?_) (fun q10 => ?_)
      · --
        refine r_iconst X (pc := 39) (v := 0) (zw_dg dk_Lures_areLights 22 rfl) (by decide) ?_
        exact jF (fun q => (Int32.not_lt.mpr q10) q.2)
      · --
        refine r_iconst X (pc := 35) (v := 1) (zw_dg dk_Lures_areLights 20 rfl) (by decide) ?_
        refine r_goto X (pc := 36) (tgt := 40) (zw_dg dk_Lures_areLights 21 rfl) (by decide) ?_
        exact jT ⟨(Int32.not_lt.mp q9), (Int32.not_le.mp q10)⟩
  have hbz : ((if ((0 ≤ lights1) ∧ (lights1 < end4)) then (1 : Int32) else 0) : Int32) = 0 ∨ ((if ((0 ≤ lights1) ∧ (lights1 < end4)) then (1 : Int32) else 0) : Int32) = 1 := zw_ite01
  cases hsem
  exact r_zret X (pc := 40) rfl (zw_bzn hbz).1 (zw_dg dk_Lures_areLights 23 rfl)
def y_Lures_worthWithLight : MethodName := ⟨R_Lures, "worthWithLight", "([IIIZ)J"⟩
abbrev b_Lures_worthWithLight : ByteArray := prog_7_method_4_code
def dl_Lures_worthWithLight : List (Nat × Instr × Nat) := [(0, .iload_n 3, 1), (1, .istore 5, 2), (3, .aload_n 0, 1), (4, .getfield 15, 3), (7, .getfield 27, 3), (10, .iconst 1, 1), (11, .isub, 1), (12, .istore 6, 2), (14, .iload 6, 2), (16, .ifCond .lt 56, 3), (19, .iload 5, 2), (21, .bipush 10, 2), (23, .irem, 1), (24, .istore 7, 2), (26, .iload 5, 2), (28, .bipush 10, 2), (30, .idiv, 1), (31, .istore 5, 2), (33, .aload_n 0, 1), (34, .getfield 9, 3), (37, .iload 6, 2), (39, .aload_n 0, 1), (40, .getfield 15, 3), (43, .iload_n 2, 1), (44, .iload 6, 2), (46, .invokevirtual 45, 3), (49, .iload 4, 2), (51, .ifCond .eq 8, 3), (54, .iload 7, 2), (56, .goto 8, 3), (59, .bipush 10, 2), (61, .iload 7, 2), (63, .isub, 1), (64, .imul, 1), (65, .iastore, 1), (66, .iinc 6 (-1), 3), (69, .goto (-55), 3), (72, .aload_n 0, 1), (73, .getfield 23, 3), (76, .aload_n 1, 1), (77, .aload_n 0, 1), (78, .getfield 9, 3), (81, .iconst 0, 1), (82, .invokevirtual 49, 3), (85, .aload_n 0, 1), (86, .getfield 19, 3), (89, .invokevirtual 53, 3), (92, .lreturn, 1)]
theorem dk_Lures_worthWithLight : zw_dk b_Lures_worthWithLight dl_Lures_worthWithLight = true := by decide +kernel
theorem ce_Lures_worthWithLight : zw_cev y_Lures_worthWithLight b_Lures_worthWithLight 8 (some .long) 4 := ⟨⟨kt_in 959 (by decide +kernel) rfl, kt_in 94 (by decide +kernel) rfl, by decide +kernel⟩, kt_in 958 (by decide +kernel) rfl, kt_in 17 (by decide +kernel) rfl⟩
def fn_Lures_worthWithLight_l1 (thought2 : Int32) (shown4 : Int32) : Int32 × Int32 × zw_Ct → Option ((Int32 × zw_Ct) ⊕ (Int32 × Int32 × zw_Ct)) := fun (left6, e7, c8) =>
  if (0 ≤ e7) then
  ((some ((left6 - left6 / 10 * 10) : Int32)).bind fun digit14 =>
  (some ((left6 / 10) : Int32)).bind fun left15 =>
  (fn_Sayings_partOf c8 thought2 e7).bind fun r16 =>
  (zw_uI 4 c8 64 e7 (r16 * (if (¬ shown4 = 0) then (digit14 : Int32) else (10 - digit14)))).bind fun c18 =>
  some (.inr (left15, (e7 + (-1)), c18)))
  else
  (some (.inl (left6, c8)))
def fn_Lures_worthWithLight (c : zw_Ct) (values1 : Nat) (thought2 : Int32) (lights3 : Int32) (shown4 : Int32) : Option (Int64 × zw_Ct) :=
  (some (((c.1 1 0) - 1) : Int32)).bind fun e5 =>
  (zw_whl (fn_Lures_worthWithLight_l1 thought2 shown4) zw_F (lights3, e5, c)).bind fun (left9, c10) =>
  (fn_Judge_tallyWeighed c10 values1 64 0).bind fun c19 =>
  (fn_Tally_greatest c19).bind fun r20 =>
  some (r20, c19)
set_option maxRecDepth 100000 in
theorem km_Lures_worthWithLight {l : Launch} {g : zw_G} {rr : zw_RR} {sh : zw_Sh} {c : zw_Ct} {values1 : Nat} {thought2 : Int32} {lights3 : Int32} {shown4 : Int32} {r : Int64} {c2 : zw_Ct} (hS : zw_Ok 0 101 sh rr) (hsem : fn_Lures_worthWithLight c values1 thought2 lights3 shown4 = some (r, c2)) : zw_Met l g y_Lures_worthWithLight b_Lures_worthWithLight 8 (some .long) 4 rr sh [.ref 63, .ref values1, .int thought2, .int lights3, .int shown4] c (some (.long r)) c2 := by
  unfold fn_Lures_worthWithLight at hsem
  refine zw_Met.of (by decide +kernel) (Nat.le_of_ble_eq_true rfl) (fun p e s m args below meth cd X => ?_)
  refine zw_eL (L2 := [some (.ref 63), some (.ref values1), some (.int thought2), some (.int lights3), some (.int shown4), none, none, none]) rfl ?_
  refine r_iload_n X (pc := 0) (i := 3) (zw_dg dk_Lures_worthWithLight 0 rfl) rfl rfl ?_
  refine r_istore X (pc := 1) (i := 5) (zw_dg dk_Lures_worthWithLight 1 rfl) (by decide) rfl ?_
  refine r_aload_n X (pc := 3) (i := 0) (zw_dg dk_Lures_worthWithLight 2 rfl) rfl rfl ?_
  refine r_getR X (pc := 4) (r := 1) ci_Lures (zo hS 63 rfl rfl) rfl (zr hS 63 0 rfl rfl) lk_Lures_15 (zw_dg dk_Lures_worthWithLight 3 rfl) ?_
  refine r_getI X (pc := 7) ci_Sayings (zo hS 1 rfl rfl) rfl lk_Lures_27 (zw_dg dk_Lures_worthWithLight 4 rfl) ?_
  refine r_iconst X (pc := 10) (v := 1) (zw_dg dk_Lures_worthWithLight 5 rfl) (by decide) ?_
  refine r_isub X (pc := 11) (zw_dg dk_Lures_worthWithLight 6 rfl)  ?_
  obtain ⟨e5, he5, hsem⟩ := zw_bd hsem
  refine zw_topI he5 ?_
  refine r_istore X (pc := 12) (i := 6) (zw_dg dk_Lures_worthWithLight 7 rfl) (by decide) rfl ?_
  obtain ⟨l11, hl11, hsl11⟩ := zw_bd hsem
  refine r_loop (pc := 14) (pce := 72) hl11 (fun (left6, e7, c8) => [some (.ref 63), some (.ref values1), some (.int thought2), some (.int lights3), some (.int shown4), some (.int left6), some (.int e7), none] : Int32 × Int32 × zw_Ct → zw_Lc) (fun (left6, e7, c8) => c8 : Int32 × Int32 × zw_Ct → zw_Ct) (fun (left9, c10) => [some (.ref 63), some (.ref values1), some (.int thought2), some (.int lights3), some (.int shown4), some (.int left9), none, none] : Int32 × zw_Ct → zw_Lc) (fun (left9, c10) => c10 : Int32 × zw_Ct → zw_Ct) ?_ rfl rfl ?_
  · rintro ⟨left6, e7, c8⟩ rr hsem hK hP
    try unfold fn_Lures_worthWithLight_l1 at hsem
    refine r_iload X (pc := 14) (i := 6) (zw_dg dk_Lures_worthWithLight 8 rfl) rfl ?_
    refine r_if_lt X (pc := 16) (tgt := 72) (zw_dg dk_Lures_worthWithLight 9 rfl) (by decide) (fun q13 => ?_) (fun q13 => ?_)
    · --
      have p12 : ¬ (0 ≤ e7) := (Int32.not_le.mpr q13)
      have hsem := zw_ifn p12 hsem
      have jj := hK _ (Option.some.inj hsem).symm
      exact (r_fgt [6] rfl jj)
    · --
      have p12 : (0 ≤ e7) := (Int32.not_lt.mp q13)
      have hsem := zw_ifp p12 hsem
      refine r_iload X (pc := 19) (i := 5) (zw_dg dk_Lures_worthWithLight 10 rfl) rfl ?_
      refine r_bipush X (pc := 21) (v := 10) (zw_dg dk_Lures_worthWithLight 11 rfl) (by decide) ?_
      refine r_irem X (pc := 23) (zw_dg dk_Lures_worthWithLight 12 rfl) (by decide) ?_
      obtain ⟨digit14, hdigit14, hsem⟩ := zw_bd hsem
      refine zw_topI hdigit14 ?_
      refine r_istore X (pc := 24) (i := 7) (zw_dg dk_Lures_worthWithLight 13 rfl) (by decide) rfl ?_
      refine r_iload X (pc := 26) (i := 5) (zw_dg dk_Lures_worthWithLight 14 rfl) rfl ?_
      refine r_bipush X (pc := 28) (v := 10) (zw_dg dk_Lures_worthWithLight 15 rfl) (by decide) ?_
      refine r_idiv X (pc := 30) (zw_dg dk_Lures_worthWithLight 16 rfl) (by decide) ?_
      obtain ⟨left15, hleft15, hsem⟩ := zw_bd hsem
      refine zw_topI hleft15 ?_
      refine r_istore X (pc := 31) (i := 5) (zw_dg dk_Lures_worthWithLight 17 rfl) (by decide) rfl ?_
      refine r_aload_n X (pc := 33) (i := 0) (zw_dg dk_Lures_worthWithLight 18 rfl) rfl rfl ?_
      refine r_getR X (pc := 34) (r := 64) ci_Lures (zo hS 63 rfl rfl) rfl (zr hS 63 3 rfl rfl) lk_Lures_9 (zw_dg dk_Lures_worthWithLight 19 rfl) ?_
      refine r_iload X (pc := 37) (i := 6) (zw_dg dk_Lures_worthWithLight 20 rfl) rfl ?_
      refine r_aload_n X (pc := 39) (i := 0) (zw_dg dk_Lures_worthWithLight 21 rfl) rfl rfl ?_
      refine r_getR X (pc := 40) (r := 1) ci_Lures (zo hS 63 rfl rfl) rfl (zr hS 63 0 rfl rfl) lk_Lures_15 (zw_dg dk_Lures_worthWithLight 22 rfl) ?_
      refine r_iload_n X (pc := 43) (i := 2) (zw_dg dk_Lures_worthWithLight 23 rfl) rfl rfl ?_
      refine r_iload X (pc := 44) (i := 6) (zw_dg dk_Lures_worthWithLight 24 rfl) rfl ?_
      obtain ⟨r16, hr16, hsem⟩ := zw_bd hsem
      refine r_callVi X (pc := 46) (As := [_, _]) (st := [.int e7, .ref 64]) (km_Sayings_partOf hS hr16) ce_Sayings_partOf kw_960 (zo hS 1 rfl rfl) rfl rfl ⟨Nat.le_of_ble_eq_true rfl, Nat.le_of_ble_eq_true rfl⟩ (Nat.le_of_ble_eq_true rfl) (zw_dg dk_Lures_worthWithLight 25 rfl) ?_
      refine zw_ter (P := (¬ shown4 = 0)) (f := Value.int) (x := digit14) (y := (10 - digit14)) (J := 64) (st2 := [.int r16, .int e7, .ref 64]) (fun jT jF => ?_) ?_
      · --
        refine r_iload X (pc := 49) (i := 4) (zw_dg dk_Lures_worthWithLight 26 rfl) rfl ?_
        refine r_if_eq X (pc := 51) (tgt := 59) (zw_dg dk_Lures_worthWithLight 27 rfl) (by decide) (fun q17 => ?_) (fun q17 => ?_)
        · --
          refine r_bipush X (pc := 59) (v := 10) (zw_dg dk_Lures_worthWithLight 30 rfl) (by decide) ?_
          refine r_iload X (pc := 61) (i := 7) (zw_dg dk_Lures_worthWithLight 31 rfl) rfl ?_
          refine r_isub X (pc := 63) (zw_dg dk_Lures_worthWithLight 32 rfl)  ?_
          exact jF (fun z => z q17)
        · --
          refine r_iload X (pc := 54) (i := 7) (zw_dg dk_Lures_worthWithLight 28 rfl) rfl ?_
          refine r_goto X (pc := 56) (tgt := 64) (zw_dg dk_Lures_worthWithLight 29 rfl) (by decide) ?_
          exact jT q17
      refine r_imul X (pc := 64) (zw_dg dk_Lures_worthWithLight 33 rfl)  ?_
      obtain ⟨c18, hc18, hsem⟩ := zw_bd hsem
      refine r_iast X (pc := 65) (zo hS 64 rfl rfl) hc18 (zw_dg dk_Lures_worthWithLight 34 rfl) ?_
      refine r_iinc X (pc := 66) (i := 6) (k := (-1)) (zw_dg dk_Lures_worthWithLight 35 rfl) rfl (by decide) (by decide) rfl ?_
      refine r_goto X (pc := 69) (tgt := 14) (zw_dg dk_Lures_worthWithLight 36 rfl) (by decide) ?_
      have jj := hP _ (Option.some.inj hsem).symm
      exact (r_fgt [7] rfl jj)
  obtain ⟨left9, c10⟩ := l11
  have hsem := hsl11
  refine r_aload_n X (pc := 72) (i := 0) (zw_dg dk_Lures_worthWithLight 37 rfl) rfl rfl ?_
  refine r_getR X (pc := 73) (r := 13) ci_Lures (zo hS 63 rfl rfl) rfl (zr hS 63 2 rfl rfl) lk_Lures_23 (zw_dg dk_Lures_worthWithLight 38 rfl) ?_
  refine r_aload_n X (pc := 76) (i := 1) (zw_dg dk_Lures_worthWithLight 39 rfl) rfl rfl ?_
  refine r_aload_n X (pc := 77) (i := 0) (zw_dg dk_Lures_worthWithLight 40 rfl) rfl rfl ?_
  refine r_getR X (pc := 78) (r := 64) ci_Lures (zo hS 63 rfl rfl) rfl (zr hS 63 3 rfl rfl) lk_Lures_9 (zw_dg dk_Lures_worthWithLight 41 rfl) ?_
  refine r_iconst X (pc := 81) (v := 0) (zw_dg dk_Lures_worthWithLight 42 rfl) (by decide) ?_
  obtain ⟨c19, hc19, hsem⟩ := zw_bd hsem
  refine r_callVv X (pc := 82) (As := [_, _, _]) (st := []) (km_Judge_tallyWeighed hS hc19) ce_Judge_tallyWeighed kw_961 (zo hS 13 rfl rfl) rfl rfl ⟨Nat.le_of_ble_eq_true rfl, Nat.le_of_ble_eq_true rfl⟩ (Nat.le_of_ble_eq_true rfl) (zw_dg dk_Lures_worthWithLight 43 rfl) ?_
  refine r_aload_n X (pc := 85) (i := 0) (zw_dg dk_Lures_worthWithLight 44 rfl) rfl rfl ?_
  refine r_getR X (pc := 86) (r := 11) ci_Lures (zo hS 63 rfl rfl) rfl (zr hS 63 1 rfl rfl) lk_Lures_19 (zw_dg dk_Lures_worthWithLight 45 rfl) ?_
  obtain ⟨r20, hr20, hsem⟩ := zw_bd hsem
  refine r_callVl X (pc := 89) (As := []) (st := []) (km_Tally_greatest hS hr20) ce_Tally_greatest kw_962 (zo hS 11 rfl rfl) rfl rfl ⟨Nat.le_of_ble_eq_true rfl, Nat.le_of_ble_eq_true rfl⟩ (Nat.le_of_ble_eq_true rfl) (zw_dg dk_Lures_worthWithLight 46 rfl) ?_
  cases hsem
  exact r_lret X (pc := 92) rfl (zw_dg dk_Lures_worthWithLight 47 rfl)
def y_Lures_gainOfLooking : MethodName := ⟨R_Lures, "gainOfLooking", "([III)J"⟩
abbrev b_Lures_gainOfLooking : ByteArray := prog_7_method_3_code
def dl_Lures_gainOfLooking : List (Nat × Instr × Nat) := [(0, .aload_n 0, 1), (1, .aload_n 1, 1), (2, .iload_n 2, 1), (3, .iload_n 3, 1), (4, .iconst 1, 1), (5, .invokevirtual 33, 3), (8, .aload_n 0, 1), (9, .aload_n 1, 1), (10, .iload_n 2, 1), (11, .iload_n 3, 1), (12, .iconst 0, 1), (13, .invokevirtual 33, 3), (16, .ladd, 1), (17, .ldc2_w 37, 3), (20, .aload_n 0, 1), (21, .getfield 23, 3), (24, .aload_n 1, 1), (25, .iload_n 2, 1), (26, .invokevirtual 39, 3), (29, .lmul, 1), (30, .lsub, 1), (31, .lreturn, 1)]
theorem dk_Lures_gainOfLooking : zw_dk b_Lures_gainOfLooking dl_Lures_gainOfLooking = true := by decide +kernel
theorem ce_Lures_gainOfLooking : zw_cev y_Lures_gainOfLooking b_Lures_gainOfLooking 4 (some .long) 3 := ⟨⟨kt_in 955 (by decide +kernel) rfl, kt_in 94 (by decide +kernel) rfl, by decide +kernel⟩, kt_in 953 (by decide +kernel) rfl, kt_in 954 (by decide +kernel) rfl⟩
def fn_Lures_gainOfLooking (c : zw_Ct) (values1 : Nat) (thought2 : Int32) (lights3 : Int32) : Option (Int64 × zw_Ct) :=
  (fn_Lures_worthWithLight c values1 thought2 lights3 1).bind fun (r4, c5) =>
  (fn_Lures_worthWithLight c5 values1 thought2 lights3 0).bind fun (r6, c7) =>
  (fn_Judge_greatestWorth c7 values1 thought2).bind fun (r8, c9) =>
  some (((r4 + r6) - (10 * r8)), c9)
set_option maxRecDepth 100000 in
theorem km_Lures_gainOfLooking {l : Launch} {g : zw_G} {rr : zw_RR} {sh : zw_Sh} {c : zw_Ct} {values1 : Nat} {thought2 : Int32} {lights3 : Int32} {r : Int64} {c2 : zw_Ct} (hS : zw_Ok 0 101 sh rr) (hsem : fn_Lures_gainOfLooking c values1 thought2 lights3 = some (r, c2)) : zw_Met l g y_Lures_gainOfLooking b_Lures_gainOfLooking 4 (some .long) 5 rr sh [.ref 63, .ref values1, .int thought2, .int lights3] c (some (.long r)) c2 := by
  unfold fn_Lures_gainOfLooking at hsem
  refine zw_Met.of (by decide +kernel) (Nat.le_of_ble_eq_true rfl) (fun p e s m args below meth cd X => ?_)
  refine zw_eL (L2 := [some (.ref 63), some (.ref values1), some (.int thought2), some (.int lights3)]) rfl ?_
  refine r_aload_n X (pc := 0) (i := 0) (zw_dg dk_Lures_gainOfLooking 0 rfl) rfl rfl ?_
  refine r_aload_n X (pc := 1) (i := 1) (zw_dg dk_Lures_gainOfLooking 1 rfl) rfl rfl ?_
  refine r_iload_n X (pc := 2) (i := 2) (zw_dg dk_Lures_gainOfLooking 2 rfl) rfl rfl ?_
  refine r_iload_n X (pc := 3) (i := 3) (zw_dg dk_Lures_gainOfLooking 3 rfl) rfl rfl ?_
  refine r_iconst X (pc := 4) (v := 1) (zw_dg dk_Lures_gainOfLooking 4 rfl) (by decide) ?_
  obtain ⟨⟨r4, c5⟩, hr4_c5, hsem⟩ := zw_bd hsem
  refine r_callVl X (pc := 5) (As := [_, _, _, _]) (st := []) (km_Lures_worthWithLight hS hr4_c5) ce_Lures_worthWithLight kw_956 (zo hS 63 rfl rfl) rfl rfl ⟨Nat.le_of_ble_eq_true rfl, Nat.le_of_ble_eq_true rfl⟩ (Nat.le_of_ble_eq_true rfl) (zw_dg dk_Lures_gainOfLooking 5 rfl) ?_
  refine r_aload_n X (pc := 8) (i := 0) (zw_dg dk_Lures_gainOfLooking 6 rfl) rfl rfl ?_
  refine r_aload_n X (pc := 9) (i := 1) (zw_dg dk_Lures_gainOfLooking 7 rfl) rfl rfl ?_
  refine r_iload_n X (pc := 10) (i := 2) (zw_dg dk_Lures_gainOfLooking 8 rfl) rfl rfl ?_
  refine r_iload_n X (pc := 11) (i := 3) (zw_dg dk_Lures_gainOfLooking 9 rfl) rfl rfl ?_
  refine r_iconst X (pc := 12) (v := 0) (zw_dg dk_Lures_gainOfLooking 10 rfl) (by decide) ?_
  obtain ⟨⟨r6, c7⟩, hr6_c7, hsem⟩ := zw_bd hsem
  refine r_callVl X (pc := 13) (As := [_, _, _, _]) (st := [.long r4]) (km_Lures_worthWithLight hS hr6_c7) ce_Lures_worthWithLight kw_956 (zo hS 63 rfl rfl) rfl rfl ⟨Nat.le_of_ble_eq_true rfl, Nat.le_of_ble_eq_true rfl⟩ (Nat.le_of_ble_eq_true rfl) (zw_dg dk_Lures_gainOfLooking 11 rfl) ?_
  refine r_ladd X (pc := 16) (zw_dg dk_Lures_gainOfLooking 12 rfl)  ?_
  refine r_ldc2 X (pc := 17) (v := 10) kw_963 (zw_dg dk_Lures_gainOfLooking 13 rfl) ?_
  refine r_aload_n X (pc := 20) (i := 0) (zw_dg dk_Lures_gainOfLooking 14 rfl) rfl rfl ?_
  refine r_getR X (pc := 21) (r := 13) ci_Lures (zo hS 63 rfl rfl) rfl (zr hS 63 2 rfl rfl) lk_Lures_23 (zw_dg dk_Lures_gainOfLooking 15 rfl) ?_
  refine r_aload_n X (pc := 24) (i := 1) (zw_dg dk_Lures_gainOfLooking 16 rfl) rfl rfl ?_
  refine r_iload_n X (pc := 25) (i := 2) (zw_dg dk_Lures_gainOfLooking 17 rfl) rfl rfl ?_
  obtain ⟨⟨r8, c9⟩, hr8_c9, hsem⟩ := zw_bd hsem
  refine r_callVl X (pc := 26) (As := [_, _]) (st := [.long 10, .long (r4 + r6)]) (km_Judge_greatestWorth hS hr8_c9) ce_Judge_greatestWorth kw_964 (zo hS 13 rfl rfl) rfl rfl ⟨Nat.le_of_ble_eq_true rfl, Nat.le_of_ble_eq_true rfl⟩ (Nat.le_of_ble_eq_true rfl) (zw_dg dk_Lures_gainOfLooking 18 rfl) ?_
  refine r_lmul X (pc := 29) (zw_dg dk_Lures_gainOfLooking 19 rfl)  ?_
  refine r_lsub X (pc := 30) (zw_dg dk_Lures_gainOfLooking 20 rfl)  ?_
  cases hsem
  exact r_lret X (pc := 31) rfl (zw_dg dk_Lures_gainOfLooking 21 rfl)
def y_Lures_timesForCost : MethodName := ⟨R_Lures, "timesForCost", "(JI)I"⟩
abbrev b_Lures_timesForCost : ByteArray := prog_7_method_5_code
def dl_Lures_timesForCost : List (Nat × Instr × Nat) := [(0, .iload_n 3, 1), (1, .i2l, 1), (2, .aload_n 0, 1), (3, .getfield 15, 3), (6, .getfield 59, 3), (9, .i2l, 1), (10, .lmul, 1), (11, .ldc2_w 37, 3), (14, .lmul, 1), (15, .lstore 4, 2), (17, .lload 4, 2), (19, .lconst 0, 1), (20, .lcmp, 1), (21, .ifCond .ne 5, 3), (24, .iconst 1, 1), (25, .ireturn, 1), (26, .lload_n 1, 1), (27, .lconst 0, 1), (28, .lcmp, 1), (29, .ifCond .gt 9, 3), (32, .ldc2_w 62, 3), (35, .goto 13, 3), (38, .lload 4, 2), (40, .lload_n 1, 1), (41, .ladd, 1), (42, .lconst 1, 1), (43, .lsub, 1), (44, .lload_n 1, 1), (45, .invokestatic 64, 3), (48, .lstore 6, 2), (50, .lload 6, 2), (52, .ldc2_w 68, 3), (55, .lcmp, 1), (56, .ifCond .le 7, 3), (59, .iconst (-1), 1), (60, .goto 6, 3), (63, .lload 6, 2), (65, .l2i, 1), (66, .ireturn, 1)]
theorem dk_Lures_timesForCost : zw_dk b_Lures_timesForCost dl_Lures_timesForCost = true := by decide +kernel
theorem ce_Lures_timesForCost : zw_cev y_Lures_timesForCost b_Lures_timesForCost 8 (some .int) 2 := ⟨⟨kt_in 968 (by decide +kernel) rfl, kt_in 94 (by decide +kernel) rfl, by decide +kernel⟩, kt_in 966 (by decide +kernel) rfl, kt_in 967 (by decide +kernel) rfl⟩
def fn_Lures_timesForCost (c : zw_Ct) (more1 : Int64) (cost2 : Int32) : Option Int32 :=
  (some (((cost2.toInt64 * ((c.1 1 1)).toInt64) * 10) : Int64)).bind fun due3 =>
  if (due3 = 0) then
  (some 1)
  else
  ((if (more1 ≤ 0) then
  (some (10000 : Int64))
  else
  ((fn_P_cut ((due3 + more1) - 1) more1).bind fun r9 =>
  some (r9 : Int64))).bind fun v6 =>
  some (if (9999 < v6) then ((-1) : Int32) else v6.toInt32))
set_option maxRecDepth 100000 in
theorem km_Lures_timesForCost {l : Launch} {g : zw_G} {rr : zw_RR} {sh : zw_Sh} {c : zw_Ct} {more1 : Int64} {cost2 : Int32} {r : Int32} (hS : zw_Ok 0 101 sh rr) (hsem : fn_Lures_timesForCost c more1 cost2 = some r) : zw_Met l g y_Lures_timesForCost b_Lures_timesForCost 8 (some .int) 2 rr sh [.ref 63, .long more1, .int cost2] c (some (.int r)) c := by
  unfold fn_Lures_timesForCost at hsem
  refine zw_Met.of (by decide +kernel) (Nat.le_of_ble_eq_true rfl) (fun p e s m args below meth cd X => ?_)
  refine zw_eL (L2 := [some (.ref 63), some (.long more1), none, some (.int cost2), none, none, none, none]) rfl ?_
  refine r_iload_n X (pc := 0) (i := 3) (zw_dg dk_Lures_timesForCost 0 rfl) rfl rfl ?_
  refine r_i2l X (pc := 1) (zw_dg dk_Lures_timesForCost 1 rfl)  ?_
  refine r_aload_n X (pc := 2) (i := 0) (zw_dg dk_Lures_timesForCost 2 rfl) rfl rfl ?_
  refine r_getR X (pc := 3) (r := 1) ci_Lures (zo hS 63 rfl rfl) rfl (zr hS 63 0 rfl rfl) lk_Lures_15 (zw_dg dk_Lures_timesForCost 3 rfl) ?_
  refine r_getI X (pc := 6) ci_Sayings (zo hS 1 rfl rfl) rfl lk_Lures_59 (zw_dg dk_Lures_timesForCost 4 rfl) ?_
  refine r_i2l X (pc := 9) (zw_dg dk_Lures_timesForCost 5 rfl)  ?_
  refine r_lmul X (pc := 10) (zw_dg dk_Lures_timesForCost 6 rfl)  ?_
  refine r_ldc2 X (pc := 11) (v := 10) kw_963 (zw_dg dk_Lures_timesForCost 7 rfl) ?_
  refine r_lmul X (pc := 14) (zw_dg dk_Lures_timesForCost 8 rfl)  ?_
  obtain ⟨due3, hdue3, hsem⟩ := zw_bd hsem
  refine zw_topJ hdue3 ?_
  refine r_lstore X (pc := 15) (i := 4) (L2 := [some (.ref 63), some (.long more1), none, some (.int cost2), some (.long due3), none, none, none]) (zw_dg dk_Lures_timesForCost 9 rfl) (by decide) rfl ?_
  refine r_lload X (pc := 17) (i := 4) (zw_dg dk_Lures_timesForCost 10 rfl) rfl ?_
  refine r_lconst X (pc := 19) (v := 0) (zw_dg dk_Lures_timesForCost 11 rfl) (by decide) ?_
  refine r_lcmp_ne X (pc := 20) (tgt := 26) (zw_dg dk_Lures_timesForCost 12 rfl) (zw_dg dk_Lures_timesForCost 13 rfl) (by decide) (fun q5 => ?_) (fun q5 => ?_)
  · --
    have p4 : ¬ (due3 = 0) := q5
    have hsem := zw_ifn p4 hsem
    obtain ⟨v6, hv6, hsv6⟩ := zw_bd hsem
    refine zw_terO (f := Value.long) (v := v6) (J := 48) (st2 := []) (c2 := c) (fun jj => ?_) ?_
    · have hsem := hv6
      refine r_lload_n X (pc := 26) (i := 1) (zw_dg dk_Lures_timesForCost 16 rfl) rfl rfl ?_
      refine r_lconst X (pc := 27) (v := 0) (zw_dg dk_Lures_timesForCost 17 rfl) (by decide) ?_
      refine r_lcmp_gt X (pc := 28) (tgt := 38) (zw_dg dk_Lures_timesForCost 18 rfl) (zw_dg dk_Lures_timesForCost 19 rfl) (by decide) (fun q8 => ?_) (fun q8 => ?_)
      · --
        have p7 : ¬ (more1 ≤ 0) := (Int64.not_le.mpr q8)
        have hsem := zw_ifn p7 hsem
        refine r_lload X (pc := 38) (i := 4) (zw_dg dk_Lures_timesForCost 22 rfl) rfl ?_
        refine r_lload_n X (pc := 40) (i := 1) (zw_dg dk_Lures_timesForCost 23 rfl) rfl rfl ?_
        refine r_ladd X (pc := 41) (zw_dg dk_Lures_timesForCost 24 rfl)  ?_
        refine r_lconst X (pc := 42) (v := 1) (zw_dg dk_Lures_timesForCost 25 rfl) (by decide) ?_
        refine r_lsub X (pc := 43) (zw_dg dk_Lures_timesForCost 26 rfl)  ?_
        refine r_lload_n X (pc := 44) (i := 1) (zw_dg dk_Lures_timesForCost 27 rfl) rfl rfl ?_
        obtain ⟨r9, hr9, hsem⟩ := zw_bd hsem
        refine r_callSNl X (pc := 45) (As := [_, _]) (st := []) (km_P_cut hS hr9) ce_P_cut kw_970 rfl ⟨Nat.le_of_ble_eq_true rfl, Nat.le_of_ble_eq_true rfl⟩ (Nat.le_of_ble_eq_true rfl) (zw_dg dk_Lures_timesForCost 28 rfl) ?_
        cases hsem; exact jj
      · --
        have p7 : (more1 ≤ 0) := (Int64.not_lt.mp q8)
        have hsem := zw_ifp p7 hsem
        refine r_ldc2 X (pc := 32) (v := 10000) kw_969 (zw_dg dk_Lures_timesForCost 20 rfl) ?_
        refine r_goto X (pc := 35) (tgt := 48) (zw_dg dk_Lures_timesForCost 21 rfl) (by decide) ?_
        cases hsem; exact jj
    have hsem := hsv6
    refine r_lstore X (pc := 48) (i := 6) (L2 := [some (.ref 63), some (.long more1), none, some (.int cost2), some (.long due3), none, some (.long v6), none]) (zw_dg dk_Lures_timesForCost 29 rfl) (by decide) rfl ?_
    refine zw_ter (P := (9999 < v6)) (f := Value.int) (x := (-1)) (y := v6.toInt32) (J := 66) (st2 := []) (fun jT jF => ?_) ?_
    · --
      refine r_lload X (pc := 50) (i := 6) (zw_dg dk_Lures_timesForCost 30 rfl) rfl ?_
      refine r_ldc2 X (pc := 52) (v := 9999) kw_971 (zw_dg dk_Lures_timesForCost 31 rfl) ?_
      refine r_lcmp_le X (pc := 55) (tgt := 63) (zw_dg dk_Lures_timesForCost 32 rfl) (zw_dg dk_Lures_timesForCost 33 rfl) (by decide) (fun q10 => ?_) (fun q10 => ?_)
      · --
        refine r_lload X (pc := 63) (i := 6) (zw_dg dk_Lures_timesForCost 36 rfl) rfl ?_
        refine r_l2i X (pc := 65) (zw_dg dk_Lures_timesForCost 37 rfl)  ?_
        exact jF (Int64.not_lt.mpr q10)
      · --
        refine r_iconst X (pc := 59) (v := (-1)) (zw_dg dk_Lures_timesForCost 34 rfl) (by decide) ?_
        refine r_goto X (pc := 60) (tgt := 66) (zw_dg dk_Lures_timesForCost 35 rfl) (by decide) ?_
        exact jT (Int64.not_le.mp q10)
    cases hsem
    exact r_iret X (pc := 66) rfl (zw_dg dk_Lures_timesForCost 38 rfl)
  · --
    have p4 : (due3 = 0) := q5
    have hsem := zw_ifp p4 hsem
    refine r_iconst X (pc := 24) (v := 1) (zw_dg dk_Lures_timesForCost 14 rfl) (by decide) ?_
    cases hsem
    exact r_iret X (pc := 25) rfl (zw_dg dk_Lures_timesForCost 15 rfl)
def y_Lures_minded : MethodName := ⟨R_Lures, "minded", "([IIII)J"⟩
abbrev b_Lures_minded : ByteArray := prog_7_method_7_code
def dl_Lures_minded : List (Nat × Instr × Nat) := [(0, .lconst 0, 1), (1, .lstore 5, 2), (3, .iconst 0, 1), (4, .istore 7, 2), (6, .iload 7, 2), (8, .aload_n 0, 1), (9, .getfield 15, 3), (12, .getfield 27, 3), (15, .if_icmp .ge 55, 3), (18, .aload_n 1, 1), (19, .iload_n 2, 1), (20, .iconst 4, 1), (21, .imul, 1), (22, .iload 7, 2), (24, .iadd, 1), (25, .iaload, 1), (26, .i2l, 1), (27, .lstore 8, 2), (29, .lload 5, 2), (31, .aload_n 0, 1), (32, .getfield 15, 3), (35, .iload_n 3, 1), (36, .iload 7, 2), (38, .invokevirtual 45, 3), (41, .i2l, 1), (42, .lload 8, 2), (44, .lconst 0, 1), (45, .lcmp, 1), (46, .ifCond .ge 12, 3), (49, .lload 8, 2), (51, .iload 4, 2), (53, .i2l, 1), (54, .lmul, 1), (55, .goto 5, 3), (58, .lload 8, 2), (60, .lmul, 1), (61, .ladd, 1), (62, .lstore 5, 2), (64, .iinc 7 1, 3), (67, .goto (-61), 3), (70, .lload 5, 2), (72, .lreturn, 1)]
theorem dk_Lures_minded : zw_dk b_Lures_minded dl_Lures_minded = true := by decide +kernel
theorem ce_Lures_minded : zw_cev y_Lures_minded b_Lures_minded 10 (some .long) 4 := ⟨⟨kt_in 987 (by decide +kernel) rfl, kt_in 94 (by decide +kernel) rfl, by decide +kernel⟩, kt_in 986 (by decide +kernel) rfl, kt_in 18 (by decide +kernel) rfl⟩
def fn_Lures_minded_l1 (c : zw_Ct) (values1 : Nat) (saying2 : Int32) (thought3 : Int32) (w4 : Int32) : Int64 × Int32 → Option ((Int64) ⊕ (Int64 × Int32)) := fun (sum5, e6) =>
  if (e6 < (c.1 1 0)) then
  ((zw_dI SH 0 c values1 ((saying2 * 4) + e6)).bind fun x11 =>
  (some (x11.toInt64 : Int64)).bind fun paid12 =>
  (fn_Sayings_partOf c thought3 e6).bind fun r13 =>
  (some ((sum5 + (r13.toInt64 * (if (paid12 < 0) then ((paid12 * w4.toInt64) : Int64) else paid12))) : Int64)).bind fun sum15 =>
  some (.inr (sum15, (e6 + 1))))
  else
  (some (.inl sum5))
def fn_Lures_minded (c : zw_Ct) (values1 : Nat) (saying2 : Int32) (thought3 : Int32) (w4 : Int32) : Option Int64 :=
  (zw_whl (fn_Lures_minded_l1 c values1 saying2 thought3 w4) zw_F (0, 0)).bind fun sum7 =>
  some sum7
set_option maxRecDepth 100000 in
theorem km_Lures_minded {l : Launch} {g : zw_G} {rr : zw_RR} {sh : zw_Sh} {c : zw_Ct} {values1 : Nat} {saying2 : Int32} {thought3 : Int32} {w4 : Int32} {r : Int64} (hS : zw_Ok 0 101 sh rr) (hsem : fn_Lures_minded c values1 saying2 thought3 w4 = some r) : zw_Met l g y_Lures_minded b_Lures_minded 10 (some .long) 2 rr sh [.ref 63, .ref values1, .int saying2, .int thought3, .int w4] c (some (.long r)) c := by
  unfold fn_Lures_minded at hsem
  refine zw_Met.of (by decide +kernel) (Nat.le_of_ble_eq_true rfl) (fun p e s m args below meth cd X => ?_)
  refine zw_eL (L2 := [some (.ref 63), some (.ref values1), some (.int saying2), some (.int thought3), some (.int w4), none, none, none, none, none]) rfl ?_
  refine r_lconst X (pc := 0) (v := 0) (zw_dg dk_Lures_minded 0 rfl) (by decide) ?_
  refine r_lstore X (pc := 1) (i := 5) (L2 := [some (.ref 63), some (.ref values1), some (.int saying2), some (.int thought3), some (.int w4), some (.long 0), none, none, none, none]) (zw_dg dk_Lures_minded 1 rfl) (by decide) rfl ?_
  refine r_iconst X (pc := 3) (v := 0) (zw_dg dk_Lures_minded 2 rfl) (by decide) ?_
  refine r_istore X (pc := 4) (i := 7) (zw_dg dk_Lures_minded 3 rfl) (by decide) rfl ?_
  obtain ⟨sum7, hl8, hsl8⟩ := zw_bd hsem
  refine r_loop (pc := 6) (pce := 70) hl8 (fun (sum5, e6) => [some (.ref 63), some (.ref values1), some (.int saying2), some (.int thought3), some (.int w4), some (.long sum5), none, some (.int e6), none, none] : Int64 × Int32 → zw_Lc) (fun (sum5, e6) => c : Int64 × Int32 → zw_Ct) (fun sum7 => [some (.ref 63), some (.ref values1), some (.int saying2), some (.int thought3), some (.int w4), some (.long sum7), none, none, none, none] : Int64 → zw_Lc) (fun sum7 => c : Int64 → zw_Ct) ?_ rfl rfl ?_
  · rintro ⟨sum5, e6⟩ rr hsem hK hP
    try unfold fn_Lures_minded_l1 at hsem
    refine r_iload X (pc := 6) (i := 7) (zw_dg dk_Lures_minded 4 rfl) rfl ?_
    refine r_aload_n X (pc := 8) (i := 0) (zw_dg dk_Lures_minded 5 rfl) rfl rfl ?_
    refine r_getR X (pc := 9) (r := 1) ci_Lures (zo hS 63 rfl rfl) rfl (zr hS 63 0 rfl rfl) lk_Lures_15 (zw_dg dk_Lures_minded 6 rfl) ?_
    refine r_getI X (pc := 12) ci_Sayings (zo hS 1 rfl rfl) rfl lk_Lures_27 (zw_dg dk_Lures_minded 7 rfl) ?_
    refine r_icmp_ge X (pc := 15) (tgt := 70) (zw_dg dk_Lures_minded 8 rfl) (by decide) (fun q10 => ?_) (fun q10 => ?_)
    · --
      have p9 : ¬ (e6 < (c.1 1 0)) := (Int32.not_lt.mpr q10)
      have hsem := zw_ifn p9 hsem
      have jj := hK _ (Option.some.inj hsem).symm
      exact (r_fgt [7] rfl jj)
    · --
      have p9 : (e6 < (c.1 1 0)) := (Int32.not_le.mp q10)
      have hsem := zw_ifp p9 hsem
      refine r_aload_n X (pc := 18) (i := 1) (zw_dg dk_Lures_minded 9 rfl) rfl rfl ?_
      refine r_iload_n X (pc := 19) (i := 2) (zw_dg dk_Lures_minded 10 rfl) rfl rfl ?_
      refine r_iconst X (pc := 20) (v := 4) (zw_dg dk_Lures_minded 11 rfl) (by decide) ?_
      refine r_imul X (pc := 21) (zw_dg dk_Lures_minded 12 rfl)  ?_
      refine r_iload X (pc := 22) (i := 7) (zw_dg dk_Lures_minded 13 rfl) rfl ?_
      refine r_iadd X (pc := 24) (zw_dg dk_Lures_minded 14 rfl)  ?_
      obtain ⟨x11, hx11, hsem⟩ := zw_bd hsem
      obtain ⟨_, hnx11, hx11⟩ := zw_bd hx11
      refine r_iald X (pc := 25) (zd hS (zw_len_of hnx11)) hx11 (zw_dg dk_Lures_minded 15 rfl) ?_
      refine r_i2l X (pc := 26) (zw_dg dk_Lures_minded 16 rfl)  ?_
      obtain ⟨paid12, hpaid12, hsem⟩ := zw_bd hsem
      refine zw_topJ hpaid12 ?_
      refine r_lstore X (pc := 27) (i := 8) (L2 := [some (.ref 63), some (.ref values1), some (.int saying2), some (.int thought3), some (.int w4), some (.long sum5), none, some (.int e6), some (.long paid12), none]) (zw_dg dk_Lures_minded 17 rfl) (by decide) rfl ?_
      refine r_lload X (pc := 29) (i := 5) (zw_dg dk_Lures_minded 18 rfl) rfl ?_
      refine r_aload_n X (pc := 31) (i := 0) (zw_dg dk_Lures_minded 19 rfl) rfl rfl ?_
      refine r_getR X (pc := 32) (r := 1) ci_Lures (zo hS 63 rfl rfl) rfl (zr hS 63 0 rfl rfl) lk_Lures_15 (zw_dg dk_Lures_minded 20 rfl) ?_
      refine r_iload_n X (pc := 35) (i := 3) (zw_dg dk_Lures_minded 21 rfl) rfl rfl ?_
      refine r_iload X (pc := 36) (i := 7) (zw_dg dk_Lures_minded 22 rfl) rfl ?_
      obtain ⟨r13, hr13, hsem⟩ := zw_bd hsem
      refine r_callVi X (pc := 38) (As := [_, _]) (st := [.long sum5]) (km_Sayings_partOf hS hr13) ce_Sayings_partOf kw_960 (zo hS 1 rfl rfl) rfl rfl ⟨Nat.le_of_ble_eq_true rfl, Nat.le_of_ble_eq_true rfl⟩ (Nat.le_of_ble_eq_true rfl) (zw_dg dk_Lures_minded 23 rfl) ?_
      refine r_i2l X (pc := 41) (zw_dg dk_Lures_minded 24 rfl)  ?_
      refine zw_ter (P := (paid12 < 0)) (f := Value.long) (x := (paid12 * w4.toInt64)) (y := paid12) (J := 60) (st2 := [.long r13.toInt64, .long sum5]) (fun jT jF => ?_) ?_
      · --
        refine r_lload X (pc := 42) (i := 8) (zw_dg dk_Lures_minded 25 rfl) rfl ?_
        refine r_lconst X (pc := 44) (v := 0) (zw_dg dk_Lures_minded 26 rfl) (by decide) ?_
        refine r_lcmp_ge X (pc := 45) (tgt := 58) (zw_dg dk_Lures_minded 27 rfl) (zw_dg dk_Lures_minded 28 rfl) (by decide) (fun q14 => ?_) (fun q14 => ?_)
        · --
          refine r_lload X (pc := 58) (i := 8) (zw_dg dk_Lures_minded 34 rfl) rfl ?_
          exact jF (Int64.not_lt.mpr q14)
        · --
          refine r_lload X (pc := 49) (i := 8) (zw_dg dk_Lures_minded 29 rfl) rfl ?_
          refine r_iload X (pc := 51) (i := 4) (zw_dg dk_Lures_minded 30 rfl) rfl ?_
          refine r_i2l X (pc := 53) (zw_dg dk_Lures_minded 31 rfl)  ?_
          refine r_lmul X (pc := 54) (zw_dg dk_Lures_minded 32 rfl)  ?_
          refine r_goto X (pc := 55) (tgt := 60) (zw_dg dk_Lures_minded 33 rfl) (by decide) ?_
          exact jT (Int64.not_le.mp q14)
      refine r_lmul X (pc := 60) (zw_dg dk_Lures_minded 35 rfl)  ?_
      refine r_ladd X (pc := 61) (zw_dg dk_Lures_minded 36 rfl)  ?_
      obtain ⟨sum15, hsum15, hsem⟩ := zw_bd hsem
      refine zw_topJ hsum15 ?_
      refine r_lstore X (pc := 62) (i := 5) (L2 := [some (.ref 63), some (.ref values1), some (.int saying2), some (.int thought3), some (.int w4), some (.long sum15), none, some (.int e6), some (.long paid12), none]) (zw_dg dk_Lures_minded 37 rfl) (by decide) rfl ?_
      refine r_iinc X (pc := 64) (i := 7) (k := 1) (zw_dg dk_Lures_minded 38 rfl) rfl (by decide) (by decide) rfl ?_
      refine r_goto X (pc := 67) (tgt := 6) (zw_dg dk_Lures_minded 39 rfl) (by decide) ?_
      have jj := hP _ (Option.some.inj hsem).symm
      exact (r_fgt [8] rfl jj)
  have hsem := hsl8
  refine r_lload X (pc := 70) (i := 5) (zw_dg dk_Lures_minded 40 rfl) rfl ?_
  cases hsem
  exact r_lret X (pc := 72) rfl (zw_dg dk_Lures_minded 41 rfl)
def y_Lures_tellMinding : MethodName := ⟨R_Lures, "tellMinding", "([IIILPaidForThinking$Row;)I"⟩
abbrev b_Lures_tellMinding : ByteArray := prog_7_method_6_code
def dl_Lures_tellMinding : List (Nat × Instr × Nat) := [(0, .iconst 0, 1), (1, .istore 5, 2), (3, .iload 5, 2), (5, .aload_n 0, 1), (6, .getfield 15, 3), (9, .getfield 70, 3), (12, .if_icmp .ge 28, 3), (15, .aload_n 0, 1), (16, .getfield 19, 3), (19, .getfield 73, 3), (22, .iload 5, 2), (24, .aload_n 0, 1), (25, .aload_n 1, 1), (26, .iload 5, 2), (28, .iload_n 2, 1), (29, .iload_n 3, 1), (30, .invokevirtual 77, 3), (33, .lastore, 1), (34, .iinc 5 1, 3), (37, .goto (-34), 3), (40, .aload_n 0, 1), (41, .getfield 19, 3), (44, .invokevirtual 81, 3), (47, .istore 5, 2), (49, .aload 4, 2), (51, .invokevirtual 85, 3), (54, .aload 4, 2), (56, .aload_n 0, 1), (57, .getfield 19, 3), (60, .aload_n 0, 1), (61, .getfield 19, 3), (64, .getfield 73, 3), (67, .iload 5, 2), (69, .laload, 1), (70, .invokevirtual 90, 3), (73, .i2l, 1), (74, .invokevirtual 94, 3), (77, .aload 4, 2), (79, .aload_n 0, 1), (80, .getfield 19, 3), (83, .getfield 73, 3), (86, .iload_n 2, 1), (87, .laload, 1), (88, .aload_n 0, 1), (89, .getfield 19, 3), (92, .getfield 73, 3), (95, .iload 5, 2), (97, .laload, 1), (98, .lcmp, 1), (99, .ifCond .ne 7, 3), (102, .lconst 1, 1), (103, .goto 4, 3), (106, .lconst 0, 1), (107, .invokevirtual 94, 3), (110, .aload 4, 2), (112, .aload_n 0, 1), (113, .getfield 23, 3), (116, .aload_n 1, 1), (117, .iload 5, 2), (119, .iload_n 2, 1), (120, .invokevirtual 98, 3), (123, .aload_n 0, 1), (124, .getfield 15, 3), (127, .getfield 59, 3), (130, .i2l, 1), (131, .invokevirtual 102, 3), (134, .iload 5, 2), (136, .ireturn, 1)]
theorem dk_Lures_tellMinding : zw_dk b_Lures_tellMinding dl_Lures_tellMinding = true := by decide +kernel
theorem ce_Lures_tellMinding : zw_cev y_Lures_tellMinding b_Lures_tellMinding 6 (some .int) 4 := ⟨⟨kt_in 983 (by decide +kernel) rfl, kt_in 94 (by decide +kernel) rfl, by decide +kernel⟩, kt_in 981 (by decide +kernel) rfl, kt_in 982 (by decide +kernel) rfl⟩
def fn_Lures_tellMinding_l1 (values1 : Nat) (thought2 : Int32) (w3 : Int32) : Int32 × zw_Ct → Option ((zw_Ct) ⊕ (Int32 × zw_Ct)) := fun (s4, c5) =>
  if (s4 < (c5.1 1 2)) then
  ((fn_Lures_minded c5 values1 s4 thought2 w3).bind fun r10 =>
  (zw_uL 455 c5 12 s4 r10).bind fun c11 =>
  some (.inr ((s4 + 1), c11)))
  else
  (some (.inl c5))
def fn_Lures_tellMinding (c : zw_Ct) (values1 : Nat) (thought2 : Int32) (w3 : Int32) : Option (Int32 × zw_Ct) :=
  (zw_whl (fn_Lures_tellMinding_l1 values1 thought2 w3) zw_F (0, c)).bind fun c6 =>
  (fn_Tally_top c6).bind fun r12 =>
  (fn_Row_clear c6).bind fun c13 =>
  (zw_aL 455 c13 12 r12).bind fun x14 =>
  (fn_Tally_howMany c13 x14).bind fun r15 =>
  (fn_Row_add c13 r15.toInt64).bind fun c16 =>
  (zw_aL 455 c16 12 thought2).bind fun x17 =>
  (zw_aL 455 c16 12 r12).bind fun x18 =>
  (fn_Row_add c16 (if (x17 = x18) then (1 : Int64) else 0)).bind fun c20 =>
  (fn_Judge_worth c20 values1 r12 thought2).bind fun r21 =>
  (fn_Row_addFraction c20 r21 ((c20.1 1 1)).toInt64).bind fun c22 =>
  some (r12, c22)
set_option maxRecDepth 100000 in
theorem km_Lures_tellMinding {l : Launch} {g : zw_G} {rr : zw_RR} {sh : zw_Sh} {c : zw_Ct} {values1 : Nat} {thought2 : Int32} {w3 : Int32} {r : Int32} {c2 : zw_Ct} (hS : zw_Ok 0 101 sh rr) (hsem : fn_Lures_tellMinding c values1 thought2 w3 = some (r, c2)) : zw_Met l g y_Lures_tellMinding b_Lures_tellMinding 6 (some .int) 3 rr sh [.ref 63, .ref values1, .int thought2, .int w3, .ref 61] c (some (.int r)) c2 := by
  unfold fn_Lures_tellMinding at hsem
  refine zw_Met.of (by decide +kernel) (Nat.le_of_ble_eq_true rfl) (fun p e s m args below meth cd X => ?_)
  refine zw_eL (L2 := [some (.ref 63), some (.ref values1), some (.int thought2), some (.int w3), some (.ref 61), none]) rfl ?_
  refine r_iconst X (pc := 0) (v := 0) (zw_dg dk_Lures_tellMinding 0 rfl) (by decide) ?_
  refine r_istore X (pc := 1) (i := 5) (zw_dg dk_Lures_tellMinding 1 rfl) (by decide) rfl ?_
  obtain ⟨c6, hl7, hsl7⟩ := zw_bd hsem
  refine r_loop (pc := 3) (pce := 40) hl7 (fun (s4, c5) => [some (.ref 63), some (.ref values1), some (.int thought2), some (.int w3), some (.ref 61), some (.int s4)] : Int32 × zw_Ct → zw_Lc) (fun (s4, c5) => c5 : Int32 × zw_Ct → zw_Ct) (fun c6 => [some (.ref 63), some (.ref values1), some (.int thought2), some (.int w3), some (.ref 61), none] : zw_Ct → zw_Lc) (fun c6 => c6 : zw_Ct → zw_Ct) ?_ rfl rfl ?_
  · rintro ⟨s4, c5⟩ rr hsem hK hP
    try unfold fn_Lures_tellMinding_l1 at hsem
    refine r_iload X (pc := 3) (i := 5) (zw_dg dk_Lures_tellMinding 2 rfl) rfl ?_
    refine r_aload_n X (pc := 5) (i := 0) (zw_dg dk_Lures_tellMinding 3 rfl) rfl rfl ?_
    refine r_getR X (pc := 6) (r := 1) ci_Lures (zo hS 63 rfl rfl) rfl (zr hS 63 0 rfl rfl) lk_Lures_15 (zw_dg dk_Lures_tellMinding 4 rfl) ?_
    refine r_getI X (pc := 9) ci_Sayings (zo hS 1 rfl rfl) rfl lk_Lures_70 (zw_dg dk_Lures_tellMinding 5 rfl) ?_
    refine r_icmp_ge X (pc := 12) (tgt := 40) (zw_dg dk_Lures_tellMinding 6 rfl) (by decide) (fun q9 => ?_) (fun q9 => ?_)
    · --
      have p8 : ¬ (s4 < (c5.1 1 2)) := (Int32.not_lt.mpr q9)
      have hsem := zw_ifn p8 hsem
      have jj := hK _ (Option.some.inj hsem).symm
      exact (r_fgt [5] rfl jj)
    · --
      have p8 : (s4 < (c5.1 1 2)) := (Int32.not_le.mp q9)
      have hsem := zw_ifp p8 hsem
      refine r_aload_n X (pc := 15) (i := 0) (zw_dg dk_Lures_tellMinding 7 rfl) rfl rfl ?_
      refine r_getR X (pc := 16) (r := 11) ci_Lures (zo hS 63 rfl rfl) rfl (zr hS 63 1 rfl rfl) lk_Lures_19 (zw_dg dk_Lures_tellMinding 8 rfl) ?_
      refine r_getR X (pc := 19) (r := 12) ci_Tally (zo hS 11 rfl rfl) rfl (zr hS 11 1 rfl rfl) lk_Lures_73 (zw_dg dk_Lures_tellMinding 9 rfl) ?_
      refine r_iload X (pc := 22) (i := 5) (zw_dg dk_Lures_tellMinding 10 rfl) rfl ?_
      refine r_aload_n X (pc := 24) (i := 0) (zw_dg dk_Lures_tellMinding 11 rfl) rfl rfl ?_
      refine r_aload_n X (pc := 25) (i := 1) (zw_dg dk_Lures_tellMinding 12 rfl) rfl rfl ?_
      refine r_iload X (pc := 26) (i := 5) (zw_dg dk_Lures_tellMinding 13 rfl) rfl ?_
      refine r_iload_n X (pc := 28) (i := 2) (zw_dg dk_Lures_tellMinding 14 rfl) rfl rfl ?_
      refine r_iload_n X (pc := 29) (i := 3) (zw_dg dk_Lures_tellMinding 15 rfl) rfl rfl ?_
      obtain ⟨r10, hr10, hsem⟩ := zw_bd hsem
      refine r_callVl X (pc := 30) (As := [_, _, _, _]) (st := [.int s4, .ref 12]) (km_Lures_minded hS hr10) ce_Lures_minded kw_984 (zo hS 63 rfl rfl) rfl rfl ⟨Nat.le_of_ble_eq_true rfl, Nat.le_of_ble_eq_true rfl⟩ (Nat.le_of_ble_eq_true rfl) (zw_dg dk_Lures_tellMinding 16 rfl) ?_
      obtain ⟨c11, hc11, hsem⟩ := zw_bd hsem
      refine r_last X (pc := 33) (zo hS 12 rfl rfl) hc11 (zw_dg dk_Lures_tellMinding 17 rfl) ?_
      refine r_iinc X (pc := 34) (i := 5) (k := 1) (zw_dg dk_Lures_tellMinding 18 rfl) rfl (by decide) (by decide) rfl ?_
      refine r_goto X (pc := 37) (tgt := 3) (zw_dg dk_Lures_tellMinding 19 rfl) (by decide) ?_
      have jj := hP _ (Option.some.inj hsem).symm
      exact (r_fgt [] rfl jj)
  have hsem := hsl7
  refine r_aload_n X (pc := 40) (i := 0) (zw_dg dk_Lures_tellMinding 20 rfl) rfl rfl ?_
  refine r_getR X (pc := 41) (r := 11) ci_Lures (zo hS 63 rfl rfl) rfl (zr hS 63 1 rfl rfl) lk_Lures_19 (zw_dg dk_Lures_tellMinding 21 rfl) ?_
  obtain ⟨r12, hr12, hsem⟩ := zw_bd hsem
  refine r_callVi X (pc := 44) (As := []) (st := []) (km_Tally_top hS hr12) ce_Tally_top kw_988 (zo hS 11 rfl rfl) rfl rfl ⟨Nat.le_of_ble_eq_true rfl, Nat.le_of_ble_eq_true rfl⟩ (Nat.le_of_ble_eq_true rfl) (zw_dg dk_Lures_tellMinding 22 rfl) ?_
  refine r_istore X (pc := 47) (i := 5) (zw_dg dk_Lures_tellMinding 23 rfl) (by decide) rfl ?_
  refine r_aload X (pc := 49) (i := 4) (zw_dg dk_Lures_tellMinding 24 rfl) rfl ?_
  obtain ⟨c13, hc13, hsem⟩ := zw_bd hsem
  refine r_callVv X (pc := 51) (As := []) (st := []) (km_Row_clear hS hc13) ce_Row_clear kw_989 (zo hS 61 rfl rfl) rfl rfl ⟨Nat.le_of_ble_eq_true rfl, Nat.le_of_ble_eq_true rfl⟩ (Nat.le_of_ble_eq_true rfl) (zw_dg dk_Lures_tellMinding 25 rfl) ?_
  refine r_aload X (pc := 54) (i := 4) (zw_dg dk_Lures_tellMinding 26 rfl) rfl ?_
  refine r_aload_n X (pc := 56) (i := 0) (zw_dg dk_Lures_tellMinding 27 rfl) rfl rfl ?_
  refine r_getR X (pc := 57) (r := 11) ci_Lures (zo hS 63 rfl rfl) rfl (zr hS 63 1 rfl rfl) lk_Lures_19 (zw_dg dk_Lures_tellMinding 28 rfl) ?_
  refine r_aload_n X (pc := 60) (i := 0) (zw_dg dk_Lures_tellMinding 29 rfl) rfl rfl ?_
  refine r_getR X (pc := 61) (r := 11) ci_Lures (zo hS 63 rfl rfl) rfl (zr hS 63 1 rfl rfl) lk_Lures_19 (zw_dg dk_Lures_tellMinding 30 rfl) ?_
  refine r_getR X (pc := 64) (r := 12) ci_Tally (zo hS 11 rfl rfl) rfl (zr hS 11 1 rfl rfl) lk_Lures_73 (zw_dg dk_Lures_tellMinding 31 rfl) ?_
  refine r_iload X (pc := 67) (i := 5) (zw_dg dk_Lures_tellMinding 32 rfl) rfl ?_
  obtain ⟨x14, hx14, hsem⟩ := zw_bd hsem
  refine r_lald X (pc := 69) (zo hS 12 rfl rfl) hx14 (zw_dg dk_Lures_tellMinding 33 rfl) ?_
  obtain ⟨r15, hr15, hsem⟩ := zw_bd hsem
  refine r_callVi X (pc := 70) (As := [_]) (st := [.ref 61]) (km_Tally_howMany hS hr15) ce_Tally_howMany kw_990 (zo hS 11 rfl rfl) rfl rfl ⟨Nat.le_of_ble_eq_true rfl, Nat.le_of_ble_eq_true rfl⟩ (Nat.le_of_ble_eq_true rfl) (zw_dg dk_Lures_tellMinding 34 rfl) ?_
  refine r_i2l X (pc := 73) (zw_dg dk_Lures_tellMinding 35 rfl)  ?_
  obtain ⟨c16, hc16, hsem⟩ := zw_bd hsem
  refine r_callVv X (pc := 74) (As := [_]) (st := []) (km_Row_add hS hc16) ce_Row_add kw_991 (zo hS 61 rfl rfl) rfl rfl ⟨Nat.le_of_ble_eq_true rfl, Nat.le_of_ble_eq_true rfl⟩ (Nat.le_of_ble_eq_true rfl) (zw_dg dk_Lures_tellMinding 36 rfl) ?_
  refine r_aload X (pc := 77) (i := 4) (zw_dg dk_Lures_tellMinding 37 rfl) rfl ?_
  refine r_aload_n X (pc := 79) (i := 0) (zw_dg dk_Lures_tellMinding 38 rfl) rfl rfl ?_
  refine r_getR X (pc := 80) (r := 11) ci_Lures (zo hS 63 rfl rfl) rfl (zr hS 63 1 rfl rfl) lk_Lures_19 (zw_dg dk_Lures_tellMinding 39 rfl) ?_
  refine r_getR X (pc := 83) (r := 12) ci_Tally (zo hS 11 rfl rfl) rfl (zr hS 11 1 rfl rfl) lk_Lures_73 (zw_dg dk_Lures_tellMinding 40 rfl) ?_
  refine r_iload_n X (pc := 86) (i := 2) (zw_dg dk_Lures_tellMinding 41 rfl) rfl rfl ?_
  obtain ⟨x17, hx17, hsem⟩ := zw_bd hsem
  refine r_lald X (pc := 87) (zo hS 12 rfl rfl) hx17 (zw_dg dk_Lures_tellMinding 42 rfl) ?_
  refine r_aload_n X (pc := 88) (i := 0) (zw_dg dk_Lures_tellMinding 43 rfl) rfl rfl ?_
  refine r_getR X (pc := 89) (r := 11) ci_Lures (zo hS 63 rfl rfl) rfl (zr hS 63 1 rfl rfl) lk_Lures_19 (zw_dg dk_Lures_tellMinding 44 rfl) ?_
  refine r_getR X (pc := 92) (r := 12) ci_Tally (zo hS 11 rfl rfl) rfl (zr hS 11 1 rfl rfl) lk_Lures_73 (zw_dg dk_Lures_tellMinding 45 rfl) ?_
  refine r_iload X (pc := 95) (i := 5) (zw_dg dk_Lures_tellMinding 46 rfl) rfl ?_
  obtain ⟨x18, hx18, hsem⟩ := zw_bd hsem
  refine r_lald X (pc := 97) (zo hS 12 rfl rfl) hx18 (zw_dg dk_Lures_tellMinding 47 rfl) ?_
  refine zw_ter (P := (x17 = x18)) (f := Value.long) (x := 1) (y := 0) (J := 107) (st2 := [.ref 61]) (fun jT jF => ?_) ?_
  · --
    refine r_lcmp_ne X (pc := 98) (tgt := 106) (zw_dg dk_Lures_tellMinding 48 rfl) (zw_dg dk_Lures_tellMinding 49 rfl) (by decide) (fun q19 => ?_) (fun q19 => ?_)
    · --
      refine r_lconst X (pc := 106) (v := 0) (zw_dg dk_Lures_tellMinding 52 rfl) (by decide) ?_
      exact jF q19
    · --
      refine r_lconst X (pc := 102) (v := 1) (zw_dg dk_Lures_tellMinding 50 rfl) (by decide) ?_
      refine r_goto X (pc := 103) (tgt := 107) (zw_dg dk_Lures_tellMinding 51 rfl) (by decide) ?_
      exact jT q19
  obtain ⟨c20, hc20, hsem⟩ := zw_bd hsem
  refine r_callVv X (pc := 107) (As := [_]) (st := []) (km_Row_add hS hc20) ce_Row_add kw_991 (zo hS 61 rfl rfl) rfl rfl ⟨Nat.le_of_ble_eq_true rfl, Nat.le_of_ble_eq_true rfl⟩ (Nat.le_of_ble_eq_true rfl) (zw_dg dk_Lures_tellMinding 53 rfl) ?_
  refine r_aload X (pc := 110) (i := 4) (zw_dg dk_Lures_tellMinding 54 rfl) rfl ?_
  refine r_aload_n X (pc := 112) (i := 0) (zw_dg dk_Lures_tellMinding 55 rfl) rfl rfl ?_
  refine r_getR X (pc := 113) (r := 13) ci_Lures (zo hS 63 rfl rfl) rfl (zr hS 63 2 rfl rfl) lk_Lures_23 (zw_dg dk_Lures_tellMinding 56 rfl) ?_
  refine r_aload_n X (pc := 116) (i := 1) (zw_dg dk_Lures_tellMinding 57 rfl) rfl rfl ?_
  refine r_iload X (pc := 117) (i := 5) (zw_dg dk_Lures_tellMinding 58 rfl) rfl ?_
  refine r_iload_n X (pc := 119) (i := 2) (zw_dg dk_Lures_tellMinding 59 rfl) rfl rfl ?_
  obtain ⟨r21, hr21, hsem⟩ := zw_bd hsem
  refine r_callVl X (pc := 120) (As := [_, _, _]) (st := [.ref 61]) (km_Judge_worth hS hr21) ce_Judge_worth kw_992 (zo hS 13 rfl rfl) rfl rfl ⟨Nat.le_of_ble_eq_true rfl, Nat.le_of_ble_eq_true rfl⟩ (Nat.le_of_ble_eq_true rfl) (zw_dg dk_Lures_tellMinding 60 rfl) ?_
  refine r_aload_n X (pc := 123) (i := 0) (zw_dg dk_Lures_tellMinding 61 rfl) rfl rfl ?_
  refine r_getR X (pc := 124) (r := 1) ci_Lures (zo hS 63 rfl rfl) rfl (zr hS 63 0 rfl rfl) lk_Lures_15 (zw_dg dk_Lures_tellMinding 62 rfl) ?_
  refine r_getI X (pc := 127) ci_Sayings (zo hS 1 rfl rfl) rfl lk_Lures_59 (zw_dg dk_Lures_tellMinding 63 rfl) ?_
  refine r_i2l X (pc := 130) (zw_dg dk_Lures_tellMinding 64 rfl)  ?_
  obtain ⟨c22, hc22, hsem⟩ := zw_bd hsem
  refine r_callVv X (pc := 131) (As := [_, _]) (st := []) (km_Row_addFraction hS hc22) ce_Row_addFraction kw_993 (zo hS 61 rfl rfl) rfl rfl ⟨Nat.le_of_ble_eq_true rfl, Nat.le_of_ble_eq_true rfl⟩ (Nat.le_of_ble_eq_true rfl) (zw_dg dk_Lures_tellMinding 65 rfl) ?_
  refine r_iload X (pc := 134) (i := 5) (zw_dg dk_Lures_tellMinding 66 rfl) rfl ?_
  cases hsem
  exact r_iret X (pc := 136) rfl (zw_dg dk_Lures_tellMinding 67 rfl)
def y_Lures_offer : MethodName := ⟨R_Lures, "offer", "(III)V"⟩
abbrev b_Lures_offer : ByteArray := prog_7_method_8_code
def dl_Lures_offer : List (Nat × Instr × Nat) := [(0, .aload_n 0, 1), (1, .iload_n 1, 1), (2, .putfield 106, 3), (5, .aload_n 0, 1), (6, .iload_n 2, 1), (7, .putfield 109, 3), (10, .aload_n 0, 1), (11, .iload_n 3, 1), (12, .putfield 112, 3), (15, .return_, 1)]
theorem dk_Lures_offer : zw_dk b_Lures_offer dl_Lures_offer = true := by decide +kernel
theorem ce_Lures_offer : zw_cev y_Lures_offer b_Lures_offer 4 (none) 3 := ⟨⟨kt_in 1009 (by decide +kernel) rfl, kt_in 94 (by decide +kernel) rfl, by decide +kernel⟩, kt_in 1007 (by decide +kernel) rfl, kt_in 1008 (by decide +kernel) rfl⟩
def fn_Lures_offer (c : zw_Ct) (event1 : Int32) (least2 : Int32) (gift3 : Int32) : Option zw_Ct :=
  (some (zw_wI c 63 4 event1)).bind fun c4 =>
  (some (zw_wI c4 63 5 least2)).bind fun c5 =>
  (some (zw_wI c5 63 6 gift3)).bind fun c6 =>
  some c6
set_option maxRecDepth 100000 in
theorem km_Lures_offer {l : Launch} {g : zw_G} {rr : zw_RR} {sh : zw_Sh} {c : zw_Ct} {event1 : Int32} {least2 : Int32} {gift3 : Int32} {c2 : zw_Ct} (hS : zw_Ok 0 101 sh rr) (hsem : fn_Lures_offer c event1 least2 gift3 = some c2) : zw_Met l g y_Lures_offer b_Lures_offer 4 (none) 1 rr sh [.ref 63, .int event1, .int least2, .int gift3] c none c2 := by
  unfold fn_Lures_offer at hsem
  refine zw_Met.of (by decide +kernel) (Nat.le_of_ble_eq_true rfl) (fun p e s m args below meth cd X => ?_)
  refine zw_eL (L2 := [some (.ref 63), some (.int event1), some (.int least2), some (.int gift3)]) rfl ?_
  refine r_aload_n X (pc := 0) (i := 0) (zw_dg dk_Lures_offer 0 rfl) rfl rfl ?_
  refine r_iload_n X (pc := 1) (i := 1) (zw_dg dk_Lures_offer 1 rfl) rfl rfl ?_
  refine r_putI X (pc := 2) ci_Lures (zo hS 63 rfl rfl) rfl lk_Lures_106 rfl ⟨rfl, rfl⟩ (zw_dg dk_Lures_offer 2 rfl) ?_
  obtain ⟨c4, hc4, hsem⟩ := zw_bd hsem
  refine zw_topC hc4 ?_
  refine r_aload_n X (pc := 5) (i := 0) (zw_dg dk_Lures_offer 3 rfl) rfl rfl ?_
  refine r_iload_n X (pc := 6) (i := 2) (zw_dg dk_Lures_offer 4 rfl) rfl rfl ?_
  refine r_putI X (pc := 7) ci_Lures (zo hS 63 rfl rfl) rfl lk_Lures_109 rfl ⟨rfl, rfl⟩ (zw_dg dk_Lures_offer 5 rfl) ?_
  obtain ⟨c5, hc5, hsem⟩ := zw_bd hsem
  refine zw_topC hc5 ?_
  refine r_aload_n X (pc := 10) (i := 0) (zw_dg dk_Lures_offer 6 rfl) rfl rfl ?_
  refine r_iload_n X (pc := 11) (i := 3) (zw_dg dk_Lures_offer 7 rfl) rfl rfl ?_
  refine r_putI X (pc := 12) ci_Lures (zo hS 63 rfl rfl) rfl lk_Lures_112 rfl ⟨rfl, rfl⟩ (zw_dg dk_Lures_offer 8 rfl) ?_
  obtain ⟨c6, hc6, hsem⟩ := zw_bd hsem
  refine zw_topC hc6 ?_
  cases hsem
  exact r_vret X (pc := 15) rfl (zw_dg dk_Lures_offer 9 rfl)
def y_Lures_bribeFor : MethodName := ⟨R_Lures, "bribeFor", "(I)J"⟩
abbrev b_Lures_bribeFor : ByteArray := prog_7_method_9_code
def dl_Lures_bribeFor : List (Nat × Instr × Nat) := [(0, .aload_n 0, 1), (1, .getfield 15, 3), (4, .iload_n 1, 1), (5, .aload_n 0, 1), (6, .getfield 106, 3), (9, .invokevirtual 45, 3), (12, .aload_n 0, 1), (13, .getfield 109, 3), (16, .if_icmp .lt 7, 3), (19, .iconst 1, 1), (20, .goto 4, 3), (23, .iconst 0, 1), (24, .istore_n 2, 1), (25, .iload_n 2, 1), (26, .ifCond .eq 20, 3), (29, .aload_n 0, 1), (30, .getfield 112, 3), (33, .i2l, 1), (34, .aload_n 0, 1), (35, .getfield 15, 3), (38, .getfield 59, 3), (41, .i2l, 1), (42, .lmul, 1), (43, .goto 4, 3), (46, .lconst 0, 1), (47, .lreturn, 1)]
theorem dk_Lures_bribeFor : zw_dk b_Lures_bribeFor dl_Lures_bribeFor = true := by decide +kernel
theorem ce_Lures_bribeFor : zw_cev y_Lures_bribeFor b_Lures_bribeFor 3 (some .long) 1 := ⟨⟨kt_in 1017 (by decide +kernel) rfl, kt_in 94 (by decide +kernel) rfl, by decide +kernel⟩, kt_in 1016 (by decide +kernel) rfl, kt_in 19 (by decide +kernel) rfl⟩
def fn_Lures_bribeFor (c : zw_Ct) (saying1 : Int32) : Option Int64 :=
  (fn_Sayings_partOf c saying1 (c.1 63 4)).bind fun r2 =>
  (some ((if ((c.1 63 5) ≤ r2) then (1 : Int32) else 0) : Int32)).bind fun given4 =>
  some (if (¬ given4 = 0) then ((((c.1 63 6)).toInt64 * ((c.1 1 1)).toInt64) : Int64) else 0)
set_option maxRecDepth 100000 in
theorem km_Lures_bribeFor {l : Launch} {g : zw_G} {rr : zw_RR} {sh : zw_Sh} {c : zw_Ct} {saying1 : Int32} {r : Int64} (hS : zw_Ok 0 101 sh rr) (hsem : fn_Lures_bribeFor c saying1 = some r) : zw_Met l g y_Lures_bribeFor b_Lures_bribeFor 3 (some .long) 2 rr sh [.ref 63, .int saying1] c (some (.long r)) c := by
  unfold fn_Lures_bribeFor at hsem
  refine zw_Met.of (by decide +kernel) (Nat.le_of_ble_eq_true rfl) (fun p e s m args below meth cd X => ?_)
  refine zw_eL (L2 := [some (.ref 63), some (.int saying1), none]) rfl ?_
  refine r_aload_n X (pc := 0) (i := 0) (zw_dg dk_Lures_bribeFor 0 rfl) rfl rfl ?_
  refine r_getR X (pc := 1) (r := 1) ci_Lures (zo hS 63 rfl rfl) rfl (zr hS 63 0 rfl rfl) lk_Lures_15 (zw_dg dk_Lures_bribeFor 1 rfl) ?_
  refine r_iload_n X (pc := 4) (i := 1) (zw_dg dk_Lures_bribeFor 2 rfl) rfl rfl ?_
  refine r_aload_n X (pc := 5) (i := 0) (zw_dg dk_Lures_bribeFor 3 rfl) rfl rfl ?_
  refine r_getI X (pc := 6) ci_Lures (zo hS 63 rfl rfl) rfl lk_Lures_106 (zw_dg dk_Lures_bribeFor 4 rfl) ?_
  obtain ⟨r2, hr2, hsem⟩ := zw_bd hsem
  refine r_callVi X (pc := 9) (As := [_, _]) (st := []) (km_Sayings_partOf hS hr2) ce_Sayings_partOf kw_960 (zo hS 1 rfl rfl) rfl rfl ⟨Nat.le_of_ble_eq_true rfl, Nat.le_of_ble_eq_true rfl⟩ (Nat.le_of_ble_eq_true rfl) (zw_dg dk_Lures_bribeFor 5 rfl) ?_
  refine r_aload_n X (pc := 12) (i := 0) (zw_dg dk_Lures_bribeFor 6 rfl) rfl rfl ?_
  refine r_getI X (pc := 13) ci_Lures (zo hS 63 rfl rfl) rfl lk_Lures_109 (zw_dg dk_Lures_bribeFor 7 rfl) ?_
  refine zw_ter (P := ((c.1 63 5) ≤ r2)) (f := Value.int) (x := 1) (y := 0) (J := 24) (st2 := []) (fun jT jF => ?_) ?_
  · --
    refine r_icmp_lt X (pc := 16) (tgt := 23) (zw_dg dk_Lures_bribeFor 8 rfl) (by decide) (fun q3 => ?_) (fun q3 => ?_)
    · --
      refine r_iconst X (pc := 23) (v := 0) (zw_dg dk_Lures_bribeFor 11 rfl) (by decide) ?_
      exact jF (Int32.not_le.mpr q3)
    · --
      refine r_iconst X (pc := 19) (v := 1) (zw_dg dk_Lures_bribeFor 9 rfl) (by decide) ?_
      refine r_goto X (pc := 20) (tgt := 24) (zw_dg dk_Lures_bribeFor 10 rfl) (by decide) ?_
      exact jT (Int32.not_lt.mp q3)
  obtain ⟨given4, hgiven4, hsem⟩ := zw_bd hsem
  refine zw_topI hgiven4 ?_
  refine r_istore_n X (pc := 24) (i := 2) (zw_dg dk_Lures_bribeFor 12 rfl) rfl (by decide) rfl ?_
  refine zw_ter (P := (¬ given4 = 0)) (f := Value.long) (x := (((c.1 63 6)).toInt64 * ((c.1 1 1)).toInt64)) (y := 0) (J := 47) (st2 := []) (fun jT jF => ?_) ?_
  · --
    refine r_iload_n X (pc := 25) (i := 2) (zw_dg dk_Lures_bribeFor 13 rfl) rfl rfl ?_
    refine r_if_eq X (pc := 26) (tgt := 46) (zw_dg dk_Lures_bribeFor 14 rfl) (by decide) (fun q5 => ?_) (fun q5 => ?_)
    · --
      refine r_lconst X (pc := 46) (v := 0) (zw_dg dk_Lures_bribeFor 24 rfl) (by decide) ?_
      exact jF (fun z => z q5)
    · --
      refine r_aload_n X (pc := 29) (i := 0) (zw_dg dk_Lures_bribeFor 15 rfl) rfl rfl ?_
      refine r_getI X (pc := 30) ci_Lures (zo hS 63 rfl rfl) rfl lk_Lures_112 (zw_dg dk_Lures_bribeFor 16 rfl) ?_
      refine r_i2l X (pc := 33) (zw_dg dk_Lures_bribeFor 17 rfl)  ?_
      refine r_aload_n X (pc := 34) (i := 0) (zw_dg dk_Lures_bribeFor 18 rfl) rfl rfl ?_
      refine r_getR X (pc := 35) (r := 1) ci_Lures (zo hS 63 rfl rfl) rfl (zr hS 63 0 rfl rfl) lk_Lures_15 (zw_dg dk_Lures_bribeFor 19 rfl) ?_
      refine r_getI X (pc := 38) ci_Sayings (zo hS 1 rfl rfl) rfl lk_Lures_59 (zw_dg dk_Lures_bribeFor 20 rfl) ?_
      refine r_i2l X (pc := 41) (zw_dg dk_Lures_bribeFor 21 rfl)  ?_
      refine r_lmul X (pc := 42) (zw_dg dk_Lures_bribeFor 22 rfl)  ?_
      refine r_goto X (pc := 43) (tgt := 47) (zw_dg dk_Lures_bribeFor 23 rfl) (by decide) ?_
      exact jT q5
  cases hsem
  exact r_lret X (pc := 47) rfl (zw_dg dk_Lures_bribeFor 25 rfl)
def y_Lures_bestBribed : MethodName := ⟨R_Lures, "bestBribed", "([II)I"⟩
abbrev b_Lures_bestBribed : ByteArray := prog_7_method_10_code
def dl_Lures_bestBribed : List (Nat × Instr × Nat) := [(0, .iconst 0, 1), (1, .istore_n 3, 1), (2, .iload_n 3, 1), (3, .aload_n 0, 1), (4, .getfield 15, 3), (7, .getfield 70, 3), (10, .if_icmp .ge 34, 3), (13, .aload_n 0, 1), (14, .getfield 19, 3), (17, .getfield 73, 3), (20, .iload_n 3, 1), (21, .aload_n 0, 1), (22, .getfield 23, 3), (25, .aload_n 1, 1), (26, .iload_n 3, 1), (27, .iload_n 2, 1), (28, .invokevirtual 98, 3), (31, .aload_n 0, 1), (32, .iload_n 3, 1), (33, .invokevirtual 115, 3), (36, .ladd, 1), (37, .lastore, 1), (38, .iinc 3 1, 3), (41, .goto (-39), 3), (44, .aload_n 0, 1), (45, .getfield 19, 3), (48, .invokevirtual 81, 3), (51, .ireturn, 1)]
theorem dk_Lures_bestBribed : zw_dk b_Lures_bestBribed dl_Lures_bestBribed = true := by decide +kernel
theorem ce_Lures_bestBribed : zw_cev y_Lures_bestBribed b_Lures_bestBribed 4 (some .int) 2 := ⟨⟨kt_in 1027 (by decide +kernel) rfl, kt_in 94 (by decide +kernel) rfl, by decide +kernel⟩, kt_in 1025 (by decide +kernel) rfl, kt_in 1026 (by decide +kernel) rfl⟩
def fn_Lures_bestBribed_l1 (values1 : Nat) (thought2 : Int32) : Int32 × zw_Ct → Option ((zw_Ct) ⊕ (Int32 × zw_Ct)) := fun (s3, c4) =>
  if (s3 < (c4.1 1 2)) then
  ((fn_Judge_worth c4 values1 s3 thought2).bind fun r9 =>
  (fn_Lures_bribeFor c4 s3).bind fun r10 =>
  (zw_uL 455 c4 12 s3 (r9 + r10)).bind fun c11 =>
  some (.inr ((s3 + 1), c11)))
  else
  (some (.inl c4))
def fn_Lures_bestBribed (c : zw_Ct) (values1 : Nat) (thought2 : Int32) : Option (Int32 × zw_Ct) :=
  (zw_whl (fn_Lures_bestBribed_l1 values1 thought2) zw_F (0, c)).bind fun c5 =>
  (fn_Tally_top c5).bind fun r12 =>
  some (r12, c5)
set_option maxRecDepth 100000 in
theorem km_Lures_bestBribed {l : Launch} {g : zw_G} {rr : zw_RR} {sh : zw_Sh} {c : zw_Ct} {values1 : Nat} {thought2 : Int32} {r : Int32} {c2 : zw_Ct} (hS : zw_Ok 0 101 sh rr) (hsem : fn_Lures_bestBribed c values1 thought2 = some (r, c2)) : zw_Met l g y_Lures_bestBribed b_Lures_bestBribed 4 (some .int) 3 rr sh [.ref 63, .ref values1, .int thought2] c (some (.int r)) c2 := by
  unfold fn_Lures_bestBribed at hsem
  refine zw_Met.of (by decide +kernel) (Nat.le_of_ble_eq_true rfl) (fun p e s m args below meth cd X => ?_)
  refine zw_eL (L2 := [some (.ref 63), some (.ref values1), some (.int thought2), none]) rfl ?_
  refine r_iconst X (pc := 0) (v := 0) (zw_dg dk_Lures_bestBribed 0 rfl) (by decide) ?_
  refine r_istore_n X (pc := 1) (i := 3) (zw_dg dk_Lures_bestBribed 1 rfl) rfl (by decide) rfl ?_
  obtain ⟨c5, hl6, hsl6⟩ := zw_bd hsem
  refine r_loop (pc := 2) (pce := 44) hl6 (fun (s3, c4) => [some (.ref 63), some (.ref values1), some (.int thought2), some (.int s3)] : Int32 × zw_Ct → zw_Lc) (fun (s3, c4) => c4 : Int32 × zw_Ct → zw_Ct) (fun c5 => [some (.ref 63), some (.ref values1), some (.int thought2), none] : zw_Ct → zw_Lc) (fun c5 => c5 : zw_Ct → zw_Ct) ?_ rfl rfl ?_
  · rintro ⟨s3, c4⟩ rr hsem hK hP
    try unfold fn_Lures_bestBribed_l1 at hsem
    refine r_iload_n X (pc := 2) (i := 3) (zw_dg dk_Lures_bestBribed 2 rfl) rfl rfl ?_
    refine r_aload_n X (pc := 3) (i := 0) (zw_dg dk_Lures_bestBribed 3 rfl) rfl rfl ?_
    refine r_getR X (pc := 4) (r := 1) ci_Lures (zo hS 63 rfl rfl) rfl (zr hS 63 0 rfl rfl) lk_Lures_15 (zw_dg dk_Lures_bestBribed 4 rfl) ?_
    refine r_getI X (pc := 7) ci_Sayings (zo hS 1 rfl rfl) rfl lk_Lures_70 (zw_dg dk_Lures_bestBribed 5 rfl) ?_
    refine r_icmp_ge X (pc := 10) (tgt := 44) (zw_dg dk_Lures_bestBribed 6 rfl) (by decide) (fun q8 => ?_) (fun q8 => ?_)
    · --
      have p7 : ¬ (s3 < (c4.1 1 2)) := (Int32.not_lt.mpr q8)
      have hsem := zw_ifn p7 hsem
      have jj := hK _ (Option.some.inj hsem).symm
      exact (r_fgt [3] rfl jj)
    · --
      have p7 : (s3 < (c4.1 1 2)) := (Int32.not_le.mp q8)
      have hsem := zw_ifp p7 hsem
      refine r_aload_n X (pc := 13) (i := 0) (zw_dg dk_Lures_bestBribed 7 rfl) rfl rfl ?_
      refine r_getR X (pc := 14) (r := 11) ci_Lures (zo hS 63 rfl rfl) rfl (zr hS 63 1 rfl rfl) lk_Lures_19 (zw_dg dk_Lures_bestBribed 8 rfl) ?_
      refine r_getR X (pc := 17) (r := 12) ci_Tally (zo hS 11 rfl rfl) rfl (zr hS 11 1 rfl rfl) lk_Lures_73 (zw_dg dk_Lures_bestBribed 9 rfl) ?_
      refine r_iload_n X (pc := 20) (i := 3) (zw_dg dk_Lures_bestBribed 10 rfl) rfl rfl ?_
      refine r_aload_n X (pc := 21) (i := 0) (zw_dg dk_Lures_bestBribed 11 rfl) rfl rfl ?_
      refine r_getR X (pc := 22) (r := 13) ci_Lures (zo hS 63 rfl rfl) rfl (zr hS 63 2 rfl rfl) lk_Lures_23 (zw_dg dk_Lures_bestBribed 12 rfl) ?_
      refine r_aload_n X (pc := 25) (i := 1) (zw_dg dk_Lures_bestBribed 13 rfl) rfl rfl ?_
      refine r_iload_n X (pc := 26) (i := 3) (zw_dg dk_Lures_bestBribed 14 rfl) rfl rfl ?_
      refine r_iload_n X (pc := 27) (i := 2) (zw_dg dk_Lures_bestBribed 15 rfl) rfl rfl ?_
      obtain ⟨r9, hr9, hsem⟩ := zw_bd hsem
      refine r_callVl X (pc := 28) (As := [_, _, _]) (st := [.int s3, .ref 12]) (km_Judge_worth hS hr9) ce_Judge_worth kw_992 (zo hS 13 rfl rfl) rfl rfl ⟨Nat.le_of_ble_eq_true rfl, Nat.le_of_ble_eq_true rfl⟩ (Nat.le_of_ble_eq_true rfl) (zw_dg dk_Lures_bestBribed 16 rfl) ?_
      refine r_aload_n X (pc := 31) (i := 0) (zw_dg dk_Lures_bestBribed 17 rfl) rfl rfl ?_
      refine r_iload_n X (pc := 32) (i := 3) (zw_dg dk_Lures_bestBribed 18 rfl) rfl rfl ?_
      obtain ⟨r10, hr10, hsem⟩ := zw_bd hsem
      refine r_callVl X (pc := 33) (As := [_]) (st := [.long r9, .int s3, .ref 12]) (km_Lures_bribeFor hS hr10) ce_Lures_bribeFor kw_1014 (zo hS 63 rfl rfl) rfl rfl ⟨Nat.le_of_ble_eq_true rfl, Nat.le_of_ble_eq_true rfl⟩ (Nat.le_of_ble_eq_true rfl) (zw_dg dk_Lures_bestBribed 19 rfl) ?_
      refine r_ladd X (pc := 36) (zw_dg dk_Lures_bestBribed 20 rfl)  ?_
      obtain ⟨c11, hc11, hsem⟩ := zw_bd hsem
      refine r_last X (pc := 37) (zo hS 12 rfl rfl) hc11 (zw_dg dk_Lures_bestBribed 21 rfl) ?_
      refine r_iinc X (pc := 38) (i := 3) (k := 1) (zw_dg dk_Lures_bestBribed 22 rfl) rfl (by decide) (by decide) rfl ?_
      refine r_goto X (pc := 41) (tgt := 2) (zw_dg dk_Lures_bestBribed 23 rfl) (by decide) ?_
      have jj := hP _ (Option.some.inj hsem).symm
      exact (r_fgt [] rfl jj)
  have hsem := hsl6
  refine r_aload_n X (pc := 44) (i := 0) (zw_dg dk_Lures_bestBribed 24 rfl) rfl rfl ?_
  refine r_getR X (pc := 45) (r := 11) ci_Lures (zo hS 63 rfl rfl) rfl (zr hS 63 1 rfl rfl) lk_Lures_19 (zw_dg dk_Lures_bestBribed 25 rfl) ?_
  obtain ⟨r12, hr12, hsem⟩ := zw_bd hsem
  refine r_callVi X (pc := 48) (As := []) (st := []) (km_Tally_top hS hr12) ce_Tally_top kw_988 (zo hS 11 rfl rfl) rfl rfl ⟨Nat.le_of_ble_eq_true rfl, Nat.le_of_ble_eq_true rfl⟩ (Nat.le_of_ble_eq_true rfl) (zw_dg dk_Lures_bestBribed 26 rfl) ?_
  cases hsem
  exact r_iret X (pc := 51) rfl (zw_dg dk_Lures_bestBribed 27 rfl)
def y_Lures_timesAgainstBribe : MethodName := ⟨R_Lures, "timesAgainstBribe", "([II)I"⟩
abbrev b_Lures_timesAgainstBribe : ByteArray := prog_7_method_11_code
def dl_Lures_timesAgainstBribe : List (Nat × Instr × Nat) := [(0, .aload_n 0, 1), (1, .getfield 23, 3), (4, .aload_n 1, 1), (5, .iload_n 2, 1), (6, .iload_n 2, 1), (7, .invokevirtual 98, 3), (10, .lstore_n 3, 1), (11, .lconst 1, 1), (12, .lstore 5, 2), (14, .ldc2_w 68, 3), (17, .lstore 7, 2), (19, .iconst 0, 1), (20, .istore 9, 2), (22, .iload 9, 2), (24, .aload_n 0, 1), (25, .getfield 15, 3), (28, .getfield 70, 3), (31, .if_icmp .ge 119, 3), (34, .lload_n 3, 1), (35, .aload_n 0, 1), (36, .getfield 23, 3), (39, .aload_n 1, 1), (40, .iload 9, 2), (42, .iload_n 2, 1), (43, .invokevirtual 98, 3), (46, .lsub, 1), (47, .lstore 10, 2), (49, .aload_n 0, 1), (50, .iload 9, 2), (52, .invokevirtual 115, 3), (55, .aload_n 0, 1), (56, .iload_n 2, 1), (57, .invokevirtual 115, 3), (60, .lsub, 1), (61, .lstore 12, 2), (63, .lload 10, 2), (65, .lconst 0, 1), (66, .lcmp, 1), (67, .ifCond .ne 12, 3), (70, .lload 12, 2), (72, .lconst 0, 1), (73, .lcmp, 1), (74, .ifCond .le 5, 3), (77, .iconst (-1), 1), (78, .ireturn, 1), (79, .lload 10, 2), (81, .lconst 0, 1), (82, .lcmp, 1), (83, .ifCond .le 29, 3), (86, .lload 12, 2), (88, .lconst 0, 1), (89, .lcmp, 1), (90, .ifCond .le 22, 3), (93, .lload 5, 2), (95, .lload 12, 2), (97, .lload 10, 2), (99, .ladd, 1), (100, .lconst 1, 1), (101, .lsub, 1), (102, .lload 10, 2), (104, .invokestatic 64, 3), (107, .invokestatic 119, 3), (110, .lstore 5, 2), (112, .lload 10, 2), (114, .lconst 0, 1), (115, .lcmp, 1), (116, .ifCond .ge 28, 3), (119, .lload 7, 2), (121, .lload 12, 2), (123, .lconst 0, 1), (124, .lcmp, 1), (125, .ifCond .le 7, 3), (128, .lconst 0, 1), (129, .goto 10, 3), (132, .lload 12, 2), (134, .lload 10, 2), (136, .invokestatic 64, 3), (139, .invokestatic 124, 3), (142, .lstore 7, 2), (144, .iinc 9 1, 3), (147, .goto (-125), 3), (150, .lload 5, 2), (152, .lload 7, 2), (154, .lcmp, 1), (155, .ifCond .le 7, 3), (158, .iconst (-1), 1), (159, .goto 6, 3), (162, .lload 5, 2), (164, .l2i, 1), (165, .ireturn, 1)]
theorem dk_Lures_timesAgainstBribe : zw_dk b_Lures_timesAgainstBribe dl_Lures_timesAgainstBribe = true := by decide +kernel
theorem ce_Lures_timesAgainstBribe : zw_cev y_Lures_timesAgainstBribe b_Lures_timesAgainstBribe 14 (some .int) 2 := ⟨⟨kt_in 1013 (by decide +kernel) rfl, kt_in 94 (by decide +kernel) rfl, by decide +kernel⟩, kt_in 1011 (by decide +kernel) rfl, kt_in 1012 (by decide +kernel) rfl⟩
def fn_Lures_timesAgainstBribe_l1 (c : zw_Ct) (values1 : Nat) (thought2 : Int32) (r3 : Int64) : Int64 × Int64 × Int32 → Option (((Int32) ⊕ (Int64 × Int64)) ⊕ (Int64 × Int64 × Int32)) := fun (fewest4, most5, s6) =>
  if (s6 < (c.1 1 2)) then
  ((fn_Judge_worth c values1 s6 thought2).bind fun r12 =>
  (some ((r3 - r12) : Int64)).bind fun ahead13 =>
  (fn_Lures_bribeFor c s6).bind fun r14 =>
  (fn_Lures_bribeFor c thought2).bind fun r15 =>
  (some ((r14 - r15) : Int64)).bind fun tempts16 =>
  if ((ahead13 = 0) ∧ (0 < tempts16)) then
  (some (.inl (.inl (-1))))
  else
  ((if ((0 < ahead13) ∧ (0 < tempts16)) then
  ((fn_P_cut ((tempts16 + ahead13) - 1) ahead13).bind fun r24 =>
  (some ((if r24 < fewest4 then fewest4 else r24) : Int64)).bind fun fewest25 =>
  some (fewest25 : Int64))
  else
  (some (fewest4 : Int64))).bind fun fewest20 =>
  (if (ahead13 < 0) then
  ((if (0 < tempts16) then
  (some (0 : Int64))
  else
  ((fn_P_cut tempts16 ahead13).bind fun r32 =>
  some (r32 : Int64))).bind fun v29 =>
  (some ((if v29 < most5 then v29 else most5) : Int64)).bind fun most33 =>
  some (most33 : Int64))
  else
  (some (most5 : Int64))).bind fun most26 =>
  some (.inr (fewest20, most26, (s6 + 1)))))
  else
  (some (.inl (.inr (fewest4, most5))))
def fn_Lures_timesAgainstBribe (c : zw_Ct) (values1 : Nat) (thought2 : Int32) : Option Int32 :=
  (fn_Judge_worth c values1 thought2 thought2).bind fun r3 =>
  (zw_whl (fn_Lures_timesAgainstBribe_l1 c values1 thought2 r3) zw_F (1, 9999, 0)).bind fun q => match q with
    | .inl w => some w
    | .inr (fewest7, most8) =>
    some (if (most8 < fewest7) then ((-1) : Int32) else fewest7.toInt32)
set_option maxRecDepth 100000 in
theorem km_Lures_timesAgainstBribe {l : Launch} {g : zw_G} {rr : zw_RR} {sh : zw_Sh} {c : zw_Ct} {values1 : Nat} {thought2 : Int32} {r : Int32} (hS : zw_Ok 0 101 sh rr) (hsem : fn_Lures_timesAgainstBribe c values1 thought2 = some r) : zw_Met l g y_Lures_timesAgainstBribe b_Lures_timesAgainstBribe 14 (some .int) 3 rr sh [.ref 63, .ref values1, .int thought2] c (some (.int r)) c := by
  unfold fn_Lures_timesAgainstBribe at hsem
  refine zw_Met.of (by decide +kernel) (Nat.le_of_ble_eq_true rfl) (fun p e s m args below meth cd X => ?_)
  refine zw_eL (L2 := [some (.ref 63), some (.ref values1), some (.int thought2), none, none, none, none, none, none, none, none, none, none, none]) rfl ?_
  refine r_aload_n X (pc := 0) (i := 0) (zw_dg dk_Lures_timesAgainstBribe 0 rfl) rfl rfl ?_
  refine r_getR X (pc := 1) (r := 13) ci_Lures (zo hS 63 rfl rfl) rfl (zr hS 63 2 rfl rfl) lk_Lures_23 (zw_dg dk_Lures_timesAgainstBribe 1 rfl) ?_
  refine r_aload_n X (pc := 4) (i := 1) (zw_dg dk_Lures_timesAgainstBribe 2 rfl) rfl rfl ?_
  refine r_iload_n X (pc := 5) (i := 2) (zw_dg dk_Lures_timesAgainstBribe 3 rfl) rfl rfl ?_
  refine r_iload_n X (pc := 6) (i := 2) (zw_dg dk_Lures_timesAgainstBribe 4 rfl) rfl rfl ?_
  obtain ⟨r3, hr3, hsem⟩ := zw_bd hsem
  refine r_callVl X (pc := 7) (As := [_, _, _]) (st := []) (km_Judge_worth hS hr3) ce_Judge_worth kw_992 (zo hS 13 rfl rfl) rfl rfl ⟨Nat.le_of_ble_eq_true rfl, Nat.le_of_ble_eq_true rfl⟩ (Nat.le_of_ble_eq_true rfl) (zw_dg dk_Lures_timesAgainstBribe 5 rfl) ?_
  refine r_lstore_n X (pc := 10) (i := 3) (L2 := [some (.ref 63), some (.ref values1), some (.int thought2), some (.long r3), none, none, none, none, none, none, none, none, none, none]) (zw_dg dk_Lures_timesAgainstBribe 6 rfl) rfl (by decide) rfl ?_
  refine r_lconst X (pc := 11) (v := 1) (zw_dg dk_Lures_timesAgainstBribe 7 rfl) (by decide) ?_
  refine r_lstore X (pc := 12) (i := 5) (L2 := [some (.ref 63), some (.ref values1), some (.int thought2), some (.long r3), none, some (.long 1), none, none, none, none, none, none, none, none]) (zw_dg dk_Lures_timesAgainstBribe 8 rfl) (by decide) rfl ?_
  refine r_ldc2 X (pc := 14) (v := 9999) kw_971 (zw_dg dk_Lures_timesAgainstBribe 9 rfl) ?_
  refine r_lstore X (pc := 17) (i := 7) (L2 := [some (.ref 63), some (.ref values1), some (.int thought2), some (.long r3), none, some (.long 1), none, some (.long 9999), none, none, none, none, none, none]) (zw_dg dk_Lures_timesAgainstBribe 10 rfl) (by decide) rfl ?_
  refine r_iconst X (pc := 19) (v := 0) (zw_dg dk_Lures_timesAgainstBribe 11 rfl) (by decide) ?_
  refine r_istore X (pc := 20) (i := 9) (zw_dg dk_Lures_timesAgainstBribe 12 rfl) (by decide) rfl ?_
  obtain ⟨l9, hl9, hsl9⟩ := zw_bd hsem
  refine r_loopR (pc := 22) (pce := 150) hl9 (fun (fewest4, most5, s6) => [some (.ref 63), some (.ref values1), some (.int thought2), some (.long r3), none, some (.long fewest4), none, some (.long most5), none, some (.int s6), none, none, none, none] : Int64 × Int64 × Int32 → zw_Lc) (fun (fewest4, most5, s6) => c : Int64 × Int64 × Int32 → zw_Ct) (fun (fewest7, most8) => [some (.ref 63), some (.ref values1), some (.int thought2), some (.long r3), none, some (.long fewest7), none, some (.long most8), none, none, none, none, none, none] : Int64 × Int64 → zw_Lc) (fun (fewest7, most8) => c : Int64 × Int64 → zw_Ct) (fun w => w = r) ?_ rfl rfl ?_ ?_
  · rintro ⟨fewest4, most5, s6⟩ rr hsem hR hK hP
    try unfold fn_Lures_timesAgainstBribe_l1 at hsem
    refine r_iload X (pc := 22) (i := 9) (zw_dg dk_Lures_timesAgainstBribe 13 rfl) rfl ?_
    refine r_aload_n X (pc := 24) (i := 0) (zw_dg dk_Lures_timesAgainstBribe 14 rfl) rfl rfl ?_
    refine r_getR X (pc := 25) (r := 1) ci_Lures (zo hS 63 rfl rfl) rfl (zr hS 63 0 rfl rfl) lk_Lures_15 (zw_dg dk_Lures_timesAgainstBribe 15 rfl) ?_
    refine r_getI X (pc := 28) ci_Sayings (zo hS 1 rfl rfl) rfl lk_Lures_70 (zw_dg dk_Lures_timesAgainstBribe 16 rfl) ?_
    refine r_icmp_ge X (pc := 31) (tgt := 150) (zw_dg dk_Lures_timesAgainstBribe 17 rfl) (by decide) (fun q11 => ?_) (fun q11 => ?_)
    · --
      have p10 : ¬ (s6 < (c.1 1 2)) := (Int32.not_lt.mpr q11)
      have hsem := zw_ifn p10 hsem
      have jj := hK _ (Option.some.inj hsem).symm
      exact (r_fgt [9] rfl jj)
    · --
      have p10 : (s6 < (c.1 1 2)) := (Int32.not_le.mp q11)
      have hsem := zw_ifp p10 hsem
      refine r_lload_n X (pc := 34) (i := 3) (zw_dg dk_Lures_timesAgainstBribe 18 rfl) rfl rfl ?_
      refine r_aload_n X (pc := 35) (i := 0) (zw_dg dk_Lures_timesAgainstBribe 19 rfl) rfl rfl ?_
      refine r_getR X (pc := 36) (r := 13) ci_Lures (zo hS 63 rfl rfl) rfl (zr hS 63 2 rfl rfl) lk_Lures_23 (zw_dg dk_Lures_timesAgainstBribe 20 rfl) ?_
      refine r_aload_n X (pc := 39) (i := 1) (zw_dg dk_Lures_timesAgainstBribe 21 rfl) rfl rfl ?_
      refine r_iload X (pc := 40) (i := 9) (zw_dg dk_Lures_timesAgainstBribe 22 rfl) rfl ?_
      refine r_iload_n X (pc := 42) (i := 2) (zw_dg dk_Lures_timesAgainstBribe 23 rfl) rfl rfl ?_
      obtain ⟨r12, hr12, hsem⟩ := zw_bd hsem
      refine r_callVl X (pc := 43) (As := [_, _, _]) (st := [.long r3]) (km_Judge_worth hS hr12) ce_Judge_worth kw_992 (zo hS 13 rfl rfl) rfl rfl ⟨Nat.le_of_ble_eq_true rfl, Nat.le_of_ble_eq_true rfl⟩ (Nat.le_of_ble_eq_true rfl) (zw_dg dk_Lures_timesAgainstBribe 24 rfl) ?_
      refine r_lsub X (pc := 46) (zw_dg dk_Lures_timesAgainstBribe 25 rfl)  ?_
      obtain ⟨ahead13, hahead13, hsem⟩ := zw_bd hsem
      refine zw_topJ hahead13 ?_
      refine r_lstore X (pc := 47) (i := 10) (L2 := [some (.ref 63), some (.ref values1), some (.int thought2), some (.long r3), none, some (.long fewest4), none, some (.long most5), none, some (.int s6), some (.long ahead13), none, none, none]) (zw_dg dk_Lures_timesAgainstBribe 26 rfl) (by decide) rfl ?_
      refine r_aload_n X (pc := 49) (i := 0) (zw_dg dk_Lures_timesAgainstBribe 27 rfl) rfl rfl ?_
      refine r_iload X (pc := 50) (i := 9) (zw_dg dk_Lures_timesAgainstBribe 28 rfl) rfl ?_
      obtain ⟨r14, hr14, hsem⟩ := zw_bd hsem
      refine r_callVl X (pc := 52) (As := [_]) (st := []) (km_Lures_bribeFor hS hr14) ce_Lures_bribeFor kw_1014 (zo hS 63 rfl rfl) rfl rfl ⟨Nat.le_of_ble_eq_true rfl, Nat.le_of_ble_eq_true rfl⟩ (Nat.le_of_ble_eq_true rfl) (zw_dg dk_Lures_timesAgainstBribe 29 rfl) ?_
      refine r_aload_n X (pc := 55) (i := 0) (zw_dg dk_Lures_timesAgainstBribe 30 rfl) rfl rfl ?_
      refine r_iload_n X (pc := 56) (i := 2) (zw_dg dk_Lures_timesAgainstBribe 31 rfl) rfl rfl ?_
      obtain ⟨r15, hr15, hsem⟩ := zw_bd hsem
      refine r_callVl X (pc := 57) (As := [_]) (st := [.long r14]) (km_Lures_bribeFor hS hr15) ce_Lures_bribeFor kw_1014 (zo hS 63 rfl rfl) rfl rfl ⟨Nat.le_of_ble_eq_true rfl, Nat.le_of_ble_eq_true rfl⟩ (Nat.le_of_ble_eq_true rfl) (zw_dg dk_Lures_timesAgainstBribe 32 rfl) ?_
      refine r_lsub X (pc := 60) (zw_dg dk_Lures_timesAgainstBribe 33 rfl)  ?_
      obtain ⟨tempts16, htempts16, hsem⟩ := zw_bd hsem
      refine zw_topJ htempts16 ?_
      refine r_lstore X (pc := 61) (i := 12) (L2 := [some (.ref 63), some (.ref values1), some (.int thought2), some (.long r3), none, some (.long fewest4), none, some (.long most5), none, some (.int s6), some (.long ahead13), none, some (.long tempts16), none]) (zw_dg dk_Lures_timesAgainstBribe 34 rfl) (by decide) rfl ?_
      refine zw_cnd (P := ((ahead13 = 0) ∧ (0 < tempts16))) (J1 := 77) (J2 := 79) (st2 := []) (fun jT jF => ?_) (fun p17 => ?_) (fun p17 => ?_)
      · --
        refine r_lload X (pc := 63) (i := 10) (zw_dg dk_Lures_timesAgainstBribe 35 rfl) rfl ?_
        refine r_lconst X (pc := 65) (v := 0) (zw_dg dk_Lures_timesAgainstBribe 36 rfl) (by decide) ?_
        refine r_lcmp_ne X (pc := 66) (tgt := 79) (zw_dg dk_Lures_timesAgainstBribe 37 rfl) (zw_dg dk_Lures_timesAgainstBribe 38 rfl) (by decide) (fun q18 => ?_) (fun q18 => ?_)
        · --
          exact jF (fun q => q18 q.1)
        · --
          refine r_lload X (pc := 70) (i := 12) (zw_dg dk_Lures_timesAgainstBribe 39 rfl) rfl ?_
          refine r_lconst X (pc := 72) (v := 0) (zw_dg dk_Lures_timesAgainstBribe 40 rfl) (by decide) ?_
          refine r_lcmp_le X (pc := 73) (tgt := 79) (zw_dg dk_Lures_timesAgainstBribe 41 rfl) (zw_dg dk_Lures_timesAgainstBribe 42 rfl) (by decide) (fun q19 => ?_) (fun q19 => ?_)
          · --
            exact jF (fun q => (Int64.not_lt.mpr q19) q.2)
          · --
            exact jT ⟨q18, (Int64.not_le.mp q19)⟩
      · --
        have hsem := zw_ifp p17 hsem
        refine r_iconst X (pc := 77) (v := (-1)) (zw_dg dk_Lures_timesAgainstBribe 43 rfl) (by decide) ?_
        have hret := hR _ (Option.some.inj hsem).symm
        cases hret
        exact r_iret X (pc := 78) rfl (zw_dg dk_Lures_timesAgainstBribe 44 rfl)
      · --
        have hsem := zw_ifn p17 hsem
        obtain ⟨fewest20, ht112, hs112⟩ := zw_bd hsem
        refine zw_jn (J := 112) (L2 := [some (.ref 63), some (.ref values1), some (.int thought2), some (.long r3), none, some (.long fewest20), none, some (.long most5), none, some (.int s6), some (.long ahead13), none, some (.long tempts16), none]) (c2 := c) (fun jj => ?_) ?_
        · have hsem := ht112
          refine zw_cnd (P := ((0 < ahead13) ∧ (0 < tempts16))) (J1 := 93) (J2 := 112) (st2 := []) (fun jT jF => ?_) (fun p21 => ?_) (fun p21 => ?_)
          · --
            refine r_lload X (pc := 79) (i := 10) (zw_dg dk_Lures_timesAgainstBribe 45 rfl) rfl ?_
            refine r_lconst X (pc := 81) (v := 0) (zw_dg dk_Lures_timesAgainstBribe 46 rfl) (by decide) ?_
            refine r_lcmp_le X (pc := 82) (tgt := 112) (zw_dg dk_Lures_timesAgainstBribe 47 rfl) (zw_dg dk_Lures_timesAgainstBribe 48 rfl) (by decide) (fun q22 => ?_) (fun q22 => ?_)
            · --
              exact jF (fun q => (Int64.not_lt.mpr q22) q.1)
            · --
              refine r_lload X (pc := 86) (i := 12) (zw_dg dk_Lures_timesAgainstBribe 49 rfl) rfl ?_
              refine r_lconst X (pc := 88) (v := 0) (zw_dg dk_Lures_timesAgainstBribe 50 rfl) (by decide) ?_
              refine r_lcmp_le X (pc := 89) (tgt := 112) (zw_dg dk_Lures_timesAgainstBribe 51 rfl) (zw_dg dk_Lures_timesAgainstBribe 52 rfl) (by decide) (fun q23 => ?_) (fun q23 => ?_)
              · --
                exact jF (fun q => (Int64.not_lt.mpr q23) q.2)
              · --
                exact jT ⟨(Int64.not_le.mp q22), (Int64.not_le.mp q23)⟩
          · --
            have hsem := zw_ifp p21 hsem
            refine r_lload X (pc := 93) (i := 5) (zw_dg dk_Lures_timesAgainstBribe 53 rfl) rfl ?_
            refine r_lload X (pc := 95) (i := 12) (zw_dg dk_Lures_timesAgainstBribe 54 rfl) rfl ?_
            refine r_lload X (pc := 97) (i := 10) (zw_dg dk_Lures_timesAgainstBribe 55 rfl) rfl ?_
            refine r_ladd X (pc := 99) (zw_dg dk_Lures_timesAgainstBribe 56 rfl)  ?_
            refine r_lconst X (pc := 100) (v := 1) (zw_dg dk_Lures_timesAgainstBribe 57 rfl) (by decide) ?_
            refine r_lsub X (pc := 101) (zw_dg dk_Lures_timesAgainstBribe 58 rfl)  ?_
            refine r_lload X (pc := 102) (i := 10) (zw_dg dk_Lures_timesAgainstBribe 59 rfl) rfl ?_
            obtain ⟨r24, hr24, hsem⟩ := zw_bd hsem
            refine r_callSNl X (pc := 104) (As := [_, _]) (st := [.long fewest4]) (km_P_cut hS hr24) ce_P_cut kw_970 rfl ⟨Nat.le_of_ble_eq_true rfl, Nat.le_of_ble_eq_true rfl⟩ (Nat.le_of_ble_eq_true rfl) (zw_dg dk_Lures_timesAgainstBribe 60 rfl) ?_
            refine r_mmaxl X (pc := 107) kw_1018 mws_maxl kw_88 mwc_maxl ⟨Nat.le_of_ble_eq_true rfl, Nat.le_of_ble_eq_true rfl⟩ (st := []) (Nat.le_of_ble_eq_true rfl) (zw_dg dk_Lures_timesAgainstBribe 61 rfl) ?_
            obtain ⟨fewest25, hfewest25, hsem⟩ := zw_bd hsem
            refine zw_topJ hfewest25 ?_
            refine r_lstore X (pc := 110) (i := 5) (L2 := [some (.ref 63), some (.ref values1), some (.int thought2), some (.long r3), none, some (.long fewest25), none, some (.long most5), none, some (.int s6), some (.long ahead13), none, some (.long tempts16), none]) (zw_dg dk_Lures_timesAgainstBribe 62 rfl) (by decide) rfl ?_
            cases hsem
            exact (r_fgt [] rfl jj)
          · --
            have hsem := zw_ifn p21 hsem
            cases hsem
            exact (r_fgt [] rfl jj)
        have hsem := hs112
        obtain ⟨most26, ht144, hs144⟩ := zw_bd hsem
        refine zw_jn (J := 144) (L2 := [some (.ref 63), some (.ref values1), some (.int thought2), some (.long r3), none, some (.long fewest20), none, some (.long most26), none, some (.int s6), some (.long ahead13), none, some (.long tempts16), none]) (c2 := c) (fun jj => ?_) ?_
        · have hsem := ht144
          refine r_lload X (pc := 112) (i := 10) (zw_dg dk_Lures_timesAgainstBribe 63 rfl) rfl ?_
          refine r_lconst X (pc := 114) (v := 0) (zw_dg dk_Lures_timesAgainstBribe 64 rfl) (by decide) ?_
          refine r_lcmp_ge X (pc := 115) (tgt := 144) (zw_dg dk_Lures_timesAgainstBribe 65 rfl) (zw_dg dk_Lures_timesAgainstBribe 66 rfl) (by decide) (fun q28 => ?_) (fun q28 => ?_)
          · --
            have p27 : ¬ (ahead13 < 0) := (Int64.not_lt.mpr q28)
            have hsem := zw_ifn p27 hsem
            cases hsem
            exact (r_fgt [] rfl jj)
          · --
            have p27 : (ahead13 < 0) := (Int64.not_le.mp q28)
            have hsem := zw_ifp p27 hsem
            refine r_lload X (pc := 119) (i := 7) (zw_dg dk_Lures_timesAgainstBribe 67 rfl) rfl ?_
            obtain ⟨v29, hv29, hsv29⟩ := zw_bd hsem
            refine zw_terO (f := Value.long) (v := v29) (J := 139) (st2 := [.long most5]) (c2 := c) (fun jj => ?_) ?_
            · have hsem := hv29
              refine r_lload X (pc := 121) (i := 12) (zw_dg dk_Lures_timesAgainstBribe 68 rfl) rfl ?_
              refine r_lconst X (pc := 123) (v := 0) (zw_dg dk_Lures_timesAgainstBribe 69 rfl) (by decide) ?_
              refine r_lcmp_le X (pc := 124) (tgt := 132) (zw_dg dk_Lures_timesAgainstBribe 70 rfl) (zw_dg dk_Lures_timesAgainstBribe 71 rfl) (by decide) (fun q31 => ?_) (fun q31 => ?_)
              · --
                have p30 : ¬ (0 < tempts16) := (Int64.not_lt.mpr q31)
                have hsem := zw_ifn p30 hsem
                refine r_lload X (pc := 132) (i := 12) (zw_dg dk_Lures_timesAgainstBribe 74 rfl) rfl ?_
                refine r_lload X (pc := 134) (i := 10) (zw_dg dk_Lures_timesAgainstBribe 75 rfl) rfl ?_
                obtain ⟨r32, hr32, hsem⟩ := zw_bd hsem
                refine r_callSNl X (pc := 136) (As := [_, _]) (st := [.long most5]) (km_P_cut hS hr32) ce_P_cut kw_970 rfl ⟨Nat.le_of_ble_eq_true rfl, Nat.le_of_ble_eq_true rfl⟩ (Nat.le_of_ble_eq_true rfl) (zw_dg dk_Lures_timesAgainstBribe 76 rfl) ?_
                cases hsem; exact jj
              · --
                have p30 : (0 < tempts16) := (Int64.not_le.mp q31)
                have hsem := zw_ifp p30 hsem
                refine r_lconst X (pc := 128) (v := 0) (zw_dg dk_Lures_timesAgainstBribe 72 rfl) (by decide) ?_
                refine r_goto X (pc := 129) (tgt := 139) (zw_dg dk_Lures_timesAgainstBribe 73 rfl) (by decide) ?_
                cases hsem; exact jj
            have hsem := hsv29
            refine r_mminl X (pc := 139) kw_1021 mws_minl kw_88 mwc_minl ⟨Nat.le_of_ble_eq_true rfl, Nat.le_of_ble_eq_true rfl⟩ (st := []) (Nat.le_of_ble_eq_true rfl) (zw_dg dk_Lures_timesAgainstBribe 77 rfl) ?_
            obtain ⟨most33, hmost33, hsem⟩ := zw_bd hsem
            refine zw_topJ hmost33 ?_
            refine r_lstore X (pc := 142) (i := 7) (L2 := [some (.ref 63), some (.ref values1), some (.int thought2), some (.long r3), none, some (.long fewest20), none, some (.long most33), none, some (.int s6), some (.long ahead13), none, some (.long tempts16), none]) (zw_dg dk_Lures_timesAgainstBribe 78 rfl) (by decide) rfl ?_
            cases hsem
            exact (r_fgt [] rfl jj)
        have hsem := hs144
        refine r_iinc X (pc := 144) (i := 9) (k := 1) (zw_dg dk_Lures_timesAgainstBribe 79 rfl) rfl (by decide) (by decide) rfl ?_
        refine r_goto X (pc := 147) (tgt := 22) (zw_dg dk_Lures_timesAgainstBribe 80 rfl) (by decide) ?_
        have jj := hP _ (Option.some.inj hsem).symm
        exact (r_fgt [10, 12] rfl jj)
  · intro w hw
    subst hw
    exact Option.some.inj hsl9
  rintro ⟨fewest7, most8⟩ hw
  subst hw
  have hsem := hsl9
  refine zw_ter (P := (most8 < fewest7)) (f := Value.int) (x := (-1)) (y := fewest7.toInt32) (J := 165) (st2 := []) (fun jT jF => ?_) ?_
  · --
    refine r_lload X (pc := 150) (i := 5) (zw_dg dk_Lures_timesAgainstBribe 81 rfl) rfl ?_
    refine r_lload X (pc := 152) (i := 7) (zw_dg dk_Lures_timesAgainstBribe 82 rfl) rfl ?_
    refine r_lcmp_le X (pc := 154) (tgt := 162) (zw_dg dk_Lures_timesAgainstBribe 83 rfl) (zw_dg dk_Lures_timesAgainstBribe 84 rfl) (by decide) (fun q34 => ?_) (fun q34 => ?_)
    · --
      refine r_lload X (pc := 162) (i := 5) (zw_dg dk_Lures_timesAgainstBribe 87 rfl) rfl ?_
      refine r_l2i X (pc := 164) (zw_dg dk_Lures_timesAgainstBribe 88 rfl)  ?_
      exact jF (Int64.not_lt.mpr q34)
    · --
      refine r_iconst X (pc := 158) (v := (-1)) (zw_dg dk_Lures_timesAgainstBribe 85 rfl) (by decide) ?_
      refine r_goto X (pc := 159) (tgt := 165) (zw_dg dk_Lures_timesAgainstBribe 86 rfl) (by decide) ?_
      exact jT (Int64.not_le.mp q34)
  cases hsem
  exact r_iret X (pc := 165) rfl (zw_dg dk_Lures_timesAgainstBribe 89 rfl)
def y_Lures_greatestSafeGift : MethodName := ⟨R_Lures, "greatestSafeGift", "([I)I"⟩
abbrev b_Lures_greatestSafeGift : ByteArray := prog_7_method_12_code
def dl_Lures_greatestSafeGift : List (Nat × Instr × Nat) := [(0, .ldc2_w 68, 3), (3, .lstore_n 2, 1), (4, .iconst 0, 1), (5, .istore 4, 2), (7, .iload 4, 2), (9, .aload_n 0, 1), (10, .getfield 15, 3), (13, .getfield 70, 3), (16, .if_icmp .ge 77, 3), (19, .aload_n 0, 1), (20, .getfield 23, 3), (23, .aload_n 1, 1), (24, .iload 4, 2), (26, .invokevirtual 127, 3), (29, .aload_n 0, 1), (30, .getfield 19, 3), (33, .getfield 73, 3), (36, .iload 4, 2), (38, .laload, 1), (39, .aload_n 0, 1), (40, .getfield 19, 3), (43, .getfield 73, 3), (46, .aload_n 0, 1), (47, .getfield 19, 3), (50, .iload 4, 2), (52, .invokevirtual 131, 3), (55, .laload, 1), (56, .lsub, 1), (57, .lstore 5, 2), (59, .lload 5, 2), (61, .lconst 0, 1), (62, .lcmp, 1), (63, .ifCond .ge 6, 3), (66, .bipush (-2), 2), (68, .ireturn, 1), (69, .lload_n 2, 1), (70, .lload 5, 2), (72, .aload_n 0, 1), (73, .getfield 15, 3), (76, .getfield 59, 3), (79, .i2l, 1), (80, .invokestatic 64, 3), (83, .invokestatic 124, 3), (86, .lstore_n 2, 1), (87, .iinc 4 1, 3), (90, .goto (-83), 3), (93, .lload_n 2, 1), (94, .l2i, 1), (95, .ireturn, 1)]
theorem dk_Lures_greatestSafeGift : zw_dk b_Lures_greatestSafeGift dl_Lures_greatestSafeGift = true := by decide +kernel
theorem ce_Lures_greatestSafeGift : zw_cev y_Lures_greatestSafeGift b_Lures_greatestSafeGift 7 (some .int) 1 := ⟨⟨kt_in 1035 (by decide +kernel) rfl, kt_in 94 (by decide +kernel) rfl, by decide +kernel⟩, kt_in 1033 (by decide +kernel) rfl, kt_in 1034 (by decide +kernel) rfl⟩
def fn_Lures_greatestSafeGift_l1 (values1 : Nat) : Int64 × Int32 × zw_Ct → Option (((Int32 × zw_Ct) ⊕ (Int64 × zw_Ct)) ⊕ (Int64 × Int32 × zw_Ct)) := fun (safe2, thought3, c4) =>
  if (thought3 < (c4.1 1 2)) then
  ((fn_Judge_tallyWorth c4 values1 thought3).bind fun c10 =>
  (zw_aL 455 c10 12 thought3).bind fun x11 =>
  (fn_Tally_topBut c10 thought3).bind fun r12 =>
  (zw_aL 455 c10 12 r12).bind fun x13 =>
  (some ((x11 - x13) : Int64)).bind fun ahead14 =>
  if (ahead14 < 0) then
  (some (.inl (.inl ((-2), c10))))
  else
  ((fn_P_cut ahead14 ((c10.1 1 1)).toInt64).bind fun r17 =>
  (some ((if r17 < safe2 then r17 else safe2) : Int64)).bind fun safe18 =>
  some (.inr (safe18, (thought3 + 1), c10))))
  else
  (some (.inl (.inr (safe2, c4))))
def fn_Lures_greatestSafeGift (c : zw_Ct) (values1 : Nat) : Option (Int32 × zw_Ct) :=
  (zw_whl (fn_Lures_greatestSafeGift_l1 values1) zw_F (9999, 0, c)).bind fun q => match q with
    | .inl w => some w
    | .inr (safe5, c6) =>
    some (safe5.toInt32, c6)
set_option maxRecDepth 100000 in
theorem km_Lures_greatestSafeGift {l : Launch} {g : zw_G} {rr : zw_RR} {sh : zw_Sh} {c : zw_Ct} {values1 : Nat} {r : Int32} {c2 : zw_Ct} (hS : zw_Ok 0 101 sh rr) (hsem : fn_Lures_greatestSafeGift c values1 = some (r, c2)) : zw_Met l g y_Lures_greatestSafeGift b_Lures_greatestSafeGift 7 (some .int) 4 rr sh [.ref 63, .ref values1] c (some (.int r)) c2 := by
  unfold fn_Lures_greatestSafeGift at hsem
  refine zw_Met.of (by decide +kernel) (Nat.le_of_ble_eq_true rfl) (fun p e s m args below meth cd X => ?_)
  refine zw_eL (L2 := [some (.ref 63), some (.ref values1), none, none, none, none, none]) rfl ?_
  refine r_ldc2 X (pc := 0) (v := 9999) kw_971 (zw_dg dk_Lures_greatestSafeGift 0 rfl) ?_
  refine r_lstore_n X (pc := 3) (i := 2) (L2 := [some (.ref 63), some (.ref values1), some (.long 9999), none, none, none, none]) (zw_dg dk_Lures_greatestSafeGift 1 rfl) rfl (by decide) rfl ?_
  refine r_iconst X (pc := 4) (v := 0) (zw_dg dk_Lures_greatestSafeGift 2 rfl) (by decide) ?_
  refine r_istore X (pc := 5) (i := 4) (zw_dg dk_Lures_greatestSafeGift 3 rfl) (by decide) rfl ?_
  obtain ⟨l7, hl7, hsl7⟩ := zw_bd hsem
  refine r_loopR (pc := 7) (pce := 93) hl7 (fun (safe2, thought3, c4) => [some (.ref 63), some (.ref values1), some (.long safe2), none, some (.int thought3), none, none] : Int64 × Int32 × zw_Ct → zw_Lc) (fun (safe2, thought3, c4) => c4 : Int64 × Int32 × zw_Ct → zw_Ct) (fun (safe5, c6) => [some (.ref 63), some (.ref values1), some (.long safe5), none, none, none, none] : Int64 × zw_Ct → zw_Lc) (fun (safe5, c6) => c6 : Int64 × zw_Ct → zw_Ct) (fun w => w = (r, c2)) ?_ rfl rfl ?_ ?_
  · rintro ⟨safe2, thought3, c4⟩ rr hsem hR hK hP
    try unfold fn_Lures_greatestSafeGift_l1 at hsem
    refine r_iload X (pc := 7) (i := 4) (zw_dg dk_Lures_greatestSafeGift 4 rfl) rfl ?_
    refine r_aload_n X (pc := 9) (i := 0) (zw_dg dk_Lures_greatestSafeGift 5 rfl) rfl rfl ?_
    refine r_getR X (pc := 10) (r := 1) ci_Lures (zo hS 63 rfl rfl) rfl (zr hS 63 0 rfl rfl) lk_Lures_15 (zw_dg dk_Lures_greatestSafeGift 6 rfl) ?_
    refine r_getI X (pc := 13) ci_Sayings (zo hS 1 rfl rfl) rfl lk_Lures_70 (zw_dg dk_Lures_greatestSafeGift 7 rfl) ?_
    refine r_icmp_ge X (pc := 16) (tgt := 93) (zw_dg dk_Lures_greatestSafeGift 8 rfl) (by decide) (fun q9 => ?_) (fun q9 => ?_)
    · --
      have p8 : ¬ (thought3 < (c4.1 1 2)) := (Int32.not_lt.mpr q9)
      have hsem := zw_ifn p8 hsem
      have jj := hK _ (Option.some.inj hsem).symm
      exact (r_fgt [4] rfl jj)
    · --
      have p8 : (thought3 < (c4.1 1 2)) := (Int32.not_le.mp q9)
      have hsem := zw_ifp p8 hsem
      refine r_aload_n X (pc := 19) (i := 0) (zw_dg dk_Lures_greatestSafeGift 9 rfl) rfl rfl ?_
      refine r_getR X (pc := 20) (r := 13) ci_Lures (zo hS 63 rfl rfl) rfl (zr hS 63 2 rfl rfl) lk_Lures_23 (zw_dg dk_Lures_greatestSafeGift 10 rfl) ?_
      refine r_aload_n X (pc := 23) (i := 1) (zw_dg dk_Lures_greatestSafeGift 11 rfl) rfl rfl ?_
      refine r_iload X (pc := 24) (i := 4) (zw_dg dk_Lures_greatestSafeGift 12 rfl) rfl ?_
      obtain ⟨c10, hc10, hsem⟩ := zw_bd hsem
      refine r_callVv X (pc := 26) (As := [_, _]) (st := []) (km_Judge_tallyWorth hS hc10) ce_Judge_tallyWorth kw_1036 (zo hS 13 rfl rfl) rfl rfl ⟨Nat.le_of_ble_eq_true rfl, Nat.le_of_ble_eq_true rfl⟩ (Nat.le_of_ble_eq_true rfl) (zw_dg dk_Lures_greatestSafeGift 13 rfl) ?_
      refine r_aload_n X (pc := 29) (i := 0) (zw_dg dk_Lures_greatestSafeGift 14 rfl) rfl rfl ?_
      refine r_getR X (pc := 30) (r := 11) ci_Lures (zo hS 63 rfl rfl) rfl (zr hS 63 1 rfl rfl) lk_Lures_19 (zw_dg dk_Lures_greatestSafeGift 15 rfl) ?_
      refine r_getR X (pc := 33) (r := 12) ci_Tally (zo hS 11 rfl rfl) rfl (zr hS 11 1 rfl rfl) lk_Lures_73 (zw_dg dk_Lures_greatestSafeGift 16 rfl) ?_
      refine r_iload X (pc := 36) (i := 4) (zw_dg dk_Lures_greatestSafeGift 17 rfl) rfl ?_
      obtain ⟨x11, hx11, hsem⟩ := zw_bd hsem
      refine r_lald X (pc := 38) (zo hS 12 rfl rfl) hx11 (zw_dg dk_Lures_greatestSafeGift 18 rfl) ?_
      refine r_aload_n X (pc := 39) (i := 0) (zw_dg dk_Lures_greatestSafeGift 19 rfl) rfl rfl ?_
      refine r_getR X (pc := 40) (r := 11) ci_Lures (zo hS 63 rfl rfl) rfl (zr hS 63 1 rfl rfl) lk_Lures_19 (zw_dg dk_Lures_greatestSafeGift 20 rfl) ?_
      refine r_getR X (pc := 43) (r := 12) ci_Tally (zo hS 11 rfl rfl) rfl (zr hS 11 1 rfl rfl) lk_Lures_73 (zw_dg dk_Lures_greatestSafeGift 21 rfl) ?_
      refine r_aload_n X (pc := 46) (i := 0) (zw_dg dk_Lures_greatestSafeGift 22 rfl) rfl rfl ?_
      refine r_getR X (pc := 47) (r := 11) ci_Lures (zo hS 63 rfl rfl) rfl (zr hS 63 1 rfl rfl) lk_Lures_19 (zw_dg dk_Lures_greatestSafeGift 23 rfl) ?_
      refine r_iload X (pc := 50) (i := 4) (zw_dg dk_Lures_greatestSafeGift 24 rfl) rfl ?_
      obtain ⟨r12, hr12, hsem⟩ := zw_bd hsem
      refine r_callVi X (pc := 52) (As := [_]) (st := [.ref 12, .long x11]) (km_Tally_topBut hS hr12) ce_Tally_topBut kw_1037 (zo hS 11 rfl rfl) rfl rfl ⟨Nat.le_of_ble_eq_true rfl, Nat.le_of_ble_eq_true rfl⟩ (Nat.le_of_ble_eq_true rfl) (zw_dg dk_Lures_greatestSafeGift 25 rfl) ?_
      obtain ⟨x13, hx13, hsem⟩ := zw_bd hsem
      refine r_lald X (pc := 55) (zo hS 12 rfl rfl) hx13 (zw_dg dk_Lures_greatestSafeGift 26 rfl) ?_
      refine r_lsub X (pc := 56) (zw_dg dk_Lures_greatestSafeGift 27 rfl)  ?_
      obtain ⟨ahead14, hahead14, hsem⟩ := zw_bd hsem
      refine zw_topJ hahead14 ?_
      refine r_lstore X (pc := 57) (i := 5) (L2 := [some (.ref 63), some (.ref values1), some (.long safe2), none, some (.int thought3), some (.long ahead14), none]) (zw_dg dk_Lures_greatestSafeGift 28 rfl) (by decide) rfl ?_
      refine r_lload X (pc := 59) (i := 5) (zw_dg dk_Lures_greatestSafeGift 29 rfl) rfl ?_
      refine r_lconst X (pc := 61) (v := 0) (zw_dg dk_Lures_greatestSafeGift 30 rfl) (by decide) ?_
      refine r_lcmp_ge X (pc := 62) (tgt := 69) (zw_dg dk_Lures_greatestSafeGift 31 rfl) (zw_dg dk_Lures_greatestSafeGift 32 rfl) (by decide) (fun q16 => ?_) (fun q16 => ?_)
      · --
        have p15 : ¬ (ahead14 < 0) := (Int64.not_lt.mpr q16)
        have hsem := zw_ifn p15 hsem
        refine r_lload_n X (pc := 69) (i := 2) (zw_dg dk_Lures_greatestSafeGift 35 rfl) rfl rfl ?_
        refine r_lload X (pc := 70) (i := 5) (zw_dg dk_Lures_greatestSafeGift 36 rfl) rfl ?_
        refine r_aload_n X (pc := 72) (i := 0) (zw_dg dk_Lures_greatestSafeGift 37 rfl) rfl rfl ?_
        refine r_getR X (pc := 73) (r := 1) ci_Lures (zo hS 63 rfl rfl) rfl (zr hS 63 0 rfl rfl) lk_Lures_15 (zw_dg dk_Lures_greatestSafeGift 38 rfl) ?_
        refine r_getI X (pc := 76) ci_Sayings (zo hS 1 rfl rfl) rfl lk_Lures_59 (zw_dg dk_Lures_greatestSafeGift 39 rfl) ?_
        refine r_i2l X (pc := 79) (zw_dg dk_Lures_greatestSafeGift 40 rfl)  ?_
        obtain ⟨r17, hr17, hsem⟩ := zw_bd hsem
        refine r_callSNl X (pc := 80) (As := [_, _]) (st := [.long safe2]) (km_P_cut hS hr17) ce_P_cut kw_970 rfl ⟨Nat.le_of_ble_eq_true rfl, Nat.le_of_ble_eq_true rfl⟩ (Nat.le_of_ble_eq_true rfl) (zw_dg dk_Lures_greatestSafeGift 41 rfl) ?_
        refine r_mminl X (pc := 83) kw_1021 mws_minl kw_88 mwc_minl ⟨Nat.le_of_ble_eq_true rfl, Nat.le_of_ble_eq_true rfl⟩ (st := []) (Nat.le_of_ble_eq_true rfl) (zw_dg dk_Lures_greatestSafeGift 42 rfl) ?_
        obtain ⟨safe18, hsafe18, hsem⟩ := zw_bd hsem
        refine zw_topJ hsafe18 ?_
        refine r_lstore_n X (pc := 86) (i := 2) (L2 := [some (.ref 63), some (.ref values1), some (.long safe18), none, some (.int thought3), some (.long ahead14), none]) (zw_dg dk_Lures_greatestSafeGift 43 rfl) rfl (by decide) rfl ?_
        refine r_iinc X (pc := 87) (i := 4) (k := 1) (zw_dg dk_Lures_greatestSafeGift 44 rfl) rfl (by decide) (by decide) rfl ?_
        refine r_goto X (pc := 90) (tgt := 7) (zw_dg dk_Lures_greatestSafeGift 45 rfl) (by decide) ?_
        have jj := hP _ (Option.some.inj hsem).symm
        exact (r_fgt [5] rfl jj)
      · --
        have p15 : (ahead14 < 0) := (Int64.not_le.mp q16)
        have hsem := zw_ifp p15 hsem
        refine r_bipush X (pc := 66) (v := (-2)) (zw_dg dk_Lures_greatestSafeGift 33 rfl) (by decide) ?_
        have hret := hR _ (Option.some.inj hsem).symm
        cases hret
        exact r_iret X (pc := 68) rfl (zw_dg dk_Lures_greatestSafeGift 34 rfl)
  · intro w hw
    subst hw
    exact Option.some.inj hsl7
  rintro ⟨safe5, c6⟩ hw
  subst hw
  have hsem := hsl7
  refine r_lload_n X (pc := 93) (i := 2) (zw_dg dk_Lures_greatestSafeGift 46 rfl) rfl rfl ?_
  refine r_l2i X (pc := 94) (zw_dg dk_Lures_greatestSafeGift 47 rfl)  ?_
  cases hsem
  exact r_iret X (pc := 95) rfl (zw_dg dk_Lures_greatestSafeGift 48 rfl)
