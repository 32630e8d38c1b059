/-! PaidForThinkingModel: names, functions, contracts (by program: wip/whole/gen) -/
def y_M_word : MethodName := ⟨R_M, "word", "(III)Z"⟩
abbrev b_M_word : ByteArray := prog_14_method_86_code
def dl_M_word : List (Nat × Instr × Nat) := [(0, .aload_n 0, 1), (1, .iconst 0, 1), (2, .putfield 97, 3), (5, .iload_n 1, 1), (6, .i2l, 1), (7, .lconst 0, 1), (8, .ldc2_w 333, 3), (11, .invokestatic 120, 3), (14, .ifCond .eq 32, 3), (17, .iload_n 2, 1), (18, .i2l, 1), (19, .lconst 0, 1), (20, .aload_n 0, 1), (21, .getfield 13, 3), (24, .i2l, 1), (25, .invokestatic 120, 3), (28, .ifCond .eq 18, 3), (31, .iload_n 3, 1), (32, .i2l, 1), (33, .iload_n 2, 1), (34, .i2l, 1), (35, .aload_n 0, 1), (36, .getfield 13, 3), (39, .i2l, 1), (40, .invokestatic 120, 3), (43, .ifCond .ne 5, 3), (46, .iconst 0, 1), (47, .ireturn, 1), (48, .aload_n 0, 1), (49, .getfield 70, 3), (52, .iload_n 1, 1), (53, .iload_n 2, 1), (54, .iastore, 1), (55, .aload_n 0, 1), (56, .getfield 73, 3), (59, .iload_n 1, 1), (60, .iload_n 3, 1), (61, .iastore, 1), (62, .aload_n 0, 1), (63, .dup, 1), (64, .getfield 136, 3), (67, .iconst 1, 1), (68, .iload_n 1, 1), (69, .ishl, 1), (70, .ior, 1), (71, .putfield 136, 3), (74, .iconst 1, 1), (75, .ireturn, 1)]
theorem dk_M_word : zw_dk b_M_word dl_M_word = true := by decide +kernel
theorem ce_M_word : zw_cev y_M_word b_M_word 4 (some .boolean) 3 := ⟨⟨kt_in 1944 (by decide +kernel) rfl, kt_in 98 (by decide +kernel) rfl, by decide +kernel⟩, kt_in 1942 (by decide +kernel) rfl, kt_in 1943 (by decide +kernel) rfl⟩
def fn_M_word (c : zw_Ct) (i1 : Int32) (from2 : Int32) (to3 : Int32) : Option (Int32 × zw_Ct) :=
  (some (zw_wI c 71 9 0)).bind fun c4 =>
  if (((¬ (¬ (fn_M_in i1.toInt64 0 5) = 0)) ∨ (¬ (¬ (fn_M_in from2.toInt64 0 ((c4.1 71 1)).toInt64) = 0))) ∨ (¬ (¬ (fn_M_in to3.toInt64 from2.toInt64 ((c4.1 71 1)).toInt64) = 0))) then
  (some (0, c4))
  else
  ((zw_uI 6 c4 92 i1 from2).bind fun c9 =>
  (zw_uI 6 c9 93 i1 to3).bind fun c10 =>
  (some (zw_wI c10 71 30 ((c10.1 71 30) ||| (1 <<< (i1 &&& 31))))).bind fun c11 =>
  some (1, c11))
set_option maxRecDepth 100000 in
theorem km_M_word {l : Launch} {g : zw_G} {rr : zw_RR} {sh : zw_Sh} {c : zw_Ct} {i1 : Int32} {from2 : Int32} {to3 : Int32} {r : Int32} {c2 : zw_Ct} (hS : zw_Ok 0 101 sh rr) (hsem : fn_M_word c i1 from2 to3 = some (r, c2)) : zw_Met l g y_M_word b_M_word 4 (some .boolean) 2 rr sh [.ref 71, .int i1, .int from2, .int to3] c (some (.int r)) c2 := by
  unfold fn_M_word at hsem
  refine zw_Met.of (by decide +kernel) (Nat.le_of_ble_eq_true rfl) (fun p e s m args below meth cd X => ?_)
  refine zw_eL (L2 := [some (.ref 71), some (.int i1), some (.int from2), some (.int to3)]) rfl ?_
  refine r_aload_n X (pc := 0) (i := 0) (zw_dg dk_M_word 0 rfl) rfl rfl ?_
  refine r_iconst X (pc := 1) (v := 0) (zw_dg dk_M_word 1 rfl) (by decide) ?_
  refine r_putI X (pc := 2) ci_M (zo hS 71 rfl rfl) rfl lk_M_97 rfl ⟨rfl, rfl⟩ (zw_dg dk_M_word 2 rfl) ?_
  obtain ⟨c4, hc4, hsem⟩ := zw_bd hsem
  refine zw_topC hc4 ?_
  refine zw_cnd (P := (((¬ (¬ (fn_M_in i1.toInt64 0 5) = 0)) ∨ (¬ (¬ (fn_M_in from2.toInt64 0 ((c4.1 71 1)).toInt64) = 0))) ∨ (¬ (¬ (fn_M_in to3.toInt64 from2.toInt64 ((c4.1 71 1)).toInt64) = 0)))) (J1 := 46) (J2 := 48) (st2 := []) (fun jT jF => ?_) (fun p5 => ?_) (fun p5 => ?_)
  · --
    refine r_iload_n X (pc := 5) (i := 1) (zw_dg dk_M_word 3 rfl) rfl rfl ?_
    refine r_i2l X (pc := 6) (zw_dg dk_M_word 4 rfl)  ?_
    refine r_lconst X (pc := 7) (v := 0) (zw_dg dk_M_word 5 rfl) (by decide) ?_
    refine r_ldc2 X (pc := 8) (v := 5) kw_1945 (zw_dg dk_M_word 6 rfl) ?_
    refine r_callSi X (pc := 11) (As := [_, _, _]) (st := []) (km_M_in hS rfl) ce_M_in kw_1597 rfl ⟨Nat.le_of_ble_eq_true rfl, Nat.le_of_ble_eq_true rfl⟩ (Nat.le_of_ble_eq_true rfl) (zw_dg dk_M_word 7 rfl) ?_
    refine r_if_eq X (pc := 14) (tgt := 46) (zw_dg dk_M_word 8 rfl) (by decide) (fun q6 => ?_) (fun q6 => ?_)
    · --
      exact jT (Or.inl (Or.inl (fun z => z q6)))
    · --
      refine r_iload_n X (pc := 17) (i := 2) (zw_dg dk_M_word 9 rfl) rfl rfl ?_
      refine r_i2l X (pc := 18) (zw_dg dk_M_word 10 rfl)  ?_
      refine r_lconst X (pc := 19) (v := 0) (zw_dg dk_M_word 11 rfl) (by decide) ?_
      refine r_aload_n X (pc := 20) (i := 0) (zw_dg dk_M_word 12 rfl) rfl rfl ?_
      refine r_getI X (pc := 21) ci_M (zo hS 71 rfl rfl) rfl lk_M_13 (zw_dg dk_M_word 13 rfl) ?_
      refine r_i2l X (pc := 24) (zw_dg dk_M_word 14 rfl)  ?_
      refine r_callSi X (pc := 25) (As := [_, _, _]) (st := []) (km_M_in hS rfl) ce_M_in kw_1597 rfl ⟨Nat.le_of_ble_eq_true rfl, Nat.le_of_ble_eq_true rfl⟩ (Nat.le_of_ble_eq_true rfl) (zw_dg dk_M_word 15 rfl) ?_
      refine r_if_eq X (pc := 28) (tgt := 46) (zw_dg dk_M_word 16 rfl) (by decide) (fun q7 => ?_) (fun q7 => ?_)
      · --
        exact jT (Or.inl (Or.inr (fun z => z q7)))
      · --
        refine r_iload_n X (pc := 31) (i := 3) (zw_dg dk_M_word 17 rfl) rfl rfl ?_
        refine r_i2l X (pc := 32) (zw_dg dk_M_word 18 rfl)  ?_
        refine r_iload_n X (pc := 33) (i := 2) (zw_dg dk_M_word 19 rfl) rfl rfl ?_
        refine r_i2l X (pc := 34) (zw_dg dk_M_word 20 rfl)  ?_
        refine r_aload_n X (pc := 35) (i := 0) (zw_dg dk_M_word 21 rfl) rfl rfl ?_
        refine r_getI X (pc := 36) ci_M (zo hS 71 rfl rfl) rfl lk_M_13 (zw_dg dk_M_word 22 rfl) ?_
        refine r_i2l X (pc := 39) (zw_dg dk_M_word 23 rfl)  ?_
        refine r_callSi X (pc := 40) (As := [_, _, _]) (st := []) (km_M_in hS rfl) ce_M_in kw_1597 rfl ⟨Nat.le_of_ble_eq_true rfl, Nat.le_of_ble_eq_true rfl⟩ (Nat.le_of_ble_eq_true rfl) (zw_dg dk_M_word 24 rfl) ?_
        refine r_if_ne X (pc := 43) (tgt := 48) (zw_dg dk_M_word 25 rfl) (by decide) (fun q8 => ?_) (fun q8 => ?_)
        · --
          exact jF (fun q => q.elim (fun q => q.elim (fun q => q q6) (fun q => q q7)) (fun q => q q8))
        · --
          exact jT (Or.inr (fun z => z q8))
  · --
    have hsem := zw_ifp p5 hsem
    refine r_iconst X (pc := 46) (v := 0) (zw_dg dk_M_word 26 rfl) (by decide) ?_
    have hbz : (0 : Int32) = 0 ∨ (0 : Int32) = 1 := (by decide)
    obtain ⟨rfl, rfl⟩ := zw_in2 hsem
    exact r_zret X (pc := 47) rfl (zw_bzn hbz).1 (zw_dg dk_M_word 27 rfl)
  · --
    have hsem := zw_ifn p5 hsem
    refine r_aload_n X (pc := 48) (i := 0) (zw_dg dk_M_word 28 rfl) rfl rfl ?_
    refine r_getR X (pc := 49) (r := 92) ci_M (zo hS 71 rfl rfl) rfl (zr hS 71 31 rfl rfl) lk_M_70 (zw_dg dk_M_word 29 rfl) ?_
    refine r_iload_n X (pc := 52) (i := 1) (zw_dg dk_M_word 30 rfl) rfl rfl ?_
    refine r_iload_n X (pc := 53) (i := 2) (zw_dg dk_M_word 31 rfl) rfl rfl ?_
    obtain ⟨c9, hc9, hsem⟩ := zw_bd hsem
    refine r_iast X (pc := 54) (zo hS 92 rfl rfl) hc9 (zw_dg dk_M_word 32 rfl) ?_
    refine r_aload_n X (pc := 55) (i := 0) (zw_dg dk_M_word 33 rfl) rfl rfl ?_
    refine r_getR X (pc := 56) (r := 93) ci_M (zo hS 71 rfl rfl) rfl (zr hS 71 32 rfl rfl) lk_M_73 (zw_dg dk_M_word 34 rfl) ?_
    refine r_iload_n X (pc := 59) (i := 1) (zw_dg dk_M_word 35 rfl) rfl rfl ?_
    refine r_iload_n X (pc := 60) (i := 3) (zw_dg dk_M_word 36 rfl) rfl rfl ?_
    obtain ⟨c10, hc10, hsem⟩ := zw_bd hsem
    refine r_iast X (pc := 61) (zo hS 93 rfl rfl) hc10 (zw_dg dk_M_word 37 rfl) ?_
    refine r_aload_n X (pc := 62) (i := 0) (zw_dg dk_M_word 38 rfl) rfl rfl ?_
    refine r_dup X (pc := 63) (zw_dg dk_M_word 39 rfl) rfl ?_
    refine r_getI X (pc := 64) ci_M (zo hS 71 rfl rfl) rfl lk_M_136 (zw_dg dk_M_word 40 rfl) ?_
    refine r_iconst X (pc := 67) (v := 1) (zw_dg dk_M_word 41 rfl) (by decide) ?_
    refine r_iload_n X (pc := 68) (i := 1) (zw_dg dk_M_word 42 rfl) rfl rfl ?_
    refine r_ishl X (pc := 69) (zw_dg dk_M_word 43 rfl)  ?_
    refine r_ior X (pc := 70) (zw_dg dk_M_word 44 rfl)  ?_
    refine r_putI X (pc := 71) ci_M (zo hS 71 rfl rfl) rfl lk_M_136 rfl ⟨rfl, rfl⟩ (zw_dg dk_M_word 45 rfl) ?_
    obtain ⟨c11, hc11, hsem⟩ := zw_bd hsem
    refine zw_topC hc11 ?_
    refine r_iconst X (pc := 74) (v := 1) (zw_dg dk_M_word 46 rfl) (by decide) ?_
    have hbz : (1 : Int32) = 0 ∨ (1 : Int32) = 1 := (by decide)
    obtain ⟨rfl, rfl⟩ := zw_in2 hsem
    exact r_zret X (pc := 75) rfl (zw_bzn hbz).1 (zw_dg dk_M_word 47 rfl)
def y_M_isSaid : MethodName := ⟨R_M, "isSaid", "(II)Z"⟩
abbrev b_M_isSaid : ByteArray := prog_14_method_87_code
def dl_M_isSaid : List (Nat × Instr × Nat) := [(0, .aload_n 0, 1), (1, .getfield 136, 3), (4, .iload_n 1, 1), (5, .ishr, 1), (6, .iconst 1, 1), (7, .iand, 1), (8, .iconst 1, 1), (9, .if_icmp .ne 36, 3), (12, .aload_n 0, 1), (13, .getfield 16, 3), (16, .iconst 4, 1), (17, .iload_n 2, 1), (18, .imul, 1), (19, .iaload, 1), (20, .i2l, 1), (21, .aload_n 0, 1), (22, .getfield 70, 3), (25, .iload_n 1, 1), (26, .iaload, 1), (27, .i2l, 1), (28, .aload_n 0, 1), (29, .getfield 73, 3), (32, .iload_n 1, 1), (33, .iaload, 1), (34, .i2l, 1), (35, .invokestatic 120, 3), (38, .ifCond .eq 7, 3), (41, .iconst 1, 1), (42, .goto 4, 3), (45, .iconst 0, 1), (46, .ireturn, 1)]
theorem dk_M_isSaid : zw_dk b_M_isSaid dl_M_isSaid = true := by decide +kernel
theorem ce_M_isSaid : zw_cev y_M_isSaid b_M_isSaid 3 (some .boolean) 2 := ⟨⟨kt_in 1953 (by decide +kernel) rfl, kt_in 98 (by decide +kernel) rfl, by decide +kernel⟩, kt_in 1952 (by decide +kernel) rfl, kt_in 78 (by decide +kernel) rfl⟩
def fn_M_isSaid (c : zw_Ct) (i1 : Int32) (s2 : Int32) : Option Int32 :=
  (if ((((c.1 71 30) >>> (i1 &&& 31)) &&& 1) = 1) then
  ((zw_aI 1820 c 72 (4 * s2)).bind fun x5 =>
  (zw_aI 6 c 92 i1).bind fun x6 =>
  (zw_aI 6 c 93 i1).bind fun x7 =>
  some (decide (¬ (fn_M_in x5.toInt64 x6.toInt64 x7.toInt64) = 0)))
  else some false).bind fun b3 =>
  some (if b3 = true then (1 : Int32) else 0)
set_option maxRecDepth 100000 in
theorem km_M_isSaid {l : Launch} {g : zw_G} {rr : zw_RR} {sh : zw_Sh} {c : zw_Ct} {i1 : Int32} {s2 : Int32} {r : Int32} (hS : zw_Ok 0 101 sh rr) (hsem : fn_M_isSaid c i1 s2 = some r) : zw_Met l g y_M_isSaid b_M_isSaid 3 (some .boolean) 2 rr sh [.ref 71, .int i1, .int s2] c (some (.int r)) c := by
  unfold fn_M_isSaid at hsem
  refine zw_Met.of (by decide +kernel) (Nat.le_of_ble_eq_true rfl) (fun p e s m args below meth cd X => ?_)
  refine zw_eL (L2 := [some (.ref 71), some (.int i1), some (.int s2)]) rfl ?_
  obtain ⟨b3, hb3, hsb3⟩ := zw_bd hsem
  refine zw_terO (f := Value.int) (v := if b3 = true then 1 else 0) (J := 46) (st2 := []) (c2 := c) (fun jj => ?_) ?_
  · have hsem := hb3
    refine r_aload_n X (pc := 0) (i := 0) (zw_dg dk_M_isSaid 0 rfl) rfl rfl ?_
    refine r_getI X (pc := 1) ci_M (zo hS 71 rfl rfl) rfl lk_M_136 (zw_dg dk_M_isSaid 1 rfl) ?_
    refine r_iload_n X (pc := 4) (i := 1) (zw_dg dk_M_isSaid 2 rfl) rfl rfl ?_
    refine r_ishr X (pc := 5) (zw_dg dk_M_isSaid 3 rfl)  ?_
    refine r_iconst X (pc := 6) (v := 1) (zw_dg dk_M_isSaid 4 rfl) (by decide) ?_
    refine r_iand X (pc := 7) (zw_dg dk_M_isSaid 5 rfl)  ?_
    refine r_iconst X (pc := 8) (v := 1) (zw_dg dk_M_isSaid 6 rfl) (by decide) ?_
    refine r_icmp_ne X (pc := 9) (tgt := 45) (zw_dg dk_M_isSaid 7 rfl) (by decide) (fun q4 => ?_) (fun q4 => ?_)
    · --
      have hsem := zw_ifn q4 hsem
      have hb_ := (Option.some.inj hsem).symm
      refine r_iconst X (pc := 45) (v := 0) (zw_dg dk_M_isSaid 29 rfl) (by decide) ?_
      rw [hb_] at jj; exact jj
    · --
      have hsem := zw_ifp q4 hsem
      refine r_aload_n X (pc := 12) (i := 0) (zw_dg dk_M_isSaid 8 rfl) rfl rfl ?_
      refine r_getR X (pc := 13) (r := 72) ci_M (zo hS 71 rfl rfl) rfl (zr hS 71 3 rfl rfl) lk_M_16 (zw_dg dk_M_isSaid 9 rfl) ?_
      refine r_iconst X (pc := 16) (v := 4) (zw_dg dk_M_isSaid 10 rfl) (by decide) ?_
      refine r_iload_n X (pc := 17) (i := 2) (zw_dg dk_M_isSaid 11 rfl) rfl rfl ?_
      refine r_imul X (pc := 18) (zw_dg dk_M_isSaid 12 rfl)  ?_
      obtain ⟨x5, hx5, hsem⟩ := zw_bd hsem
      refine r_iald X (pc := 19) (zo hS 72 rfl rfl) hx5 (zw_dg dk_M_isSaid 13 rfl) ?_
      refine r_i2l X (pc := 20) (zw_dg dk_M_isSaid 14 rfl)  ?_
      refine r_aload_n X (pc := 21) (i := 0) (zw_dg dk_M_isSaid 15 rfl) rfl rfl ?_
      refine r_getR X (pc := 22) (r := 92) ci_M (zo hS 71 rfl rfl) rfl (zr hS 71 31 rfl rfl) lk_M_70 (zw_dg dk_M_isSaid 16 rfl) ?_
      refine r_iload_n X (pc := 25) (i := 1) (zw_dg dk_M_isSaid 17 rfl) rfl rfl ?_
      obtain ⟨x6, hx6, hsem⟩ := zw_bd hsem
      refine r_iald X (pc := 26) (zo hS 92 rfl rfl) hx6 (zw_dg dk_M_isSaid 18 rfl) ?_
      refine r_i2l X (pc := 27) (zw_dg dk_M_isSaid 19 rfl)  ?_
      refine r_aload_n X (pc := 28) (i := 0) (zw_dg dk_M_isSaid 20 rfl) rfl rfl ?_
      refine r_getR X (pc := 29) (r := 93) ci_M (zo hS 71 rfl rfl) rfl (zr hS 71 32 rfl rfl) lk_M_73 (zw_dg dk_M_isSaid 21 rfl) ?_
      refine r_iload_n X (pc := 32) (i := 1) (zw_dg dk_M_isSaid 22 rfl) rfl rfl ?_
      obtain ⟨x7, hx7, hsem⟩ := zw_bd hsem
      refine r_iald X (pc := 33) (zo hS 93 rfl rfl) hx7 (zw_dg dk_M_isSaid 23 rfl) ?_
      refine r_i2l X (pc := 34) (zw_dg dk_M_isSaid 24 rfl)  ?_
      refine r_callSi X (pc := 35) (As := [_, _, _]) (st := []) (km_M_in hS rfl) ce_M_in kw_1597 rfl ⟨Nat.le_of_ble_eq_true rfl, Nat.le_of_ble_eq_true rfl⟩ (Nat.le_of_ble_eq_true rfl) (zw_dg dk_M_isSaid 25 rfl) ?_
      refine r_if_eq X (pc := 38) (tgt := 45) (zw_dg dk_M_isSaid 26 rfl) (by decide) (fun q8 => ?_) (fun q8 => ?_)
      · --
        have hb_ := (zw_dF hsem (fun z => z q8))
        refine r_iconst X (pc := 45) (v := 0) (zw_dg dk_M_isSaid 29 rfl) (by decide) ?_
        rw [hb_] at jj; exact jj
      · --
        have hb_ := (zw_dT hsem q8)
        refine r_iconst X (pc := 41) (v := 1) (zw_dg dk_M_isSaid 27 rfl) (by decide) ?_
        refine r_goto X (pc := 42) (tgt := 46) (zw_dg dk_M_isSaid 28 rfl) (by decide) ?_
        rw [hb_] at jj; exact jj
  have hsem := hsb3
  have hbz : ((if b3 = true then (1 : Int32) else 0) : Int32) = 0 ∨ ((if b3 = true then (1 : Int32) else 0) : Int32) = 1 := zw_ite01
  cases hsem
  exact r_zret X (pc := 46) rfl (zw_bzn hbz).1 (zw_dg dk_M_isSaid 30 rfl)
def y_M_words : MethodName := ⟨R_M, "words", "(I)I"⟩
abbrev b_M_words : ByteArray := prog_14_method_88_code
def dl_M_words : List (Nat × Instr × Nat) := [(0, .aload_n 0, 1), (1, .iconst 0, 1), (2, .putfield 97, 3), (5, .aload_n 0, 1), (6, .iload_n 1, 1), (7, .invokevirtual 142, 3), (10, .ifCond .ne 5, 3), (13, .iconst (-1), 1), (14, .ireturn, 1), (15, .iconst 0, 1), (16, .istore_n 2, 1), (17, .iconst 0, 1), (18, .istore_n 3, 1), (19, .iload_n 3, 1), (20, .bipush 6, 2), (22, .if_icmp .ge 28, 3), (25, .iload_n 2, 1), (26, .aload_n 0, 1), (27, .iload_n 3, 1), (28, .iload_n 1, 1), (29, .invokevirtual 335, 3), (32, .ifCond .eq 9, 3), (35, .iconst 1, 1), (36, .iload_n 3, 1), (37, .ishl, 1), (38, .goto 4, 3), (41, .iconst 0, 1), (42, .ior, 1), (43, .istore_n 2, 1), (44, .iinc 3 1, 3), (47, .goto (-28), 3), (50, .iload_n 2, 1), (51, .ireturn, 1)]
theorem dk_M_words : zw_dk b_M_words dl_M_words = true := by decide +kernel
theorem ce_M_words : zw_cev y_M_words b_M_words 4 (some .int) 1 := ⟨⟨kt_in 1949 (by decide +kernel) rfl, kt_in 98 (by decide +kernel) rfl, by decide +kernel⟩, kt_in 1947 (by decide +kernel) rfl, kt_in 1948 (by decide +kernel) rfl⟩
def fn_M_words_l1 (c3 : zw_Ct) (s1 : Int32) : Int32 × Int32 → Option ((Int32) ⊕ (Int32 × Int32)) := fun (bits6, i7) =>
  if (i7 < 6) then
  ((fn_M_isSaid c3 i7 s1).bind fun r12 =>
  (some ((bits6 ||| (if (¬ r12 = 0) then ((1 <<< (i7 &&& 31)) : Int32) else 0)) : Int32)).bind fun bits14 =>
  some (.inr (bits14, (i7 + 1))))
  else
  (some (.inl bits6))
def fn_M_words (c : zw_Ct) (s1 : Int32) : Option (Int32 × zw_Ct) :=
  (some (zw_wI c 71 9 0)).bind fun c3 =>
  if (¬ (¬ (fn_M_isSaying c3 s1) = 0)) then
  (some ((-1), c3))
  else
  ((zw_whl (fn_M_words_l1 c3 s1) zw_F (0, 0)).bind fun bits8 =>
  some (bits8, c3))
set_option maxRecDepth 100000 in
theorem km_M_words {l : Launch} {g : zw_G} {rr : zw_RR} {sh : zw_Sh} {c : zw_Ct} {s1 : Int32} {r : Int32} {c2 : zw_Ct} (hS : zw_Ok 0 101 sh rr) (hsem : fn_M_words c s1 = some (r, c2)) : zw_Met l g y_M_words b_M_words 4 (some .int) 3 rr sh [.ref 71, .int s1] c (some (.int r)) c2 := by
  unfold fn_M_words at hsem
  refine zw_Met.of (by decide +kernel) (Nat.le_of_ble_eq_true rfl) (fun p e s m args below meth cd X => ?_)
  refine zw_eL (L2 := [some (.ref 71), some (.int s1), none, none]) rfl ?_
  refine r_aload_n X (pc := 0) (i := 0) (zw_dg dk_M_words 0 rfl) rfl rfl ?_
  refine r_iconst X (pc := 1) (v := 0) (zw_dg dk_M_words 1 rfl) (by decide) ?_
  refine r_putI X (pc := 2) ci_M (zo hS 71 rfl rfl) rfl lk_M_97 rfl ⟨rfl, rfl⟩ (zw_dg dk_M_words 2 rfl) ?_
  obtain ⟨c3, hc3, hsem⟩ := zw_bd hsem
  refine zw_topC hc3 ?_
  refine r_aload_n X (pc := 5) (i := 0) (zw_dg dk_M_words 3 rfl) rfl rfl ?_
  refine r_iload_n X (pc := 6) (i := 1) (zw_dg dk_M_words 4 rfl) rfl rfl ?_
  refine r_callVi X (pc := 7) (As := [_]) (st := []) (km_M_isSaying hS rfl) ce_M_isSaying kw_1609 (zo hS 71 rfl rfl) rfl rfl ⟨Nat.le_of_ble_eq_true rfl, Nat.le_of_ble_eq_true rfl⟩ (Nat.le_of_ble_eq_true rfl) (zw_dg dk_M_words 5 rfl) ?_
  refine r_if_ne X (pc := 10) (tgt := 15) (zw_dg dk_M_words 6 rfl) (by decide) (fun q5 => ?_) (fun q5 => ?_)
  · --
    have p4 : ¬ (¬ (¬ (fn_M_isSaying c3 s1) = 0)) := (fun q => q q5)
    have hsem := zw_ifn p4 hsem
    refine r_iconst X (pc := 15) (v := 0) (zw_dg dk_M_words 9 rfl) (by decide) ?_
    refine r_istore_n X (pc := 16) (i := 2) (zw_dg dk_M_words 10 rfl) rfl (by decide) rfl ?_
    refine r_iconst X (pc := 17) (v := 0) (zw_dg dk_M_words 11 rfl) (by decide) ?_
    refine r_istore_n X (pc := 18) (i := 3) (zw_dg dk_M_words 12 rfl) rfl (by decide) rfl ?_
    obtain ⟨bits8, hl9, hsl9⟩ := zw_bd hsem
    refine r_loop (pc := 19) (pce := 50) hl9 (fun (bits6, i7) => [some (.ref 71), some (.int s1), some (.int bits6), some (.int i7)] : Int32 × Int32 → zw_Lc) (fun (bits6, i7) => c3 : Int32 × Int32 → zw_Ct) (fun bits8 => [some (.ref 71), some (.int s1), some (.int bits8), none] : Int32 → zw_Lc) (fun bits8 => c3 : Int32 → zw_Ct) ?_ rfl rfl ?_
    · rintro ⟨bits6, i7⟩ rr hsem hK hP
      try unfold fn_M_words_l1 at hsem
      refine r_iload_n X (pc := 19) (i := 3) (zw_dg dk_M_words 13 rfl) rfl rfl ?_
      refine r_bipush X (pc := 20) (v := 6) (zw_dg dk_M_words 14 rfl) (by decide) ?_
      refine r_icmp_ge X (pc := 22) (tgt := 50) (zw_dg dk_M_words 15 rfl) (by decide) (fun q11 => ?_) (fun q11 => ?_)
      · --
        have p10 : ¬ (i7 < 6) := (Int32.not_lt.mpr q11)
        have hsem := zw_ifn p10 hsem
        have jj := hK _ (Option.some.inj hsem).symm
        exact (r_fgt [3] rfl jj)
      · --
        have p10 : (i7 < 6) := (Int32.not_le.mp q11)
        have hsem := zw_ifp p10 hsem
        refine r_iload_n X (pc := 25) (i := 2) (zw_dg dk_M_words 16 rfl) rfl rfl ?_
        refine r_aload_n X (pc := 26) (i := 0) (zw_dg dk_M_words 17 rfl) rfl rfl ?_
        refine r_iload_n X (pc := 27) (i := 3) (zw_dg dk_M_words 18 rfl) rfl rfl ?_
        refine r_iload_n X (pc := 28) (i := 1) (zw_dg dk_M_words 19 rfl) rfl rfl ?_
        obtain ⟨r12, hr12, hsem⟩ := zw_bd hsem
        refine r_callVi X (pc := 29) (As := [_, _]) (st := [.int bits6]) (km_M_isSaid hS hr12) ce_M_isSaid kw_1950 (zo hS 71 rfl rfl) rfl rfl ⟨Nat.le_of_ble_eq_true rfl, Nat.le_of_ble_eq_true rfl⟩ (Nat.le_of_ble_eq_true rfl) (zw_dg dk_M_words 20 rfl) ?_
        refine zw_ter (P := (¬ r12 = 0)) (f := Value.int) (x := (1 <<< (i7 &&& 31))) (y := 0) (J := 42) (st2 := [.int bits6]) (fun jT jF => ?_) ?_
        · --
          refine r_if_eq X (pc := 32) (tgt := 41) (zw_dg dk_M_words 21 rfl) (by decide) (fun q13 => ?_) (fun q13 => ?_)
          · --
            refine r_iconst X (pc := 41) (v := 0) (zw_dg dk_M_words 26 rfl) (by decide) ?_
            exact jF (fun z => z q13)
          · --
            refine r_iconst X (pc := 35) (v := 1) (zw_dg dk_M_words 22 rfl) (by decide) ?_
            refine r_iload_n X (pc := 36) (i := 3) (zw_dg dk_M_words 23 rfl) rfl rfl ?_
            refine r_ishl X (pc := 37) (zw_dg dk_M_words 24 rfl)  ?_
            refine r_goto X (pc := 38) (tgt := 42) (zw_dg dk_M_words 25 rfl) (by decide) ?_
            exact jT q13
        refine r_ior X (pc := 42) (zw_dg dk_M_words 27 rfl)  ?_
        obtain ⟨bits14, hbits14, hsem⟩ := zw_bd hsem
        refine zw_topI hbits14 ?_
        refine r_istore_n X (pc := 43) (i := 2) (zw_dg dk_M_words 28 rfl) rfl (by decide) rfl ?_
        refine r_iinc X (pc := 44) (i := 3) (k := 1) (zw_dg dk_M_words 29 rfl) rfl (by decide) (by decide) rfl ?_
        refine r_goto X (pc := 47) (tgt := 19) (zw_dg dk_M_words 30 rfl) (by decide) ?_
        have jj := hP _ (Option.some.inj hsem).symm
        exact (r_fgt [] rfl jj)
    have hsem := hsl9
    refine r_iload_n X (pc := 50) (i := 2) (zw_dg dk_M_words 31 rfl) rfl rfl ?_
    obtain ⟨rfl, rfl⟩ := zw_in2 hsem
    exact r_iret X (pc := 51) rfl (zw_dg dk_M_words 32 rfl)
  · --
    have p4 : (¬ (¬ (fn_M_isSaying c3 s1) = 0)) := (fun z => z q5)
    have hsem := zw_ifp p4 hsem
    refine r_iconst X (pc := 13) (v := (-1)) (zw_dg dk_M_words 7 rfl) (by decide) ?_
    obtain ⟨rfl, rfl⟩ := zw_in2 hsem
    exact r_iret X (pc := 14) rfl (zw_dg dk_M_words 8 rfl)
def y_M_evening : MethodName := ⟨R_M, "evening", "(III)I"⟩
abbrev b_M_evening : ByteArray := prog_14_method_89_code
def dl_M_evening : List (Nat × Instr × Nat) := [(0, .aload_n 0, 1), (1, .iconst 0, 1), (2, .putfield 97, 3), (5, .aload_n 0, 1), (6, .iload_n 1, 1), (7, .invokevirtual 302, 3), (10, .ifCond .eq 28, 3), (13, .aload_n 0, 1), (14, .iload_n 2, 1), (15, .invokevirtual 142, 3), (18, .ifCond .eq 20, 3), (21, .aload_n 0, 1), (22, .iload_n 3, 1), (23, .invokevirtual 146, 3), (26, .ifCond .eq 12, 3), (29, .aload_n 0, 1), (30, .getfield 133, 3), (33, .bipush 40, 2), (35, .if_icmp .ne 5, 3), (38, .iconst (-1), 1), (39, .ireturn, 1), (40, .aload_n 0, 1), (41, .getfield 76, 3), (44, .aload_n 0, 1), (45, .getfield 133, 3), (48, .iload_n 1, 1), (49, .iastore, 1), (50, .aload_n 0, 1), (51, .getfield 79, 3), (54, .aload_n 0, 1), (55, .getfield 133, 3), (58, .iload_n 2, 1), (59, .iastore, 1), (60, .aload_n 0, 1), (61, .getfield 82, 3), (64, .aload_n 0, 1), (65, .getfield 133, 3), (68, .iload_n 3, 1), (69, .iastore, 1), (70, .aload_n 0, 1), (71, .dup, 1), (72, .getfield 133, 3), (75, .iconst 1, 1), (76, .iadd, 1), (77, .putfield 133, 3), (80, .aload_n 0, 1), (81, .getfield 133, 3), (84, .ireturn, 1)]
theorem dk_M_evening : zw_dk b_M_evening dl_M_evening = true := by decide +kernel
theorem ce_M_evening : zw_cev y_M_evening b_M_evening 4 (some .int) 3 := ⟨⟨kt_in 1957 (by decide +kernel) rfl, kt_in 98 (by decide +kernel) rfl, by decide +kernel⟩, kt_in 1955 (by decide +kernel) rfl, kt_in 1956 (by decide +kernel) rfl⟩
def fn_M_evening (c : zw_Ct) (who1 : Int32) (s2 : Int32) (e3 : Int32) : Option (Int32 × zw_Ct) :=
  (some (zw_wI c 71 9 0)).bind fun c4 =>
  if ((((¬ (¬ (fn_M_isOne c4 who1) = 0)) ∨ (¬ (¬ (fn_M_isSaying c4 s2) = 0))) ∨ (¬ (¬ (fn_M_isEvent c4 e3) = 0))) ∨ ((c4.1 71 33) = 40)) then
  (some ((-1), c4))
  else
  ((zw_uI 40 c4 94 (c4.1 71 33) who1).bind fun c10 =>
  (zw_uI 40 c10 95 (c10.1 71 33) s2).bind fun c11 =>
  (zw_uI 40 c11 96 (c11.1 71 33) e3).bind fun c12 =>
  (some (zw_wI c12 71 33 ((c12.1 71 33) + 1))).bind fun c13 =>
  some ((c13.1 71 33), c13))
set_option maxRecDepth 100000 in
theorem km_M_evening {l : Launch} {g : zw_G} {rr : zw_RR} {sh : zw_Sh} {c : zw_Ct} {who1 : Int32} {s2 : Int32} {e3 : Int32} {r : Int32} {c2 : zw_Ct} (hS : zw_Ok 0 101 sh rr) (hsem : fn_M_evening c who1 s2 e3 = some (r, c2)) : zw_Met l g y_M_evening b_M_evening 4 (some .int) 3 rr sh [.ref 71, .int who1, .int s2, .int e3] c (some (.int r)) c2 := by
  unfold fn_M_evening at hsem
  refine zw_Met.of (by decide +kernel) (Nat.le_of_ble_eq_true rfl) (fun p e s m args below meth cd X => ?_)
  refine zw_eL (L2 := [some (.ref 71), some (.int who1), some (.int s2), some (.int e3)]) rfl ?_
  refine r_aload_n X (pc := 0) (i := 0) (zw_dg dk_M_evening 0 rfl) rfl rfl ?_
  refine r_iconst X (pc := 1) (v := 0) (zw_dg dk_M_evening 1 rfl) (by decide) ?_
  refine r_putI X (pc := 2) ci_M (zo hS 71 rfl rfl) rfl lk_M_97 rfl ⟨rfl, rfl⟩ (zw_dg dk_M_evening 2 rfl) ?_
  obtain ⟨c4, hc4, hsem⟩ := zw_bd hsem
  refine zw_topC hc4 ?_
  refine zw_cnd (P := ((((¬ (¬ (fn_M_isOne c4 who1) = 0)) ∨ (¬ (¬ (fn_M_isSaying c4 s2) = 0))) ∨ (¬ (¬ (fn_M_isEvent c4 e3) = 0))) ∨ ((c4.1 71 33) = 40))) (J1 := 38) (J2 := 40) (st2 := []) (fun jT jF => ?_) (fun p5 => ?_) (fun p5 => ?_)
  · --
    refine r_aload_n X (pc := 5) (i := 0) (zw_dg dk_M_evening 3 rfl) rfl rfl ?_
    refine r_iload_n X (pc := 6) (i := 1) (zw_dg dk_M_evening 4 rfl) rfl rfl ?_
    refine r_callVi X (pc := 7) (As := [_]) (st := []) (km_M_isOne hS rfl) ce_M_isOne kw_1870 (zo hS 71 rfl rfl) rfl rfl ⟨Nat.le_of_ble_eq_true rfl, Nat.le_of_ble_eq_true rfl⟩ (Nat.le_of_ble_eq_true rfl) (zw_dg dk_M_evening 5 rfl) ?_
    refine r_if_eq X (pc := 10) (tgt := 38) (zw_dg dk_M_evening 6 rfl) (by decide) (fun q6 => ?_) (fun q6 => ?_)
    · --
      exact jT (Or.inl (Or.inl (Or.inl (fun z => z q6))))
    · --
      refine r_aload_n X (pc := 13) (i := 0) (zw_dg dk_M_evening 7 rfl) rfl rfl ?_
      refine r_iload_n X (pc := 14) (i := 2) (zw_dg dk_M_evening 8 rfl) rfl rfl ?_
      refine r_callVi X (pc := 15) (As := [_]) (st := []) (km_M_isSaying hS rfl) ce_M_isSaying kw_1609 (zo hS 71 rfl rfl) rfl rfl ⟨Nat.le_of_ble_eq_true rfl, Nat.le_of_ble_eq_true rfl⟩ (Nat.le_of_ble_eq_true rfl) (zw_dg dk_M_evening 9 rfl) ?_
      refine r_if_eq X (pc := 18) (tgt := 38) (zw_dg dk_M_evening 10 rfl) (by decide) (fun q7 => ?_) (fun q7 => ?_)
      · --
        exact jT (Or.inl (Or.inl (Or.inr (fun z => z q7))))
      · --
        refine r_aload_n X (pc := 21) (i := 0) (zw_dg dk_M_evening 11 rfl) rfl rfl ?_
        refine r_iload_n X (pc := 22) (i := 3) (zw_dg dk_M_evening 12 rfl) rfl rfl ?_
        refine r_callVi X (pc := 23) (As := [_]) (st := []) (km_M_isEvent hS rfl) ce_M_isEvent kw_1613 (zo hS 71 rfl rfl) rfl rfl ⟨Nat.le_of_ble_eq_true rfl, Nat.le_of_ble_eq_true rfl⟩ (Nat.le_of_ble_eq_true rfl) (zw_dg dk_M_evening 13 rfl) ?_
        refine r_if_eq X (pc := 26) (tgt := 38) (zw_dg dk_M_evening 14 rfl) (by decide) (fun q8 => ?_) (fun q8 => ?_)
        · --
          exact jT (Or.inl (Or.inr (fun z => z q8)))
        · --
          refine r_aload_n X (pc := 29) (i := 0) (zw_dg dk_M_evening 15 rfl) rfl rfl ?_
          refine r_getI X (pc := 30) ci_M (zo hS 71 rfl rfl) rfl lk_M_133 (zw_dg dk_M_evening 16 rfl) ?_
          refine r_bipush X (pc := 33) (v := 40) (zw_dg dk_M_evening 17 rfl) (by decide) ?_
          refine r_icmp_ne X (pc := 35) (tgt := 40) (zw_dg dk_M_evening 18 rfl) (by decide) (fun q9 => ?_) (fun q9 => ?_)
          · --
            exact jF (fun q => q.elim (fun q => q.elim (fun q => q.elim (fun q => q q6) (fun q => q q7)) (fun q => q q8)) q9)
          · --
            exact jT (Or.inr q9)
  · --
    have hsem := zw_ifp p5 hsem
    refine r_iconst X (pc := 38) (v := (-1)) (zw_dg dk_M_evening 19 rfl) (by decide) ?_
    obtain ⟨rfl, rfl⟩ := zw_in2 hsem
    exact r_iret X (pc := 39) rfl (zw_dg dk_M_evening 20 rfl)
  · --
    have hsem := zw_ifn p5 hsem
    refine r_aload_n X (pc := 40) (i := 0) (zw_dg dk_M_evening 21 rfl) rfl rfl ?_
    refine r_getR X (pc := 41) (r := 94) ci_M (zo hS 71 rfl rfl) rfl (zr hS 71 34 rfl rfl) lk_M_76 (zw_dg dk_M_evening 22 rfl) ?_
    refine r_aload_n X (pc := 44) (i := 0) (zw_dg dk_M_evening 23 rfl) rfl rfl ?_
    refine r_getI X (pc := 45) ci_M (zo hS 71 rfl rfl) rfl lk_M_133 (zw_dg dk_M_evening 24 rfl) ?_
    refine r_iload_n X (pc := 48) (i := 1) (zw_dg dk_M_evening 25 rfl) rfl rfl ?_
    obtain ⟨c10, hc10, hsem⟩ := zw_bd hsem
    refine r_iast X (pc := 49) (zo hS 94 rfl rfl) hc10 (zw_dg dk_M_evening 26 rfl) ?_
    refine r_aload_n X (pc := 50) (i := 0) (zw_dg dk_M_evening 27 rfl) rfl rfl ?_
    refine r_getR X (pc := 51) (r := 95) ci_M (zo hS 71 rfl rfl) rfl (zr hS 71 35 rfl rfl) lk_M_79 (zw_dg dk_M_evening 28 rfl) ?_
    refine r_aload_n X (pc := 54) (i := 0) (zw_dg dk_M_evening 29 rfl) rfl rfl ?_
    refine r_getI X (pc := 55) ci_M (zo hS 71 rfl rfl) rfl lk_M_133 (zw_dg dk_M_evening 30 rfl) ?_
    refine r_iload_n X (pc := 58) (i := 2) (zw_dg dk_M_evening 31 rfl) rfl rfl ?_
    obtain ⟨c11, hc11, hsem⟩ := zw_bd hsem
    refine r_iast X (pc := 59) (zo hS 95 rfl rfl) hc11 (zw_dg dk_M_evening 32 rfl) ?_
    refine r_aload_n X (pc := 60) (i := 0) (zw_dg dk_M_evening 33 rfl) rfl rfl ?_
    refine r_getR X (pc := 61) (r := 96) ci_M (zo hS 71 rfl rfl) rfl (zr hS 71 36 rfl rfl) lk_M_82 (zw_dg dk_M_evening 34 rfl) ?_
    refine r_aload_n X (pc := 64) (i := 0) (zw_dg dk_M_evening 35 rfl) rfl rfl ?_
    refine r_getI X (pc := 65) ci_M (zo hS 71 rfl rfl) rfl lk_M_133 (zw_dg dk_M_evening 36 rfl) ?_
    refine r_iload_n X (pc := 68) (i := 3) (zw_dg dk_M_evening 37 rfl) rfl rfl ?_
    obtain ⟨c12, hc12, hsem⟩ := zw_bd hsem
    refine r_iast X (pc := 69) (zo hS 96 rfl rfl) hc12 (zw_dg dk_M_evening 38 rfl) ?_
    refine r_aload_n X (pc := 70) (i := 0) (zw_dg dk_M_evening 39 rfl) rfl rfl ?_
    refine r_dup X (pc := 71) (zw_dg dk_M_evening 40 rfl) rfl ?_
    refine r_getI X (pc := 72) ci_M (zo hS 71 rfl rfl) rfl lk_M_133 (zw_dg dk_M_evening 41 rfl) ?_
    refine r_iconst X (pc := 75) (v := 1) (zw_dg dk_M_evening 42 rfl) (by decide) ?_
    refine r_iadd X (pc := 76) (zw_dg dk_M_evening 43 rfl)  ?_
    refine r_putI X (pc := 77) ci_M (zo hS 71 rfl rfl) rfl lk_M_133 rfl ⟨rfl, rfl⟩ (zw_dg dk_M_evening 44 rfl) ?_
    obtain ⟨c13, hc13, hsem⟩ := zw_bd hsem
    refine zw_topC hc13 ?_
    refine r_aload_n X (pc := 80) (i := 0) (zw_dg dk_M_evening 45 rfl) rfl rfl ?_
    refine r_getI X (pc := 81) ci_M (zo hS 71 rfl rfl) rfl lk_M_133 (zw_dg dk_M_evening 46 rfl) ?_
    obtain ⟨rfl, rfl⟩ := zw_in2 hsem
    exact r_iret X (pc := 84) rfl (zw_dg dk_M_evening 47 rfl)
def y_M_forget : MethodName := ⟨R_M, "forget", "()I"⟩
abbrev b_M_forget : ByteArray := prog_14_method_90_code
def dl_M_forget : List (Nat × Instr × Nat) := [(0, .aload_n 0, 1), (1, .iconst 0, 1), (2, .putfield 97, 3), (5, .aload_n 0, 1), (6, .getfield 133, 3), (9, .ifCond .ne 5, 3), (12, .iconst (-1), 1), (13, .ireturn, 1), (14, .aload_n 0, 1), (15, .dup, 1), (16, .getfield 133, 3), (19, .iconst 1, 1), (20, .isub, 1), (21, .putfield 133, 3), (24, .aload_n 0, 1), (25, .getfield 133, 3), (28, .ireturn, 1)]
theorem dk_M_forget : zw_dk b_M_forget dl_M_forget = true := by decide +kernel
theorem ce_M_forget : zw_cev y_M_forget b_M_forget 1 (some .int) 0 := ⟨⟨kt_in 1961 (by decide +kernel) rfl, kt_in 98 (by decide +kernel) rfl, by decide +kernel⟩, kt_in 1959 (by decide +kernel) rfl, kt_in 1960 (by decide +kernel) rfl⟩
def fn_M_forget (c : zw_Ct) : Option (Int32 × zw_Ct) :=
  (some (zw_wI c 71 9 0)).bind fun c3 =>
  if ((c3.1 71 33) = 0) then
  (some ((-1), c3))
  else
  ((some (zw_wI c3 71 33 ((c3.1 71 33) - 1))).bind fun c6 =>
  some ((c6.1 71 33), c6))
set_option maxRecDepth 100000 in
theorem km_M_forget {l : Launch} {g : zw_G} {rr : zw_RR} {sh : zw_Sh} {c : zw_Ct} {r : Int32} {c2 : zw_Ct} (hS : zw_Ok 0 101 sh rr) (hsem : fn_M_forget c = some (r, c2)) : zw_Met l g y_M_forget b_M_forget 1 (some .int) 1 rr sh [.ref 71] c (some (.int r)) c2 := by
  unfold fn_M_forget at hsem
  refine zw_Met.of (by decide +kernel) (Nat.le_of_ble_eq_true rfl) (fun p e s m args below meth cd X => ?_)
  refine zw_eL (L2 := [some (.ref 71)]) rfl ?_
  refine r_aload_n X (pc := 0) (i := 0) (zw_dg dk_M_forget 0 rfl) rfl rfl ?_
  refine r_iconst X (pc := 1) (v := 0) (zw_dg dk_M_forget 1 rfl) (by decide) ?_
  refine r_putI X (pc := 2) ci_M (zo hS 71 rfl rfl) rfl lk_M_97 rfl ⟨rfl, rfl⟩ (zw_dg dk_M_forget 2 rfl) ?_
  obtain ⟨c3, hc3, hsem⟩ := zw_bd hsem
  refine zw_topC hc3 ?_
  refine r_aload_n X (pc := 5) (i := 0) (zw_dg dk_M_forget 3 rfl) rfl rfl ?_
  refine r_getI X (pc := 6) ci_M (zo hS 71 rfl rfl) rfl lk_M_133 (zw_dg dk_M_forget 4 rfl) ?_
  refine r_if_ne X (pc := 9) (tgt := 14) (zw_dg dk_M_forget 5 rfl) (by decide) (fun q5 => ?_) (fun q5 => ?_)
  · --
    have p4 : ¬ ((c3.1 71 33) = 0) := q5
    have hsem := zw_ifn p4 hsem
    refine r_aload_n X (pc := 14) (i := 0) (zw_dg dk_M_forget 8 rfl) rfl rfl ?_
    refine r_dup X (pc := 15) (zw_dg dk_M_forget 9 rfl) rfl ?_
    refine r_getI X (pc := 16) ci_M (zo hS 71 rfl rfl) rfl lk_M_133 (zw_dg dk_M_forget 10 rfl) ?_
    refine r_iconst X (pc := 19) (v := 1) (zw_dg dk_M_forget 11 rfl) (by decide) ?_
    refine r_isub X (pc := 20) (zw_dg dk_M_forget 12 rfl)  ?_
    refine r_putI X (pc := 21) ci_M (zo hS 71 rfl rfl) rfl lk_M_133 rfl ⟨rfl, rfl⟩ (zw_dg dk_M_forget 13 rfl) ?_
    obtain ⟨c6, hc6, hsem⟩ := zw_bd hsem
    refine zw_topC hc6 ?_
    refine r_aload_n X (pc := 24) (i := 0) (zw_dg dk_M_forget 14 rfl) rfl rfl ?_
    refine r_getI X (pc := 25) ci_M (zo hS 71 rfl rfl) rfl lk_M_133 (zw_dg dk_M_forget 15 rfl) ?_
    obtain ⟨rfl, rfl⟩ := zw_in2 hsem
    exact r_iret X (pc := 28) rfl (zw_dg dk_M_forget 16 rfl)
  · --
    have p4 : ((c3.1 71 33) = 0) := q5
    have hsem := zw_ifp p4 hsem
    refine r_iconst X (pc := 12) (v := (-1)) (zw_dg dk_M_forget 6 rfl) (by decide) ?_
    obtain ⟨rfl, rfl⟩ := zw_in2 hsem
    exact r_iret X (pc := 13) rfl (zw_dg dk_M_forget 7 rfl)
def y_M_eveningsOf : MethodName := ⟨R_M, "eveningsOf", "(I)I"⟩
abbrev b_M_eveningsOf : ByteArray := prog_14_method_91_code
def dl_M_eveningsOf : List (Nat × Instr × Nat) := [(0, .iconst 0, 1), (1, .istore_n 2, 1), (2, .iconst 0, 1), (3, .istore_n 3, 1), (4, .iload_n 3, 1), (5, .aload_n 0, 1), (6, .getfield 133, 3), (9, .if_icmp .ge 27, 3), (12, .iload_n 2, 1), (13, .aload_n 0, 1), (14, .getfield 76, 3), (17, .iload_n 3, 1), (18, .iaload, 1), (19, .iload_n 1, 1), (20, .if_icmp .ne 7, 3), (23, .iconst 1, 1), (24, .goto 4, 3), (27, .iconst 0, 1), (28, .iadd, 1), (29, .istore_n 2, 1), (30, .iinc 3 1, 3), (33, .goto (-29), 3), (36, .iload_n 2, 1), (37, .ireturn, 1)]
theorem dk_M_eveningsOf : zw_dk b_M_eveningsOf dl_M_eveningsOf = true := by decide +kernel
theorem ce_M_eveningsOf : zw_cev y_M_eveningsOf b_M_eveningsOf 4 (some .int) 1 := ⟨⟨kt_in 1973 (by decide +kernel) rfl, kt_in 98 (by decide +kernel) rfl, by decide +kernel⟩, kt_in 1972 (by decide +kernel) rfl, kt_in 80 (by decide +kernel) rfl⟩
def fn_M_eveningsOf_l1 (c : zw_Ct) (who1 : Int32) : Int32 × Int32 → Option ((Int32) ⊕ (Int32 × Int32)) := fun (n2, k3) =>
  if (k3 < (c.1 71 33)) then
  ((zw_aI 40 c 94 k3).bind fun x8 =>
  (some ((n2 + (if (x8 = who1) then (1 : Int32) else 0)) : Int32)).bind fun n10 =>
  some (.inr (n10, (k3 + 1))))
  else
  (some (.inl n2))
def fn_M_eveningsOf (c : zw_Ct) (who1 : Int32) : Option Int32 :=
  (zw_whl (fn_M_eveningsOf_l1 c who1) zw_F (0, 0)).bind fun n4 =>
  some n4
set_option maxRecDepth 100000 in
theorem km_M_eveningsOf {l : Launch} {g : zw_G} {rr : zw_RR} {sh : zw_Sh} {c : zw_Ct} {who1 : Int32} {r : Int32} (hS : zw_Ok 0 101 sh rr) (hsem : fn_M_eveningsOf c who1 = some r) : zw_Met l g y_M_eveningsOf b_M_eveningsOf 4 (some .int) 1 rr sh [.ref 71, .int who1] c (some (.int r)) c := by
  unfold fn_M_eveningsOf at hsem
  refine zw_Met.of (by decide +kernel) (Nat.le_of_ble_eq_true rfl) (fun p e s m args below meth cd X => ?_)
  refine zw_eL (L2 := [some (.ref 71), some (.int who1), none, none]) rfl ?_
  refine r_iconst X (pc := 0) (v := 0) (zw_dg dk_M_eveningsOf 0 rfl) (by decide) ?_
  refine r_istore_n X (pc := 1) (i := 2) (zw_dg dk_M_eveningsOf 1 rfl) rfl (by decide) rfl ?_
  refine r_iconst X (pc := 2) (v := 0) (zw_dg dk_M_eveningsOf 2 rfl) (by decide) ?_
  refine r_istore_n X (pc := 3) (i := 3) (zw_dg dk_M_eveningsOf 3 rfl) rfl (by decide) rfl ?_
  obtain ⟨n4, hl5, hsl5⟩ := zw_bd hsem
  refine r_loop (pc := 4) (pce := 36) hl5 (fun (n2, k3) => [some (.ref 71), some (.int who1), some (.int n2), some (.int k3)] : Int32 × Int32 → zw_Lc) (fun (n2, k3) => c : Int32 × Int32 → zw_Ct) (fun n4 => [some (.ref 71), some (.int who1), some (.int n4), none] : Int32 → zw_Lc) (fun n4 => c : Int32 → zw_Ct) ?_ rfl rfl ?_
  · rintro ⟨n2, k3⟩ rr hsem hK hP
    try unfold fn_M_eveningsOf_l1 at hsem
    refine r_iload_n X (pc := 4) (i := 3) (zw_dg dk_M_eveningsOf 4 rfl) rfl rfl ?_
    refine r_aload_n X (pc := 5) (i := 0) (zw_dg dk_M_eveningsOf 5 rfl) rfl rfl ?_
    refine r_getI X (pc := 6) ci_M (zo hS 71 rfl rfl) rfl lk_M_133 (zw_dg dk_M_eveningsOf 6 rfl) ?_
    refine r_icmp_ge X (pc := 9) (tgt := 36) (zw_dg dk_M_eveningsOf 7 rfl) (by decide) (fun q7 => ?_) (fun q7 => ?_)
    · --
      have p6 : ¬ (k3 < (c.1 71 33)) := (Int32.not_lt.mpr q7)
      have hsem := zw_ifn p6 hsem
      have jj := hK _ (Option.some.inj hsem).symm
      exact (r_fgt [3] rfl jj)
    · --
      have p6 : (k3 < (c.1 71 33)) := (Int32.not_le.mp q7)
      have hsem := zw_ifp p6 hsem
      refine r_iload_n X (pc := 12) (i := 2) (zw_dg dk_M_eveningsOf 8 rfl) rfl rfl ?_
      refine r_aload_n X (pc := 13) (i := 0) (zw_dg dk_M_eveningsOf 9 rfl) rfl rfl ?_
      refine r_getR X (pc := 14) (r := 94) ci_M (zo hS 71 rfl rfl) rfl (zr hS 71 34 rfl rfl) lk_M_76 (zw_dg dk_M_eveningsOf 10 rfl) ?_
      refine r_iload_n X (pc := 17) (i := 3) (zw_dg dk_M_eveningsOf 11 rfl) rfl rfl ?_
      obtain ⟨x8, hx8, hsem⟩ := zw_bd hsem
      refine r_iald X (pc := 18) (zo hS 94 rfl rfl) hx8 (zw_dg dk_M_eveningsOf 12 rfl) ?_
      refine r_iload_n X (pc := 19) (i := 1) (zw_dg dk_M_eveningsOf 13 rfl) rfl rfl ?_
      refine zw_ter (P := (x8 = who1)) (f := Value.int) (x := 1) (y := 0) (J := 28) (st2 := [.int n2]) (fun jT jF => ?_) ?_
      · --
        refine r_icmp_ne X (pc := 20) (tgt := 27) (zw_dg dk_M_eveningsOf 14 rfl) (by decide) (fun q9 => ?_) (fun q9 => ?_)
        · --
          refine r_iconst X (pc := 27) (v := 0) (zw_dg dk_M_eveningsOf 17 rfl) (by decide) ?_
          exact jF q9
        · --
          refine r_iconst X (pc := 23) (v := 1) (zw_dg dk_M_eveningsOf 15 rfl) (by decide) ?_
          refine r_goto X (pc := 24) (tgt := 28) (zw_dg dk_M_eveningsOf 16 rfl) (by decide) ?_
          exact jT q9
      refine r_iadd X (pc := 28) (zw_dg dk_M_eveningsOf 18 rfl)  ?_
      obtain ⟨n10, hn10, hsem⟩ := zw_bd hsem
      refine zw_topI hn10 ?_
      refine r_istore_n X (pc := 29) (i := 2) (zw_dg dk_M_eveningsOf 19 rfl) rfl (by decide) rfl ?_
      refine r_iinc X (pc := 30) (i := 3) (k := 1) (zw_dg dk_M_eveningsOf 20 rfl) rfl (by decide) (by decide) rfl ?_
      refine r_goto X (pc := 33) (tgt := 4) (zw_dg dk_M_eveningsOf 21 rfl) (by decide) ?_
      have jj := hP _ (Option.some.inj hsem).symm
      exact (r_fgt [] rfl jj)
  have hsem := hsl5
  refine r_iload_n X (pc := 36) (i := 2) (zw_dg dk_M_eveningsOf 22 rfl) rfl rfl ?_
  cases hsem
  exact r_iret X (pc := 37) rfl (zw_dg dk_M_eveningsOf 23 rfl)
def y_M_gotBy : MethodName := ⟨R_M, "gotBy", "(II)J"⟩
abbrev b_M_gotBy : ByteArray := prog_14_method_92_code
def dl_M_gotBy : List (Nat × Instr × Nat) := [(0, .lconst 0, 1), (1, .lstore_n 3, 1), (2, .iconst 0, 1), (3, .istore 5, 2), (5, .iload 5, 2), (7, .aload_n 0, 1), (8, .getfield 133, 3), (11, .if_icmp .ge 55, 3), (14, .aload_n 0, 1), (15, .getfield 76, 3), (18, .iload 5, 2), (20, .iaload, 1), (21, .iload_n 1, 1), (22, .if_icmp .ne 38, 3), (25, .lload_n 3, 1), (26, .aload_n 0, 1), (27, .getfield 46, 3), (30, .iconst 4, 1), (31, .iload_n 2, 1), (32, .iconst (-1), 1), (33, .if_icmp .ne 13, 3), (36, .aload_n 0, 1), (37, .getfield 79, 3), (40, .iload 5, 2), (42, .iaload, 1), (43, .goto 4, 3), (46, .iload_n 2, 1), (47, .imul, 1), (48, .aload_n 0, 1), (49, .getfield 82, 3), (52, .iload 5, 2), (54, .iaload, 1), (55, .iadd, 1), (56, .iaload, 1), (57, .i2l, 1), (58, .ladd, 1), (59, .lstore_n 3, 1), (60, .iinc 5 1, 3), (63, .goto (-58), 3), (66, .lload_n 3, 1), (67, .lreturn, 1)]
theorem dk_M_gotBy : zw_dk b_M_gotBy dl_M_gotBy = true := by decide +kernel
theorem ce_M_gotBy : zw_cev y_M_gotBy b_M_gotBy 6 (some .long) 2 := ⟨⟨kt_in 1969 (by decide +kernel) rfl, kt_in 98 (by decide +kernel) rfl, by decide +kernel⟩, kt_in 1968 (by decide +kernel) rfl, kt_in 79 (by decide +kernel) rfl⟩
def fn_M_gotBy_l1 (c : zw_Ct) (who1 : Int32) (s2 : Int32) : Int64 × Int32 → Option ((Int64) ⊕ (Int64 × Int32)) := fun (sum3, k4) =>
  if (k4 < (c.1 71 33)) then
  ((zw_aI 40 c 94 k4).bind fun x9 =>
  (if (x9 = who1) then
  ((if (s2 = (-1)) then
  ((zw_aI 40 c 95 k4).bind fun x16 =>
  some (x16 : Int32))
  else
  (some (s2 : Int32))).bind fun v13 =>
  (zw_aI 40 c 96 k4).bind fun x17 =>
  (zw_aI 1820 c 84 ((4 * v13) + x17)).bind fun x18 =>
  (some ((sum3 + x18.toInt64) : Int64)).bind fun sum19 =>
  some (sum19 : Int64))
  else
  (some (sum3 : Int64))).bind fun sum10 =>
  some (.inr (sum10, (k4 + 1))))
  else
  (some (.inl sum3))
def fn_M_gotBy (c : zw_Ct) (who1 : Int32) (s2 : Int32) : Option Int64 :=
  (zw_whl (fn_M_gotBy_l1 c who1 s2) zw_F (0, 0)).bind fun sum5 =>
  some sum5
set_option maxRecDepth 100000 in
theorem km_M_gotBy {l : Launch} {g : zw_G} {rr : zw_RR} {sh : zw_Sh} {c : zw_Ct} {who1 : Int32} {s2 : Int32} {r : Int64} (hS : zw_Ok 0 101 sh rr) (hsem : fn_M_gotBy c who1 s2 = some r) : zw_Met l g y_M_gotBy b_M_gotBy 6 (some .long) 1 rr sh [.ref 71, .int who1, .int s2] c (some (.long r)) c := by
  unfold fn_M_gotBy at hsem
  refine zw_Met.of (by decide +kernel) (Nat.le_of_ble_eq_true rfl) (fun p e s m args below meth cd X => ?_)
  refine zw_eL (L2 := [some (.ref 71), some (.int who1), some (.int s2), none, none, none]) rfl ?_
  refine r_lconst X (pc := 0) (v := 0) (zw_dg dk_M_gotBy 0 rfl) (by decide) ?_
  refine r_lstore_n X (pc := 1) (i := 3) (L2 := [some (.ref 71), some (.int who1), some (.int s2), some (.long 0), none, none]) (zw_dg dk_M_gotBy 1 rfl) rfl (by decide) rfl ?_
  refine r_iconst X (pc := 2) (v := 0) (zw_dg dk_M_gotBy 2 rfl) (by decide) ?_
  refine r_istore X (pc := 3) (i := 5) (zw_dg dk_M_gotBy 3 rfl) (by decide) rfl ?_
  obtain ⟨sum5, hl6, hsl6⟩ := zw_bd hsem
  refine r_loop (pc := 5) (pce := 66) hl6 (fun (sum3, k4) => [some (.ref 71), some (.int who1), some (.int s2), some (.long sum3), none, some (.int k4)] : Int64 × Int32 → zw_Lc) (fun (sum3, k4) => c : Int64 × Int32 → zw_Ct) (fun sum5 => [some (.ref 71), some (.int who1), some (.int s2), some (.long sum5), none, none] : Int64 → zw_Lc) (fun sum5 => c : Int64 → zw_Ct) ?_ rfl rfl ?_
  · rintro ⟨sum3, k4⟩ rr hsem hK hP
    try unfold fn_M_gotBy_l1 at hsem
    refine r_iload X (pc := 5) (i := 5) (zw_dg dk_M_gotBy 4 rfl) rfl ?_
    refine r_aload_n X (pc := 7) (i := 0) (zw_dg dk_M_gotBy 5 rfl) rfl rfl ?_
    refine r_getI X (pc := 8) ci_M (zo hS 71 rfl rfl) rfl lk_M_133 (zw_dg dk_M_gotBy 6 rfl) ?_
    refine r_icmp_ge X (pc := 11) (tgt := 66) (zw_dg dk_M_gotBy 7 rfl) (by decide) (fun q8 => ?_) (fun q8 => ?_)
    · --
      have p7 : ¬ (k4 < (c.1 71 33)) := (Int32.not_lt.mpr q8)
      have hsem := zw_ifn p7 hsem
      have jj := hK _ (Option.some.inj hsem).symm
      exact (r_fgt [5] rfl jj)
    · --
      have p7 : (k4 < (c.1 71 33)) := (Int32.not_le.mp q8)
      have hsem := zw_ifp p7 hsem
      refine r_aload_n X (pc := 14) (i := 0) (zw_dg dk_M_gotBy 8 rfl) rfl rfl ?_
      refine r_getR X (pc := 15) (r := 94) ci_M (zo hS 71 rfl rfl) rfl (zr hS 71 34 rfl rfl) lk_M_76 (zw_dg dk_M_gotBy 9 rfl) ?_
      refine r_iload X (pc := 18) (i := 5) (zw_dg dk_M_gotBy 10 rfl) rfl ?_
      obtain ⟨x9, hx9, hsem⟩ := zw_bd hsem
      refine r_iald X (pc := 20) (zo hS 94 rfl rfl) hx9 (zw_dg dk_M_gotBy 11 rfl) ?_
      refine r_iload_n X (pc := 21) (i := 1) (zw_dg dk_M_gotBy 12 rfl) rfl rfl ?_
      obtain ⟨sum10, ht60, hs60⟩ := zw_bd hsem
      refine zw_jn (J := 60) (L2 := [some (.ref 71), some (.int who1), some (.int s2), some (.long sum10), none, some (.int k4)]) (c2 := c) (fun jj => ?_) ?_
      · have hsem := ht60
        refine r_icmp_ne X (pc := 22) (tgt := 60) (zw_dg dk_M_gotBy 13 rfl) (by decide) (fun q12 => ?_) (fun q12 => ?_)
        · --
          have p11 : ¬ (x9 = who1) := q12
          have hsem := zw_ifn p11 hsem
          cases hsem
          exact (r_fgt [] rfl jj)
        · --
          have p11 : (x9 = who1) := q12
          have hsem := zw_ifp p11 hsem
          refine r_lload_n X (pc := 25) (i := 3) (zw_dg dk_M_gotBy 14 rfl) rfl rfl ?_
          refine r_aload_n X (pc := 26) (i := 0) (zw_dg dk_M_gotBy 15 rfl) rfl rfl ?_
          refine r_getR X (pc := 27) (r := 84) ci_M (zo hS 71 rfl rfl) rfl (zr hS 71 21 rfl rfl) lk_M_46 (zw_dg dk_M_gotBy 16 rfl) ?_
          refine r_iconst X (pc := 30) (v := 4) (zw_dg dk_M_gotBy 17 rfl) (by decide) ?_
          obtain ⟨v13, hv13, hsv13⟩ := zw_bd hsem
          refine zw_terO (f := Value.int) (v := v13) (J := 47) (st2 := [.int 4, .ref 84, .long sum3]) (c2 := c) (fun jj => ?_) ?_
          · have hsem := hv13
            refine r_iload_n X (pc := 31) (i := 2) (zw_dg dk_M_gotBy 18 rfl) rfl rfl ?_
            refine r_iconst X (pc := 32) (v := (-1)) (zw_dg dk_M_gotBy 19 rfl) (by decide) ?_
            refine r_icmp_ne X (pc := 33) (tgt := 46) (zw_dg dk_M_gotBy 20 rfl) (by decide) (fun q15 => ?_) (fun q15 => ?_)
            · --
              have p14 : ¬ (s2 = (-1)) := q15
              have hsem := zw_ifn p14 hsem
              refine r_iload_n X (pc := 46) (i := 2) (zw_dg dk_M_gotBy 26 rfl) rfl rfl ?_
              cases hsem; exact jj
            · --
              have p14 : (s2 = (-1)) := q15
              have hsem := zw_ifp p14 hsem
              refine r_aload_n X (pc := 36) (i := 0) (zw_dg dk_M_gotBy 21 rfl) rfl rfl ?_
              refine r_getR X (pc := 37) (r := 95) ci_M (zo hS 71 rfl rfl) rfl (zr hS 71 35 rfl rfl) lk_M_79 (zw_dg dk_M_gotBy 22 rfl) ?_
              refine r_iload X (pc := 40) (i := 5) (zw_dg dk_M_gotBy 23 rfl) rfl ?_
              obtain ⟨x16, hx16, hsem⟩ := zw_bd hsem
              refine r_iald X (pc := 42) (zo hS 95 rfl rfl) hx16 (zw_dg dk_M_gotBy 24 rfl) ?_
              refine r_goto X (pc := 43) (tgt := 47) (zw_dg dk_M_gotBy 25 rfl) (by decide) ?_
              cases hsem; exact jj
          have hsem := hsv13
          refine r_imul X (pc := 47) (zw_dg dk_M_gotBy 27 rfl)  ?_
          refine r_aload_n X (pc := 48) (i := 0) (zw_dg dk_M_gotBy 28 rfl) rfl rfl ?_
          refine r_getR X (pc := 49) (r := 96) ci_M (zo hS 71 rfl rfl) rfl (zr hS 71 36 rfl rfl) lk_M_82 (zw_dg dk_M_gotBy 29 rfl) ?_
          refine r_iload X (pc := 52) (i := 5) (zw_dg dk_M_gotBy 30 rfl) rfl ?_
          obtain ⟨x17, hx17, hsem⟩ := zw_bd hsem
          refine r_iald X (pc := 54) (zo hS 96 rfl rfl) hx17 (zw_dg dk_M_gotBy 31 rfl) ?_
          refine r_iadd X (pc := 55) (zw_dg dk_M_gotBy 32 rfl)  ?_
          obtain ⟨x18, hx18, hsem⟩ := zw_bd hsem
          refine r_iald X (pc := 56) (zo hS 84 rfl rfl) hx18 (zw_dg dk_M_gotBy 33 rfl) ?_
          refine r_i2l X (pc := 57) (zw_dg dk_M_gotBy 34 rfl)  ?_
          refine r_ladd X (pc := 58) (zw_dg dk_M_gotBy 35 rfl)  ?_
          obtain ⟨sum19, hsum19, hsem⟩ := zw_bd hsem
          refine zw_topJ hsum19 ?_
          refine r_lstore_n X (pc := 59) (i := 3) (L2 := [some (.ref 71), some (.int who1), some (.int s2), some (.long sum19), none, some (.int k4)]) (zw_dg dk_M_gotBy 36 rfl) rfl (by decide) rfl ?_
          cases hsem
          exact (r_fgt [] rfl jj)
      have hsem := hs60
      refine r_iinc X (pc := 60) (i := 5) (k := 1) (zw_dg dk_M_gotBy 37 rfl) rfl (by decide) (by decide) rfl ?_
      refine r_goto X (pc := 63) (tgt := 5) (zw_dg dk_M_gotBy 38 rfl) (by decide) ?_
      have jj := hP _ (Option.some.inj hsem).symm
      exact (r_fgt [] rfl jj)
  have hsem := hsl6
  refine r_lload_n X (pc := 66) (i := 3) (zw_dg dk_M_gotBy 39 rfl) rfl rfl ?_
  cases hsem
  exact r_lret X (pc := 67) rfl (zw_dg dk_M_gotBy 40 rfl)
def y_M_paid : MethodName := ⟨R_M, "paid", "(II)I"⟩
abbrev b_M_paid : ByteArray := prog_14_method_93_code
def dl_M_paid : List (Nat × Instr × Nat) := [(0, .aload_n 0, 1), (1, .iconst 0, 1), (2, .putfield 97, 3), (5, .aload_n 0, 1), (6, .iload_n 1, 1), (7, .invokevirtual 222, 3), (10, .ifCond .eq 11, 3), (13, .aload_n 0, 1), (14, .iload_n 2, 1), (15, .invokevirtual 302, 3), (18, .ifCond .ne 5, 3), (21, .iconst (-1), 1), (22, .ireturn, 1), (23, .aload_n 0, 1), (24, .iload_n 1, 1), (25, .invokevirtual 229, 3), (28, .iconst 0, 1), (29, .istore_n 3, 1), (30, .iconst 1, 1), (31, .istore 4, 2), (33, .iload 4, 2), (35, .aload_n 0, 1), (36, .getfield 113, 3), (39, .if_icmp .ge 29, 3), (42, .aload_n 0, 1), (43, .iload_n 2, 1), (44, .iload 4, 2), (46, .invokevirtual 338, 3), (49, .aload_n 0, 1), (50, .iload_n 2, 1), (51, .iload_n 3, 1), (52, .invokevirtual 338, 3), (55, .lcmp, 1), (56, .ifCond .le 6, 3), (59, .iload 4, 2), (61, .istore_n 3, 1), (62, .iinc 4 1, 3), (65, .goto (-32), 3), (68, .aload_n 0, 1), (69, .iconst 0, 1), (70, .putfield 100, 3), (73, .aload_n 0, 1), (74, .aload_n 0, 1), (75, .iload_n 2, 1), (76, .iconst (-1), 1), (77, .invokevirtual 338, 3), (80, .invokevirtual 109, 3), (83, .aload_n 0, 1), (84, .aload_n 0, 1), (85, .iload_n 2, 1), (86, .iload_n 3, 1), (87, .invokevirtual 338, 3), (90, .invokevirtual 109, 3), (93, .aload_n 0, 1), (94, .iload_n 3, 1), (95, .i2l, 1), (96, .invokevirtual 109, 3), (99, .aload_n 0, 1), (100, .iload_n 2, 1), (101, .invokevirtual 341, 3), (104, .ireturn, 1)]
theorem dk_M_paid : zw_dk b_M_paid dl_M_paid = true := by decide +kernel
theorem ce_M_paid : zw_cev y_M_paid b_M_paid 5 (some .int) 2 := ⟨⟨kt_in 1965 (by decide +kernel) rfl, kt_in 98 (by decide +kernel) rfl, by decide +kernel⟩, kt_in 1963 (by decide +kernel) rfl, kt_in 1964 (by decide +kernel) rfl⟩
def fn_M_paid_l1 (c8 : zw_Ct) (who2 : Int32) : Int32 × Int32 → Option ((Int32) ⊕ (Int32 × Int32)) := fun (best9, s10) =>
  if (s10 < (c8.1 71 2)) then
  ((fn_M_gotBy c8 who2 s10).bind fun r15 =>
  (fn_M_gotBy c8 who2 best9).bind fun r16 =>
  (if (r16 < r15) then
  (some (s10 : Int32))
  else
  (some (best9 : Int32))).bind fun best17 =>
  some (.inr (best17, (s10 + 1))))
  else
  (some (.inl best9))
def fn_M_paid (c : zw_Ct) (p1 : Int32) (who2 : Int32) : Option (Int32 × zw_Ct) :=
  (some (zw_wI c 71 9 0)).bind fun c3 =>
  (fn_M_isPay c3 p1).bind fun r4 =>
  if ((¬ (¬ r4 = 0)) ∨ (¬ (¬ (fn_M_isOne c3 who2) = 0))) then
  (some ((-1), c3))
  else
  ((fn_M_layPay c3 p1).bind fun c8 =>
  (zw_whl (fn_M_paid_l1 c8 who2) zw_F (0, 1)).bind fun best11 =>
  (some (zw_wI c8 71 8 0)).bind fun c20 =>
  (fn_M_gotBy c20 who2 (-1)).bind fun r21 =>
  (fn_M_tell c20 r21).bind fun c22 =>
  (fn_M_gotBy c22 who2 best11).bind fun r23 =>
  (fn_M_tell c22 r23).bind fun c24 =>
  (fn_M_tell c24 best11.toInt64).bind fun c25 =>
  (fn_M_eveningsOf c25 who2).bind fun r26 =>
  some (r26, c25))
set_option maxRecDepth 100000 in
theorem km_M_paid {l : Launch} {g : zw_G} {rr : zw_RR} {sh : zw_Sh} {c : zw_Ct} {p1 : Int32} {who2 : Int32} {r : Int32} {c2 : zw_Ct} (hS : zw_Ok 0 101 sh rr) (hsem : fn_M_paid c p1 who2 = some (r, c2)) : zw_Met l g y_M_paid b_M_paid 5 (some .int) 107 rr sh [.ref 71, .int p1, .int who2] c (some (.int r)) c2 := by
  unfold fn_M_paid at hsem
  refine zw_Met.of (by decide +kernel) (Nat.le_of_ble_eq_true rfl) (fun p e s m args below meth cd X => ?_)
  refine zw_eL (L2 := [some (.ref 71), some (.int p1), some (.int who2), none, none]) rfl ?_
  refine r_aload_n X (pc := 0) (i := 0) (zw_dg dk_M_paid 0 rfl) rfl rfl ?_
  refine r_iconst X (pc := 1) (v := 0) (zw_dg dk_M_paid 1 rfl) (by decide) ?_
  refine r_putI X (pc := 2) ci_M (zo hS 71 rfl rfl) rfl lk_M_97 rfl ⟨rfl, rfl⟩ (zw_dg dk_M_paid 2 rfl) ?_
  obtain ⟨c3, hc3, hsem⟩ := zw_bd hsem
  refine zw_topC hc3 ?_
  refine r_aload_n X (pc := 5) (i := 0) (zw_dg dk_M_paid 3 rfl) rfl rfl ?_
  refine r_iload_n X (pc := 6) (i := 1) (zw_dg dk_M_paid 4 rfl) rfl rfl ?_
  obtain ⟨r4, hr4, hsem⟩ := zw_bd hsem
  refine r_callVi X (pc := 7) (As := [_]) (st := []) (km_M_isPay hS hr4) ce_M_isPay kw_1688 (zo hS 71 rfl rfl) rfl rfl ⟨Nat.le_of_ble_eq_true rfl, Nat.le_of_ble_eq_true rfl⟩ (Nat.le_of_ble_eq_true rfl) (zw_dg dk_M_paid 5 rfl) ?_
  refine zw_cnd (P := ((¬ (¬ r4 = 0)) ∨ (¬ (¬ (fn_M_isOne c3 who2) = 0)))) (J1 := 21) (J2 := 23) (st2 := []) (fun jT jF => ?_) (fun p5 => ?_) (fun p5 => ?_)
  · --
    refine r_if_eq X (pc := 10) (tgt := 21) (zw_dg dk_M_paid 6 rfl) (by decide) (fun q6 => ?_) (fun q6 => ?_)
    · --
      exact jT (Or.inl (fun z => z q6))
    · --
      refine r_aload_n X (pc := 13) (i := 0) (zw_dg dk_M_paid 7 rfl) rfl rfl ?_
      refine r_iload_n X (pc := 14) (i := 2) (zw_dg dk_M_paid 8 rfl) rfl rfl ?_
      refine r_callVi X (pc := 15) (As := [_]) (st := []) (km_M_isOne hS rfl) ce_M_isOne kw_1870 (zo hS 71 rfl rfl) rfl rfl ⟨Nat.le_of_ble_eq_true rfl, Nat.le_of_ble_eq_true rfl⟩ (Nat.le_of_ble_eq_true rfl) (zw_dg dk_M_paid 9 rfl) ?_
      refine r_if_ne X (pc := 18) (tgt := 23) (zw_dg dk_M_paid 10 rfl) (by decide) (fun q7 => ?_) (fun q7 => ?_)
      · --
        exact jF (fun q => q.elim (fun q => q q6) (fun q => q q7))
      · --
        exact jT (Or.inr (fun z => z q7))
  · --
    have hsem := zw_ifp p5 hsem
    refine r_iconst X (pc := 21) (v := (-1)) (zw_dg dk_M_paid 11 rfl) (by decide) ?_
    obtain ⟨rfl, rfl⟩ := zw_in2 hsem
    exact r_iret X (pc := 22) rfl (zw_dg dk_M_paid 12 rfl)
  · --
    have hsem := zw_ifn p5 hsem
    refine r_aload_n X (pc := 23) (i := 0) (zw_dg dk_M_paid 13 rfl) rfl rfl ?_
    refine r_iload_n X (pc := 24) (i := 1) (zw_dg dk_M_paid 14 rfl) rfl rfl ?_
    obtain ⟨c8, hc8, hsem⟩ := zw_bd hsem
    refine r_callVv X (pc := 25) (As := [_]) (st := []) (km_M_layPay hS hc8) ce_M_layPay kw_1700 (zo hS 71 rfl rfl) rfl rfl ⟨Nat.le_of_ble_eq_true rfl, Nat.le_of_ble_eq_true rfl⟩ (Nat.le_of_ble_eq_true rfl) (zw_dg dk_M_paid 15 rfl) ?_
    refine r_iconst X (pc := 28) (v := 0) (zw_dg dk_M_paid 16 rfl) (by decide) ?_
    refine r_istore_n X (pc := 29) (i := 3) (zw_dg dk_M_paid 17 rfl) rfl (by decide) rfl ?_
    refine r_iconst X (pc := 30) (v := 1) (zw_dg dk_M_paid 18 rfl) (by decide) ?_
    refine r_istore X (pc := 31) (i := 4) (zw_dg dk_M_paid 19 rfl) (by decide) rfl ?_
    obtain ⟨best11, hl12, hsl12⟩ := zw_bd hsem
    refine r_loop (pc := 33) (pce := 68) hl12 (fun (best9, s10) => [some (.ref 71), some (.int p1), some (.int who2), some (.int best9), some (.int s10)] : Int32 × Int32 → zw_Lc) (fun (best9, s10) => c8 : Int32 × Int32 → zw_Ct) (fun best11 => [some (.ref 71), some (.int p1), some (.int who2), some (.int best11), none] : Int32 → zw_Lc) (fun best11 => c8 : Int32 → zw_Ct) ?_ rfl rfl ?_
    · rintro ⟨best9, s10⟩ rr hsem hK hP
      try unfold fn_M_paid_l1 at hsem
      refine r_iload X (pc := 33) (i := 4) (zw_dg dk_M_paid 20 rfl) rfl ?_
      refine r_aload_n X (pc := 35) (i := 0) (zw_dg dk_M_paid 21 rfl) rfl rfl ?_
      refine r_getI X (pc := 36) ci_M (zo hS 71 rfl rfl) rfl lk_M_113 (zw_dg dk_M_paid 22 rfl) ?_
      refine r_icmp_ge X (pc := 39) (tgt := 68) (zw_dg dk_M_paid 23 rfl) (by decide) (fun q14 => ?_) (fun q14 => ?_)
      · --
        have p13 : ¬ (s10 < (c8.1 71 2)) := (Int32.not_lt.mpr q14)
        have hsem := zw_ifn p13 hsem
        have jj := hK _ (Option.some.inj hsem).symm
        exact (r_fgt [4] rfl jj)
      · --
        have p13 : (s10 < (c8.1 71 2)) := (Int32.not_le.mp q14)
        have hsem := zw_ifp p13 hsem
        refine r_aload_n X (pc := 42) (i := 0) (zw_dg dk_M_paid 24 rfl) rfl rfl ?_
        refine r_iload_n X (pc := 43) (i := 2) (zw_dg dk_M_paid 25 rfl) rfl rfl ?_
        refine r_iload X (pc := 44) (i := 4) (zw_dg dk_M_paid 26 rfl) rfl ?_
        obtain ⟨r15, hr15, hsem⟩ := zw_bd hsem
        refine r_callVl X (pc := 46) (As := [_, _]) (st := []) (km_M_gotBy hS hr15) ce_M_gotBy kw_1966 (zo hS 71 rfl rfl) rfl rfl ⟨Nat.le_of_ble_eq_true rfl, Nat.le_of_ble_eq_true rfl⟩ (Nat.le_of_ble_eq_true rfl) (zw_dg dk_M_paid 27 rfl) ?_
        refine r_aload_n X (pc := 49) (i := 0) (zw_dg dk_M_paid 28 rfl) rfl rfl ?_
        refine r_iload_n X (pc := 50) (i := 2) (zw_dg dk_M_paid 29 rfl) rfl rfl ?_
        refine r_iload_n X (pc := 51) (i := 3) (zw_dg dk_M_paid 30 rfl) rfl rfl ?_
        obtain ⟨r16, hr16, hsem⟩ := zw_bd hsem
        refine r_callVl X (pc := 52) (As := [_, _]) (st := [.long r15]) (km_M_gotBy hS hr16) ce_M_gotBy kw_1966 (zo hS 71 rfl rfl) rfl rfl ⟨Nat.le_of_ble_eq_true rfl, Nat.le_of_ble_eq_true rfl⟩ (Nat.le_of_ble_eq_true rfl) (zw_dg dk_M_paid 31 rfl) ?_
        obtain ⟨best17, ht62, hs62⟩ := zw_bd hsem
        refine zw_jn (J := 62) (L2 := [some (.ref 71), some (.int p1), some (.int who2), some (.int best17), some (.int s10)]) (c2 := c8) (fun jj => ?_) ?_
        · have hsem := ht62
          refine r_lcmp_le X (pc := 55) (tgt := 62) (zw_dg dk_M_paid 32 rfl) (zw_dg dk_M_paid 33 rfl) (by decide) (fun q19 => ?_) (fun q19 => ?_)
          · --
            have p18 : ¬ (r16 < r15) := (Int64.not_lt.mpr q19)
            have hsem := zw_ifn p18 hsem
            cases hsem
            exact (r_fgt [] rfl jj)
          · --
            have p18 : (r16 < r15) := (Int64.not_le.mp q19)
            have hsem := zw_ifp p18 hsem
            refine r_iload X (pc := 59) (i := 4) (zw_dg dk_M_paid 34 rfl) rfl ?_
            refine r_istore_n X (pc := 61) (i := 3) (zw_dg dk_M_paid 35 rfl) rfl (by decide) rfl ?_
            cases hsem
            exact (r_fgt [] rfl jj)
        have hsem := hs62
        refine r_iinc X (pc := 62) (i := 4) (k := 1) (zw_dg dk_M_paid 36 rfl) rfl (by decide) (by decide) rfl ?_
        refine r_goto X (pc := 65) (tgt := 33) (zw_dg dk_M_paid 37 rfl) (by decide) ?_
        have jj := hP _ (Option.some.inj hsem).symm
        exact (r_fgt [] rfl jj)
    have hsem := hsl12
    refine r_aload_n X (pc := 68) (i := 0) (zw_dg dk_M_paid 38 rfl) rfl rfl ?_
    refine r_iconst X (pc := 69) (v := 0) (zw_dg dk_M_paid 39 rfl) (by decide) ?_
    refine r_putI X (pc := 70) ci_M (zo hS 71 rfl rfl) rfl lk_M_100 rfl ⟨rfl, rfl⟩ (zw_dg dk_M_paid 40 rfl) ?_
    obtain ⟨c20, hc20, hsem⟩ := zw_bd hsem
    refine zw_topC hc20 ?_
    refine r_aload_n X (pc := 73) (i := 0) (zw_dg dk_M_paid 41 rfl) rfl rfl ?_
    refine r_aload_n X (pc := 74) (i := 0) (zw_dg dk_M_paid 42 rfl) rfl rfl ?_
    refine r_iload_n X (pc := 75) (i := 2) (zw_dg dk_M_paid 43 rfl) rfl rfl ?_
    refine r_iconst X (pc := 76) (v := (-1)) (zw_dg dk_M_paid 44 rfl) (by decide) ?_
    obtain ⟨r21, hr21, hsem⟩ := zw_bd hsem
    refine r_callVl X (pc := 77) (As := [_, _]) (st := [.ref 71]) (km_M_gotBy hS hr21) ce_M_gotBy kw_1966 (zo hS 71 rfl rfl) rfl rfl ⟨Nat.le_of_ble_eq_true rfl, Nat.le_of_ble_eq_true rfl⟩ (Nat.le_of_ble_eq_true rfl) (zw_dg dk_M_paid 45 rfl) ?_
    obtain ⟨c22, hc22, hsem⟩ := zw_bd hsem
    refine r_callVv X (pc := 80) (As := [_]) (st := []) (km_M_tell hS hc22) ce_M_tell kw_1704 (zo hS 71 rfl rfl) rfl rfl ⟨Nat.le_of_ble_eq_true rfl, Nat.le_of_ble_eq_true rfl⟩ (Nat.le_of_ble_eq_true rfl) (zw_dg dk_M_paid 46 rfl) ?_
    refine r_aload_n X (pc := 83) (i := 0) (zw_dg dk_M_paid 47 rfl) rfl rfl ?_
    refine r_aload_n X (pc := 84) (i := 0) (zw_dg dk_M_paid 48 rfl) rfl rfl ?_
    refine r_iload_n X (pc := 85) (i := 2) (zw_dg dk_M_paid 49 rfl) rfl rfl ?_
    refine r_iload_n X (pc := 86) (i := 3) (zw_dg dk_M_paid 50 rfl) rfl rfl ?_
    obtain ⟨r23, hr23, hsem⟩ := zw_bd hsem
    refine r_callVl X (pc := 87) (As := [_, _]) (st := [.ref 71]) (km_M_gotBy hS hr23) ce_M_gotBy kw_1966 (zo hS 71 rfl rfl) rfl rfl ⟨Nat.le_of_ble_eq_true rfl, Nat.le_of_ble_eq_true rfl⟩ (Nat.le_of_ble_eq_true rfl) (zw_dg dk_M_paid 51 rfl) ?_
    obtain ⟨c24, hc24, hsem⟩ := zw_bd hsem
    refine r_callVv X (pc := 90) (As := [_]) (st := []) (km_M_tell hS hc24) ce_M_tell kw_1704 (zo hS 71 rfl rfl) rfl rfl ⟨Nat.le_of_ble_eq_true rfl, Nat.le_of_ble_eq_true rfl⟩ (Nat.le_of_ble_eq_true rfl) (zw_dg dk_M_paid 52 rfl) ?_
    refine r_aload_n X (pc := 93) (i := 0) (zw_dg dk_M_paid 53 rfl) rfl rfl ?_
    refine r_iload_n X (pc := 94) (i := 3) (zw_dg dk_M_paid 54 rfl) rfl rfl ?_
    refine r_i2l X (pc := 95) (zw_dg dk_M_paid 55 rfl)  ?_
    obtain ⟨c25, hc25, hsem⟩ := zw_bd hsem
    refine r_callVv X (pc := 96) (As := [_]) (st := []) (km_M_tell hS hc25) ce_M_tell kw_1704 (zo hS 71 rfl rfl) rfl rfl ⟨Nat.le_of_ble_eq_true rfl, Nat.le_of_ble_eq_true rfl⟩ (Nat.le_of_ble_eq_true rfl) (zw_dg dk_M_paid 56 rfl) ?_
    refine r_aload_n X (pc := 99) (i := 0) (zw_dg dk_M_paid 57 rfl) rfl rfl ?_
    refine r_iload_n X (pc := 100) (i := 2) (zw_dg dk_M_paid 58 rfl) rfl rfl ?_
    obtain ⟨r26, hr26, hsem⟩ := zw_bd hsem
    refine r_callVi X (pc := 101) (As := [_]) (st := []) (km_M_eveningsOf hS hr26) ce_M_eveningsOf kw_1970 (zo hS 71 rfl rfl) rfl rfl ⟨Nat.le_of_ble_eq_true rfl, Nat.le_of_ble_eq_true rfl⟩ (Nat.le_of_ble_eq_true rfl) (zw_dg dk_M_paid 59 rfl) ?_
    obtain ⟨rfl, rfl⟩ := zw_in2 hsem
    exact r_iret X (pc := 104) rfl (zw_dg dk_M_paid 60 rfl)
def y_M_first : MethodName := ⟨R_M, "first", "(I)I"⟩
abbrev b_M_first : ByteArray := prog_14_method_94_code
def dl_M_first : List (Nat × Instr × Nat) := [(0, .aload_n 0, 1), (1, .iconst 0, 1), (2, .putfield 97, 3), (5, .aload_n 0, 1), (6, .iload_n 1, 1), (7, .invokevirtual 222, 3), (10, .ifCond .ne 5, 3), (13, .iconst (-1), 1), (14, .ireturn, 1), (15, .aload_n 0, 1), (16, .iload_n 1, 1), (17, .invokevirtual 229, 3), (20, .bipush (-2), 2), (22, .istore_n 2, 1), (23, .iconst 0, 1), (24, .istore_n 3, 1), (25, .iload_n 3, 1), (26, .aload_n 0, 1), (27, .getfield 130, 3), (30, .if_icmp .ge 59, 3), (33, .aload_n 0, 1), (34, .iload_n 3, 1), (35, .invokevirtual 341, 3), (38, .ifCond .ne 6, 3), (41, .goto 42, 3), (44, .iload_n 2, 1), (45, .ifCond .lt 36, 3), (48, .aload_n 0, 1), (49, .iload_n 3, 1), (50, .iconst (-1), 1), (51, .invokevirtual 338, 3), (54, .aload_n 0, 1), (55, .iload_n 2, 1), (56, .invokevirtual 341, 3), (59, .i2l, 1), (60, .lmul, 1), (61, .aload_n 0, 1), (62, .iload_n 2, 1), (63, .iconst (-1), 1), (64, .invokevirtual 338, 3), (67, .aload_n 0, 1), (68, .iload_n 3, 1), (69, .invokevirtual 341, 3), (72, .i2l, 1), (73, .lmul, 1), (74, .lcmp, 1), (75, .ifCond .gt 6, 3), (78, .goto 5, 3), (81, .iload_n 3, 1), (82, .istore_n 2, 1), (83, .iinc 3 1, 3), (86, .goto (-61), 3), (89, .iload_n 2, 1), (90, .ifCond .ge 6, 3), (93, .bipush (-2), 2), (95, .ireturn, 1), (96, .aload_n 0, 1), (97, .iconst 0, 1), (98, .putfield 100, 3), (101, .aload_n 0, 1), (102, .aload_n 0, 1), (103, .iload_n 2, 1), (104, .iconst (-1), 1), (105, .invokevirtual 338, 3), (108, .aload_n 0, 1), (109, .iload_n 2, 1), (110, .invokevirtual 341, 3), (113, .i2l, 1), (114, .invokevirtual 240, 3), (117, .iload_n 2, 1), (118, .ireturn, 1)]
theorem dk_M_first : zw_dk b_M_first dl_M_first = true := by decide +kernel
theorem ce_M_first : zw_cev y_M_first b_M_first 4 (some .int) 1 := ⟨⟨kt_in 1977 (by decide +kernel) rfl, kt_in 98 (by decide +kernel) rfl, by decide +kernel⟩, kt_in 1975 (by decide +kernel) rfl, kt_in 1976 (by decide +kernel) rfl⟩
def fn_M_first_l1 (c7 : zw_Ct) : Int32 × Int32 → Option ((Int32) ⊕ (Int32 × Int32)) := fun (best8, w9) =>
  if (w9 < (c7.1 71 26)) then
  ((fn_M_eveningsOf c7 w9).bind fun r14 =>
  if (r14 = 0) then
  (some (.inr (best8, (w9 + 1))))
  else
  ((if (0 ≤ best8) then
  ((fn_M_gotBy c7 w9 (-1)).bind fun r19 =>
  (fn_M_eveningsOf c7 best8).bind fun r20 =>
  (fn_M_gotBy c7 best8 (-1)).bind fun r21 =>
  (fn_M_eveningsOf c7 w9).bind fun r22 =>
  some (decide ((r19 * r20.toInt64) ≤ (r21 * r22.toInt64))))
  else some false).bind fun b17 =>
  if b17 = true then
  (some (.inr (best8, (w9 + 1))))
  else
  (some (.inr (w9, (w9 + 1))))))
  else
  (some (.inl best8))
def fn_M_first (c : zw_Ct) (p1 : Int32) : Option (Int32 × zw_Ct) :=
  (some (zw_wI c 71 9 0)).bind fun c3 =>
  (fn_M_isPay c3 p1).bind fun r4 =>
  if (¬ (¬ r4 = 0)) then
  (some ((-1), c3))
  else
  ((fn_M_layPay c3 p1).bind fun c7 =>
  (zw_whl (fn_M_first_l1 c7) zw_F ((-2), 0)).bind fun best10 =>
  if (best10 < 0) then
  (some ((-2), c7))
  else
  ((some (zw_wI c7 71 8 0)).bind fun c26 =>
  (fn_M_gotBy c26 best10 (-1)).bind fun r27 =>
  (fn_M_eveningsOf c26 best10).bind fun r28 =>
  (fn_M_tellPart c26 r27 r28.toInt64).bind fun c29 =>
  some (best10, c29)))
set_option maxRecDepth 100000 in
theorem km_M_first {l : Launch} {g : zw_G} {rr : zw_RR} {sh : zw_Sh} {c : zw_Ct} {p1 : Int32} {r : Int32} {c2 : zw_Ct} (hS : zw_Ok 0 101 sh rr) (hsem : fn_M_first c p1 = some (r, c2)) : zw_Met l g y_M_first b_M_first 4 (some .int) 107 rr sh [.ref 71, .int p1] c (some (.int r)) c2 := by
  unfold fn_M_first at hsem
  refine zw_Met.of (by decide +kernel) (Nat.le_of_ble_eq_true rfl) (fun p e s m args below meth cd X => ?_)
  refine zw_eL (L2 := [some (.ref 71), some (.int p1), none, none]) rfl ?_
  refine r_aload_n X (pc := 0) (i := 0) (zw_dg dk_M_first 0 rfl) rfl rfl ?_
  refine r_iconst X (pc := 1) (v := 0) (zw_dg dk_M_first 1 rfl) (by decide) ?_
  refine r_putI X (pc := 2) ci_M (zo hS 71 rfl rfl) rfl lk_M_97 rfl ⟨rfl, rfl⟩ (zw_dg dk_M_first 2 rfl) ?_
  obtain ⟨c3, hc3, hsem⟩ := zw_bd hsem
  refine zw_topC hc3 ?_
  refine r_aload_n X (pc := 5) (i := 0) (zw_dg dk_M_first 3 rfl) rfl rfl ?_
  refine r_iload_n X (pc := 6) (i := 1) (zw_dg dk_M_first 4 rfl) rfl rfl ?_
  obtain ⟨r4, hr4, hsem⟩ := zw_bd hsem
  refine r_callVi X (pc := 7) (As := [_]) (st := []) (km_M_isPay hS hr4) ce_M_isPay kw_1688 (zo hS 71 rfl rfl) rfl rfl ⟨Nat.le_of_ble_eq_true rfl, Nat.le_of_ble_eq_true rfl⟩ (Nat.le_of_ble_eq_true rfl) (zw_dg dk_M_first 5 rfl) ?_
  refine r_if_ne X (pc := 10) (tgt := 15) (zw_dg dk_M_first 6 rfl) (by decide) (fun q6 => ?_) (fun q6 => ?_)
  · --
    have p5 : ¬ (¬ (¬ r4 = 0)) := (fun q => q q6)
    have hsem := zw_ifn p5 hsem
    refine r_aload_n X (pc := 15) (i := 0) (zw_dg dk_M_first 9 rfl) rfl rfl ?_
    refine r_iload_n X (pc := 16) (i := 1) (zw_dg dk_M_first 10 rfl) rfl rfl ?_
    obtain ⟨c7, hc7, hsem⟩ := zw_bd hsem
    refine r_callVv X (pc := 17) (As := [_]) (st := []) (km_M_layPay hS hc7) ce_M_layPay kw_1700 (zo hS 71 rfl rfl) rfl rfl ⟨Nat.le_of_ble_eq_true rfl, Nat.le_of_ble_eq_true rfl⟩ (Nat.le_of_ble_eq_true rfl) (zw_dg dk_M_first 11 rfl) ?_
    refine r_bipush X (pc := 20) (v := (-2)) (zw_dg dk_M_first 12 rfl) (by decide) ?_
    refine r_istore_n X (pc := 22) (i := 2) (zw_dg dk_M_first 13 rfl) rfl (by decide) rfl ?_
    refine r_iconst X (pc := 23) (v := 0) (zw_dg dk_M_first 14 rfl) (by decide) ?_
    refine r_istore_n X (pc := 24) (i := 3) (zw_dg dk_M_first 15 rfl) rfl (by decide) rfl ?_
    obtain ⟨best10, hl11, hsl11⟩ := zw_bd hsem
    refine r_loop (pc := 25) (pce := 89) hl11 (fun (best8, w9) => [some (.ref 71), some (.int p1), some (.int best8), some (.int w9)] : Int32 × Int32 → zw_Lc) (fun (best8, w9) => c7 : Int32 × Int32 → zw_Ct) (fun best10 => [some (.ref 71), some (.int p1), some (.int best10), none] : Int32 → zw_Lc) (fun best10 => c7 : Int32 → zw_Ct) ?_ rfl rfl ?_
    · rintro ⟨best8, w9⟩ rr hsem hK hP
      try unfold fn_M_first_l1 at hsem
      refine r_iload_n X (pc := 25) (i := 3) (zw_dg dk_M_first 16 rfl) rfl rfl ?_
      refine r_aload_n X (pc := 26) (i := 0) (zw_dg dk_M_first 17 rfl) rfl rfl ?_
      refine r_getI X (pc := 27) ci_M (zo hS 71 rfl rfl) rfl lk_M_130 (zw_dg dk_M_first 18 rfl) ?_
      refine r_icmp_ge X (pc := 30) (tgt := 89) (zw_dg dk_M_first 19 rfl) (by decide) (fun q13 => ?_) (fun q13 => ?_)
      · --
        have p12 : ¬ (w9 < (c7.1 71 26)) := (Int32.not_lt.mpr q13)
        have hsem := zw_ifn p12 hsem
        have jj := hK _ (Option.some.inj hsem).symm
        exact (r_fgt [3] rfl jj)
      · --
        have p12 : (w9 < (c7.1 71 26)) := (Int32.not_le.mp q13)
        have hsem := zw_ifp p12 hsem
        refine r_aload_n X (pc := 33) (i := 0) (zw_dg dk_M_first 20 rfl) rfl rfl ?_
        refine r_iload_n X (pc := 34) (i := 3) (zw_dg dk_M_first 21 rfl) rfl rfl ?_
        obtain ⟨r14, hr14, hsem⟩ := zw_bd hsem
        refine r_callVi X (pc := 35) (As := [_]) (st := []) (km_M_eveningsOf hS hr14) ce_M_eveningsOf kw_1970 (zo hS 71 rfl rfl) rfl rfl ⟨Nat.le_of_ble_eq_true rfl, Nat.le_of_ble_eq_true rfl⟩ (Nat.le_of_ble_eq_true rfl) (zw_dg dk_M_first 22 rfl) ?_
        refine r_if_ne X (pc := 38) (tgt := 44) (zw_dg dk_M_first 23 rfl) (by decide) (fun q16 => ?_) (fun q16 => ?_)
        · --
          have p15 : ¬ (r14 = 0) := q16
          have hsem := zw_ifn p15 hsem
          obtain ⟨b17, hb17, hsb17⟩ := zw_bd hsem
          refine zw_cndB (b := b17) (J1 := 78) (J2 := 81) (st2 := []) (fun jT jF => ?_) (fun hbb17 => ?_) (fun hbb17 => ?_)
          · have hsem := hb17
            refine r_iload_n X (pc := 44) (i := 2) (zw_dg dk_M_first 25 rfl) rfl rfl ?_
            refine r_if_lt X (pc := 45) (tgt := 81) (zw_dg dk_M_first 26 rfl) (by decide) (fun q18 => ?_) (fun q18 => ?_)
            · --
              have hsem := zw_ifn (Int32.not_le.mpr q18) hsem
              exact jF (Option.some.inj hsem).symm
            · --
              have hsem := zw_ifp (Int32.not_lt.mp q18) hsem
              refine r_aload_n X (pc := 48) (i := 0) (zw_dg dk_M_first 27 rfl) rfl rfl ?_
              refine r_iload_n X (pc := 49) (i := 3) (zw_dg dk_M_first 28 rfl) rfl rfl ?_
              refine r_iconst X (pc := 50) (v := (-1)) (zw_dg dk_M_first 29 rfl) (by decide) ?_
              obtain ⟨r19, hr19, hsem⟩ := zw_bd hsem
              refine r_callVl X (pc := 51) (As := [_, _]) (st := []) (km_M_gotBy hS hr19) ce_M_gotBy kw_1966 (zo hS 71 rfl rfl) rfl rfl ⟨Nat.le_of_ble_eq_true rfl, Nat.le_of_ble_eq_true rfl⟩ (Nat.le_of_ble_eq_true rfl) (zw_dg dk_M_first 30 rfl) ?_
              refine r_aload_n X (pc := 54) (i := 0) (zw_dg dk_M_first 31 rfl) rfl rfl ?_
              refine r_iload_n X (pc := 55) (i := 2) (zw_dg dk_M_first 32 rfl) rfl rfl ?_
              obtain ⟨r20, hr20, hsem⟩ := zw_bd hsem
              refine r_callVi X (pc := 56) (As := [_]) (st := [.long r19]) (km_M_eveningsOf hS hr20) ce_M_eveningsOf kw_1970 (zo hS 71 rfl rfl) rfl rfl ⟨Nat.le_of_ble_eq_true rfl, Nat.le_of_ble_eq_true rfl⟩ (Nat.le_of_ble_eq_true rfl) (zw_dg dk_M_first 33 rfl) ?_
              refine r_i2l X (pc := 59) (zw_dg dk_M_first 34 rfl)  ?_
              refine r_lmul X (pc := 60) (zw_dg dk_M_first 35 rfl)  ?_
              refine r_aload_n X (pc := 61) (i := 0) (zw_dg dk_M_first 36 rfl) rfl rfl ?_
              refine r_iload_n X (pc := 62) (i := 2) (zw_dg dk_M_first 37 rfl) rfl rfl ?_
              refine r_iconst X (pc := 63) (v := (-1)) (zw_dg dk_M_first 38 rfl) (by decide) ?_
              obtain ⟨r21, hr21, hsem⟩ := zw_bd hsem
              refine r_callVl X (pc := 64) (As := [_, _]) (st := [.long (r19 * r20.toInt64)]) (km_M_gotBy hS hr21) ce_M_gotBy kw_1966 (zo hS 71 rfl rfl) rfl rfl ⟨Nat.le_of_ble_eq_true rfl, Nat.le_of_ble_eq_true rfl⟩ (Nat.le_of_ble_eq_true rfl) (zw_dg dk_M_first 39 rfl) ?_
              refine r_aload_n X (pc := 67) (i := 0) (zw_dg dk_M_first 40 rfl) rfl rfl ?_
              refine r_iload_n X (pc := 68) (i := 3) (zw_dg dk_M_first 41 rfl) rfl rfl ?_
              obtain ⟨r22, hr22, hsem⟩ := zw_bd hsem
              refine r_callVi X (pc := 69) (As := [_]) (st := [.long r21, .long (r19 * r20.toInt64)]) (km_M_eveningsOf hS hr22) ce_M_eveningsOf kw_1970 (zo hS 71 rfl rfl) rfl rfl ⟨Nat.le_of_ble_eq_true rfl, Nat.le_of_ble_eq_true rfl⟩ (Nat.le_of_ble_eq_true rfl) (zw_dg dk_M_first 42 rfl) ?_
              refine r_i2l X (pc := 72) (zw_dg dk_M_first 43 rfl)  ?_
              refine r_lmul X (pc := 73) (zw_dg dk_M_first 44 rfl)  ?_
              refine r_lcmp_gt X (pc := 74) (tgt := 81) (zw_dg dk_M_first 45 rfl) (zw_dg dk_M_first 46 rfl) (by decide) (fun q23 => ?_) (fun q23 => ?_)
              · --
                exact jF (zw_dF hsem (Int64.not_le.mpr q23))
              · --
                exact jT (zw_dT hsem (Int64.not_lt.mp q23))
          · have hsem := zw_ifp hbb17 hsb17
            refine r_goto X (pc := 78) (tgt := 83) (zw_dg dk_M_first 47 rfl) (by decide) ?_
            refine r_iinc X (pc := 83) (i := 3) (k := 1) (zw_dg dk_M_first 50 rfl) rfl (by decide) (by decide) rfl ?_
            refine r_goto X (pc := 86) (tgt := 25) (zw_dg dk_M_first 51 rfl) (by decide) ?_
            have jj := hP _ (Option.some.inj hsem).symm
            exact (r_fgt [] rfl jj)
          · have hsem := zw_ifn (by rw [hbb17]; exact Bool.false_ne_true) hsb17
            refine r_iload_n X (pc := 81) (i := 3) (zw_dg dk_M_first 48 rfl) rfl rfl ?_
            refine r_istore_n X (pc := 82) (i := 2) (zw_dg dk_M_first 49 rfl) rfl (by decide) rfl ?_
            refine r_iinc X (pc := 83) (i := 3) (k := 1) (zw_dg dk_M_first 50 rfl) rfl (by decide) (by decide) rfl ?_
            refine r_goto X (pc := 86) (tgt := 25) (zw_dg dk_M_first 51 rfl) (by decide) ?_
            have jj := hP _ (Option.some.inj hsem).symm
            exact (r_fgt [] rfl jj)
        · --
          have p15 : (r14 = 0) := q16
          have hsem := zw_ifp p15 hsem
          refine r_goto X (pc := 41) (tgt := 83) (zw_dg dk_M_first 24 rfl) (by decide) ?_
          refine r_iinc X (pc := 83) (i := 3) (k := 1) (zw_dg dk_M_first 50 rfl) rfl (by decide) (by decide) rfl ?_
          refine r_goto X (pc := 86) (tgt := 25) (zw_dg dk_M_first 51 rfl) (by decide) ?_
          have jj := hP _ (Option.some.inj hsem).symm
          exact (r_fgt [] rfl jj)
    have hsem := hsl11
    refine r_iload_n X (pc := 89) (i := 2) (zw_dg dk_M_first 52 rfl) rfl rfl ?_
    refine r_if_ge X (pc := 90) (tgt := 96) (zw_dg dk_M_first 53 rfl) (by decide) (fun q25 => ?_) (fun q25 => ?_)
    · --
      have p24 : ¬ (best10 < 0) := (Int32.not_lt.mpr q25)
      have hsem := zw_ifn p24 hsem
      refine r_aload_n X (pc := 96) (i := 0) (zw_dg dk_M_first 56 rfl) rfl rfl ?_
      refine r_iconst X (pc := 97) (v := 0) (zw_dg dk_M_first 57 rfl) (by decide) ?_
      refine r_putI X (pc := 98) ci_M (zo hS 71 rfl rfl) rfl lk_M_100 rfl ⟨rfl, rfl⟩ (zw_dg dk_M_first 58 rfl) ?_
      obtain ⟨c26, hc26, hsem⟩ := zw_bd hsem
      refine zw_topC hc26 ?_
      refine r_aload_n X (pc := 101) (i := 0) (zw_dg dk_M_first 59 rfl) rfl rfl ?_
      refine r_aload_n X (pc := 102) (i := 0) (zw_dg dk_M_first 60 rfl) rfl rfl ?_
      refine r_iload_n X (pc := 103) (i := 2) (zw_dg dk_M_first 61 rfl) rfl rfl ?_
      refine r_iconst X (pc := 104) (v := (-1)) (zw_dg dk_M_first 62 rfl) (by decide) ?_
      obtain ⟨r27, hr27, hsem⟩ := zw_bd hsem
      refine r_callVl X (pc := 105) (As := [_, _]) (st := [.ref 71]) (km_M_gotBy hS hr27) ce_M_gotBy kw_1966 (zo hS 71 rfl rfl) rfl rfl ⟨Nat.le_of_ble_eq_true rfl, Nat.le_of_ble_eq_true rfl⟩ (Nat.le_of_ble_eq_true rfl) (zw_dg dk_M_first 63 rfl) ?_
      refine r_aload_n X (pc := 108) (i := 0) (zw_dg dk_M_first 64 rfl) rfl rfl ?_
      refine r_iload_n X (pc := 109) (i := 2) (zw_dg dk_M_first 65 rfl) rfl rfl ?_
      obtain ⟨r28, hr28, hsem⟩ := zw_bd hsem
      refine r_callVi X (pc := 110) (As := [_]) (st := [.long r27, .ref 71]) (km_M_eveningsOf hS hr28) ce_M_eveningsOf kw_1970 (zo hS 71 rfl rfl) rfl rfl ⟨Nat.le_of_ble_eq_true rfl, Nat.le_of_ble_eq_true rfl⟩ (Nat.le_of_ble_eq_true rfl) (zw_dg dk_M_first 66 rfl) ?_
      refine r_i2l X (pc := 113) (zw_dg dk_M_first 67 rfl)  ?_
      obtain ⟨c29, hc29, hsem⟩ := zw_bd hsem
      refine r_callVv X (pc := 114) (As := [_, _]) (st := []) (km_M_tellPart hS hc29) ce_M_tellPart kw_1716 (zo hS 71 rfl rfl) rfl rfl ⟨Nat.le_of_ble_eq_true rfl, Nat.le_of_ble_eq_true rfl⟩ (Nat.le_of_ble_eq_true rfl) (zw_dg dk_M_first 68 rfl) ?_
      refine r_iload_n X (pc := 117) (i := 2) (zw_dg dk_M_first 69 rfl) rfl rfl ?_
      obtain ⟨rfl, rfl⟩ := zw_in2 hsem
      exact r_iret X (pc := 118) rfl (zw_dg dk_M_first 70 rfl)
    · --
      have p24 : (best10 < 0) := (Int32.not_le.mp q25)
      have hsem := zw_ifp p24 hsem
      refine r_bipush X (pc := 93) (v := (-2)) (zw_dg dk_M_first 54 rfl) (by decide) ?_
      obtain ⟨rfl, rfl⟩ := zw_in2 hsem
      exact r_iret X (pc := 95) rfl (zw_dg dk_M_first 55 rfl)
  · --
    have p5 : (¬ (¬ r4 = 0)) := (fun z => z q6)
    have hsem := zw_ifp p5 hsem
    refine r_iconst X (pc := 13) (v := (-1)) (zw_dg dk_M_first 7 rfl) (by decide) ?_
    obtain ⟨rfl, rfl⟩ := zw_in2 hsem
    exact r_iret X (pc := 14) rfl (zw_dg dk_M_first 8 rfl)
def y_M_countOf : MethodName := ⟨R_M, "countOf", "(III)I"⟩
abbrev b_M_countOf : ByteArray := prog_14_method_95_code
def dl_M_countOf : List (Nat × Instr × Nat) := [(0, .iconst 0, 1), (1, .istore 4, 2), (3, .aload_n 0, 1), (4, .iconst 0, 1), (5, .putfield 344, 3), (8, .iconst 0, 1), (9, .istore 5, 2), (11, .iload 5, 2), (13, .aload_n 0, 1), (14, .getfield 133, 3), (17, .if_icmp .ge 71, 3), (20, .aload_n 0, 1), (21, .getfield 76, 3), (24, .iload 5, 2), (26, .iaload, 1), (27, .iload_n 1, 1), (28, .if_icmp .ne 54, 3), (31, .aload_n 0, 1), (32, .getfield 16, 3), (35, .iconst 4, 1), (36, .aload_n 0, 1), (37, .getfield 79, 3), (40, .iload 5, 2), (42, .iaload, 1), (43, .imul, 1), (44, .iload_n 2, 1), (45, .iadd, 1), (46, .iaload, 1), (47, .iload_n 3, 1), (48, .if_icmp .eq 6, 3), (51, .goto 31, 3), (54, .iinc 4 1, 3), (57, .aload_n 0, 1), (58, .dup, 1), (59, .getfield 344, 3), (62, .aload_n 0, 1), (63, .getfield 82, 3), (66, .iload 5, 2), (68, .iaload, 1), (69, .iload_n 2, 1), (70, .if_icmp .ne 7, 3), (73, .iconst 1, 1), (74, .goto 4, 3), (77, .iconst 0, 1), (78, .iadd, 1), (79, .putfield 344, 3), (82, .iinc 5 1, 3), (85, .goto (-74), 3), (88, .iload 4, 2), (90, .ireturn, 1)]
theorem dk_M_countOf : zw_dk b_M_countOf dl_M_countOf = true := by decide +kernel
theorem ce_M_countOf : zw_cev y_M_countOf b_M_countOf 6 (some .int) 3 := ⟨⟨kt_in 1985 (by decide +kernel) rfl, kt_in 98 (by decide +kernel) rfl, by decide +kernel⟩, kt_in 1984 (by decide +kernel) rfl, kt_in 81 (by decide +kernel) rfl⟩
def fn_M_countOf_l1 (who1 : Int32) (e2 : Int32) (part3 : Int32) : Int32 × Int32 × zw_Ct → Option ((Int32 × zw_Ct) ⊕ (Int32 × Int32 × zw_Ct)) := fun (n5, k6, c7) =>
  if (k6 < (c7.1 71 33)) then
  ((zw_aI 40 c7 94 k6).bind fun x13 =>
  if (¬ x13 = who1) then
  (some (.inr (n5, (k6 + 1), c7)))
  else
  ((zw_aI 40 c7 95 k6).bind fun x16 =>
  (zw_aI 1820 c7 72 ((4 * x16) + e2)).bind fun x17 =>
  if (¬ x17 = part3) then
  (some (.inr (n5, (k6 + 1), c7)))
  else
  ((zw_aI 40 c7 96 k6).bind fun x20 =>
  (some (zw_wI c7 71 37 ((c7.1 71 37) + (if (x20 = e2) then (1 : Int32) else 0)))).bind fun c22 =>
  some (.inr ((n5 + 1), (k6 + 1), c22)))))
  else
  (some (.inl (n5, c7)))
def fn_M_countOf (c : zw_Ct) (who1 : Int32) (e2 : Int32) (part3 : Int32) : Option (Int32 × zw_Ct) :=
  (some (zw_wI c 71 37 0)).bind fun c4 =>
  (zw_whl (fn_M_countOf_l1 who1 e2 part3) zw_F (0, 0, c4)).bind fun (n8, c9) =>
  some (n8, c9)
set_option maxRecDepth 100000 in
theorem km_M_countOf {l : Launch} {g : zw_G} {rr : zw_RR} {sh : zw_Sh} {c : zw_Ct} {who1 : Int32} {e2 : Int32} {part3 : Int32} {r : Int32} {c2 : zw_Ct} (hS : zw_Ok 0 101 sh rr) (hsem : fn_M_countOf c who1 e2 part3 = some (r, c2)) : zw_Met l g y_M_countOf b_M_countOf 6 (some .int) 1 rr sh [.ref 71, .int who1, .int e2, .int part3] c (some (.int r)) c2 := by
  unfold fn_M_countOf at hsem
  refine zw_Met.of (by decide +kernel) (Nat.le_of_ble_eq_true rfl) (fun p e s m args below meth cd X => ?_)
  refine zw_eL (L2 := [some (.ref 71), some (.int who1), some (.int e2), some (.int part3), none, none]) rfl ?_
  refine r_iconst X (pc := 0) (v := 0) (zw_dg dk_M_countOf 0 rfl) (by decide) ?_
  refine r_istore X (pc := 1) (i := 4) (zw_dg dk_M_countOf 1 rfl) (by decide) rfl ?_
  refine r_aload_n X (pc := 3) (i := 0) (zw_dg dk_M_countOf 2 rfl) rfl rfl ?_
  refine r_iconst X (pc := 4) (v := 0) (zw_dg dk_M_countOf 3 rfl) (by decide) ?_
  refine r_putI X (pc := 5) ci_M (zo hS 71 rfl rfl) rfl lk_M_344 rfl ⟨rfl, rfl⟩ (zw_dg dk_M_countOf 4 rfl) ?_
  obtain ⟨c4, hc4, hsem⟩ := zw_bd hsem
  refine zw_topC hc4 ?_
  refine r_iconst X (pc := 8) (v := 0) (zw_dg dk_M_countOf 5 rfl) (by decide) ?_
  refine r_istore X (pc := 9) (i := 5) (zw_dg dk_M_countOf 6 rfl) (by decide) rfl ?_
  obtain ⟨l10, hl10, hsl10⟩ := zw_bd hsem
  refine r_loop (pc := 11) (pce := 88) hl10 (fun (n5, k6, c7) => [some (.ref 71), some (.int who1), some (.int e2), some (.int part3), some (.int n5), some (.int k6)] : Int32 × Int32 × zw_Ct → zw_Lc) (fun (n5, k6, c7) => c7 : Int32 × Int32 × zw_Ct → zw_Ct) (fun (n8, c9) => [some (.ref 71), some (.int who1), some (.int e2), some (.int part3), some (.int n8), none] : Int32 × zw_Ct → zw_Lc) (fun (n8, c9) => c9 : Int32 × zw_Ct → zw_Ct) ?_ rfl rfl ?_
  · rintro ⟨n5, k6, c7⟩ rr hsem hK hP
    try unfold fn_M_countOf_l1 at hsem
    refine r_iload X (pc := 11) (i := 5) (zw_dg dk_M_countOf 7 rfl) rfl ?_
    refine r_aload_n X (pc := 13) (i := 0) (zw_dg dk_M_countOf 8 rfl) rfl rfl ?_
    refine r_getI X (pc := 14) ci_M (zo hS 71 rfl rfl) rfl lk_M_133 (zw_dg dk_M_countOf 9 rfl) ?_
    refine r_icmp_ge X (pc := 17) (tgt := 88) (zw_dg dk_M_countOf 10 rfl) (by decide) (fun q12 => ?_) (fun q12 => ?_)
    · --
      have p11 : ¬ (k6 < (c7.1 71 33)) := (Int32.not_lt.mpr q12)
      have hsem := zw_ifn p11 hsem
      have jj := hK _ (Option.some.inj hsem).symm
      exact (r_fgt [5] rfl jj)
    · --
      have p11 : (k6 < (c7.1 71 33)) := (Int32.not_le.mp q12)
      have hsem := zw_ifp p11 hsem
      refine r_aload_n X (pc := 20) (i := 0) (zw_dg dk_M_countOf 11 rfl) rfl rfl ?_
      refine r_getR X (pc := 21) (r := 94) ci_M (zo hS 71 rfl rfl) rfl (zr hS 71 34 rfl rfl) lk_M_76 (zw_dg dk_M_countOf 12 rfl) ?_
      refine r_iload X (pc := 24) (i := 5) (zw_dg dk_M_countOf 13 rfl) rfl ?_
      obtain ⟨x13, hx13, hsem⟩ := zw_bd hsem
      refine r_iald X (pc := 26) (zo hS 94 rfl rfl) hx13 (zw_dg dk_M_countOf 14 rfl) ?_
      refine r_iload_n X (pc := 27) (i := 1) (zw_dg dk_M_countOf 15 rfl) rfl rfl ?_
      refine r_icmp_ne X (pc := 28) (tgt := 82) (zw_dg dk_M_countOf 16 rfl) (by decide) (fun q15 => ?_) (fun q15 => ?_)
      · --
        have p14 : (¬ x13 = who1) := q15
        have hsem := zw_ifp p14 hsem
        refine r_iinc X (pc := 82) (i := 5) (k := 1) (zw_dg dk_M_countOf 46 rfl) rfl (by decide) (by decide) rfl ?_
        refine r_goto X (pc := 85) (tgt := 11) (zw_dg dk_M_countOf 47 rfl) (by decide) ?_
        have jj := hP _ (Option.some.inj hsem).symm
        exact (r_fgt [] rfl jj)
      · --
        have p14 : ¬ (¬ x13 = who1) := (fun z => z q15)
        have hsem := zw_ifn p14 hsem
        refine r_aload_n X (pc := 31) (i := 0) (zw_dg dk_M_countOf 17 rfl) rfl rfl ?_
        refine r_getR X (pc := 32) (r := 72) ci_M (zo hS 71 rfl rfl) rfl (zr hS 71 3 rfl rfl) lk_M_16 (zw_dg dk_M_countOf 18 rfl) ?_
        refine r_iconst X (pc := 35) (v := 4) (zw_dg dk_M_countOf 19 rfl) (by decide) ?_
        refine r_aload_n X (pc := 36) (i := 0) (zw_dg dk_M_countOf 20 rfl) rfl rfl ?_
        refine r_getR X (pc := 37) (r := 95) ci_M (zo hS 71 rfl rfl) rfl (zr hS 71 35 rfl rfl) lk_M_79 (zw_dg dk_M_countOf 21 rfl) ?_
        refine r_iload X (pc := 40) (i := 5) (zw_dg dk_M_countOf 22 rfl) rfl ?_
        obtain ⟨x16, hx16, hsem⟩ := zw_bd hsem
        refine r_iald X (pc := 42) (zo hS 95 rfl rfl) hx16 (zw_dg dk_M_countOf 23 rfl) ?_
        refine r_imul X (pc := 43) (zw_dg dk_M_countOf 24 rfl)  ?_
        refine r_iload_n X (pc := 44) (i := 2) (zw_dg dk_M_countOf 25 rfl) rfl rfl ?_
        refine r_iadd X (pc := 45) (zw_dg dk_M_countOf 26 rfl)  ?_
        obtain ⟨x17, hx17, hsem⟩ := zw_bd hsem
        refine r_iald X (pc := 46) (zo hS 72 rfl rfl) hx17 (zw_dg dk_M_countOf 27 rfl) ?_
        refine r_iload_n X (pc := 47) (i := 3) (zw_dg dk_M_countOf 28 rfl) rfl rfl ?_
        refine r_icmp_eq X (pc := 48) (tgt := 54) (zw_dg dk_M_countOf 29 rfl) (by decide) (fun q19 => ?_) (fun q19 => ?_)
        · --
          have p18 : ¬ (¬ x17 = part3) := (fun z => z q19)
          have hsem := zw_ifn p18 hsem
          refine r_iinc X (pc := 54) (i := 4) (k := 1) (zw_dg dk_M_countOf 31 rfl) rfl (by decide) (by decide) rfl ?_
          refine r_aload_n X (pc := 57) (i := 0) (zw_dg dk_M_countOf 32 rfl) rfl rfl ?_
          refine r_dup X (pc := 58) (zw_dg dk_M_countOf 33 rfl) rfl ?_
          refine r_getI X (pc := 59) ci_M (zo hS 71 rfl rfl) rfl lk_M_344 (zw_dg dk_M_countOf 34 rfl) ?_
          refine r_aload_n X (pc := 62) (i := 0) (zw_dg dk_M_countOf 35 rfl) rfl rfl ?_
          refine r_getR X (pc := 63) (r := 96) ci_M (zo hS 71 rfl rfl) rfl (zr hS 71 36 rfl rfl) lk_M_82 (zw_dg dk_M_countOf 36 rfl) ?_
          refine r_iload X (pc := 66) (i := 5) (zw_dg dk_M_countOf 37 rfl) rfl ?_
          obtain ⟨x20, hx20, hsem⟩ := zw_bd hsem
          refine r_iald X (pc := 68) (zo hS 96 rfl rfl) hx20 (zw_dg dk_M_countOf 38 rfl) ?_
          refine r_iload_n X (pc := 69) (i := 2) (zw_dg dk_M_countOf 39 rfl) rfl rfl ?_
          refine zw_ter (P := (x20 = e2)) (f := Value.int) (x := 1) (y := 0) (J := 78) (st2 := [.int (c7.1 71 37), .ref 71]) (fun jT jF => ?_) ?_
          · --
            refine r_icmp_ne X (pc := 70) (tgt := 77) (zw_dg dk_M_countOf 40 rfl) (by decide) (fun q21 => ?_) (fun q21 => ?_)
            · --
              refine r_iconst X (pc := 77) (v := 0) (zw_dg dk_M_countOf 43 rfl) (by decide) ?_
              exact jF q21
            · --
              refine r_iconst X (pc := 73) (v := 1) (zw_dg dk_M_countOf 41 rfl) (by decide) ?_
              refine r_goto X (pc := 74) (tgt := 78) (zw_dg dk_M_countOf 42 rfl) (by decide) ?_
              exact jT q21
          refine r_iadd X (pc := 78) (zw_dg dk_M_countOf 44 rfl)  ?_
          refine r_putI X (pc := 79) ci_M (zo hS 71 rfl rfl) rfl lk_M_344 rfl ⟨rfl, rfl⟩ (zw_dg dk_M_countOf 45 rfl) ?_
          obtain ⟨c22, hc22, hsem⟩ := zw_bd hsem
          refine zw_topC hc22 ?_
          refine r_iinc X (pc := 82) (i := 5) (k := 1) (zw_dg dk_M_countOf 46 rfl) rfl (by decide) (by decide) rfl ?_
          refine r_goto X (pc := 85) (tgt := 11) (zw_dg dk_M_countOf 47 rfl) (by decide) ?_
          have jj := hP _ (Option.some.inj hsem).symm
          exact (r_fgt [] rfl jj)
        · --
          have p18 : (¬ x17 = part3) := q19
          have hsem := zw_ifp p18 hsem
          refine r_goto X (pc := 51) (tgt := 82) (zw_dg dk_M_countOf 30 rfl) (by decide) ?_
          refine r_iinc X (pc := 82) (i := 5) (k := 1) (zw_dg dk_M_countOf 46 rfl) rfl (by decide) (by decide) rfl ?_
          refine r_goto X (pc := 85) (tgt := 11) (zw_dg dk_M_countOf 47 rfl) (by decide) ?_
          have jj := hP _ (Option.some.inj hsem).symm
          exact (r_fgt [] rfl jj)
  obtain ⟨n8, c9⟩ := l10
  have hsem := hsl10
  refine r_iload X (pc := 88) (i := 4) (zw_dg dk_M_countOf 48 rfl) rfl ?_
  obtain ⟨rfl, rfl⟩ := zw_in2 hsem
  exact r_iret X (pc := 90) rfl (zw_dg dk_M_countOf 49 rfl)
def y_M_right : MethodName := ⟨R_M, "right", "(III)I"⟩
abbrev b_M_right : ByteArray := prog_14_method_96_code
def dl_M_right : List (Nat × Instr × Nat) := [(0, .aload_n 0, 1), (1, .iconst 0, 1), (2, .putfield 97, 3), (5, .aload_n 0, 1), (6, .iload_n 1, 1), (7, .invokevirtual 302, 3), (10, .ifCond .eq 23, 3), (13, .aload_n 0, 1), (14, .iload_n 2, 1), (15, .invokevirtual 146, 3), (18, .ifCond .eq 15, 3), (21, .iload_n 3, 1), (22, .i2l, 1), (23, .lconst 0, 1), (24, .ldc2_w 128, 3), (27, .invokestatic 120, 3), (30, .ifCond .ne 5, 3), (33, .iconst (-1), 1), (34, .ireturn, 1), (35, .iconst 0, 1), (36, .istore 4, 2), (38, .iconst 0, 1), (39, .istore 5, 2), (41, .iload 5, 2), (43, .aload_n 0, 1), (44, .getfield 13, 3), (47, .if_icmp .gt 42, 3), (50, .aload_n 0, 1), (51, .iload_n 1, 1), (52, .iload_n 2, 1), (53, .iload 5, 2), (55, .invokevirtual 347, 3), (58, .istore 6, 2), (60, .iload 4, 2), (62, .iload 6, 2), (64, .iload 5, 2), (66, .imul, 1), (67, .aload_n 0, 1), (68, .getfield 13, 3), (71, .aload_n 0, 1), (72, .getfield 344, 3), (75, .imul, 1), (76, .isub, 1), (77, .invokestatic 314, 3), (80, .iadd, 1), (81, .istore 4, 2), (83, .iinc 5 1, 3), (86, .goto (-45), 3), (89, .aload_n 0, 1), (90, .iload_n 1, 1), (91, .iload_n 2, 1), (92, .iload_n 3, 1), (93, .invokevirtual 347, 3), (96, .istore 5, 2), (98, .aload_n 0, 1), (99, .iconst 0, 1), (100, .putfield 100, 3), (103, .aload_n 0, 1), (104, .aload_n 0, 1), (105, .getfield 344, 3), (108, .i2l, 1), (109, .invokevirtual 109, 3), (112, .aload_n 0, 1), (113, .iload 4, 2), (115, .i2l, 1), (116, .invokevirtual 109, 3), (119, .iload 5, 2), (121, .ireturn, 1)]
theorem dk_M_right : zw_dk b_M_right dl_M_right = true := by decide +kernel
theorem ce_M_right : zw_cev y_M_right b_M_right 7 (some .int) 3 := ⟨⟨kt_in 1981 (by decide +kernel) rfl, kt_in 98 (by decide +kernel) rfl, by decide +kernel⟩, kt_in 1979 (by decide +kernel) rfl, kt_in 1980 (by decide +kernel) rfl⟩
def fn_M_right_l1 (who1 : Int32) (e2 : Int32) : Int32 × Int32 × zw_Ct → Option ((Int32 × zw_Ct) ⊕ (Int32 × Int32 × zw_Ct)) := fun (off9, k10, c11) =>
  if (k10 ≤ (c11.1 71 1)) then
  ((fn_M_countOf c11 who1 e2 k10).bind fun (r17, c18) =>
  (some ((off9 + (if 0 ≤ ((r17 * k10) - ((c18.1 71 1) * (c18.1 71 37))) then ((r17 * k10) - ((c18.1 71 1) * (c18.1 71 37))) else 0 - ((r17 * k10) - ((c18.1 71 1) * (c18.1 71 37))))) : Int32)).bind fun off19 =>
  some (.inr (off19, (k10 + 1), c18)))
  else
  (some (.inl (off9, c11)))
def fn_M_right (c : zw_Ct) (who1 : Int32) (e2 : Int32) (part3 : Int32) : Option (Int32 × zw_Ct) :=
  (some (zw_wI c 71 9 0)).bind fun c4 =>
  if (((¬ (¬ (fn_M_isOne c4 who1) = 0)) ∨ (¬ (¬ (fn_M_isEvent c4 e2) = 0))) ∨ (¬ (¬ (fn_M_in part3.toInt64 0 12) = 0))) then
  (some ((-1), c4))
  else
  ((zw_whl (fn_M_right_l1 who1 e2) zw_F (0, 0, c4)).bind fun (off12, c13) =>
  (fn_M_countOf c13 who1 e2 part3).bind fun (r20, c21) =>
  (some (zw_wI c21 71 8 0)).bind fun c22 =>
  (fn_M_tell c22 ((c22.1 71 37)).toInt64).bind fun c23 =>
  (fn_M_tell c23 off12.toInt64).bind fun c24 =>
  some (r20, c24))
set_option maxRecDepth 100000 in
theorem km_M_right {l : Launch} {g : zw_G} {rr : zw_RR} {sh : zw_Sh} {c : zw_Ct} {who1 : Int32} {e2 : Int32} {part3 : Int32} {r : Int32} {c2 : zw_Ct} (hS : zw_Ok 0 101 sh rr) (hsem : fn_M_right c who1 e2 part3 = some (r, c2)) : zw_Met l g y_M_right b_M_right 7 (some .int) 3 rr sh [.ref 71, .int who1, .int e2, .int part3] c (some (.int r)) c2 := by
  unfold fn_M_right at hsem
  refine zw_Met.of (by decide +kernel) (Nat.le_of_ble_eq_true rfl) (fun p e s m args below meth cd X => ?_)
  refine zw_eL (L2 := [some (.ref 71), some (.int who1), some (.int e2), some (.int part3), none, none, none]) rfl ?_
  refine r_aload_n X (pc := 0) (i := 0) (zw_dg dk_M_right 0 rfl) rfl rfl ?_
  refine r_iconst X (pc := 1) (v := 0) (zw_dg dk_M_right 1 rfl) (by decide) ?_
  refine r_putI X (pc := 2) ci_M (zo hS 71 rfl rfl) rfl lk_M_97 rfl ⟨rfl, rfl⟩ (zw_dg dk_M_right 2 rfl) ?_
  obtain ⟨c4, hc4, hsem⟩ := zw_bd hsem
  refine zw_topC hc4 ?_
  refine zw_cnd (P := (((¬ (¬ (fn_M_isOne c4 who1) = 0)) ∨ (¬ (¬ (fn_M_isEvent c4 e2) = 0))) ∨ (¬ (¬ (fn_M_in part3.toInt64 0 12) = 0)))) (J1 := 33) (J2 := 35) (st2 := []) (fun jT jF => ?_) (fun p5 => ?_) (fun p5 => ?_)
  · --
    refine r_aload_n X (pc := 5) (i := 0) (zw_dg dk_M_right 3 rfl) rfl rfl ?_
    refine r_iload_n X (pc := 6) (i := 1) (zw_dg dk_M_right 4 rfl) rfl rfl ?_
    refine r_callVi X (pc := 7) (As := [_]) (st := []) (km_M_isOne hS rfl) ce_M_isOne kw_1870 (zo hS 71 rfl rfl) rfl rfl ⟨Nat.le_of_ble_eq_true rfl, Nat.le_of_ble_eq_true rfl⟩ (Nat.le_of_ble_eq_true rfl) (zw_dg dk_M_right 5 rfl) ?_
    refine r_if_eq X (pc := 10) (tgt := 33) (zw_dg dk_M_right 6 rfl) (by decide) (fun q6 => ?_) (fun q6 => ?_)
    · --
      exact jT (Or.inl (Or.inl (fun z => z q6)))
    · --
      refine r_aload_n X (pc := 13) (i := 0) (zw_dg dk_M_right 7 rfl) rfl rfl ?_
      refine r_iload_n X (pc := 14) (i := 2) (zw_dg dk_M_right 8 rfl) rfl rfl ?_
      refine r_callVi X (pc := 15) (As := [_]) (st := []) (km_M_isEvent hS rfl) ce_M_isEvent kw_1613 (zo hS 71 rfl rfl) rfl rfl ⟨Nat.le_of_ble_eq_true rfl, Nat.le_of_ble_eq_true rfl⟩ (Nat.le_of_ble_eq_true rfl) (zw_dg dk_M_right 9 rfl) ?_
      refine r_if_eq X (pc := 18) (tgt := 33) (zw_dg dk_M_right 10 rfl) (by decide) (fun q7 => ?_) (fun q7 => ?_)
      · --
        exact jT (Or.inl (Or.inr (fun z => z q7)))
      · --
        refine r_iload_n X (pc := 21) (i := 3) (zw_dg dk_M_right 11 rfl) rfl rfl ?_
        refine r_i2l X (pc := 22) (zw_dg dk_M_right 12 rfl)  ?_
        refine r_lconst X (pc := 23) (v := 0) (zw_dg dk_M_right 13 rfl) (by decide) ?_
        refine r_ldc2 X (pc := 24) (v := 12) kw_1600 (zw_dg dk_M_right 14 rfl) ?_
        refine r_callSi X (pc := 27) (As := [_, _, _]) (st := []) (km_M_in hS rfl) ce_M_in kw_1597 rfl ⟨Nat.le_of_ble_eq_true rfl, Nat.le_of_ble_eq_true rfl⟩ (Nat.le_of_ble_eq_true rfl) (zw_dg dk_M_right 15 rfl) ?_
        refine r_if_ne X (pc := 30) (tgt := 35) (zw_dg dk_M_right 16 rfl) (by decide) (fun q8 => ?_) (fun q8 => ?_)
        · --
          exact jF (fun q => q.elim (fun q => q.elim (fun q => q q6) (fun q => q q7)) (fun q => q q8))
        · --
          exact jT (Or.inr (fun z => z q8))
  · --
    have hsem := zw_ifp p5 hsem
    refine r_iconst X (pc := 33) (v := (-1)) (zw_dg dk_M_right 17 rfl) (by decide) ?_
    obtain ⟨rfl, rfl⟩ := zw_in2 hsem
    exact r_iret X (pc := 34) rfl (zw_dg dk_M_right 18 rfl)
  · --
    have hsem := zw_ifn p5 hsem
    refine r_iconst X (pc := 35) (v := 0) (zw_dg dk_M_right 19 rfl) (by decide) ?_
    refine r_istore X (pc := 36) (i := 4) (zw_dg dk_M_right 20 rfl) (by decide) rfl ?_
    refine r_iconst X (pc := 38) (v := 0) (zw_dg dk_M_right 21 rfl) (by decide) ?_
    refine r_istore X (pc := 39) (i := 5) (zw_dg dk_M_right 22 rfl) (by decide) rfl ?_
    obtain ⟨l14, hl14, hsl14⟩ := zw_bd hsem
    refine r_loop (pc := 41) (pce := 89) hl14 (fun (off9, k10, c11) => [some (.ref 71), some (.int who1), some (.int e2), some (.int part3), some (.int off9), some (.int k10), none] : Int32 × Int32 × zw_Ct → zw_Lc) (fun (off9, k10, c11) => c11 : Int32 × Int32 × zw_Ct → zw_Ct) (fun (off12, c13) => [some (.ref 71), some (.int who1), some (.int e2), some (.int part3), some (.int off12), none, none] : Int32 × zw_Ct → zw_Lc) (fun (off12, c13) => c13 : Int32 × zw_Ct → zw_Ct) ?_ rfl rfl ?_
    · rintro ⟨off9, k10, c11⟩ rr hsem hK hP
      try unfold fn_M_right_l1 at hsem
      refine r_iload X (pc := 41) (i := 5) (zw_dg dk_M_right 23 rfl) rfl ?_
      refine r_aload_n X (pc := 43) (i := 0) (zw_dg dk_M_right 24 rfl) rfl rfl ?_
      refine r_getI X (pc := 44) ci_M (zo hS 71 rfl rfl) rfl lk_M_13 (zw_dg dk_M_right 25 rfl) ?_
      refine r_icmp_gt X (pc := 47) (tgt := 89) (zw_dg dk_M_right 26 rfl) (by decide) (fun q16 => ?_) (fun q16 => ?_)
      · --
        have p15 : ¬ (k10 ≤ (c11.1 71 1)) := (Int32.not_le.mpr q16)
        have hsem := zw_ifn p15 hsem
        have jj := hK _ (Option.some.inj hsem).symm
        exact (r_fgt [5] rfl jj)
      · --
        have p15 : (k10 ≤ (c11.1 71 1)) := (Int32.not_lt.mp q16)
        have hsem := zw_ifp p15 hsem
        refine r_aload_n X (pc := 50) (i := 0) (zw_dg dk_M_right 27 rfl) rfl rfl ?_
        refine r_iload_n X (pc := 51) (i := 1) (zw_dg dk_M_right 28 rfl) rfl rfl ?_
        refine r_iload_n X (pc := 52) (i := 2) (zw_dg dk_M_right 29 rfl) rfl rfl ?_
        refine r_iload X (pc := 53) (i := 5) (zw_dg dk_M_right 30 rfl) rfl ?_
        obtain ⟨⟨r17, c18⟩, hr17_c18, hsem⟩ := zw_bd hsem
        refine r_callVi X (pc := 55) (As := [_, _, _]) (st := []) (km_M_countOf hS hr17_c18) ce_M_countOf kw_1982 (zo hS 71 rfl rfl) rfl rfl ⟨Nat.le_of_ble_eq_true rfl, Nat.le_of_ble_eq_true rfl⟩ (Nat.le_of_ble_eq_true rfl) (zw_dg dk_M_right 31 rfl) ?_
        refine r_istore X (pc := 58) (i := 6) (zw_dg dk_M_right 32 rfl) (by decide) rfl ?_
        refine r_iload X (pc := 60) (i := 4) (zw_dg dk_M_right 33 rfl) rfl ?_
        refine r_iload X (pc := 62) (i := 6) (zw_dg dk_M_right 34 rfl) rfl ?_
        refine r_iload X (pc := 64) (i := 5) (zw_dg dk_M_right 35 rfl) rfl ?_
        refine r_imul X (pc := 66) (zw_dg dk_M_right 36 rfl)  ?_
        refine r_aload_n X (pc := 67) (i := 0) (zw_dg dk_M_right 37 rfl) rfl rfl ?_
        refine r_getI X (pc := 68) ci_M (zo hS 71 rfl rfl) rfl lk_M_13 (zw_dg dk_M_right 38 rfl) ?_
        refine r_aload_n X (pc := 71) (i := 0) (zw_dg dk_M_right 39 rfl) rfl rfl ?_
        refine r_getI X (pc := 72) ci_M (zo hS 71 rfl rfl) rfl lk_M_344 (zw_dg dk_M_right 40 rfl) ?_
        refine r_imul X (pc := 75) (zw_dg dk_M_right 41 rfl)  ?_
        refine r_isub X (pc := 76) (zw_dg dk_M_right 42 rfl)  ?_
        refine r_mabs X (pc := 77) kw_1890 mws_abs kw_88 mwc_abs ⟨Nat.le_of_ble_eq_true rfl, Nat.le_of_ble_eq_true rfl⟩ (st := [.int off9]) (Nat.le_of_ble_eq_true rfl) (zw_dg dk_M_right 43 rfl) ?_
        refine r_iadd X (pc := 80) (zw_dg dk_M_right 44 rfl)  ?_
        obtain ⟨off19, hoff19, hsem⟩ := zw_bd hsem
        refine zw_topI hoff19 ?_
        refine r_istore X (pc := 81) (i := 4) (zw_dg dk_M_right 45 rfl) (by decide) rfl ?_
        refine r_iinc X (pc := 83) (i := 5) (k := 1) (zw_dg dk_M_right 46 rfl) rfl (by decide) (by decide) rfl ?_
        refine r_goto X (pc := 86) (tgt := 41) (zw_dg dk_M_right 47 rfl) (by decide) ?_
        have jj := hP _ (Option.some.inj hsem).symm
        exact (r_fgt [6] rfl jj)
    obtain ⟨off12, c13⟩ := l14
    have hsem := hsl14
    refine r_aload_n X (pc := 89) (i := 0) (zw_dg dk_M_right 48 rfl) rfl rfl ?_
    refine r_iload_n X (pc := 90) (i := 1) (zw_dg dk_M_right 49 rfl) rfl rfl ?_
    refine r_iload_n X (pc := 91) (i := 2) (zw_dg dk_M_right 50 rfl) rfl rfl ?_
    refine r_iload_n X (pc := 92) (i := 3) (zw_dg dk_M_right 51 rfl) rfl rfl ?_
    obtain ⟨⟨r20, c21⟩, hr20_c21, hsem⟩ := zw_bd hsem
    refine r_callVi X (pc := 93) (As := [_, _, _]) (st := []) (km_M_countOf hS hr20_c21) ce_M_countOf kw_1982 (zo hS 71 rfl rfl) rfl rfl ⟨Nat.le_of_ble_eq_true rfl, Nat.le_of_ble_eq_true rfl⟩ (Nat.le_of_ble_eq_true rfl) (zw_dg dk_M_right 52 rfl) ?_
    refine r_istore X (pc := 96) (i := 5) (zw_dg dk_M_right 53 rfl) (by decide) rfl ?_
    refine r_aload_n X (pc := 98) (i := 0) (zw_dg dk_M_right 54 rfl) rfl rfl ?_
    refine r_iconst X (pc := 99) (v := 0) (zw_dg dk_M_right 55 rfl) (by decide) ?_
    refine r_putI X (pc := 100) ci_M (zo hS 71 rfl rfl) rfl lk_M_100 rfl ⟨rfl, rfl⟩ (zw_dg dk_M_right 56 rfl) ?_
    obtain ⟨c22, hc22, hsem⟩ := zw_bd hsem
    refine zw_topC hc22 ?_
    refine r_aload_n X (pc := 103) (i := 0) (zw_dg dk_M_right 57 rfl) rfl rfl ?_
    refine r_aload_n X (pc := 104) (i := 0) (zw_dg dk_M_right 58 rfl) rfl rfl ?_
    refine r_getI X (pc := 105) ci_M (zo hS 71 rfl rfl) rfl lk_M_344 (zw_dg dk_M_right 59 rfl) ?_
    refine r_i2l X (pc := 108) (zw_dg dk_M_right 60 rfl)  ?_
    obtain ⟨c23, hc23, hsem⟩ := zw_bd hsem
    refine r_callVv X (pc := 109) (As := [_]) (st := []) (km_M_tell hS hc23) ce_M_tell kw_1704 (zo hS 71 rfl rfl) rfl rfl ⟨Nat.le_of_ble_eq_true rfl, Nat.le_of_ble_eq_true rfl⟩ (Nat.le_of_ble_eq_true rfl) (zw_dg dk_M_right 61 rfl) ?_
    refine r_aload_n X (pc := 112) (i := 0) (zw_dg dk_M_right 62 rfl) rfl rfl ?_
    refine r_iload X (pc := 113) (i := 4) (zw_dg dk_M_right 63 rfl) rfl ?_
    refine r_i2l X (pc := 115) (zw_dg dk_M_right 64 rfl)  ?_
    obtain ⟨c24, hc24, hsem⟩ := zw_bd hsem
    refine r_callVv X (pc := 116) (As := [_]) (st := []) (km_M_tell hS hc24) ce_M_tell kw_1704 (zo hS 71 rfl rfl) rfl rfl ⟨Nat.le_of_ble_eq_true rfl, Nat.le_of_ble_eq_true rfl⟩ (Nat.le_of_ble_eq_true rfl) (zw_dg dk_M_right 65 rfl) ?_
    refine r_iload X (pc := 119) (i := 5) (zw_dg dk_M_right 66 rfl) rfl ?_
    obtain ⟨rfl, rfl⟩ := zw_in2 hsem
    exact r_iret X (pc := 121) rfl (zw_dg dk_M_right 67 rfl)
def y_M_meant : MethodName := ⟨R_M, "meant", "(I)I"⟩
abbrev b_M_meant : ByteArray := prog_14_method_97_code
def dl_M_meant : List (Nat × Instr × Nat) := [(0, .aload_n 0, 1), (1, .iconst 0, 1), (2, .putfield 97, 3), (5, .iload_n 1, 1), (6, .i2l, 1), (7, .lconst 0, 1), (8, .ldc2_w 333, 3), (11, .invokestatic 120, 3), (14, .ifCond .eq 14, 3), (17, .aload_n 0, 1), (18, .getfield 136, 3), (21, .iload_n 1, 1), (22, .ishr, 1), (23, .iconst 1, 1), (24, .iand, 1), (25, .ifCond .ne 5, 3), (28, .iconst (-1), 1), (29, .ireturn, 1), (30, .iconst 0, 1), (31, .istore_n 2, 1), (32, .iconst 0, 1), (33, .istore_n 3, 1), (34, .iconst 0, 1), (35, .istore 4, 2), (37, .iload 4, 2), (39, .aload_n 0, 1), (40, .getfield 133, 3), (43, .if_icmp .ge 48, 3), (46, .aload_n 0, 1), (47, .iload_n 1, 1), (48, .aload_n 0, 1), (49, .getfield 79, 3), (52, .iload 4, 2), (54, .iaload, 1), (55, .invokevirtual 335, 3), (58, .ifCond .ne 6, 3), (61, .goto 24, 3), (64, .iinc 2 1, 3), (67, .iload_n 3, 1), (68, .aload_n 0, 1), (69, .getfield 82, 3), (72, .iload 4, 2), (74, .iaload, 1), (75, .ifCond .ne 7, 3), (78, .iconst 1, 1), (79, .goto 4, 3), (82, .iconst 0, 1), (83, .iadd, 1), (84, .istore_n 3, 1), (85, .iinc 4 1, 3), (88, .goto (-51), 3), (91, .aload_n 0, 1), (92, .iconst 0, 1), (93, .putfield 100, 3), (96, .aload_n 0, 1), (97, .iload_n 3, 1), (98, .i2l, 1), (99, .invokevirtual 109, 3), (102, .aload_n 0, 1), (103, .iload_n 2, 1), (104, .ifCond .le 38, 3), (107, .iload_n 3, 1), (108, .aload_n 0, 1), (109, .getfield 13, 3), (112, .imul, 1), (113, .i2l, 1), (114, .aload_n 0, 1), (115, .getfield 70, 3), (118, .iload_n 1, 1), (119, .iaload, 1), (120, .iload_n 2, 1), (121, .imul, 1), (122, .i2l, 1), (123, .aload_n 0, 1), (124, .getfield 73, 3), (127, .iload_n 1, 1), (128, .iaload, 1), (129, .iload_n 2, 1), (130, .imul, 1), (131, .i2l, 1), (132, .invokestatic 120, 3), (135, .ifCond .eq 7, 3), (138, .lconst 1, 1), (139, .goto 4, 3), (142, .lconst 0, 1), (143, .invokevirtual 109, 3), (146, .iload_n 2, 1), (147, .ireturn, 1)]
theorem dk_M_meant : zw_dk b_M_meant dl_M_meant = true := by decide +kernel
theorem ce_M_meant : zw_cev y_M_meant b_M_meant 5 (some .int) 1 := ⟨⟨kt_in 1989 (by decide +kernel) rfl, kt_in 98 (by decide +kernel) rfl, by decide +kernel⟩, kt_in 1987 (by decide +kernel) rfl, kt_in 1988 (by decide +kernel) rfl⟩
def fn_M_meant_l1 (c3 : zw_Ct) (i1 : Int32) : Int32 × Int32 × Int32 → Option ((Int32 × Int32) ⊕ (Int32 × Int32 × Int32)) := fun (n7, zero8, k9) =>
  if (k9 < (c3.1 71 33)) then
  ((zw_aI 40 c3 95 k9).bind fun x15 =>
  (fn_M_isSaid c3 i1 x15).bind fun r16 =>
  if (¬ (¬ r16 = 0)) then
  (some (.inr (n7, zero8, (k9 + 1))))
  else
  ((zw_aI 40 c3 96 k9).bind fun x19 =>
  (some ((zero8 + (if (x19 = 0) then (1 : Int32) else 0)) : Int32)).bind fun zero21 =>
  some (.inr ((n7 + 1), zero21, (k9 + 1)))))
  else
  (some (.inl (n7, zero8)))
def fn_M_meant (c : zw_Ct) (i1 : Int32) : Option (Int32 × zw_Ct) :=
  (some (zw_wI c 71 9 0)).bind fun c3 =>
  if ((¬ (¬ (fn_M_in i1.toInt64 0 5) = 0)) ∨ ((((c3.1 71 30) >>> (i1 &&& 31)) &&& 1) = 0)) then
  (some ((-1), c3))
  else
  ((zw_whl (fn_M_meant_l1 c3 i1) zw_F (0, 0, 0)).bind fun (n10, zero11) =>
  (some (zw_wI c3 71 8 0)).bind fun c22 =>
  (fn_M_tell c22 zero11.toInt64).bind fun c23 =>
  ((if (0 < n10) then
  ((zw_aI 6 c23 92 i1).bind fun x27 =>
  (zw_aI 6 c23 93 i1).bind fun x28 =>
  some (decide (¬ (fn_M_in ((zero11 * (c23.1 71 1))).toInt64 ((x27 * n10)).toInt64 ((x28 * n10)).toInt64) = 0)))
  else some false).bind fun b25 =>
  if b25 = true then
  (some (1 : Int64))
  else
  (some (0 : Int64))).bind fun v24 =>
  (fn_M_tell c23 v24).bind fun c30 =>
  some (n10, c30))
set_option maxRecDepth 100000 in
theorem km_M_meant {l : Launch} {g : zw_G} {rr : zw_RR} {sh : zw_Sh} {c : zw_Ct} {i1 : Int32} {r : Int32} {c2 : zw_Ct} (hS : zw_Ok 0 101 sh rr) (hsem : fn_M_meant c i1 = some (r, c2)) : zw_Met l g y_M_meant b_M_meant 5 (some .int) 3 rr sh [.ref 71, .int i1] c (some (.int r)) c2 := by
  unfold fn_M_meant at hsem
  refine zw_Met.of (by decide +kernel) (Nat.le_of_ble_eq_true rfl) (fun p e s m args below meth cd X => ?_)
  refine zw_eL (L2 := [some (.ref 71), some (.int i1), none, none, none]) rfl ?_
  refine r_aload_n X (pc := 0) (i := 0) (zw_dg dk_M_meant 0 rfl) rfl rfl ?_
  refine r_iconst X (pc := 1) (v := 0) (zw_dg dk_M_meant 1 rfl) (by decide) ?_
  refine r_putI X (pc := 2) ci_M (zo hS 71 rfl rfl) rfl lk_M_97 rfl ⟨rfl, rfl⟩ (zw_dg dk_M_meant 2 rfl) ?_
  obtain ⟨c3, hc3, hsem⟩ := zw_bd hsem
  refine zw_topC hc3 ?_
  refine zw_cnd (P := ((¬ (¬ (fn_M_in i1.toInt64 0 5) = 0)) ∨ ((((c3.1 71 30) >>> (i1 &&& 31)) &&& 1) = 0))) (J1 := 28) (J2 := 30) (st2 := []) (fun jT jF => ?_) (fun p4 => ?_) (fun p4 => ?_)
  · --
    refine r_iload_n X (pc := 5) (i := 1) (zw_dg dk_M_meant 3 rfl) rfl rfl ?_
    refine r_i2l X (pc := 6) (zw_dg dk_M_meant 4 rfl)  ?_
    refine r_lconst X (pc := 7) (v := 0) (zw_dg dk_M_meant 5 rfl) (by decide) ?_
    refine r_ldc2 X (pc := 8) (v := 5) kw_1945 (zw_dg dk_M_meant 6 rfl) ?_
    refine r_callSi X (pc := 11) (As := [_, _, _]) (st := []) (km_M_in hS rfl) ce_M_in kw_1597 rfl ⟨Nat.le_of_ble_eq_true rfl, Nat.le_of_ble_eq_true rfl⟩ (Nat.le_of_ble_eq_true rfl) (zw_dg dk_M_meant 7 rfl) ?_
    refine r_if_eq X (pc := 14) (tgt := 28) (zw_dg dk_M_meant 8 rfl) (by decide) (fun q5 => ?_) (fun q5 => ?_)
    · --
      exact jT (Or.inl (fun z => z q5))
    · --
      refine r_aload_n X (pc := 17) (i := 0) (zw_dg dk_M_meant 9 rfl) rfl rfl ?_
      refine r_getI X (pc := 18) ci_M (zo hS 71 rfl rfl) rfl lk_M_136 (zw_dg dk_M_meant 10 rfl) ?_
      refine r_iload_n X (pc := 21) (i := 1) (zw_dg dk_M_meant 11 rfl) rfl rfl ?_
      refine r_ishr X (pc := 22) (zw_dg dk_M_meant 12 rfl)  ?_
      refine r_iconst X (pc := 23) (v := 1) (zw_dg dk_M_meant 13 rfl) (by decide) ?_
      refine r_iand X (pc := 24) (zw_dg dk_M_meant 14 rfl)  ?_
      refine r_if_ne X (pc := 25) (tgt := 30) (zw_dg dk_M_meant 15 rfl) (by decide) (fun q6 => ?_) (fun q6 => ?_)
      · --
        exact jF (fun q => q.elim (fun q => q q5) q6)
      · --
        exact jT (Or.inr q6)
  · --
    have hsem := zw_ifp p4 hsem
    refine r_iconst X (pc := 28) (v := (-1)) (zw_dg dk_M_meant 16 rfl) (by decide) ?_
    obtain ⟨rfl, rfl⟩ := zw_in2 hsem
    exact r_iret X (pc := 29) rfl (zw_dg dk_M_meant 17 rfl)
  · --
    have hsem := zw_ifn p4 hsem
    refine r_iconst X (pc := 30) (v := 0) (zw_dg dk_M_meant 18 rfl) (by decide) ?_
    refine r_istore_n X (pc := 31) (i := 2) (zw_dg dk_M_meant 19 rfl) rfl (by decide) rfl ?_
    refine r_iconst X (pc := 32) (v := 0) (zw_dg dk_M_meant 20 rfl) (by decide) ?_
    refine r_istore_n X (pc := 33) (i := 3) (zw_dg dk_M_meant 21 rfl) rfl (by decide) rfl ?_
    refine r_iconst X (pc := 34) (v := 0) (zw_dg dk_M_meant 22 rfl) (by decide) ?_
    refine r_istore X (pc := 35) (i := 4) (zw_dg dk_M_meant 23 rfl) (by decide) rfl ?_
    obtain ⟨l12, hl12, hsl12⟩ := zw_bd hsem
    refine r_loop (pc := 37) (pce := 91) hl12 (fun (n7, zero8, k9) => [some (.ref 71), some (.int i1), some (.int n7), some (.int zero8), some (.int k9)] : Int32 × Int32 × Int32 → zw_Lc) (fun (n7, zero8, k9) => c3 : Int32 × Int32 × Int32 → zw_Ct) (fun (n10, zero11) => [some (.ref 71), some (.int i1), some (.int n10), some (.int zero11), none] : Int32 × Int32 → zw_Lc) (fun (n10, zero11) => c3 : Int32 × Int32 → zw_Ct) ?_ rfl rfl ?_
    · rintro ⟨n7, zero8, k9⟩ rr hsem hK hP
      try unfold fn_M_meant_l1 at hsem
      refine r_iload X (pc := 37) (i := 4) (zw_dg dk_M_meant 24 rfl) rfl ?_
      refine r_aload_n X (pc := 39) (i := 0) (zw_dg dk_M_meant 25 rfl) rfl rfl ?_
      refine r_getI X (pc := 40) ci_M (zo hS 71 rfl rfl) rfl lk_M_133 (zw_dg dk_M_meant 26 rfl) ?_
      refine r_icmp_ge X (pc := 43) (tgt := 91) (zw_dg dk_M_meant 27 rfl) (by decide) (fun q14 => ?_) (fun q14 => ?_)
      · --
        have p13 : ¬ (k9 < (c3.1 71 33)) := (Int32.not_lt.mpr q14)
        have hsem := zw_ifn p13 hsem
        have jj := hK _ (Option.some.inj hsem).symm
        exact (r_fgt [4] rfl jj)
      · --
        have p13 : (k9 < (c3.1 71 33)) := (Int32.not_le.mp q14)
        have hsem := zw_ifp p13 hsem
        refine r_aload_n X (pc := 46) (i := 0) (zw_dg dk_M_meant 28 rfl) rfl rfl ?_
        refine r_iload_n X (pc := 47) (i := 1) (zw_dg dk_M_meant 29 rfl) rfl rfl ?_
        refine r_aload_n X (pc := 48) (i := 0) (zw_dg dk_M_meant 30 rfl) rfl rfl ?_
        refine r_getR X (pc := 49) (r := 95) ci_M (zo hS 71 rfl rfl) rfl (zr hS 71 35 rfl rfl) lk_M_79 (zw_dg dk_M_meant 31 rfl) ?_
        refine r_iload X (pc := 52) (i := 4) (zw_dg dk_M_meant 32 rfl) rfl ?_
        obtain ⟨x15, hx15, hsem⟩ := zw_bd hsem
        refine r_iald X (pc := 54) (zo hS 95 rfl rfl) hx15 (zw_dg dk_M_meant 33 rfl) ?_
        obtain ⟨r16, hr16, hsem⟩ := zw_bd hsem
        refine r_callVi X (pc := 55) (As := [_, _]) (st := []) (km_M_isSaid hS hr16) ce_M_isSaid kw_1950 (zo hS 71 rfl rfl) rfl rfl ⟨Nat.le_of_ble_eq_true rfl, Nat.le_of_ble_eq_true rfl⟩ (Nat.le_of_ble_eq_true rfl) (zw_dg dk_M_meant 34 rfl) ?_
        refine r_if_ne X (pc := 58) (tgt := 64) (zw_dg dk_M_meant 35 rfl) (by decide) (fun q18 => ?_) (fun q18 => ?_)
        · --
          have p17 : ¬ (¬ (¬ r16 = 0)) := (fun q => q q18)
          have hsem := zw_ifn p17 hsem
          refine r_iinc X (pc := 64) (i := 2) (k := 1) (zw_dg dk_M_meant 37 rfl) rfl (by decide) (by decide) rfl ?_
          refine r_iload_n X (pc := 67) (i := 3) (zw_dg dk_M_meant 38 rfl) rfl rfl ?_
          refine r_aload_n X (pc := 68) (i := 0) (zw_dg dk_M_meant 39 rfl) rfl rfl ?_
          refine r_getR X (pc := 69) (r := 96) ci_M (zo hS 71 rfl rfl) rfl (zr hS 71 36 rfl rfl) lk_M_82 (zw_dg dk_M_meant 40 rfl) ?_
          refine r_iload X (pc := 72) (i := 4) (zw_dg dk_M_meant 41 rfl) rfl ?_
          obtain ⟨x19, hx19, hsem⟩ := zw_bd hsem
          refine r_iald X (pc := 74) (zo hS 96 rfl rfl) hx19 (zw_dg dk_M_meant 42 rfl) ?_
          refine zw_ter (P := (x19 = 0)) (f := Value.int) (x := 1) (y := 0) (J := 83) (st2 := [.int zero8]) (fun jT jF => ?_) ?_
          · --
            refine r_if_ne X (pc := 75) (tgt := 82) (zw_dg dk_M_meant 43 rfl) (by decide) (fun q20 => ?_) (fun q20 => ?_)
            · --
              refine r_iconst X (pc := 82) (v := 0) (zw_dg dk_M_meant 46 rfl) (by decide) ?_
              exact jF q20
            · --
              refine r_iconst X (pc := 78) (v := 1) (zw_dg dk_M_meant 44 rfl) (by decide) ?_
              refine r_goto X (pc := 79) (tgt := 83) (zw_dg dk_M_meant 45 rfl) (by decide) ?_
              exact jT q20
          refine r_iadd X (pc := 83) (zw_dg dk_M_meant 47 rfl)  ?_
          obtain ⟨zero21, hzero21, hsem⟩ := zw_bd hsem
          refine zw_topI hzero21 ?_
          refine r_istore_n X (pc := 84) (i := 3) (zw_dg dk_M_meant 48 rfl) rfl (by decide) rfl ?_
          refine r_iinc X (pc := 85) (i := 4) (k := 1) (zw_dg dk_M_meant 49 rfl) rfl (by decide) (by decide) rfl ?_
          refine r_goto X (pc := 88) (tgt := 37) (zw_dg dk_M_meant 50 rfl) (by decide) ?_
          have jj := hP _ (Option.some.inj hsem).symm
          exact (r_fgt [] rfl jj)
        · --
          have p17 : (¬ (¬ r16 = 0)) := (fun z => z q18)
          have hsem := zw_ifp p17 hsem
          refine r_goto X (pc := 61) (tgt := 85) (zw_dg dk_M_meant 36 rfl) (by decide) ?_
          refine r_iinc X (pc := 85) (i := 4) (k := 1) (zw_dg dk_M_meant 49 rfl) rfl (by decide) (by decide) rfl ?_
          refine r_goto X (pc := 88) (tgt := 37) (zw_dg dk_M_meant 50 rfl) (by decide) ?_
          have jj := hP _ (Option.some.inj hsem).symm
          exact (r_fgt [] rfl jj)
    obtain ⟨n10, zero11⟩ := l12
    have hsem := hsl12
    refine r_aload_n X (pc := 91) (i := 0) (zw_dg dk_M_meant 51 rfl) rfl rfl ?_
    refine r_iconst X (pc := 92) (v := 0) (zw_dg dk_M_meant 52 rfl) (by decide) ?_
    refine r_putI X (pc := 93) ci_M (zo hS 71 rfl rfl) rfl lk_M_100 rfl ⟨rfl, rfl⟩ (zw_dg dk_M_meant 53 rfl) ?_
    obtain ⟨c22, hc22, hsem⟩ := zw_bd hsem
    refine zw_topC hc22 ?_
    refine r_aload_n X (pc := 96) (i := 0) (zw_dg dk_M_meant 54 rfl) rfl rfl ?_
    refine r_iload_n X (pc := 97) (i := 3) (zw_dg dk_M_meant 55 rfl) rfl rfl ?_
    refine r_i2l X (pc := 98) (zw_dg dk_M_meant 56 rfl)  ?_
    obtain ⟨c23, hc23, hsem⟩ := zw_bd hsem
    refine r_callVv X (pc := 99) (As := [_]) (st := []) (km_M_tell hS hc23) ce_M_tell kw_1704 (zo hS 71 rfl rfl) rfl rfl ⟨Nat.le_of_ble_eq_true rfl, Nat.le_of_ble_eq_true rfl⟩ (Nat.le_of_ble_eq_true rfl) (zw_dg dk_M_meant 57 rfl) ?_
    refine r_aload_n X (pc := 102) (i := 0) (zw_dg dk_M_meant 58 rfl) rfl rfl ?_
    obtain ⟨v24, hv24, hsv24⟩ := zw_bd hsem
    refine zw_terO (f := Value.long) (v := v24) (J := 143) (st2 := [.ref 71]) (c2 := c23) (fun jj => ?_) ?_
    · have hsem := hv24
      obtain ⟨b25, hb25, hsb25⟩ := zw_bd hsem
      refine zw_cndB (b := b25) (J1 := 138) (J2 := 142) (st2 := [.ref 71]) (fun jT jF => ?_) (fun hbb25 => ?_) (fun hbb25 => ?_)
      · have hsem := hb25
        refine r_iload_n X (pc := 103) (i := 2) (zw_dg dk_M_meant 59 rfl) rfl rfl ?_
        refine r_if_le X (pc := 104) (tgt := 142) (zw_dg dk_M_meant 60 rfl) (by decide) (fun q26 => ?_) (fun q26 => ?_)
        · --
          have hsem := zw_ifn (Int32.not_lt.mpr q26) hsem
          exact jF (Option.some.inj hsem).symm
        · --
          have hsem := zw_ifp (Int32.not_le.mp q26) hsem
          refine r_iload_n X (pc := 107) (i := 3) (zw_dg dk_M_meant 61 rfl) rfl rfl ?_
          refine r_aload_n X (pc := 108) (i := 0) (zw_dg dk_M_meant 62 rfl) rfl rfl ?_
          refine r_getI X (pc := 109) ci_M (zo hS 71 rfl rfl) rfl lk_M_13 (zw_dg dk_M_meant 63 rfl) ?_
          refine r_imul X (pc := 112) (zw_dg dk_M_meant 64 rfl)  ?_
          refine r_i2l X (pc := 113) (zw_dg dk_M_meant 65 rfl)  ?_
          refine r_aload_n X (pc := 114) (i := 0) (zw_dg dk_M_meant 66 rfl) rfl rfl ?_
          refine r_getR X (pc := 115) (r := 92) ci_M (zo hS 71 rfl rfl) rfl (zr hS 71 31 rfl rfl) lk_M_70 (zw_dg dk_M_meant 67 rfl) ?_
          refine r_iload_n X (pc := 118) (i := 1) (zw_dg dk_M_meant 68 rfl) rfl rfl ?_
          obtain ⟨x27, hx27, hsem⟩ := zw_bd hsem
          refine r_iald X (pc := 119) (zo hS 92 rfl rfl) hx27 (zw_dg dk_M_meant 69 rfl) ?_
          refine r_iload_n X (pc := 120) (i := 2) (zw_dg dk_M_meant 70 rfl) rfl rfl ?_
          refine r_imul X (pc := 121) (zw_dg dk_M_meant 71 rfl)  ?_
          refine r_i2l X (pc := 122) (zw_dg dk_M_meant 72 rfl)  ?_
          refine r_aload_n X (pc := 123) (i := 0) (zw_dg dk_M_meant 73 rfl) rfl rfl ?_
          refine r_getR X (pc := 124) (r := 93) ci_M (zo hS 71 rfl rfl) rfl (zr hS 71 32 rfl rfl) lk_M_73 (zw_dg dk_M_meant 74 rfl) ?_
          refine r_iload_n X (pc := 127) (i := 1) (zw_dg dk_M_meant 75 rfl) rfl rfl ?_
          obtain ⟨x28, hx28, hsem⟩ := zw_bd hsem
          refine r_iald X (pc := 128) (zo hS 93 rfl rfl) hx28 (zw_dg dk_M_meant 76 rfl) ?_
          refine r_iload_n X (pc := 129) (i := 2) (zw_dg dk_M_meant 77 rfl) rfl rfl ?_
          refine r_imul X (pc := 130) (zw_dg dk_M_meant 78 rfl)  ?_
          refine r_i2l X (pc := 131) (zw_dg dk_M_meant 79 rfl)  ?_
          refine r_callSi X (pc := 132) (As := [_, _, _]) (st := [.ref 71]) (km_M_in hS rfl) ce_M_in kw_1597 rfl ⟨Nat.le_of_ble_eq_true rfl, Nat.le_of_ble_eq_true rfl⟩ (Nat.le_of_ble_eq_true rfl) (zw_dg dk_M_meant 80 rfl) ?_
          refine r_if_eq X (pc := 135) (tgt := 142) (zw_dg dk_M_meant 81 rfl) (by decide) (fun q29 => ?_) (fun q29 => ?_)
          · --
            exact jF (zw_dF hsem (fun z => z q29))
          · --
            exact jT (zw_dT hsem q29)
      · have hsem := zw_ifp hbb25 hsb25
        refine r_lconst X (pc := 138) (v := 1) (zw_dg dk_M_meant 82 rfl) (by decide) ?_
        refine r_goto X (pc := 139) (tgt := 143) (zw_dg dk_M_meant 83 rfl) (by decide) ?_
        cases hsem; exact jj
      · have hsem := zw_ifn (by rw [hbb25]; exact Bool.false_ne_true) hsb25
        refine r_lconst X (pc := 142) (v := 0) (zw_dg dk_M_meant 84 rfl) (by decide) ?_
        cases hsem; exact jj
    have hsem := hsv24
    obtain ⟨c30, hc30, hsem⟩ := zw_bd hsem
    refine r_callVv X (pc := 143) (As := [_]) (st := []) (km_M_tell hS hc30) ce_M_tell kw_1704 (zo hS 71 rfl rfl) rfl rfl ⟨Nat.le_of_ble_eq_true rfl, Nat.le_of_ble_eq_true rfl⟩ (Nat.le_of_ble_eq_true rfl) (zw_dg dk_M_meant 85 rfl) ?_
    refine r_iload_n X (pc := 146) (i := 2) (zw_dg dk_M_meant 86 rfl) rfl rfl ?_
    obtain ⟨rfl, rfl⟩ := zw_in2 hsem
    exact r_iret X (pc := 147) rfl (zw_dg dk_M_meant 87 rfl)
def y_M_thinks : MethodName := ⟨R_M, "thinks", "(II)I"⟩
abbrev b_M_thinks : ByteArray := prog_14_method_98_code
def dl_M_thinks : List (Nat × Instr × Nat) := [(0, .aload_n 0, 1), (1, .iconst 0, 1), (2, .putfield 97, 3), (5, .aload_n 0, 1), (6, .iload_n 1, 1), (7, .invokevirtual 222, 3), (10, .ifCond .eq 11, 3), (13, .aload_n 0, 1), (14, .iload_n 2, 1), (15, .invokevirtual 302, 3), (18, .ifCond .ne 5, 3), (21, .iconst (-1), 1), (22, .ireturn, 1), (23, .aload_n 0, 1), (24, .iload_n 1, 1), (25, .invokevirtual 229, 3), (28, .iconst 0, 1), (29, .istore_n 3, 1), (30, .iconst (-1), 1), (31, .istore 4, 2), (33, .iconst (-1), 1), (34, .istore 5, 2), (36, .iconst 0, 1), (37, .istore 6, 2), (39, .iload 6, 2), (41, .aload_n 0, 1), (42, .getfield 113, 3), (45, .if_icmp .ge 108, 3), (48, .aload_n 0, 1), (49, .iload 6, 2), (51, .invokevirtual 244, 3), (54, .lstore 7, 2), (56, .iconst 1, 1), (57, .istore 9, 2), (59, .iconst 0, 1), (60, .istore 10, 2), (62, .iload 10, 2), (64, .aload_n 0, 1), (65, .getfield 133, 3), (68, .if_icmp .ge 51, 3), (71, .iload 9, 2), (73, .ifCond .eq 37, 3), (76, .aload_n 0, 1), (77, .getfield 76, 3), (80, .iload 10, 2), (82, .iaload, 1), (83, .iload_n 2, 1), (84, .if_icmp .ne 22, 3), (87, .aload_n 0, 1), (88, .aload_n 0, 1), (89, .getfield 79, 3), (92, .iload 10, 2), (94, .iaload, 1), (95, .iload 6, 2), (97, .invokevirtual 233, 3), (100, .lload 7, 2), (102, .lcmp, 1), (103, .ifCond .ne 7, 3), (106, .iconst 1, 1), (107, .goto 4, 3), (110, .iconst 0, 1), (111, .istore 9, 2), (113, .iinc 10 1, 3), (116, .goto (-54), 3), (119, .iload 9, 2), (121, .ifCond .ne 6, 3), (124, .goto 23, 3), (127, .iload_n 3, 1), (128, .ifCond .ne 8, 3), (131, .iload 6, 2), (133, .goto 5, 3), (136, .iload 4, 2), (138, .istore 4, 2), (140, .iload 6, 2), (142, .istore 5, 2), (144, .iinc 3 1, 3), (147, .iinc 6 1, 3), (150, .goto (-111), 3), (153, .aload_n 0, 1), (154, .iconst 0, 1), (155, .putfield 100, 3), (158, .iload_n 3, 1), (159, .ifCond .le 17, 3), (162, .aload_n 0, 1), (163, .iload 4, 2), (165, .i2l, 1), (166, .invokevirtual 109, 3), (169, .aload_n 0, 1), (170, .iload 5, 2), (172, .i2l, 1), (173, .invokevirtual 109, 3), (176, .iload_n 3, 1), (177, .ireturn, 1)]
theorem dk_M_thinks : zw_dk b_M_thinks dl_M_thinks = true := by decide +kernel
theorem ce_M_thinks : zw_cev y_M_thinks b_M_thinks 11 (some .int) 2 := ⟨⟨kt_in 1993 (by decide +kernel) rfl, kt_in 98 (by decide +kernel) rfl, by decide +kernel⟩, kt_in 1991 (by decide +kernel) rfl, kt_in 1992 (by decide +kernel) rfl⟩
def fn_M_thinks_l2 (c8 : zw_Ct) (who2 : Int32) (t12 : Int32) (r19 : Int64) : Int32 × Int32 → Option ((Int32) ⊕ (Int32 × Int32)) := fun (is20, k21) =>
  if (k21 < (c8.1 71 33)) then
  ((if (¬ is20 = 0) then
  ((zw_aI 40 c8 94 k21).bind fun x28 =>
  if (¬ x28 = who2) then some true else
  ((zw_aI 40 c8 95 k21).bind fun x30 =>
  (fn_M_worth c8 x30 t12).bind fun r31 =>
  some (decide (r31 = r19))))
  else some false).bind fun b26 =>
  (some ((if b26 = true then (1 : Int32) else 0) : Int32)).bind fun is33 =>
  some (.inr (is33, (k21 + 1))))
  else
  (some (.inl is20))
def fn_M_thinks_l1 (c8 : zw_Ct) (who2 : Int32) : Int32 × Int32 × Int32 × Int32 → Option ((Int32 × Int32 × Int32) ⊕ (Int32 × Int32 × Int32 × Int32)) := fun (first9, last10, n11, t12) =>
  if (t12 < (c8.1 71 2)) then
  ((fn_M_bestWorth c8 t12).bind fun r19 =>
  (zw_whl (fn_M_thinks_l2 c8 who2 t12 r19) zw_F (1, 0)).bind fun is22 =>
  if (¬ (¬ is22 = 0)) then
  (some (.inr (first9, last10, n11, (t12 + 1))))
  else
  ((some ((if (n11 = 0) then (t12 : Int32) else first9) : Int32)).bind fun first37 =>
  some (.inr (first37, t12, (n11 + 1), (t12 + 1)))))
  else
  (some (.inl (first9, last10, n11)))
def fn_M_thinks (c : zw_Ct) (p1 : Int32) (who2 : Int32) : Option (Int32 × zw_Ct) :=
  (some (zw_wI c 71 9 0)).bind fun c3 =>
  (fn_M_isPay c3 p1).bind fun r4 =>
  if ((¬ (¬ r4 = 0)) ∨ (¬ (¬ (fn_M_isOne c3 who2) = 0))) then
  (some ((-1), c3))
  else
  ((fn_M_layPay c3 p1).bind fun c8 =>
  (zw_whl (fn_M_thinks_l1 c8 who2) zw_F ((-1), (-1), 0, 0)).bind fun (first13, last14, n15) =>
  (some (zw_wI c8 71 8 0)).bind fun c38 =>
  (if (0 < n15) then
  ((fn_M_tell c38 first13.toInt64).bind fun c42 =>
  (fn_M_tell c42 last14.toInt64).bind fun c43 =>
  some c43)
  else
  (some c38)).bind fun c39 =>
  some (n15, c39))
set_option maxRecDepth 100000 in
theorem km_M_thinks {l : Launch} {g : zw_G} {rr : zw_RR} {sh : zw_Sh} {c : zw_Ct} {p1 : Int32} {who2 : Int32} {r : Int32} {c2 : zw_Ct} (hS : zw_Ok 0 101 sh rr) (hsem : fn_M_thinks c p1 who2 = some (r, c2)) : zw_Met l g y_M_thinks b_M_thinks 11 (some .int) 107 rr sh [.ref 71, .int p1, .int who2] c (some (.int r)) c2 := by
  unfold fn_M_thinks at hsem
  refine zw_Met.of (by decide +kernel) (Nat.le_of_ble_eq_true rfl) (fun p e s m args below meth cd X => ?_)
  refine zw_eL (L2 := [some (.ref 71), some (.int p1), some (.int who2), none, none, none, none, none, none, none, none]) rfl ?_
  refine r_aload_n X (pc := 0) (i := 0) (zw_dg dk_M_thinks 0 rfl) rfl rfl ?_
  refine r_iconst X (pc := 1) (v := 0) (zw_dg dk_M_thinks 1 rfl) (by decide) ?_
  refine r_putI X (pc := 2) ci_M (zo hS 71 rfl rfl) rfl lk_M_97 rfl ⟨rfl, rfl⟩ (zw_dg dk_M_thinks 2 rfl) ?_
  obtain ⟨c3, hc3, hsem⟩ := zw_bd hsem
  refine zw_topC hc3 ?_
  refine r_aload_n X (pc := 5) (i := 0) (zw_dg dk_M_thinks 3 rfl) rfl rfl ?_
  refine r_iload_n X (pc := 6) (i := 1) (zw_dg dk_M_thinks 4 rfl) rfl rfl ?_
  obtain ⟨r4, hr4, hsem⟩ := zw_bd hsem
  refine r_callVi X (pc := 7) (As := [_]) (st := []) (km_M_isPay hS hr4) ce_M_isPay kw_1688 (zo hS 71 rfl rfl) rfl rfl ⟨Nat.le_of_ble_eq_true rfl, Nat.le_of_ble_eq_true rfl⟩ (Nat.le_of_ble_eq_true rfl) (zw_dg dk_M_thinks 5 rfl) ?_
  refine zw_cnd (P := ((¬ (¬ r4 = 0)) ∨ (¬ (¬ (fn_M_isOne c3 who2) = 0)))) (J1 := 21) (J2 := 23) (st2 := []) (fun jT jF => ?_) (fun p5 => ?_) (fun p5 => ?_)
  · --
    refine r_if_eq X (pc := 10) (tgt := 21) (zw_dg dk_M_thinks 6 rfl) (by decide) (fun q6 => ?_) (fun q6 => ?_)
    · --
      exact jT (Or.inl (fun z => z q6))
    · --
      refine r_aload_n X (pc := 13) (i := 0) (zw_dg dk_M_thinks 7 rfl) rfl rfl ?_
      refine r_iload_n X (pc := 14) (i := 2) (zw_dg dk_M_thinks 8 rfl) rfl rfl ?_
      refine r_callVi X (pc := 15) (As := [_]) (st := []) (km_M_isOne hS rfl) ce_M_isOne kw_1870 (zo hS 71 rfl rfl) rfl rfl ⟨Nat.le_of_ble_eq_true rfl, Nat.le_of_ble_eq_true rfl⟩ (Nat.le_of_ble_eq_true rfl) (zw_dg dk_M_thinks 9 rfl) ?_
      refine r_if_ne X (pc := 18) (tgt := 23) (zw_dg dk_M_thinks 10 rfl) (by decide) (fun q7 => ?_) (fun q7 => ?_)
      · --
        exact jF (fun q => q.elim (fun q => q q6) (fun q => q q7))
      · --
        exact jT (Or.inr (fun z => z q7))
  · --
    have hsem := zw_ifp p5 hsem
    refine r_iconst X (pc := 21) (v := (-1)) (zw_dg dk_M_thinks 11 rfl) (by decide) ?_
    obtain ⟨rfl, rfl⟩ := zw_in2 hsem
    exact r_iret X (pc := 22) rfl (zw_dg dk_M_thinks 12 rfl)
  · --
    have hsem := zw_ifn p5 hsem
    refine r_aload_n X (pc := 23) (i := 0) (zw_dg dk_M_thinks 13 rfl) rfl rfl ?_
    refine r_iload_n X (pc := 24) (i := 1) (zw_dg dk_M_thinks 14 rfl) rfl rfl ?_
    obtain ⟨c8, hc8, hsem⟩ := zw_bd hsem
    refine r_callVv X (pc := 25) (As := [_]) (st := []) (km_M_layPay hS hc8) ce_M_layPay kw_1700 (zo hS 71 rfl rfl) rfl rfl ⟨Nat.le_of_ble_eq_true rfl, Nat.le_of_ble_eq_true rfl⟩ (Nat.le_of_ble_eq_true rfl) (zw_dg dk_M_thinks 15 rfl) ?_
    refine r_iconst X (pc := 28) (v := 0) (zw_dg dk_M_thinks 16 rfl) (by decide) ?_
    refine r_istore_n X (pc := 29) (i := 3) (zw_dg dk_M_thinks 17 rfl) rfl (by decide) rfl ?_
    refine r_iconst X (pc := 30) (v := (-1)) (zw_dg dk_M_thinks 18 rfl) (by decide) ?_
    refine r_istore X (pc := 31) (i := 4) (zw_dg dk_M_thinks 19 rfl) (by decide) rfl ?_
    refine r_iconst X (pc := 33) (v := (-1)) (zw_dg dk_M_thinks 20 rfl) (by decide) ?_
    refine r_istore X (pc := 34) (i := 5) (zw_dg dk_M_thinks 21 rfl) (by decide) rfl ?_
    refine r_iconst X (pc := 36) (v := 0) (zw_dg dk_M_thinks 22 rfl) (by decide) ?_
    refine r_istore X (pc := 37) (i := 6) (zw_dg dk_M_thinks 23 rfl) (by decide) rfl ?_
    obtain ⟨l16, hl16, hsl16⟩ := zw_bd hsem
    refine r_loop (pc := 39) (pce := 153) hl16 (fun (first9, last10, n11, t12) => [some (.ref 71), some (.int p1), some (.int who2), some (.int n11), some (.int first9), some (.int last10), some (.int t12), none, none, none, none] : Int32 × Int32 × Int32 × Int32 → zw_Lc) (fun (first9, last10, n11, t12) => c8 : Int32 × Int32 × Int32 × Int32 → zw_Ct) (fun (first13, last14, n15) => [some (.ref 71), some (.int p1), some (.int who2), some (.int n15), some (.int first13), some (.int last14), none, none, none, none, none] : Int32 × Int32 × Int32 → zw_Lc) (fun (first13, last14, n15) => c8 : Int32 × Int32 × Int32 → zw_Ct) ?_ rfl rfl ?_
    · rintro ⟨first9, last10, n11, t12⟩ rr hsem hK hP
      try unfold fn_M_thinks_l1 at hsem
      refine r_iload X (pc := 39) (i := 6) (zw_dg dk_M_thinks 24 rfl) rfl ?_
      refine r_aload_n X (pc := 41) (i := 0) (zw_dg dk_M_thinks 25 rfl) rfl rfl ?_
      refine r_getI X (pc := 42) ci_M (zo hS 71 rfl rfl) rfl lk_M_113 (zw_dg dk_M_thinks 26 rfl) ?_
      refine r_icmp_ge X (pc := 45) (tgt := 153) (zw_dg dk_M_thinks 27 rfl) (by decide) (fun q18 => ?_) (fun q18 => ?_)
      · --
        have p17 : ¬ (t12 < (c8.1 71 2)) := (Int32.not_lt.mpr q18)
        have hsem := zw_ifn p17 hsem
        have jj := hK _ (Option.some.inj hsem).symm
        exact (r_fgt [6] rfl jj)
      · --
        have p17 : (t12 < (c8.1 71 2)) := (Int32.not_le.mp q18)
        have hsem := zw_ifp p17 hsem
        refine r_aload_n X (pc := 48) (i := 0) (zw_dg dk_M_thinks 28 rfl) rfl rfl ?_
        refine r_iload X (pc := 49) (i := 6) (zw_dg dk_M_thinks 29 rfl) rfl ?_
        obtain ⟨r19, hr19, hsem⟩ := zw_bd hsem
        refine r_callVl X (pc := 51) (As := [_]) (st := []) (km_M_bestWorth hS hr19) ce_M_bestWorth kw_1727 (zo hS 71 rfl rfl) rfl rfl ⟨Nat.le_of_ble_eq_true rfl, Nat.le_of_ble_eq_true rfl⟩ (Nat.le_of_ble_eq_true rfl) (zw_dg dk_M_thinks 30 rfl) ?_
        refine r_lstore X (pc := 54) (i := 7) (L2 := [some (.ref 71), some (.int p1), some (.int who2), some (.int n11), some (.int first9), some (.int last10), some (.int t12), some (.long r19), none, none, none]) (zw_dg dk_M_thinks 31 rfl) (by decide) rfl ?_
        refine r_iconst X (pc := 56) (v := 1) (zw_dg dk_M_thinks 32 rfl) (by decide) ?_
        refine r_istore X (pc := 57) (i := 9) (zw_dg dk_M_thinks 33 rfl) (by decide) rfl ?_
        refine r_iconst X (pc := 59) (v := 0) (zw_dg dk_M_thinks 34 rfl) (by decide) ?_
        refine r_istore X (pc := 60) (i := 10) (zw_dg dk_M_thinks 35 rfl) (by decide) rfl ?_
        obtain ⟨is22, hl23, hsl23⟩ := zw_bd hsem
        refine r_loop (pc := 62) (pce := 119) hl23 (fun (is20, k21) => [some (.ref 71), some (.int p1), some (.int who2), some (.int n11), some (.int first9), some (.int last10), some (.int t12), some (.long r19), none, some (.int is20), some (.int k21)] : Int32 × Int32 → zw_Lc) (fun (is20, k21) => c8 : Int32 × Int32 → zw_Ct) (fun is22 => [some (.ref 71), some (.int p1), some (.int who2), some (.int n11), some (.int first9), some (.int last10), some (.int t12), some (.long r19), none, some (.int is22), none] : Int32 → zw_Lc) (fun is22 => c8 : Int32 → zw_Ct) ?_ rfl rfl ?_
        · rintro ⟨is20, k21⟩ rr hsem hK hP
          try unfold fn_M_thinks_l2 at hsem
          refine r_iload X (pc := 62) (i := 10) (zw_dg dk_M_thinks 36 rfl) rfl ?_
          refine r_aload_n X (pc := 64) (i := 0) (zw_dg dk_M_thinks 37 rfl) rfl rfl ?_
          refine r_getI X (pc := 65) ci_M (zo hS 71 rfl rfl) rfl lk_M_133 (zw_dg dk_M_thinks 38 rfl) ?_
          refine r_icmp_ge X (pc := 68) (tgt := 119) (zw_dg dk_M_thinks 39 rfl) (by decide) (fun q25 => ?_) (fun q25 => ?_)
          · --
            have p24 : ¬ (k21 < (c8.1 71 33)) := (Int32.not_lt.mpr q25)
            have hsem := zw_ifn p24 hsem
            have jj := hK _ (Option.some.inj hsem).symm
            exact (r_fgt [10] rfl jj)
          · --
            have p24 : (k21 < (c8.1 71 33)) := (Int32.not_le.mp q25)
            have hsem := zw_ifp p24 hsem
            obtain ⟨b26, hb26, hsb26⟩ := zw_bd hsem
            refine zw_terO (f := Value.int) (v := if b26 = true then 1 else 0) (J := 111) (st2 := []) (c2 := c8) (fun jj => ?_) ?_
            · have hsem := hb26
              refine r_iload X (pc := 71) (i := 9) (zw_dg dk_M_thinks 40 rfl) rfl ?_
              refine r_if_eq X (pc := 73) (tgt := 110) (zw_dg dk_M_thinks 41 rfl) (by decide) (fun q27 => ?_) (fun q27 => ?_)
              · --
                have hsem := zw_ifn (fun z => z q27) hsem
                have hb_ := (Option.some.inj hsem).symm
                refine r_iconst X (pc := 110) (v := 0) (zw_dg dk_M_thinks 60 rfl) (by decide) ?_
                rw [hb_] at jj; exact jj
              · --
                have hsem := zw_ifp q27 hsem
                refine r_aload_n X (pc := 76) (i := 0) (zw_dg dk_M_thinks 42 rfl) rfl rfl ?_
                refine r_getR X (pc := 77) (r := 94) ci_M (zo hS 71 rfl rfl) rfl (zr hS 71 34 rfl rfl) lk_M_76 (zw_dg dk_M_thinks 43 rfl) ?_
                refine r_iload X (pc := 80) (i := 10) (zw_dg dk_M_thinks 44 rfl) rfl ?_
                obtain ⟨x28, hx28, hsem⟩ := zw_bd hsem
                refine r_iald X (pc := 82) (zo hS 94 rfl rfl) hx28 (zw_dg dk_M_thinks 45 rfl) ?_
                refine r_iload_n X (pc := 83) (i := 2) (zw_dg dk_M_thinks 46 rfl) rfl rfl ?_
                refine r_icmp_ne X (pc := 84) (tgt := 106) (zw_dg dk_M_thinks 47 rfl) (by decide) (fun q29 => ?_) (fun q29 => ?_)
                · --
                  have hsem := zw_ifp q29 hsem
                  have hb_ := (Option.some.inj hsem).symm
                  refine r_iconst X (pc := 106) (v := 1) (zw_dg dk_M_thinks 58 rfl) (by decide) ?_
                  refine r_goto X (pc := 107) (tgt := 111) (zw_dg dk_M_thinks 59 rfl) (by decide) ?_
                  rw [hb_] at jj; exact jj
                · --
                  have hsem := zw_ifn (fun z => z q29) hsem
                  refine r_aload_n X (pc := 87) (i := 0) (zw_dg dk_M_thinks 48 rfl) rfl rfl ?_
                  refine r_aload_n X (pc := 88) (i := 0) (zw_dg dk_M_thinks 49 rfl) rfl rfl ?_
                  refine r_getR X (pc := 89) (r := 95) ci_M (zo hS 71 rfl rfl) rfl (zr hS 71 35 rfl rfl) lk_M_79 (zw_dg dk_M_thinks 50 rfl) ?_
                  refine r_iload X (pc := 92) (i := 10) (zw_dg dk_M_thinks 51 rfl) rfl ?_
                  obtain ⟨x30, hx30, hsem⟩ := zw_bd hsem
                  refine r_iald X (pc := 94) (zo hS 95 rfl rfl) hx30 (zw_dg dk_M_thinks 52 rfl) ?_
                  refine r_iload X (pc := 95) (i := 6) (zw_dg dk_M_thinks 53 rfl) rfl ?_
                  obtain ⟨r31, hr31, hsem⟩ := zw_bd hsem
                  refine r_callVl X (pc := 97) (As := [_, _]) (st := []) (km_M_worth hS hr31) ce_M_worth kw_1712 (zo hS 71 rfl rfl) rfl rfl ⟨Nat.le_of_ble_eq_true rfl, Nat.le_of_ble_eq_true rfl⟩ (Nat.le_of_ble_eq_true rfl) (zw_dg dk_M_thinks 54 rfl) ?_
                  refine r_lload X (pc := 100) (i := 7) (zw_dg dk_M_thinks 55 rfl) rfl ?_
                  refine r_lcmp_ne X (pc := 102) (tgt := 110) (zw_dg dk_M_thinks 56 rfl) (zw_dg dk_M_thinks 57 rfl) (by decide) (fun q32 => ?_) (fun q32 => ?_)
                  · --
                    have hb_ := (zw_dF hsem q32)
                    refine r_iconst X (pc := 110) (v := 0) (zw_dg dk_M_thinks 60 rfl) (by decide) ?_
                    rw [hb_] at jj; exact jj
                  · --
                    have hb_ := (zw_dT hsem q32)
                    refine r_iconst X (pc := 106) (v := 1) (zw_dg dk_M_thinks 58 rfl) (by decide) ?_
                    refine r_goto X (pc := 107) (tgt := 111) (zw_dg dk_M_thinks 59 rfl) (by decide) ?_
                    rw [hb_] at jj; exact jj
            have hsem := hsb26
            obtain ⟨is33, his33, hsem⟩ := zw_bd hsem
            refine zw_topI his33 ?_
            refine r_istore X (pc := 111) (i := 9) (zw_dg dk_M_thinks 61 rfl) (by decide) rfl ?_
            refine r_iinc X (pc := 113) (i := 10) (k := 1) (zw_dg dk_M_thinks 62 rfl) rfl (by decide) (by decide) rfl ?_
            refine r_goto X (pc := 116) (tgt := 62) (zw_dg dk_M_thinks 63 rfl) (by decide) ?_
            have jj := hP _ (Option.some.inj hsem).symm
            exact (r_fgt [] rfl jj)
        have hsem := hsl23
        refine r_iload X (pc := 119) (i := 9) (zw_dg dk_M_thinks 64 rfl) rfl ?_
        refine r_if_ne X (pc := 121) (tgt := 127) (zw_dg dk_M_thinks 65 rfl) (by decide) (fun q35 => ?_) (fun q35 => ?_)
        · --
          have p34 : ¬ (¬ (¬ is22 = 0)) := (fun q => q q35)
          have hsem := zw_ifn p34 hsem
          refine zw_ter (P := (n11 = 0)) (f := Value.int) (x := t12) (y := first9) (J := 138) (st2 := []) (fun jT jF => ?_) ?_
          · --
            refine r_iload_n X (pc := 127) (i := 3) (zw_dg dk_M_thinks 67 rfl) rfl rfl ?_
            refine r_if_ne X (pc := 128) (tgt := 136) (zw_dg dk_M_thinks 68 rfl) (by decide) (fun q36 => ?_) (fun q36 => ?_)
            · --
              refine r_iload X (pc := 136) (i := 4) (zw_dg dk_M_thinks 71 rfl) rfl ?_
              exact jF q36
            · --
              refine r_iload X (pc := 131) (i := 6) (zw_dg dk_M_thinks 69 rfl) rfl ?_
              refine r_goto X (pc := 133) (tgt := 138) (zw_dg dk_M_thinks 70 rfl) (by decide) ?_
              exact jT q36
          obtain ⟨first37, hfirst37, hsem⟩ := zw_bd hsem
          refine zw_topI hfirst37 ?_
          refine r_istore X (pc := 138) (i := 4) (zw_dg dk_M_thinks 72 rfl) (by decide) rfl ?_
          refine r_iload X (pc := 140) (i := 6) (zw_dg dk_M_thinks 73 rfl) rfl ?_
          refine r_istore X (pc := 142) (i := 5) (zw_dg dk_M_thinks 74 rfl) (by decide) rfl ?_
          refine r_iinc X (pc := 144) (i := 3) (k := 1) (zw_dg dk_M_thinks 75 rfl) rfl (by decide) (by decide) rfl ?_
          refine r_iinc X (pc := 147) (i := 6) (k := 1) (zw_dg dk_M_thinks 76 rfl) rfl (by decide) (by decide) rfl ?_
          refine r_goto X (pc := 150) (tgt := 39) (zw_dg dk_M_thinks 77 rfl) (by decide) ?_
          have jj := hP _ (Option.some.inj hsem).symm
          exact (r_fgt [7, 9] rfl jj)
        · --
          have p34 : (¬ (¬ is22 = 0)) := (fun z => z q35)
          have hsem := zw_ifp p34 hsem
          refine r_goto X (pc := 124) (tgt := 147) (zw_dg dk_M_thinks 66 rfl) (by decide) ?_
          refine r_iinc X (pc := 147) (i := 6) (k := 1) (zw_dg dk_M_thinks 76 rfl) rfl (by decide) (by decide) rfl ?_
          refine r_goto X (pc := 150) (tgt := 39) (zw_dg dk_M_thinks 77 rfl) (by decide) ?_
          have jj := hP _ (Option.some.inj hsem).symm
          exact (r_fgt [7, 9] rfl jj)
    obtain ⟨first13, last14, n15⟩ := l16
    have hsem := hsl16
    refine r_aload_n X (pc := 153) (i := 0) (zw_dg dk_M_thinks 78 rfl) rfl rfl ?_
    refine r_iconst X (pc := 154) (v := 0) (zw_dg dk_M_thinks 79 rfl) (by decide) ?_
    refine r_putI X (pc := 155) ci_M (zo hS 71 rfl rfl) rfl lk_M_100 rfl ⟨rfl, rfl⟩ (zw_dg dk_M_thinks 80 rfl) ?_
    obtain ⟨c38, hc38, hsem⟩ := zw_bd hsem
    refine zw_topC hc38 ?_
    obtain ⟨c39, ht176, hs176⟩ := zw_bd hsem
    refine zw_jn (J := 176) (L2 := [some (.ref 71), some (.int p1), some (.int who2), some (.int n15), some (.int first13), some (.int last14), none, none, none, none, none]) (c2 := c39) (fun jj => ?_) ?_
    · have hsem := ht176
      refine r_iload_n X (pc := 158) (i := 3) (zw_dg dk_M_thinks 81 rfl) rfl rfl ?_
      refine r_if_le X (pc := 159) (tgt := 176) (zw_dg dk_M_thinks 82 rfl) (by decide) (fun q41 => ?_) (fun q41 => ?_)
      · --
        have p40 : ¬ (0 < n15) := (Int32.not_lt.mpr q41)
        have hsem := zw_ifn p40 hsem
        cases hsem
        exact (r_fgt [] rfl jj)
      · --
        have p40 : (0 < n15) := (Int32.not_le.mp q41)
        have hsem := zw_ifp p40 hsem
        refine r_aload_n X (pc := 162) (i := 0) (zw_dg dk_M_thinks 83 rfl) rfl rfl ?_
        refine r_iload X (pc := 163) (i := 4) (zw_dg dk_M_thinks 84 rfl) rfl ?_
        refine r_i2l X (pc := 165) (zw_dg dk_M_thinks 85 rfl)  ?_
        obtain ⟨c42, hc42, hsem⟩ := zw_bd hsem
        refine r_callVv X (pc := 166) (As := [_]) (st := []) (km_M_tell hS hc42) ce_M_tell kw_1704 (zo hS 71 rfl rfl) rfl rfl ⟨Nat.le_of_ble_eq_true rfl, Nat.le_of_ble_eq_true rfl⟩ (Nat.le_of_ble_eq_true rfl) (zw_dg dk_M_thinks 86 rfl) ?_
        refine r_aload_n X (pc := 169) (i := 0) (zw_dg dk_M_thinks 87 rfl) rfl rfl ?_
        refine r_iload X (pc := 170) (i := 5) (zw_dg dk_M_thinks 88 rfl) rfl ?_
        refine r_i2l X (pc := 172) (zw_dg dk_M_thinks 89 rfl)  ?_
        obtain ⟨c43, hc43, hsem⟩ := zw_bd hsem
        refine r_callVv X (pc := 173) (As := [_]) (st := []) (km_M_tell hS hc43) ce_M_tell kw_1704 (zo hS 71 rfl rfl) rfl rfl ⟨Nat.le_of_ble_eq_true rfl, Nat.le_of_ble_eq_true rfl⟩ (Nat.le_of_ble_eq_true rfl) (zw_dg dk_M_thinks 90 rfl) ?_
        cases hsem
        exact (r_fgt [] rfl jj)
    have hsem := hs176
    refine r_iload_n X (pc := 176) (i := 3) (zw_dg dk_M_thinks 91 rfl) rfl rfl ?_
    obtain ⟨rfl, rfl⟩ := zw_in2 hsem
    exact r_iret X (pc := 177) rfl (zw_dg dk_M_thinks 92 rfl)
def y_M_put : MethodName := ⟨R_M, "put", "(I)V"⟩
abbrev b_M_put : ByteArray := prog_14_method_99_code
def dl_M_put : List (Nat × Instr × Nat) := [(0, .aload_n 0, 1), (1, .getfield 85, 3), (4, .aload_n 0, 1), (5, .getfield 350, 3), (8, .iload_n 1, 1), (9, .iastore, 1), (10, .aload_n 0, 1), (11, .dup, 1), (12, .getfield 350, 3), (15, .iconst 1, 1), (16, .iadd, 1), (17, .putfield 350, 3), (20, .return_, 1)]
theorem dk_M_put : zw_dk b_M_put dl_M_put = true := by decide +kernel
theorem ce_M_put : zw_cev y_M_put b_M_put 2 (none) 1 := ⟨⟨kt_in 2001 (by decide +kernel) rfl, kt_in 98 (by decide +kernel) rfl, by decide +kernel⟩, kt_in 2000 (by decide +kernel) rfl, kt_in 82 (by decide +kernel) rfl⟩
def fn_M_put (c : zw_Ct) (v1 : Int32) : Option zw_Ct :=
  (zw_uI 462 c 97 (c.1 71 41) v1).bind fun c3 =>
  (some (zw_wI c3 71 41 ((c3.1 71 41) + 1))).bind fun c4 =>
  some c4
set_option maxRecDepth 100000 in
theorem km_M_put {l : Launch} {g : zw_G} {rr : zw_RR} {sh : zw_Sh} {c : zw_Ct} {v1 : Int32} {c2 : zw_Ct} (hS : zw_Ok 0 101 sh rr) (hsem : fn_M_put c v1 = some c2) : zw_Met l g y_M_put b_M_put 2 (none) 1 rr sh [.ref 71, .int v1] c none c2 := by
  unfold fn_M_put at hsem
  refine zw_Met.of (by decide +kernel) (Nat.le_of_ble_eq_true rfl) (fun p e s m args below meth cd X => ?_)
  refine zw_eL (L2 := [some (.ref 71), some (.int v1)]) rfl ?_
  refine r_aload_n X (pc := 0) (i := 0) (zw_dg dk_M_put 0 rfl) rfl rfl ?_
  refine r_getR X (pc := 1) (r := 97) ci_M (zo hS 71 rfl rfl) rfl (zr hS 71 38 rfl rfl) lk_M_85 (zw_dg dk_M_put 1 rfl) ?_
  refine r_aload_n X (pc := 4) (i := 0) (zw_dg dk_M_put 2 rfl) rfl rfl ?_
  refine r_getI X (pc := 5) ci_M (zo hS 71 rfl rfl) rfl lk_M_350 (zw_dg dk_M_put 3 rfl) ?_
  refine r_iload_n X (pc := 8) (i := 1) (zw_dg dk_M_put 4 rfl) rfl rfl ?_
  obtain ⟨c3, hc3, hsem⟩ := zw_bd hsem
  refine r_iast X (pc := 9) (zo hS 97 rfl rfl) hc3 (zw_dg dk_M_put 5 rfl) ?_
  refine r_aload_n X (pc := 10) (i := 0) (zw_dg dk_M_put 6 rfl) rfl rfl ?_
  refine r_dup X (pc := 11) (zw_dg dk_M_put 7 rfl) rfl ?_
  refine r_getI X (pc := 12) ci_M (zo hS 71 rfl rfl) rfl lk_M_350 (zw_dg dk_M_put 8 rfl) ?_
  refine r_iconst X (pc := 15) (v := 1) (zw_dg dk_M_put 9 rfl) (by decide) ?_
  refine r_iadd X (pc := 16) (zw_dg dk_M_put 10 rfl)  ?_
  refine r_putI X (pc := 17) ci_M (zo hS 71 rfl rfl) rfl lk_M_350 rfl ⟨rfl, rfl⟩ (zw_dg dk_M_put 11 rfl) ?_
  obtain ⟨c4, hc4, hsem⟩ := zw_bd hsem
  refine zw_topC hc4 ?_
  cases hsem
  exact r_vret X (pc := 20) rfl (zw_dg dk_M_put 12 rfl)
def y_M_next : MethodName := ⟨R_M, "next", "()I"⟩
abbrev b_M_next : ByteArray := prog_14_method_100_code
def dl_M_next : List (Nat × Instr × Nat) := [(0, .aload_n 0, 1), (1, .dup, 1), (2, .getfield 350, 3), (5, .iconst 1, 1), (6, .iadd, 1), (7, .putfield 350, 3), (10, .aload_n 0, 1), (11, .getfield 85, 3), (14, .aload_n 0, 1), (15, .getfield 350, 3), (18, .iconst 1, 1), (19, .isub, 1), (20, .iaload, 1), (21, .ireturn, 1)]
theorem dk_M_next : zw_dk b_M_next dl_M_next = true := by decide +kernel
theorem ce_M_next : zw_cev y_M_next b_M_next 1 (some .int) 0 := ⟨⟨kt_in 2009 (by decide +kernel) rfl, kt_in 98 (by decide +kernel) rfl, by decide +kernel⟩, kt_in 2008 (by decide +kernel) rfl, kt_in 83 (by decide +kernel) rfl⟩
def fn_M_next (c : zw_Ct) : Option (Int32 × zw_Ct) :=
  (some (zw_wI c 71 41 ((c.1 71 41) + 1))).bind fun c3 =>
  (zw_aI 462 c3 97 ((c3.1 71 41) - 1)).bind fun x4 =>
  some (x4, c3)
set_option maxRecDepth 100000 in
theorem km_M_next {l : Launch} {g : zw_G} {rr : zw_RR} {sh : zw_Sh} {c : zw_Ct} {r : Int32} {c2 : zw_Ct} (hS : zw_Ok 0 101 sh rr) (hsem : fn_M_next c = some (r, c2)) : zw_Met l g y_M_next b_M_next 1 (some .int) 1 rr sh [.ref 71] c (some (.int r)) c2 := by
  unfold fn_M_next at hsem
  refine zw_Met.of (by decide +kernel) (Nat.le_of_ble_eq_true rfl) (fun p e s m args below meth cd X => ?_)
  refine zw_eL (L2 := [some (.ref 71)]) rfl ?_
  refine r_aload_n X (pc := 0) (i := 0) (zw_dg dk_M_next 0 rfl) rfl rfl ?_
  refine r_dup X (pc := 1) (zw_dg dk_M_next 1 rfl) rfl ?_
  refine r_getI X (pc := 2) ci_M (zo hS 71 rfl rfl) rfl lk_M_350 (zw_dg dk_M_next 2 rfl) ?_
  refine r_iconst X (pc := 5) (v := 1) (zw_dg dk_M_next 3 rfl) (by decide) ?_
  refine r_iadd X (pc := 6) (zw_dg dk_M_next 4 rfl)  ?_
  refine r_putI X (pc := 7) ci_M (zo hS 71 rfl rfl) rfl lk_M_350 rfl ⟨rfl, rfl⟩ (zw_dg dk_M_next 5 rfl) ?_
  obtain ⟨c3, hc3, hsem⟩ := zw_bd hsem
  refine zw_topC hc3 ?_
  refine r_aload_n X (pc := 10) (i := 0) (zw_dg dk_M_next 6 rfl) rfl rfl ?_
  refine r_getR X (pc := 11) (r := 97) ci_M (zo hS 71 rfl rfl) rfl (zr hS 71 38 rfl rfl) lk_M_85 (zw_dg dk_M_next 7 rfl) ?_
  refine r_aload_n X (pc := 14) (i := 0) (zw_dg dk_M_next 8 rfl) rfl rfl ?_
  refine r_getI X (pc := 15) ci_M (zo hS 71 rfl rfl) rfl lk_M_350 (zw_dg dk_M_next 9 rfl) ?_
  refine r_iconst X (pc := 18) (v := 1) (zw_dg dk_M_next 10 rfl) (by decide) ?_
  refine r_isub X (pc := 19) (zw_dg dk_M_next 11 rfl)  ?_
  obtain ⟨x4, hx4, hsem⟩ := zw_bd hsem
  refine r_iald X (pc := 20) (zo hS 97 rfl rfl) hx4 (zw_dg dk_M_next 12 rfl) ?_
  obtain ⟨rfl, rfl⟩ := zw_in2 hsem
  exact r_iret X (pc := 21) rfl (zw_dg dk_M_next 13 rfl)
def y_M_keep : MethodName := ⟨R_M, "keep", "(I)Z"⟩
abbrev b_M_keep : ByteArray := prog_14_method_101_code
def dl_M_keep : List (Nat × Instr × Nat) := [(0, .aload_n 0, 1), (1, .iconst 0, 1), (2, .putfield 97, 3), (5, .iload_n 1, 1), (6, .i2l, 1), (7, .lconst 0, 1), (8, .ldc2_w 124, 3), (11, .invokestatic 120, 3), (14, .ifCond .ne 5, 3), (17, .iconst 0, 1), (18, .ireturn, 1), (19, .aload_n 0, 1), (20, .getfield 88, 3), (23, .iload_n 1, 1), (24, .iconst 1, 1), (25, .bastore, 1), (26, .aload_n 0, 1), (27, .getfield 91, 3), (30, .iload_n 1, 1), (31, .aload_n 0, 1), (32, .getfield 139, 3), (35, .iastore, 1), (36, .aload_n 0, 1), (37, .sipush 154, 3), (40, .iload_n 1, 1), (41, .imul, 1), (42, .putfield 350, 3), (45, .aload_n 0, 1), (46, .getfield 20, 3), (49, .astore_n 2, 1), (50, .aload_n 2, 1), (51, .arraylength, 1), (52, .istore_n 3, 1), (53, .iconst 0, 1), (54, .istore 4, 2), (56, .iload 4, 2), (58, .iload_n 3, 1), (59, .if_icmp .ge 21, 3), (62, .aload_n 2, 1), (63, .iload 4, 2), (65, .iaload, 1), (66, .istore 5, 2), (68, .aload_n 0, 1), (69, .iload 5, 2), (71, .invokevirtual 353, 3), (74, .iinc 4 1, 3), (77, .goto (-21), 3), (80, .aload_n 0, 1), (81, .aload_n 0, 1), (82, .getfield 130, 3), (85, .invokevirtual 353, 3), (88, .aload_n 0, 1), (89, .getfield 61, 3), (92, .astore_n 2, 1), (93, .aload_n 2, 1), (94, .arraylength, 1), (95, .istore_n 3, 1), (96, .iconst 0, 1), (97, .istore 4, 2), (99, .iload 4, 2), (101, .iload_n 3, 1), (102, .if_icmp .ge 21, 3), (105, .aload_n 2, 1), (106, .iload 4, 2), (108, .iaload, 1), (109, .istore 5, 2), (111, .aload_n 0, 1), (112, .iload 5, 2), (114, .invokevirtual 353, 3), (117, .iinc 4 1, 3), (120, .goto (-21), 3), (123, .aload_n 0, 1), (124, .aload_n 0, 1), (125, .getfield 133, 3), (128, .invokevirtual 353, 3), (131, .iconst 0, 1), (132, .istore_n 2, 1), (133, .iload_n 2, 1), (134, .bipush 40, 2), (136, .if_icmp .ge 39, 3), (139, .aload_n 0, 1), (140, .aload_n 0, 1), (141, .getfield 76, 3), (144, .iload_n 2, 1), (145, .iaload, 1), (146, .invokevirtual 353, 3), (149, .aload_n 0, 1), (150, .aload_n 0, 1), (151, .getfield 79, 3), (154, .iload_n 2, 1), (155, .iaload, 1), (156, .invokevirtual 353, 3), (159, .aload_n 0, 1), (160, .aload_n 0, 1), (161, .getfield 82, 3), (164, .iload_n 2, 1), (165, .iaload, 1), (166, .invokevirtual 353, 3), (169, .iinc 2 1, 3), (172, .goto (-39), 3), (175, .aload_n 0, 1), (176, .aload_n 0, 1), (177, .getfield 136, 3), (180, .invokevirtual 353, 3), (183, .iconst 0, 1), (184, .istore_n 2, 1), (185, .iload_n 2, 1), (186, .bipush 6, 2), (188, .if_icmp .ge 29, 3), (191, .aload_n 0, 1), (192, .aload_n 0, 1), (193, .getfield 70, 3), (196, .iload_n 2, 1), (197, .iaload, 1), (198, .invokevirtual 353, 3), (201, .aload_n 0, 1), (202, .aload_n 0, 1), (203, .getfield 73, 3), (206, .iload_n 2, 1), (207, .iaload, 1), (208, .invokevirtual 353, 3), (211, .iinc 2 1, 3), (214, .goto (-29), 3), (217, .iconst 1, 1), (218, .ireturn, 1)]
theorem dk_M_keep : zw_dk b_M_keep dl_M_keep = true := by decide +kernel
theorem ce_M_keep : zw_cev y_M_keep b_M_keep 6 (some .boolean) 1 := ⟨⟨kt_in 1997 (by decide +kernel) rfl, kt_in 98 (by decide +kernel) rfl, by decide +kernel⟩, kt_in 1995 (by decide +kernel) rfl, kt_in 1996 (by decide +kernel) rfl⟩
def fn_M_keep_l1  : Int32 × zw_Ct → Option ((zw_Ct) ⊕ (Int32 × zw_Ct)) := fun (i9, c10) =>
  if (i9 < 13) then
  ((zw_aI 13 c10 73 i9).bind fun x15 =>
  (fn_M_put c10 x15).bind fun c16 =>
  some (.inr ((i9 + 1), c16)))
  else
  (some (.inl c10))
def fn_M_keep_l2  : Int32 × zw_Ct → Option ((zw_Ct) ⊕ (Int32 × zw_Ct)) := fun (i18, c19) =>
  if (i18 < 6) then
  ((zw_aI 6 c19 89 i18).bind fun x24 =>
  (fn_M_put c19 x24).bind fun c25 =>
  some (.inr ((i18 + 1), c25)))
  else
  (some (.inl c19))
def fn_M_keep_l3  : Int32 × zw_Ct → Option ((zw_Ct) ⊕ (Int32 × zw_Ct)) := fun (k27, c28) =>
  if (k27 < 40) then
  ((zw_aI 40 c28 94 k27).bind fun x33 =>
  (fn_M_put c28 x33).bind fun c34 =>
  (zw_aI 40 c34 95 k27).bind fun x35 =>
  (fn_M_put c34 x35).bind fun c36 =>
  (zw_aI 40 c36 96 k27).bind fun x37 =>
  (fn_M_put c36 x37).bind fun c38 =>
  some (.inr ((k27 + 1), c38)))
  else
  (some (.inl c28))
def fn_M_keep_l4  : Int32 × zw_Ct → Option ((zw_Ct) ⊕ (Int32 × zw_Ct)) := fun (k40, c41) =>
  if (k40 < 6) then
  ((zw_aI 6 c41 92 k40).bind fun x46 =>
  (fn_M_put c41 x46).bind fun c47 =>
  (zw_aI 6 c47 93 k40).bind fun x48 =>
  (fn_M_put c47 x48).bind fun c49 =>
  some (.inr ((k40 + 1), c49)))
  else
  (some (.inl c41))
def fn_M_keep (c : zw_Ct) (i1 : Int32) : Option (Int32 × zw_Ct) :=
  (some (zw_wI c 71 9 0)).bind fun c3 =>
  if (¬ (¬ (fn_M_in i1.toInt64 0 2) = 0)) then
  (some (0, c3))
  else
  ((zw_uI 3 c3 98 i1 1).bind fun c6 =>
  (zw_uI 3 c6 99 i1 (c6.1 71 10)).bind fun c7 =>
  (some (zw_wI c7 71 41 (154 * i1))).bind fun c8 =>
  (zw_whl (fn_M_keep_l1) zw_F (0, c8)).bind fun c11 =>
  (fn_M_put c11 (c11.1 71 26)).bind fun c17 =>
  (zw_whl (fn_M_keep_l2) zw_F (0, c17)).bind fun c20 =>
  (fn_M_put c20 (c20.1 71 33)).bind fun c26 =>
  (zw_whl (fn_M_keep_l3) zw_F (0, c26)).bind fun c29 =>
  (fn_M_put c29 (c29.1 71 30)).bind fun c39 =>
  (zw_whl (fn_M_keep_l4) zw_F (0, c39)).bind fun c42 =>
  some (1, c42))
set_option maxRecDepth 100000 in
theorem km_M_keep {l : Launch} {g : zw_G} {rr : zw_RR} {sh : zw_Sh} {c : zw_Ct} {i1 : Int32} {r : Int32} {c2 : zw_Ct} (hS : zw_Ok 0 101 sh rr) (hsem : fn_M_keep c i1 = some (r, c2)) : zw_Met l g y_M_keep b_M_keep 6 (some .boolean) 2 rr sh [.ref 71, .int i1] c (some (.int r)) c2 := by
  unfold fn_M_keep at hsem
  refine zw_Met.of (by decide +kernel) (Nat.le_of_ble_eq_true rfl) (fun p e s m args below meth cd X => ?_)
  refine zw_eL (L2 := [some (.ref 71), some (.int i1), none, none, none, none]) rfl ?_
  refine r_aload_n X (pc := 0) (i := 0) (zw_dg dk_M_keep 0 rfl) rfl rfl ?_
  refine r_iconst X (pc := 1) (v := 0) (zw_dg dk_M_keep 1 rfl) (by decide) ?_
  refine r_putI X (pc := 2) ci_M (zo hS 71 rfl rfl) rfl lk_M_97 rfl ⟨rfl, rfl⟩ (zw_dg dk_M_keep 2 rfl) ?_
  obtain ⟨c3, hc3, hsem⟩ := zw_bd hsem
  refine zw_topC hc3 ?_
  refine r_iload_n X (pc := 5) (i := 1) (zw_dg dk_M_keep 3 rfl) rfl rfl ?_
  refine r_i2l X (pc := 6) (zw_dg dk_M_keep 4 rfl)  ?_
  refine r_lconst X (pc := 7) (v := 0) (zw_dg dk_M_keep 5 rfl) (by decide) ?_
  refine r_ldc2 X (pc := 8) (v := 2) kw_1595 (zw_dg dk_M_keep 6 rfl) ?_
  refine r_callSi X (pc := 11) (As := [_, _, _]) (st := []) (km_M_in hS rfl) ce_M_in kw_1597 rfl ⟨Nat.le_of_ble_eq_true rfl, Nat.le_of_ble_eq_true rfl⟩ (Nat.le_of_ble_eq_true rfl) (zw_dg dk_M_keep 7 rfl) ?_
  refine r_if_ne X (pc := 14) (tgt := 19) (zw_dg dk_M_keep 8 rfl) (by decide) (fun q5 => ?_) (fun q5 => ?_)
  · --
    have p4 : ¬ (¬ (¬ (fn_M_in i1.toInt64 0 2) = 0)) := (fun q => q q5)
    have hsem := zw_ifn p4 hsem
    refine r_aload_n X (pc := 19) (i := 0) (zw_dg dk_M_keep 11 rfl) rfl rfl ?_
    refine r_getR X (pc := 20) (r := 98) ci_M (zo hS 71 rfl rfl) rfl (zr hS 71 39 rfl rfl) lk_M_88 (zw_dg dk_M_keep 12 rfl) ?_
    refine r_iload_n X (pc := 23) (i := 1) (zw_dg dk_M_keep 13 rfl) rfl rfl ?_
    refine r_iconst X (pc := 24) (v := 1) (zw_dg dk_M_keep 14 rfl) (by decide) ?_
    obtain ⟨c6, hc6, hsem⟩ := zw_bd hsem
    refine r_zast X (pc := 25) (zo hS 98 rfl rfl) (by rw [(zw_bzn (by decide)).2.2]; exact hc6) (zw_dg dk_M_keep 15 rfl) ?_
    refine r_aload_n X (pc := 26) (i := 0) (zw_dg dk_M_keep 16 rfl) rfl rfl ?_
    refine r_getR X (pc := 27) (r := 99) ci_M (zo hS 71 rfl rfl) rfl (zr hS 71 40 rfl rfl) lk_M_91 (zw_dg dk_M_keep 17 rfl) ?_
    refine r_iload_n X (pc := 30) (i := 1) (zw_dg dk_M_keep 18 rfl) rfl rfl ?_
    refine r_aload_n X (pc := 31) (i := 0) (zw_dg dk_M_keep 19 rfl) rfl rfl ?_
    refine r_getI X (pc := 32) ci_M (zo hS 71 rfl rfl) rfl lk_M_139 (zw_dg dk_M_keep 20 rfl) ?_
    obtain ⟨c7, hc7, hsem⟩ := zw_bd hsem
    refine r_iast X (pc := 35) (zo hS 99 rfl rfl) hc7 (zw_dg dk_M_keep 21 rfl) ?_
    refine r_aload_n X (pc := 36) (i := 0) (zw_dg dk_M_keep 22 rfl) rfl rfl ?_
    refine r_sipush X (pc := 37) (v := 154) (zw_dg dk_M_keep 23 rfl) (by decide) ?_
    refine r_iload_n X (pc := 40) (i := 1) (zw_dg dk_M_keep 24 rfl) rfl rfl ?_
    refine r_imul X (pc := 41) (zw_dg dk_M_keep 25 rfl)  ?_
    refine r_putI X (pc := 42) ci_M (zo hS 71 rfl rfl) rfl lk_M_350 rfl ⟨rfl, rfl⟩ (zw_dg dk_M_keep 26 rfl) ?_
    obtain ⟨c8, hc8, hsem⟩ := zw_bd hsem
    refine zw_topC hc8 ?_
    refine r_aload_n X (pc := 45) (i := 0) (zw_dg dk_M_keep 27 rfl) rfl rfl ?_
    refine r_getR X (pc := 46) (r := 73) ci_M (zo hS 71 rfl rfl) rfl (zr hS 71 4 rfl rfl) lk_M_20 (zw_dg dk_M_keep 28 rfl) ?_
    refine r_astore_n X (pc := 49) (i := 2) (zw_dg dk_M_keep 29 rfl) rfl (by decide) rfl ?_
    refine r_aload_n X (pc := 50) (i := 2) (zw_dg dk_M_keep 30 rfl) rfl rfl ?_
    refine r_alen X (pc := 51) (t := 0) (n := 13) (v := 13) (zo hS 73 rfl rfl) rfl (by decide) (zw_dg dk_M_keep 31 rfl) ?_
    refine r_istore_n X (pc := 52) (i := 3) (zw_dg dk_M_keep 32 rfl) rfl (by decide) rfl ?_
    refine r_iconst X (pc := 53) (v := 0) (zw_dg dk_M_keep 33 rfl) (by decide) ?_
    refine r_istore X (pc := 54) (i := 4) (zw_dg dk_M_keep 34 rfl) (by decide) rfl ?_
    obtain ⟨c11, hl12, hsl12⟩ := zw_bd hsem
    refine r_loop (pc := 56) (pce := 80) hl12 (fun (i9, c10) => [some (.ref 71), some (.int i1), some (.ref 73), some (.int 13), some (.int i9), none] : Int32 × zw_Ct → zw_Lc) (fun (i9, c10) => c10 : Int32 × zw_Ct → zw_Ct) (fun c11 => [some (.ref 71), some (.int i1), some (.ref 73), some (.int 13), none, none] : zw_Ct → zw_Lc) (fun c11 => c11 : zw_Ct → zw_Ct) ?_ rfl rfl ?_
    · rintro ⟨i9, c10⟩ rr hsem hK hP
      try unfold fn_M_keep_l1 at hsem
      refine r_iload X (pc := 56) (i := 4) (zw_dg dk_M_keep 35 rfl) rfl ?_
      refine r_iload_n X (pc := 58) (i := 3) (zw_dg dk_M_keep 36 rfl) rfl rfl ?_
      refine r_icmp_ge X (pc := 59) (tgt := 80) (zw_dg dk_M_keep 37 rfl) (by decide) (fun q14 => ?_) (fun q14 => ?_)
      · --
        have p13 : ¬ (i9 < 13) := (Int32.not_lt.mpr q14)
        have hsem := zw_ifn p13 hsem
        have jj := hK _ (Option.some.inj hsem).symm
        exact (r_fgt [4] rfl jj)
      · --
        have p13 : (i9 < 13) := (Int32.not_le.mp q14)
        have hsem := zw_ifp p13 hsem
        refine r_aload_n X (pc := 62) (i := 2) (zw_dg dk_M_keep 38 rfl) rfl rfl ?_
        refine r_iload X (pc := 63) (i := 4) (zw_dg dk_M_keep 39 rfl) rfl ?_
        obtain ⟨x15, hx15, hsem⟩ := zw_bd hsem
        refine r_iald X (pc := 65) (zo hS 73 rfl rfl) hx15 (zw_dg dk_M_keep 40 rfl) ?_
        refine r_istore X (pc := 66) (i := 5) (zw_dg dk_M_keep 41 rfl) (by decide) rfl ?_
        refine r_aload_n X (pc := 68) (i := 0) (zw_dg dk_M_keep 42 rfl) rfl rfl ?_
        refine r_iload X (pc := 69) (i := 5) (zw_dg dk_M_keep 43 rfl) rfl ?_
        obtain ⟨c16, hc16, hsem⟩ := zw_bd hsem
        refine r_callVv X (pc := 71) (As := [_]) (st := []) (km_M_put hS hc16) ce_M_put kw_1998 (zo hS 71 rfl rfl) rfl rfl ⟨Nat.le_of_ble_eq_true rfl, Nat.le_of_ble_eq_true rfl⟩ (Nat.le_of_ble_eq_true rfl) (zw_dg dk_M_keep 44 rfl) ?_
        refine r_iinc X (pc := 74) (i := 4) (k := 1) (zw_dg dk_M_keep 45 rfl) rfl (by decide) (by decide) rfl ?_
        refine r_goto X (pc := 77) (tgt := 56) (zw_dg dk_M_keep 46 rfl) (by decide) ?_
        have jj := hP _ (Option.some.inj hsem).symm
        exact (r_fgt [5] rfl jj)
    have hsem := hsl12
    refine r_aload_n X (pc := 80) (i := 0) (zw_dg dk_M_keep 47 rfl) rfl rfl ?_
    refine r_aload_n X (pc := 81) (i := 0) (zw_dg dk_M_keep 48 rfl) rfl rfl ?_
    refine r_getI X (pc := 82) ci_M (zo hS 71 rfl rfl) rfl lk_M_130 (zw_dg dk_M_keep 49 rfl) ?_
    obtain ⟨c17, hc17, hsem⟩ := zw_bd hsem
    refine r_callVv X (pc := 85) (As := [_]) (st := []) (km_M_put hS hc17) ce_M_put kw_1998 (zo hS 71 rfl rfl) rfl rfl ⟨Nat.le_of_ble_eq_true rfl, Nat.le_of_ble_eq_true rfl⟩ (Nat.le_of_ble_eq_true rfl) (zw_dg dk_M_keep 50 rfl) ?_
    refine r_aload_n X (pc := 88) (i := 0) (zw_dg dk_M_keep 51 rfl) rfl rfl ?_
    refine r_getR X (pc := 89) (r := 89) ci_M (zo hS 71 rfl rfl) rfl (zr hS 71 27 rfl rfl) lk_M_61 (zw_dg dk_M_keep 52 rfl) ?_
    refine r_astore_n X (pc := 92) (i := 2) (zw_dg dk_M_keep 53 rfl) rfl (by decide) rfl ?_
    refine r_aload_n X (pc := 93) (i := 2) (zw_dg dk_M_keep 54 rfl) rfl rfl ?_
    refine r_alen X (pc := 94) (t := 0) (n := 6) (v := 6) (zo hS 89 rfl rfl) rfl (by decide) (zw_dg dk_M_keep 55 rfl) ?_
    refine r_istore_n X (pc := 95) (i := 3) (zw_dg dk_M_keep 56 rfl) rfl (by decide) rfl ?_
    refine r_iconst X (pc := 96) (v := 0) (zw_dg dk_M_keep 57 rfl) (by decide) ?_
    refine r_istore X (pc := 97) (i := 4) (zw_dg dk_M_keep 58 rfl) (by decide) rfl ?_
    obtain ⟨c20, hl21, hsl21⟩ := zw_bd hsem
    refine r_loop (pc := 99) (pce := 123) hl21 (fun (i18, c19) => [some (.ref 71), some (.int i1), some (.ref 89), some (.int 6), some (.int i18), none] : Int32 × zw_Ct → zw_Lc) (fun (i18, c19) => c19 : Int32 × zw_Ct → zw_Ct) (fun c20 => [some (.ref 71), some (.int i1), some (.ref 89), some (.int 6), none, none] : zw_Ct → zw_Lc) (fun c20 => c20 : zw_Ct → zw_Ct) ?_ rfl rfl ?_
    · rintro ⟨i18, c19⟩ rr hsem hK hP
      try unfold fn_M_keep_l2 at hsem
      refine r_iload X (pc := 99) (i := 4) (zw_dg dk_M_keep 59 rfl) rfl ?_
      refine r_iload_n X (pc := 101) (i := 3) (zw_dg dk_M_keep 60 rfl) rfl rfl ?_
      refine r_icmp_ge X (pc := 102) (tgt := 123) (zw_dg dk_M_keep 61 rfl) (by decide) (fun q23 => ?_) (fun q23 => ?_)
      · --
        have p22 : ¬ (i18 < 6) := (Int32.not_lt.mpr q23)
        have hsem := zw_ifn p22 hsem
        have jj := hK _ (Option.some.inj hsem).symm
        exact (r_fgt [4] rfl jj)
      · --
        have p22 : (i18 < 6) := (Int32.not_le.mp q23)
        have hsem := zw_ifp p22 hsem
        refine r_aload_n X (pc := 105) (i := 2) (zw_dg dk_M_keep 62 rfl) rfl rfl ?_
        refine r_iload X (pc := 106) (i := 4) (zw_dg dk_M_keep 63 rfl) rfl ?_
        obtain ⟨x24, hx24, hsem⟩ := zw_bd hsem
        refine r_iald X (pc := 108) (zo hS 89 rfl rfl) hx24 (zw_dg dk_M_keep 64 rfl) ?_
        refine r_istore X (pc := 109) (i := 5) (zw_dg dk_M_keep 65 rfl) (by decide) rfl ?_
        refine r_aload_n X (pc := 111) (i := 0) (zw_dg dk_M_keep 66 rfl) rfl rfl ?_
        refine r_iload X (pc := 112) (i := 5) (zw_dg dk_M_keep 67 rfl) rfl ?_
        obtain ⟨c25, hc25, hsem⟩ := zw_bd hsem
        refine r_callVv X (pc := 114) (As := [_]) (st := []) (km_M_put hS hc25) ce_M_put kw_1998 (zo hS 71 rfl rfl) rfl rfl ⟨Nat.le_of_ble_eq_true rfl, Nat.le_of_ble_eq_true rfl⟩ (Nat.le_of_ble_eq_true rfl) (zw_dg dk_M_keep 68 rfl) ?_
        refine r_iinc X (pc := 117) (i := 4) (k := 1) (zw_dg dk_M_keep 69 rfl) rfl (by decide) (by decide) rfl ?_
        refine r_goto X (pc := 120) (tgt := 99) (zw_dg dk_M_keep 70 rfl) (by decide) ?_
        have jj := hP _ (Option.some.inj hsem).symm
        exact (r_fgt [5] rfl jj)
    have hsem := hsl21
    refine r_aload_n X (pc := 123) (i := 0) (zw_dg dk_M_keep 71 rfl) rfl rfl ?_
    refine r_aload_n X (pc := 124) (i := 0) (zw_dg dk_M_keep 72 rfl) rfl rfl ?_
    refine r_getI X (pc := 125) ci_M (zo hS 71 rfl rfl) rfl lk_M_133 (zw_dg dk_M_keep 73 rfl) ?_
    obtain ⟨c26, hc26, hsem⟩ := zw_bd hsem
    refine r_callVv X (pc := 128) (As := [_]) (st := []) (km_M_put hS hc26) ce_M_put kw_1998 (zo hS 71 rfl rfl) rfl rfl ⟨Nat.le_of_ble_eq_true rfl, Nat.le_of_ble_eq_true rfl⟩ (Nat.le_of_ble_eq_true rfl) (zw_dg dk_M_keep 74 rfl) ?_
    refine r_iconst X (pc := 131) (v := 0) (zw_dg dk_M_keep 75 rfl) (by decide) ?_
    refine r_istore_n X (pc := 132) (i := 2) (zw_dg dk_M_keep 76 rfl) rfl (by decide) rfl ?_
    obtain ⟨c29, hl30, hsl30⟩ := zw_bd hsem
    refine r_loop (pc := 133) (pce := 175) hl30 (fun (k27, c28) => [some (.ref 71), some (.int i1), some (.int k27), some (.int 6), none, none] : Int32 × zw_Ct → zw_Lc) (fun (k27, c28) => c28 : Int32 × zw_Ct → zw_Ct) (fun c29 => [some (.ref 71), some (.int i1), none, some (.int 6), none, none] : zw_Ct → zw_Lc) (fun c29 => c29 : zw_Ct → zw_Ct) ?_ rfl rfl ?_
    · rintro ⟨k27, c28⟩ rr hsem hK hP
      try unfold fn_M_keep_l3 at hsem
      refine r_iload_n X (pc := 133) (i := 2) (zw_dg dk_M_keep 77 rfl) rfl rfl ?_
      refine r_bipush X (pc := 134) (v := 40) (zw_dg dk_M_keep 78 rfl) (by decide) ?_
      refine r_icmp_ge X (pc := 136) (tgt := 175) (zw_dg dk_M_keep 79 rfl) (by decide) (fun q32 => ?_) (fun q32 => ?_)
      · --
        have p31 : ¬ (k27 < 40) := (Int32.not_lt.mpr q32)
        have hsem := zw_ifn p31 hsem
        have jj := hK _ (Option.some.inj hsem).symm
        exact (r_fgt [2] rfl jj)
      · --
        have p31 : (k27 < 40) := (Int32.not_le.mp q32)
        have hsem := zw_ifp p31 hsem
        refine r_aload_n X (pc := 139) (i := 0) (zw_dg dk_M_keep 80 rfl) rfl rfl ?_
        refine r_aload_n X (pc := 140) (i := 0) (zw_dg dk_M_keep 81 rfl) rfl rfl ?_
        refine r_getR X (pc := 141) (r := 94) ci_M (zo hS 71 rfl rfl) rfl (zr hS 71 34 rfl rfl) lk_M_76 (zw_dg dk_M_keep 82 rfl) ?_
        refine r_iload_n X (pc := 144) (i := 2) (zw_dg dk_M_keep 83 rfl) rfl rfl ?_
        obtain ⟨x33, hx33, hsem⟩ := zw_bd hsem
        refine r_iald X (pc := 145) (zo hS 94 rfl rfl) hx33 (zw_dg dk_M_keep 84 rfl) ?_
        obtain ⟨c34, hc34, hsem⟩ := zw_bd hsem
        refine r_callVv X (pc := 146) (As := [_]) (st := []) (km_M_put hS hc34) ce_M_put kw_1998 (zo hS 71 rfl rfl) rfl rfl ⟨Nat.le_of_ble_eq_true rfl, Nat.le_of_ble_eq_true rfl⟩ (Nat.le_of_ble_eq_true rfl) (zw_dg dk_M_keep 85 rfl) ?_
        refine r_aload_n X (pc := 149) (i := 0) (zw_dg dk_M_keep 86 rfl) rfl rfl ?_
        refine r_aload_n X (pc := 150) (i := 0) (zw_dg dk_M_keep 87 rfl) rfl rfl ?_
        refine r_getR X (pc := 151) (r := 95) ci_M (zo hS 71 rfl rfl) rfl (zr hS 71 35 rfl rfl) lk_M_79 (zw_dg dk_M_keep 88 rfl) ?_
        refine r_iload_n X (pc := 154) (i := 2) (zw_dg dk_M_keep 89 rfl) rfl rfl ?_
        obtain ⟨x35, hx35, hsem⟩ := zw_bd hsem
        refine r_iald X (pc := 155) (zo hS 95 rfl rfl) hx35 (zw_dg dk_M_keep 90 rfl) ?_
        obtain ⟨c36, hc36, hsem⟩ := zw_bd hsem
        refine r_callVv X (pc := 156) (As := [_]) (st := []) (km_M_put hS hc36) ce_M_put kw_1998 (zo hS 71 rfl rfl) rfl rfl ⟨Nat.le_of_ble_eq_true rfl, Nat.le_of_ble_eq_true rfl⟩ (Nat.le_of_ble_eq_true rfl) (zw_dg dk_M_keep 91 rfl) ?_
        refine r_aload_n X (pc := 159) (i := 0) (zw_dg dk_M_keep 92 rfl) rfl rfl ?_
        refine r_aload_n X (pc := 160) (i := 0) (zw_dg dk_M_keep 93 rfl) rfl rfl ?_
        refine r_getR X (pc := 161) (r := 96) ci_M (zo hS 71 rfl rfl) rfl (zr hS 71 36 rfl rfl) lk_M_82 (zw_dg dk_M_keep 94 rfl) ?_
        refine r_iload_n X (pc := 164) (i := 2) (zw_dg dk_M_keep 95 rfl) rfl rfl ?_
        obtain ⟨x37, hx37, hsem⟩ := zw_bd hsem
        refine r_iald X (pc := 165) (zo hS 96 rfl rfl) hx37 (zw_dg dk_M_keep 96 rfl) ?_
        obtain ⟨c38, hc38, hsem⟩ := zw_bd hsem
        refine r_callVv X (pc := 166) (As := [_]) (st := []) (km_M_put hS hc38) ce_M_put kw_1998 (zo hS 71 rfl rfl) rfl rfl ⟨Nat.le_of_ble_eq_true rfl, Nat.le_of_ble_eq_true rfl⟩ (Nat.le_of_ble_eq_true rfl) (zw_dg dk_M_keep 97 rfl) ?_
        refine r_iinc X (pc := 169) (i := 2) (k := 1) (zw_dg dk_M_keep 98 rfl) rfl (by decide) (by decide) rfl ?_
        refine r_goto X (pc := 172) (tgt := 133) (zw_dg dk_M_keep 99 rfl) (by decide) ?_
        have jj := hP _ (Option.some.inj hsem).symm
        exact (r_fgt [] rfl jj)
    have hsem := hsl30
    refine r_aload_n X (pc := 175) (i := 0) (zw_dg dk_M_keep 100 rfl) rfl rfl ?_
    refine r_aload_n X (pc := 176) (i := 0) (zw_dg dk_M_keep 101 rfl) rfl rfl ?_
    refine r_getI X (pc := 177) ci_M (zo hS 71 rfl rfl) rfl lk_M_136 (zw_dg dk_M_keep 102 rfl) ?_
    obtain ⟨c39, hc39, hsem⟩ := zw_bd hsem
    refine r_callVv X (pc := 180) (As := [_]) (st := []) (km_M_put hS hc39) ce_M_put kw_1998 (zo hS 71 rfl rfl) rfl rfl ⟨Nat.le_of_ble_eq_true rfl, Nat.le_of_ble_eq_true rfl⟩ (Nat.le_of_ble_eq_true rfl) (zw_dg dk_M_keep 103 rfl) ?_
    refine r_iconst X (pc := 183) (v := 0) (zw_dg dk_M_keep 104 rfl) (by decide) ?_
    refine r_istore_n X (pc := 184) (i := 2) (zw_dg dk_M_keep 105 rfl) rfl (by decide) rfl ?_
    obtain ⟨c42, hl43, hsl43⟩ := zw_bd hsem
    refine r_loop (pc := 185) (pce := 217) hl43 (fun (k40, c41) => [some (.ref 71), some (.int i1), some (.int k40), some (.int 6), none, none] : Int32 × zw_Ct → zw_Lc) (fun (k40, c41) => c41 : Int32 × zw_Ct → zw_Ct) (fun c42 => [some (.ref 71), some (.int i1), none, some (.int 6), none, none] : zw_Ct → zw_Lc) (fun c42 => c42 : zw_Ct → zw_Ct) ?_ rfl rfl ?_
    · rintro ⟨k40, c41⟩ rr hsem hK hP
      try unfold fn_M_keep_l4 at hsem
      refine r_iload_n X (pc := 185) (i := 2) (zw_dg dk_M_keep 106 rfl) rfl rfl ?_
      refine r_bipush X (pc := 186) (v := 6) (zw_dg dk_M_keep 107 rfl) (by decide) ?_
      refine r_icmp_ge X (pc := 188) (tgt := 217) (zw_dg dk_M_keep 108 rfl) (by decide) (fun q45 => ?_) (fun q45 => ?_)
      · --
        have p44 : ¬ (k40 < 6) := (Int32.not_lt.mpr q45)
        have hsem := zw_ifn p44 hsem
        have jj := hK _ (Option.some.inj hsem).symm
        exact (r_fgt [2] rfl jj)
      · --
        have p44 : (k40 < 6) := (Int32.not_le.mp q45)
        have hsem := zw_ifp p44 hsem
        refine r_aload_n X (pc := 191) (i := 0) (zw_dg dk_M_keep 109 rfl) rfl rfl ?_
        refine r_aload_n X (pc := 192) (i := 0) (zw_dg dk_M_keep 110 rfl) rfl rfl ?_
        refine r_getR X (pc := 193) (r := 92) ci_M (zo hS 71 rfl rfl) rfl (zr hS 71 31 rfl rfl) lk_M_70 (zw_dg dk_M_keep 111 rfl) ?_
        refine r_iload_n X (pc := 196) (i := 2) (zw_dg dk_M_keep 112 rfl) rfl rfl ?_
        obtain ⟨x46, hx46, hsem⟩ := zw_bd hsem
        refine r_iald X (pc := 197) (zo hS 92 rfl rfl) hx46 (zw_dg dk_M_keep 113 rfl) ?_
        obtain ⟨c47, hc47, hsem⟩ := zw_bd hsem
        refine r_callVv X (pc := 198) (As := [_]) (st := []) (km_M_put hS hc47) ce_M_put kw_1998 (zo hS 71 rfl rfl) rfl rfl ⟨Nat.le_of_ble_eq_true rfl, Nat.le_of_ble_eq_true rfl⟩ (Nat.le_of_ble_eq_true rfl) (zw_dg dk_M_keep 114 rfl) ?_
        refine r_aload_n X (pc := 201) (i := 0) (zw_dg dk_M_keep 115 rfl) rfl rfl ?_
        refine r_aload_n X (pc := 202) (i := 0) (zw_dg dk_M_keep 116 rfl) rfl rfl ?_
        refine r_getR X (pc := 203) (r := 93) ci_M (zo hS 71 rfl rfl) rfl (zr hS 71 32 rfl rfl) lk_M_73 (zw_dg dk_M_keep 117 rfl) ?_
        refine r_iload_n X (pc := 206) (i := 2) (zw_dg dk_M_keep 118 rfl) rfl rfl ?_
        obtain ⟨x48, hx48, hsem⟩ := zw_bd hsem
        refine r_iald X (pc := 207) (zo hS 93 rfl rfl) hx48 (zw_dg dk_M_keep 119 rfl) ?_
        obtain ⟨c49, hc49, hsem⟩ := zw_bd hsem
        refine r_callVv X (pc := 208) (As := [_]) (st := []) (km_M_put hS hc49) ce_M_put kw_1998 (zo hS 71 rfl rfl) rfl rfl ⟨Nat.le_of_ble_eq_true rfl, Nat.le_of_ble_eq_true rfl⟩ (Nat.le_of_ble_eq_true rfl) (zw_dg dk_M_keep 120 rfl) ?_
        refine r_iinc X (pc := 211) (i := 2) (k := 1) (zw_dg dk_M_keep 121 rfl) rfl (by decide) (by decide) rfl ?_
        refine r_goto X (pc := 214) (tgt := 185) (zw_dg dk_M_keep 122 rfl) (by decide) ?_
        have jj := hP _ (Option.some.inj hsem).symm
        exact (r_fgt [] rfl jj)
    have hsem := hsl43
    refine r_iconst X (pc := 217) (v := 1) (zw_dg dk_M_keep 123 rfl) (by decide) ?_
    have hbz : (1 : Int32) = 0 ∨ (1 : Int32) = 1 := (by decide)
    obtain ⟨rfl, rfl⟩ := zw_in2 hsem
    exact r_zret X (pc := 218) rfl (zw_bzn hbz).1 (zw_dg dk_M_keep 124 rfl)
  · --
    have p4 : (¬ (¬ (fn_M_in i1.toInt64 0 2) = 0)) := (fun z => z q5)
    have hsem := zw_ifp p4 hsem
    refine r_iconst X (pc := 17) (v := 0) (zw_dg dk_M_keep 9 rfl) (by decide) ?_
    have hbz : (0 : Int32) = 0 ∨ (0 : Int32) = 1 := (by decide)
    obtain ⟨rfl, rfl⟩ := zw_in2 hsem
    exact r_zret X (pc := 18) rfl (zw_bzn hbz).1 (zw_dg dk_M_keep 10 rfl)
def y_M_again : MethodName := ⟨R_M, "again", "(I)Z"⟩
abbrev b_M_again : ByteArray := prog_14_method_102_code
def dl_M_again : List (Nat × Instr × Nat) := [(0, .aload_n 0, 1), (1, .iconst 0, 1), (2, .putfield 97, 3), (5, .iload_n 1, 1), (6, .i2l, 1), (7, .lconst 0, 1), (8, .ldc2_w 124, 3), (11, .invokestatic 120, 3), (14, .ifCond .eq 25, 3), (17, .aload_n 0, 1), (18, .getfield 88, 3), (21, .iload_n 1, 1), (22, .baload, 1), (23, .ifCond .eq 16, 3), (26, .aload_n 0, 1), (27, .getfield 91, 3), (30, .iload_n 1, 1), (31, .iaload, 1), (32, .aload_n 0, 1), (33, .getfield 139, 3), (36, .if_icmp .eq 5, 3), (39, .iconst 0, 1), (40, .ireturn, 1), (41, .aload_n 0, 1), (42, .sipush 154, 3), (45, .iload_n 1, 1), (46, .imul, 1), (47, .putfield 350, 3), (50, .iconst 0, 1), (51, .istore_n 2, 1), (52, .iload_n 2, 1), (53, .bipush 13, 2), (55, .if_icmp .ge 19, 3), (58, .aload_n 0, 1), (59, .getfield 20, 3), (62, .iload_n 2, 1), (63, .aload_n 0, 1), (64, .invokevirtual 356, 3), (67, .iastore, 1), (68, .iinc 2 1, 3), (71, .goto (-19), 3), (74, .aload_n 0, 1), (75, .aload_n 0, 1), (76, .invokevirtual 356, 3), (79, .putfield 130, 3), (82, .iconst 0, 1), (83, .istore_n 2, 1), (84, .iload_n 2, 1), (85, .bipush 6, 2), (87, .if_icmp .ge 19, 3), (90, .aload_n 0, 1), (91, .getfield 61, 3), (94, .iload_n 2, 1), (95, .aload_n 0, 1), (96, .invokevirtual 356, 3), (99, .iastore, 1), (100, .iinc 2 1, 3), (103, .goto (-19), 3), (106, .aload_n 0, 1), (107, .aload_n 0, 1), (108, .invokevirtual 356, 3), (111, .putfield 133, 3), (114, .iconst 0, 1), (115, .istore_n 2, 1), (116, .iload_n 2, 1), (117, .bipush 40, 2), (119, .if_icmp .ge 39, 3), (122, .aload_n 0, 1), (123, .getfield 76, 3), (126, .iload_n 2, 1), (127, .aload_n 0, 1), (128, .invokevirtual 356, 3), (131, .iastore, 1), (132, .aload_n 0, 1), (133, .getfield 79, 3), (136, .iload_n 2, 1), (137, .aload_n 0, 1), (138, .invokevirtual 356, 3), (141, .iastore, 1), (142, .aload_n 0, 1), (143, .getfield 82, 3), (146, .iload_n 2, 1), (147, .aload_n 0, 1), (148, .invokevirtual 356, 3), (151, .iastore, 1), (152, .iinc 2 1, 3), (155, .goto (-39), 3), (158, .aload_n 0, 1), (159, .aload_n 0, 1), (160, .invokevirtual 356, 3), (163, .putfield 136, 3), (166, .iconst 0, 1), (167, .istore_n 2, 1), (168, .iload_n 2, 1), (169, .bipush 6, 2), (171, .if_icmp .ge 29, 3), (174, .aload_n 0, 1), (175, .getfield 70, 3), (178, .iload_n 2, 1), (179, .aload_n 0, 1), (180, .invokevirtual 356, 3), (183, .iastore, 1), (184, .aload_n 0, 1), (185, .getfield 73, 3), (188, .iload_n 2, 1), (189, .aload_n 0, 1), (190, .invokevirtual 356, 3), (193, .iastore, 1), (194, .iinc 2 1, 3), (197, .goto (-29), 3), (200, .iconst 1, 1), (201, .ireturn, 1)]
theorem dk_M_again : zw_dk b_M_again dl_M_again = true := by decide +kernel
theorem ce_M_again : zw_cev y_M_again b_M_again 3 (some .boolean) 1 := ⟨⟨kt_in 2005 (by decide +kernel) rfl, kt_in 98 (by decide +kernel) rfl, by decide +kernel⟩, kt_in 2003 (by decide +kernel) rfl, kt_in 2004 (by decide +kernel) rfl⟩
def fn_M_again_l1  : Int32 × zw_Ct → Option ((zw_Ct) ⊕ (Int32 × zw_Ct)) := fun (k13, c14) =>
  if (k13 < 13) then
  ((fn_M_next c14).bind fun (r19, c20) =>
  (zw_uI 13 c20 73 k13 r19).bind fun c21 =>
  some (.inr ((k13 + 1), c21)))
  else
  (some (.inl c14))
def fn_M_again_l2  : Int32 × zw_Ct → Option ((zw_Ct) ⊕ (Int32 × zw_Ct)) := fun (k25, c26) =>
  if (k25 < 6) then
  ((fn_M_next c26).bind fun (r31, c32) =>
  (zw_uI 6 c32 89 k25 r31).bind fun c33 =>
  some (.inr ((k25 + 1), c33)))
  else
  (some (.inl c26))
def fn_M_again_l3  : Int32 × zw_Ct → Option ((zw_Ct) ⊕ (Int32 × zw_Ct)) := fun (k37, c38) =>
  if (k37 < 40) then
  ((fn_M_next c38).bind fun (r43, c44) =>
  (zw_uI 40 c44 94 k37 r43).bind fun c45 =>
  (fn_M_next c45).bind fun (r46, c47) =>
  (zw_uI 40 c47 95 k37 r46).bind fun c48 =>
  (fn_M_next c48).bind fun (r49, c50) =>
  (zw_uI 40 c50 96 k37 r49).bind fun c51 =>
  some (.inr ((k37 + 1), c51)))
  else
  (some (.inl c38))
def fn_M_again_l4  : Int32 × zw_Ct → Option ((zw_Ct) ⊕ (Int32 × zw_Ct)) := fun (k55, c56) =>
  if (k55 < 6) then
  ((fn_M_next c56).bind fun (r61, c62) =>
  (zw_uI 6 c62 92 k55 r61).bind fun c63 =>
  (fn_M_next c63).bind fun (r64, c65) =>
  (zw_uI 6 c65 93 k55 r64).bind fun c66 =>
  some (.inr ((k55 + 1), c66)))
  else
  (some (.inl c56))
def fn_M_again (c : zw_Ct) (i1 : Int32) : Option (Int32 × zw_Ct) :=
  (some (zw_wI c 71 9 0)).bind fun c3 =>
  if (¬ (¬ (fn_M_in i1.toInt64 0 2) = 0)) then
  (some (0, c3))
  else
  ((zw_aI 3 c3 98 i1).bind fun x6 =>
  if (¬ (¬ x6 = 0)) then
  (some (0, c3))
  else
  ((zw_aI 3 c3 99 i1).bind fun x9 =>
  if (¬ x9 = (c3.1 71 10)) then
  (some (0, c3))
  else
  ((some (zw_wI c3 71 41 (154 * i1))).bind fun c12 =>
  (zw_whl (fn_M_again_l1) zw_F (0, c12)).bind fun c15 =>
  (fn_M_next c15).bind fun (r22, c23) =>
  (some (zw_wI c23 71 26 r22)).bind fun c24 =>
  (zw_whl (fn_M_again_l2) zw_F (0, c24)).bind fun c27 =>
  (fn_M_next c27).bind fun (r34, c35) =>
  (some (zw_wI c35 71 33 r34)).bind fun c36 =>
  (zw_whl (fn_M_again_l3) zw_F (0, c36)).bind fun c39 =>
  (fn_M_next c39).bind fun (r52, c53) =>
  (some (zw_wI c53 71 30 r52)).bind fun c54 =>
  (zw_whl (fn_M_again_l4) zw_F (0, c54)).bind fun c57 =>
  some (1, c57))))
set_option maxRecDepth 100000 in
theorem km_M_again {l : Launch} {g : zw_G} {rr : zw_RR} {sh : zw_Sh} {c : zw_Ct} {i1 : Int32} {r : Int32} {c2 : zw_Ct} (hS : zw_Ok 0 101 sh rr) (hsem : fn_M_again c i1 = some (r, c2)) : zw_Met l g y_M_again b_M_again 3 (some .boolean) 2 rr sh [.ref 71, .int i1] c (some (.int r)) c2 := by
  unfold fn_M_again at hsem
  refine zw_Met.of (by decide +kernel) (Nat.le_of_ble_eq_true rfl) (fun p e s m args below meth cd X => ?_)
  refine zw_eL (L2 := [some (.ref 71), some (.int i1), none]) rfl ?_
  refine r_aload_n X (pc := 0) (i := 0) (zw_dg dk_M_again 0 rfl) rfl rfl ?_
  refine r_iconst X (pc := 1) (v := 0) (zw_dg dk_M_again 1 rfl) (by decide) ?_
  refine r_putI X (pc := 2) ci_M (zo hS 71 rfl rfl) rfl lk_M_97 rfl ⟨rfl, rfl⟩ (zw_dg dk_M_again 2 rfl) ?_
  obtain ⟨c3, hc3, hsem⟩ := zw_bd hsem
  refine zw_topC hc3 ?_
  refine r_iload_n X (pc := 5) (i := 1) (zw_dg dk_M_again 3 rfl) rfl rfl ?_
  refine r_i2l X (pc := 6) (zw_dg dk_M_again 4 rfl)  ?_
  refine r_lconst X (pc := 7) (v := 0) (zw_dg dk_M_again 5 rfl) (by decide) ?_
  refine r_ldc2 X (pc := 8) (v := 2) kw_1595 (zw_dg dk_M_again 6 rfl) ?_
  refine r_callSi X (pc := 11) (As := [_, _, _]) (st := []) (km_M_in hS rfl) ce_M_in kw_1597 rfl ⟨Nat.le_of_ble_eq_true rfl, Nat.le_of_ble_eq_true rfl⟩ (Nat.le_of_ble_eq_true rfl) (zw_dg dk_M_again 7 rfl) ?_
  refine r_if_eq X (pc := 14) (tgt := 39) (zw_dg dk_M_again 8 rfl) (by decide) (fun q5 => ?_) (fun q5 => ?_)
  · --
    have p4 : (¬ (¬ (fn_M_in i1.toInt64 0 2) = 0)) := (fun z => z q5)
    have hsem := zw_ifp p4 hsem
    refine r_iconst X (pc := 39) (v := 0) (zw_dg dk_M_again 21 rfl) (by decide) ?_
    have hbz : (0 : Int32) = 0 ∨ (0 : Int32) = 1 := (by decide)
    obtain ⟨rfl, rfl⟩ := zw_in2 hsem
    exact r_zret X (pc := 40) rfl (zw_bzn hbz).1 (zw_dg dk_M_again 22 rfl)
  · --
    have p4 : ¬ (¬ (¬ (fn_M_in i1.toInt64 0 2) = 0)) := (fun q => q q5)
    have hsem := zw_ifn p4 hsem
    refine r_aload_n X (pc := 17) (i := 0) (zw_dg dk_M_again 9 rfl) rfl rfl ?_
    refine r_getR X (pc := 18) (r := 98) ci_M (zo hS 71 rfl rfl) rfl (zr hS 71 39 rfl rfl) lk_M_88 (zw_dg dk_M_again 10 rfl) ?_
    refine r_iload_n X (pc := 21) (i := 1) (zw_dg dk_M_again 11 rfl) rfl rfl ?_
    obtain ⟨x6, hx6, hsem⟩ := zw_bd hsem
    refine r_zald X (pc := 22) (zo hS 98 rfl rfl) hx6 (zw_dg dk_M_again 12 rfl) ?_
    refine r_if_eq X (pc := 23) (tgt := 39) (zw_dg dk_M_again 13 rfl) (by decide) (fun q8 => ?_) (fun q8 => ?_)
    · --
      have p7 : (¬ (¬ x6 = 0)) := (fun z => z q8)
      have hsem := zw_ifp p7 hsem
      refine r_iconst X (pc := 39) (v := 0) (zw_dg dk_M_again 21 rfl) (by decide) ?_
      have hbz : (0 : Int32) = 0 ∨ (0 : Int32) = 1 := (by decide)
      obtain ⟨rfl, rfl⟩ := zw_in2 hsem
      exact r_zret X (pc := 40) rfl (zw_bzn hbz).1 (zw_dg dk_M_again 22 rfl)
    · --
      have p7 : ¬ (¬ (¬ x6 = 0)) := (fun q => q q8)
      have hsem := zw_ifn p7 hsem
      refine r_aload_n X (pc := 26) (i := 0) (zw_dg dk_M_again 14 rfl) rfl rfl ?_
      refine r_getR X (pc := 27) (r := 99) ci_M (zo hS 71 rfl rfl) rfl (zr hS 71 40 rfl rfl) lk_M_91 (zw_dg dk_M_again 15 rfl) ?_
      refine r_iload_n X (pc := 30) (i := 1) (zw_dg dk_M_again 16 rfl) rfl rfl ?_
      obtain ⟨x9, hx9, hsem⟩ := zw_bd hsem
      refine r_iald X (pc := 31) (zo hS 99 rfl rfl) hx9 (zw_dg dk_M_again 17 rfl) ?_
      refine r_aload_n X (pc := 32) (i := 0) (zw_dg dk_M_again 18 rfl) rfl rfl ?_
      refine r_getI X (pc := 33) ci_M (zo hS 71 rfl rfl) rfl lk_M_139 (zw_dg dk_M_again 19 rfl) ?_
      refine r_icmp_eq X (pc := 36) (tgt := 41) (zw_dg dk_M_again 20 rfl) (by decide) (fun q11 => ?_) (fun q11 => ?_)
      · --
        have p10 : ¬ (¬ x9 = (c3.1 71 10)) := (fun z => z q11)
        have hsem := zw_ifn p10 hsem
        refine r_aload_n X (pc := 41) (i := 0) (zw_dg dk_M_again 23 rfl) rfl rfl ?_
        refine r_sipush X (pc := 42) (v := 154) (zw_dg dk_M_again 24 rfl) (by decide) ?_
        refine r_iload_n X (pc := 45) (i := 1) (zw_dg dk_M_again 25 rfl) rfl rfl ?_
        refine r_imul X (pc := 46) (zw_dg dk_M_again 26 rfl)  ?_
        refine r_putI X (pc := 47) ci_M (zo hS 71 rfl rfl) rfl lk_M_350 rfl ⟨rfl, rfl⟩ (zw_dg dk_M_again 27 rfl) ?_
        obtain ⟨c12, hc12, hsem⟩ := zw_bd hsem
        refine zw_topC hc12 ?_
        refine r_iconst X (pc := 50) (v := 0) (zw_dg dk_M_again 28 rfl) (by decide) ?_
        refine r_istore_n X (pc := 51) (i := 2) (zw_dg dk_M_again 29 rfl) rfl (by decide) rfl ?_
        obtain ⟨c15, hl16, hsl16⟩ := zw_bd hsem
        refine r_loop (pc := 52) (pce := 74) hl16 (fun (k13, c14) => [some (.ref 71), some (.int i1), some (.int k13)] : Int32 × zw_Ct → zw_Lc) (fun (k13, c14) => c14 : Int32 × zw_Ct → zw_Ct) (fun c15 => [some (.ref 71), some (.int i1), none] : zw_Ct → zw_Lc) (fun c15 => c15 : zw_Ct → zw_Ct) ?_ rfl rfl ?_
        · rintro ⟨k13, c14⟩ rr hsem hK hP
          try unfold fn_M_again_l1 at hsem
          refine r_iload_n X (pc := 52) (i := 2) (zw_dg dk_M_again 30 rfl) rfl rfl ?_
          refine r_bipush X (pc := 53) (v := 13) (zw_dg dk_M_again 31 rfl) (by decide) ?_
          refine r_icmp_ge X (pc := 55) (tgt := 74) (zw_dg dk_M_again 32 rfl) (by decide) (fun q18 => ?_) (fun q18 => ?_)
          · --
            have p17 : ¬ (k13 < 13) := (Int32.not_lt.mpr q18)
            have hsem := zw_ifn p17 hsem
            have jj := hK _ (Option.some.inj hsem).symm
            exact (r_fgt [2] rfl jj)
          · --
            have p17 : (k13 < 13) := (Int32.not_le.mp q18)
            have hsem := zw_ifp p17 hsem
            refine r_aload_n X (pc := 58) (i := 0) (zw_dg dk_M_again 33 rfl) rfl rfl ?_
            refine r_getR X (pc := 59) (r := 73) ci_M (zo hS 71 rfl rfl) rfl (zr hS 71 4 rfl rfl) lk_M_20 (zw_dg dk_M_again 34 rfl) ?_
            refine r_iload_n X (pc := 62) (i := 2) (zw_dg dk_M_again 35 rfl) rfl rfl ?_
            refine r_aload_n X (pc := 63) (i := 0) (zw_dg dk_M_again 36 rfl) rfl rfl ?_
            obtain ⟨⟨r19, c20⟩, hr19_c20, hsem⟩ := zw_bd hsem
            refine r_callVi X (pc := 64) (As := []) (st := [.int k13, .ref 73]) (km_M_next hS hr19_c20) ce_M_next kw_2006 (zo hS 71 rfl rfl) rfl rfl ⟨Nat.le_of_ble_eq_true rfl, Nat.le_of_ble_eq_true rfl⟩ (Nat.le_of_ble_eq_true rfl) (zw_dg dk_M_again 37 rfl) ?_
            obtain ⟨c21, hc21, hsem⟩ := zw_bd hsem
            refine r_iast X (pc := 67) (zo hS 73 rfl rfl) hc21 (zw_dg dk_M_again 38 rfl) ?_
            refine r_iinc X (pc := 68) (i := 2) (k := 1) (zw_dg dk_M_again 39 rfl) rfl (by decide) (by decide) rfl ?_
            refine r_goto X (pc := 71) (tgt := 52) (zw_dg dk_M_again 40 rfl) (by decide) ?_
            have jj := hP _ (Option.some.inj hsem).symm
            exact (r_fgt [] rfl jj)
        have hsem := hsl16
        refine r_aload_n X (pc := 74) (i := 0) (zw_dg dk_M_again 41 rfl) rfl rfl ?_
        refine r_aload_n X (pc := 75) (i := 0) (zw_dg dk_M_again 42 rfl) rfl rfl ?_
        obtain ⟨⟨r22, c23⟩, hr22_c23, hsem⟩ := zw_bd hsem
        refine r_callVi X (pc := 76) (As := []) (st := [.ref 71]) (km_M_next hS hr22_c23) ce_M_next kw_2006 (zo hS 71 rfl rfl) rfl rfl ⟨Nat.le_of_ble_eq_true rfl, Nat.le_of_ble_eq_true rfl⟩ (Nat.le_of_ble_eq_true rfl) (zw_dg dk_M_again 43 rfl) ?_
        refine r_putI X (pc := 79) ci_M (zo hS 71 rfl rfl) rfl lk_M_130 rfl ⟨rfl, rfl⟩ (zw_dg dk_M_again 44 rfl) ?_
        obtain ⟨c24, hc24, hsem⟩ := zw_bd hsem
        refine zw_topC hc24 ?_
        refine r_iconst X (pc := 82) (v := 0) (zw_dg dk_M_again 45 rfl) (by decide) ?_
        refine r_istore_n X (pc := 83) (i := 2) (zw_dg dk_M_again 46 rfl) rfl (by decide) rfl ?_
        obtain ⟨c27, hl28, hsl28⟩ := zw_bd hsem
        refine r_loop (pc := 84) (pce := 106) hl28 (fun (k25, c26) => [some (.ref 71), some (.int i1), some (.int k25)] : Int32 × zw_Ct → zw_Lc) (fun (k25, c26) => c26 : Int32 × zw_Ct → zw_Ct) (fun c27 => [some (.ref 71), some (.int i1), none] : zw_Ct → zw_Lc) (fun c27 => c27 : zw_Ct → zw_Ct) ?_ rfl rfl ?_
        · rintro ⟨k25, c26⟩ rr hsem hK hP
          try unfold fn_M_again_l2 at hsem
          refine r_iload_n X (pc := 84) (i := 2) (zw_dg dk_M_again 47 rfl) rfl rfl ?_
          refine r_bipush X (pc := 85) (v := 6) (zw_dg dk_M_again 48 rfl) (by decide) ?_
          refine r_icmp_ge X (pc := 87) (tgt := 106) (zw_dg dk_M_again 49 rfl) (by decide) (fun q30 => ?_) (fun q30 => ?_)
          · --
            have p29 : ¬ (k25 < 6) := (Int32.not_lt.mpr q30)
            have hsem := zw_ifn p29 hsem
            have jj := hK _ (Option.some.inj hsem).symm
            exact (r_fgt [2] rfl jj)
          · --
            have p29 : (k25 < 6) := (Int32.not_le.mp q30)
            have hsem := zw_ifp p29 hsem
            refine r_aload_n X (pc := 90) (i := 0) (zw_dg dk_M_again 50 rfl) rfl rfl ?_
            refine r_getR X (pc := 91) (r := 89) ci_M (zo hS 71 rfl rfl) rfl (zr hS 71 27 rfl rfl) lk_M_61 (zw_dg dk_M_again 51 rfl) ?_
            refine r_iload_n X (pc := 94) (i := 2) (zw_dg dk_M_again 52 rfl) rfl rfl ?_
            refine r_aload_n X (pc := 95) (i := 0) (zw_dg dk_M_again 53 rfl) rfl rfl ?_
            obtain ⟨⟨r31, c32⟩, hr31_c32, hsem⟩ := zw_bd hsem
            refine r_callVi X (pc := 96) (As := []) (st := [.int k25, .ref 89]) (km_M_next hS hr31_c32) ce_M_next kw_2006 (zo hS 71 rfl rfl) rfl rfl ⟨Nat.le_of_ble_eq_true rfl, Nat.le_of_ble_eq_true rfl⟩ (Nat.le_of_ble_eq_true rfl) (zw_dg dk_M_again 54 rfl) ?_
            obtain ⟨c33, hc33, hsem⟩ := zw_bd hsem
            refine r_iast X (pc := 99) (zo hS 89 rfl rfl) hc33 (zw_dg dk_M_again 55 rfl) ?_
            refine r_iinc X (pc := 100) (i := 2) (k := 1) (zw_dg dk_M_again 56 rfl) rfl (by decide) (by decide) rfl ?_
            refine r_goto X (pc := 103) (tgt := 84) (zw_dg dk_M_again 57 rfl) (by decide) ?_
            have jj := hP _ (Option.some.inj hsem).symm
            exact (r_fgt [] rfl jj)
        have hsem := hsl28
        refine r_aload_n X (pc := 106) (i := 0) (zw_dg dk_M_again 58 rfl) rfl rfl ?_
        refine r_aload_n X (pc := 107) (i := 0) (zw_dg dk_M_again 59 rfl) rfl rfl ?_
        obtain ⟨⟨r34, c35⟩, hr34_c35, hsem⟩ := zw_bd hsem
        refine r_callVi X (pc := 108) (As := []) (st := [.ref 71]) (km_M_next hS hr34_c35) ce_M_next kw_2006 (zo hS 71 rfl rfl) rfl rfl ⟨Nat.le_of_ble_eq_true rfl, Nat.le_of_ble_eq_true rfl⟩ (Nat.le_of_ble_eq_true rfl) (zw_dg dk_M_again 60 rfl) ?_
        refine r_putI X (pc := 111) ci_M (zo hS 71 rfl rfl) rfl lk_M_133 rfl ⟨rfl, rfl⟩ (zw_dg dk_M_again 61 rfl) ?_
        obtain ⟨c36, hc36, hsem⟩ := zw_bd hsem
        refine zw_topC hc36 ?_
        refine r_iconst X (pc := 114) (v := 0) (zw_dg dk_M_again 62 rfl) (by decide) ?_
        refine r_istore_n X (pc := 115) (i := 2) (zw_dg dk_M_again 63 rfl) rfl (by decide) rfl ?_
        obtain ⟨c39, hl40, hsl40⟩ := zw_bd hsem
        refine r_loop (pc := 116) (pce := 158) hl40 (fun (k37, c38) => [some (.ref 71), some (.int i1), some (.int k37)] : Int32 × zw_Ct → zw_Lc) (fun (k37, c38) => c38 : Int32 × zw_Ct → zw_Ct) (fun c39 => [some (.ref 71), some (.int i1), none] : zw_Ct → zw_Lc) (fun c39 => c39 : zw_Ct → zw_Ct) ?_ rfl rfl ?_
        · rintro ⟨k37, c38⟩ rr hsem hK hP
          try unfold fn_M_again_l3 at hsem
          refine r_iload_n X (pc := 116) (i := 2) (zw_dg dk_M_again 64 rfl) rfl rfl ?_
          refine r_bipush X (pc := 117) (v := 40) (zw_dg dk_M_again 65 rfl) (by decide) ?_
          refine r_icmp_ge X (pc := 119) (tgt := 158) (zw_dg dk_M_again 66 rfl) (by decide) (fun q42 => ?_) (fun q42 => ?_)
          · --
            have p41 : ¬ (k37 < 40) := (Int32.not_lt.mpr q42)
            have hsem := zw_ifn p41 hsem
            have jj := hK _ (Option.some.inj hsem).symm
            exact (r_fgt [2] rfl jj)
          · --
            have p41 : (k37 < 40) := (Int32.not_le.mp q42)
            have hsem := zw_ifp p41 hsem
            refine r_aload_n X (pc := 122) (i := 0) (zw_dg dk_M_again 67 rfl) rfl rfl ?_
            refine r_getR X (pc := 123) (r := 94) ci_M (zo hS 71 rfl rfl) rfl (zr hS 71 34 rfl rfl) lk_M_76 (zw_dg dk_M_again 68 rfl) ?_
            refine r_iload_n X (pc := 126) (i := 2) (zw_dg dk_M_again 69 rfl) rfl rfl ?_
            refine r_aload_n X (pc := 127) (i := 0) (zw_dg dk_M_again 70 rfl) rfl rfl ?_
            obtain ⟨⟨r43, c44⟩, hr43_c44, hsem⟩ := zw_bd hsem
            refine r_callVi X (pc := 128) (As := []) (st := [.int k37, .ref 94]) (km_M_next hS hr43_c44) ce_M_next kw_2006 (zo hS 71 rfl rfl) rfl rfl ⟨Nat.le_of_ble_eq_true rfl, Nat.le_of_ble_eq_true rfl⟩ (Nat.le_of_ble_eq_true rfl) (zw_dg dk_M_again 71 rfl) ?_
            obtain ⟨c45, hc45, hsem⟩ := zw_bd hsem
            refine r_iast X (pc := 131) (zo hS 94 rfl rfl) hc45 (zw_dg dk_M_again 72 rfl) ?_
            refine r_aload_n X (pc := 132) (i := 0) (zw_dg dk_M_again 73 rfl) rfl rfl ?_
            refine r_getR X (pc := 133) (r := 95) ci_M (zo hS 71 rfl rfl) rfl (zr hS 71 35 rfl rfl) lk_M_79 (zw_dg dk_M_again 74 rfl) ?_
            refine r_iload_n X (pc := 136) (i := 2) (zw_dg dk_M_again 75 rfl) rfl rfl ?_
            refine r_aload_n X (pc := 137) (i := 0) (zw_dg dk_M_again 76 rfl) rfl rfl ?_
            obtain ⟨⟨r46, c47⟩, hr46_c47, hsem⟩ := zw_bd hsem
            refine r_callVi X (pc := 138) (As := []) (st := [.int k37, .ref 95]) (km_M_next hS hr46_c47) ce_M_next kw_2006 (zo hS 71 rfl rfl) rfl rfl ⟨Nat.le_of_ble_eq_true rfl, Nat.le_of_ble_eq_true rfl⟩ (Nat.le_of_ble_eq_true rfl) (zw_dg dk_M_again 77 rfl) ?_
            obtain ⟨c48, hc48, hsem⟩ := zw_bd hsem
            refine r_iast X (pc := 141) (zo hS 95 rfl rfl) hc48 (zw_dg dk_M_again 78 rfl) ?_
            refine r_aload_n X (pc := 142) (i := 0) (zw_dg dk_M_again 79 rfl) rfl rfl ?_
            refine r_getR X (pc := 143) (r := 96) ci_M (zo hS 71 rfl rfl) rfl (zr hS 71 36 rfl rfl) lk_M_82 (zw_dg dk_M_again 80 rfl) ?_
            refine r_iload_n X (pc := 146) (i := 2) (zw_dg dk_M_again 81 rfl) rfl rfl ?_
            refine r_aload_n X (pc := 147) (i := 0) (zw_dg dk_M_again 82 rfl) rfl rfl ?_
            obtain ⟨⟨r49, c50⟩, hr49_c50, hsem⟩ := zw_bd hsem
            refine r_callVi X (pc := 148) (As := []) (st := [.int k37, .ref 96]) (km_M_next hS hr49_c50) ce_M_next kw_2006 (zo hS 71 rfl rfl) rfl rfl ⟨Nat.le_of_ble_eq_true rfl, Nat.le_of_ble_eq_true rfl⟩ (Nat.le_of_ble_eq_true rfl) (zw_dg dk_M_again 83 rfl) ?_
            obtain ⟨c51, hc51, hsem⟩ := zw_bd hsem
            refine r_iast X (pc := 151) (zo hS 96 rfl rfl) hc51 (zw_dg dk_M_again 84 rfl) ?_
            refine r_iinc X (pc := 152) (i := 2) (k := 1) (zw_dg dk_M_again 85 rfl) rfl (by decide) (by decide) rfl ?_
            refine r_goto X (pc := 155) (tgt := 116) (zw_dg dk_M_again 86 rfl) (by decide) ?_
            have jj := hP _ (Option.some.inj hsem).symm
            exact (r_fgt [] rfl jj)
        have hsem := hsl40
        refine r_aload_n X (pc := 158) (i := 0) (zw_dg dk_M_again 87 rfl) rfl rfl ?_
        refine r_aload_n X (pc := 159) (i := 0) (zw_dg dk_M_again 88 rfl) rfl rfl ?_
        obtain ⟨⟨r52, c53⟩, hr52_c53, hsem⟩ := zw_bd hsem
        refine r_callVi X (pc := 160) (As := []) (st := [.ref 71]) (km_M_next hS hr52_c53) ce_M_next kw_2006 (zo hS 71 rfl rfl) rfl rfl ⟨Nat.le_of_ble_eq_true rfl, Nat.le_of_ble_eq_true rfl⟩ (Nat.le_of_ble_eq_true rfl) (zw_dg dk_M_again 89 rfl) ?_
        refine r_putI X (pc := 163) ci_M (zo hS 71 rfl rfl) rfl lk_M_136 rfl ⟨rfl, rfl⟩ (zw_dg dk_M_again 90 rfl) ?_
        obtain ⟨c54, hc54, hsem⟩ := zw_bd hsem
        refine zw_topC hc54 ?_
        refine r_iconst X (pc := 166) (v := 0) (zw_dg dk_M_again 91 rfl) (by decide) ?_
        refine r_istore_n X (pc := 167) (i := 2) (zw_dg dk_M_again 92 rfl) rfl (by decide) rfl ?_
        obtain ⟨c57, hl58, hsl58⟩ := zw_bd hsem
        refine r_loop (pc := 168) (pce := 200) hl58 (fun (k55, c56) => [some (.ref 71), some (.int i1), some (.int k55)] : Int32 × zw_Ct → zw_Lc) (fun (k55, c56) => c56 : Int32 × zw_Ct → zw_Ct) (fun c57 => [some (.ref 71), some (.int i1), none] : zw_Ct → zw_Lc) (fun c57 => c57 : zw_Ct → zw_Ct) ?_ rfl rfl ?_
        · rintro ⟨k55, c56⟩ rr hsem hK hP
          try unfold fn_M_again_l4 at hsem
          refine r_iload_n X (pc := 168) (i := 2) (zw_dg dk_M_again 93 rfl) rfl rfl ?_
          refine r_bipush X (pc := 169) (v := 6) (zw_dg dk_M_again 94 rfl) (by decide) ?_
          refine r_icmp_ge X (pc := 171) (tgt := 200) (zw_dg dk_M_again 95 rfl) (by decide) (fun q60 => ?_) (fun q60 => ?_)
          · --
            have p59 : ¬ (k55 < 6) := (Int32.not_lt.mpr q60)
            have hsem := zw_ifn p59 hsem
            have jj := hK _ (Option.some.inj hsem).symm
            exact (r_fgt [2] rfl jj)
          · --
            have p59 : (k55 < 6) := (Int32.not_le.mp q60)
            have hsem := zw_ifp p59 hsem
            refine r_aload_n X (pc := 174) (i := 0) (zw_dg dk_M_again 96 rfl) rfl rfl ?_
            refine r_getR X (pc := 175) (r := 92) ci_M (zo hS 71 rfl rfl) rfl (zr hS 71 31 rfl rfl) lk_M_70 (zw_dg dk_M_again 97 rfl) ?_
            refine r_iload_n X (pc := 178) (i := 2) (zw_dg dk_M_again 98 rfl) rfl rfl ?_
            refine r_aload_n X (pc := 179) (i := 0) (zw_dg dk_M_again 99 rfl) rfl rfl ?_
            obtain ⟨⟨r61, c62⟩, hr61_c62, hsem⟩ := zw_bd hsem
            refine r_callVi X (pc := 180) (As := []) (st := [.int k55, .ref 92]) (km_M_next hS hr61_c62) ce_M_next kw_2006 (zo hS 71 rfl rfl) rfl rfl ⟨Nat.le_of_ble_eq_true rfl, Nat.le_of_ble_eq_true rfl⟩ (Nat.le_of_ble_eq_true rfl) (zw_dg dk_M_again 100 rfl) ?_
            obtain ⟨c63, hc63, hsem⟩ := zw_bd hsem
            refine r_iast X (pc := 183) (zo hS 92 rfl rfl) hc63 (zw_dg dk_M_again 101 rfl) ?_
            refine r_aload_n X (pc := 184) (i := 0) (zw_dg dk_M_again 102 rfl) rfl rfl ?_
            refine r_getR X (pc := 185) (r := 93) ci_M (zo hS 71 rfl rfl) rfl (zr hS 71 32 rfl rfl) lk_M_73 (zw_dg dk_M_again 103 rfl) ?_
            refine r_iload_n X (pc := 188) (i := 2) (zw_dg dk_M_again 104 rfl) rfl rfl ?_
            refine r_aload_n X (pc := 189) (i := 0) (zw_dg dk_M_again 105 rfl) rfl rfl ?_
            obtain ⟨⟨r64, c65⟩, hr64_c65, hsem⟩ := zw_bd hsem
            refine r_callVi X (pc := 190) (As := []) (st := [.int k55, .ref 93]) (km_M_next hS hr64_c65) ce_M_next kw_2006 (zo hS 71 rfl rfl) rfl rfl ⟨Nat.le_of_ble_eq_true rfl, Nat.le_of_ble_eq_true rfl⟩ (Nat.le_of_ble_eq_true rfl) (zw_dg dk_M_again 106 rfl) ?_
            obtain ⟨c66, hc66, hsem⟩ := zw_bd hsem
            refine r_iast X (pc := 193) (zo hS 93 rfl rfl) hc66 (zw_dg dk_M_again 107 rfl) ?_
            refine r_iinc X (pc := 194) (i := 2) (k := 1) (zw_dg dk_M_again 108 rfl) rfl (by decide) (by decide) rfl ?_
            refine r_goto X (pc := 197) (tgt := 168) (zw_dg dk_M_again 109 rfl) (by decide) ?_
            have jj := hP _ (Option.some.inj hsem).symm
            exact (r_fgt [] rfl jj)
        have hsem := hsl58
        refine r_iconst X (pc := 200) (v := 1) (zw_dg dk_M_again 110 rfl) (by decide) ?_
        have hbz : (1 : Int32) = 0 ∨ (1 : Int32) = 1 := (by decide)
        obtain ⟨rfl, rfl⟩ := zw_in2 hsem
        exact r_zret X (pc := 201) rfl (zw_bzn hbz).1 (zw_dg dk_M_again 111 rfl)
      · --
        have p10 : (¬ x9 = (c3.1 71 10)) := q11
        have hsem := zw_ifp p10 hsem
        refine r_iconst X (pc := 39) (v := 0) (zw_dg dk_M_again 21 rfl) (by decide) ?_
        have hbz : (0 : Int32) = 0 ∨ (0 : Int32) = 1 := (by decide)
        obtain ⟨rfl, rfl⟩ := zw_in2 hsem
        exact r_zret X (pc := 40) rfl (zw_bzn hbz).1 (zw_dg dk_M_again 22 rfl)
