/-! PaidForThinking$Contest: names, functions, contracts (by program: wip/whole/gen) -/
def y_Contest_allSayTheTruth : MethodName := ⟨R_Contest, "allSayTheTruth", "()V"⟩
abbrev b_Contest_allSayTheTruth : ByteArray := prog_3_method_2_code
def dl_Contest_allSayTheTruth : List (Nat × Instr × Nat) := [(0, .aload_n 0, 1), (1, .getfield 22, 3), (4, .getfield 26, 3), (7, .iconst 0, 1), (8, .aload_n 0, 1), (9, .getfield 9, 3), (12, .iconst 0, 1), (13, .bipush 6, 2), (15, .invokestatic 31, 3), (18, .return_, 1)]
theorem dk_Contest_allSayTheTruth : zw_dk b_Contest_allSayTheTruth dl_Contest_allSayTheTruth = true := by decide +kernel
theorem ce_Contest_allSayTheTruth : zw_cev y_Contest_allSayTheTruth b_Contest_allSayTheTruth 1 (none) 0 := ⟨⟨kt_in 1062 (by decide +kernel) rfl, kt_in 95 (by decide +kernel) rfl, by decide +kernel⟩, kt_in 1061 (by decide +kernel) rfl, kt_in 20 (by decide +kernel) rfl⟩
def fn_Contest_allSayTheTruth (c : zw_Ct) : Option zw_Ct :=
  (zw_cp 6 6 c 5 0 66 0 6).bind fun c3 =>
  some c3
set_option maxRecDepth 100000 in
theorem km_Contest_allSayTheTruth {l : Launch} {g : zw_G} {rr : zw_RR} {sh : zw_Sh} {c : zw_Ct} {c2 : zw_Ct} (hS : zw_Ok 0 101 sh rr) (hsem : fn_Contest_allSayTheTruth c = some c2) : zw_Met l g y_Contest_allSayTheTruth b_Contest_allSayTheTruth 1 (none) 1 rr sh [.ref 65] c none c2 := by
  unfold fn_Contest_allSayTheTruth at hsem
  refine zw_Met.of (by decide +kernel) (Nat.le_of_ble_eq_true rfl) (fun p e s m args below meth cd X => ?_)
  refine zw_eL (L2 := [some (.ref 65)]) rfl ?_
  refine r_aload_n X (pc := 0) (i := 0) (zw_dg dk_Contest_allSayTheTruth 0 rfl) rfl rfl ?_
  refine r_getR X (pc := 1) (r := 3) ci_Contest (zo hS 65 rfl rfl) rfl (zr hS 65 1 rfl rfl) lk_Contest_22 (zw_dg dk_Contest_allSayTheTruth 1 rfl) ?_
  refine r_getR X (pc := 4) (r := 5) ci_Held (zo hS 3 rfl rfl) rfl (zr hS 3 1 rfl rfl) lk_Contest_26 (zw_dg dk_Contest_allSayTheTruth 2 rfl) ?_
  refine r_iconst X (pc := 7) (v := 0) (zw_dg dk_Contest_allSayTheTruth 3 rfl) (by decide) ?_
  refine r_aload_n X (pc := 8) (i := 0) (zw_dg dk_Contest_allSayTheTruth 4 rfl) rfl rfl ?_
  refine r_getR X (pc := 9) (r := 66) ci_Contest (zo hS 65 rfl rfl) rfl (zr hS 65 2 rfl rfl) lk_Contest_9 (zw_dg dk_Contest_allSayTheTruth 5 rfl) ?_
  refine r_iconst X (pc := 12) (v := 0) (zw_dg dk_Contest_allSayTheTruth 6 rfl) (by decide) ?_
  refine r_bipush X (pc := 13) (v := 6) (zw_dg dk_Contest_allSayTheTruth 7 rfl) (by decide) ?_
  obtain ⟨c3, hc3, hsem⟩ := zw_bd hsem
  refine r_copy X (pc := 15) kw_1063 kw_695 kw_694 kw_108 (zo hS 5 rfl rfl) (zo hS 66 rfl rfl) hc3 ⟨Nat.le_of_ble_eq_true rfl, by decide⟩ (st := []) (Nat.le_of_ble_eq_true rfl) (zw_dg dk_Contest_allSayTheTruth 8 rfl) ?_
  cases hsem
  exact r_vret X (pc := 18) rfl (zw_dg dk_Contest_allSayTheTruth 9 rfl)
def y_Contest_share : MethodName := ⟨R_Contest, "share", "([IIII)I"⟩
abbrev b_Contest_share : ByteArray := prog_3_method_5_code
def dl_Contest_share : List (Nat × Instr × Nat) := [(0, .aload_n 1, 1), (1, .iload_n 3, 1), (2, .iconst 4, 1), (3, .imul, 1), (4, .iload 4, 2), (6, .iadd, 1), (7, .iaload, 1), (8, .istore 5, 2), (10, .iconst 1, 1), (11, .istore 6, 2), (13, .iconst 0, 1), (14, .istore 7, 2), (16, .iload 7, 2), (18, .aload_n 0, 1), (19, .getfield 22, 3), (22, .getfield 58, 3), (25, .if_icmp .ge 56, 3), (28, .aload_n 1, 1), (29, .aload_n 0, 1), (30, .getfield 9, 3), (33, .iload 7, 2), (35, .iaload, 1), (36, .iconst 4, 1), (37, .imul, 1), (38, .iload 4, 2), (40, .iadd, 1), (41, .iaload, 1), (42, .istore 8, 2), (44, .iload 7, 2), (46, .iload_n 2, 1), (47, .if_icmp .eq 12, 3), (50, .iload 8, 2), (52, .iload 5, 2), (54, .if_icmp .le 5, 3), (57, .iconst 0, 1), (58, .ireturn, 1), (59, .iload 7, 2), (61, .iload_n 2, 1), (62, .if_icmp .eq 13, 3), (65, .iload 8, 2), (67, .iload 5, 2), (69, .if_icmp .ne 6, 3), (72, .iinc 6 1, 3), (75, .iinc 7 1, 3), (78, .goto (-62), 3), (81, .bipush 60, 2), (83, .iload 6, 2), (85, .idiv, 1), (86, .ireturn, 1)]
theorem dk_Contest_share : zw_dk b_Contest_share dl_Contest_share = true := by decide +kernel
theorem ce_Contest_share : zw_cev y_Contest_share b_Contest_share 9 (some .int) 4 := ⟨⟨kt_in 1072 (by decide +kernel) rfl, kt_in 95 (by decide +kernel) rfl, by decide +kernel⟩, kt_in 1071 (by decide +kernel) rfl, kt_in 22 (by decide +kernel) rfl⟩
def fn_Contest_share_l1 (c : zw_Ct) (values1 : Nat) (event4 : Int32) (who2 : Int32) (x5 : Int32) : Int32 × Int32 → Option (((Int32) ⊕ (Int32)) ⊕ (Int32 × Int32)) := fun (winners6, i7) =>
  if (i7 < (c.1 3 2)) then
  ((zw_aI 6 c 66 i7).bind fun x12 =>
  (zw_dI SH 0 c values1 ((x12 * 4) + event4)).bind fun x13 =>
  if ((¬ i7 = who2) ∧ (x5 < x13)) then
  (some (.inl (.inl 0)))
  else
  ((if ((¬ i7 = who2) ∧ (x13 = x5)) then
  (some ((winners6 + 1) : Int32))
  else
  (some (winners6 : Int32))).bind fun winners17 =>
  some (.inr (winners17, (i7 + 1)))))
  else
  (some (.inl (.inr winners6)))
def fn_Contest_share (c : zw_Ct) (values1 : Nat) (who2 : Int32) (saying3 : Int32) (event4 : Int32) : Option Int32 :=
  (zw_dI SH 0 c values1 ((saying3 * 4) + event4)).bind fun x5 =>
  (zw_whl (fn_Contest_share_l1 c values1 event4 who2 x5) zw_F (1, 0)).bind fun q => match q with
    | .inl w => some w
    | .inr winners8 =>
    (zw_dvI 60 winners8).bind fun d21 =>
    some d21
set_option maxRecDepth 100000 in
theorem km_Contest_share {l : Launch} {g : zw_G} {rr : zw_RR} {sh : zw_Sh} {c : zw_Ct} {values1 : Nat} {who2 : Int32} {saying3 : Int32} {event4 : Int32} {r : Int32} (hS : zw_Ok 0 101 sh rr) (hsem : fn_Contest_share c values1 who2 saying3 event4 = some r) : zw_Met l g y_Contest_share b_Contest_share 9 (some .int) 1 rr sh [.ref 65, .ref values1, .int who2, .int saying3, .int event4] c (some (.int r)) c := by
  unfold fn_Contest_share at hsem
  refine zw_Met.of (by decide +kernel) (Nat.le_of_ble_eq_true rfl) (fun p e s m args below meth cd X => ?_)
  refine zw_eL (L2 := [some (.ref 65), some (.ref values1), some (.int who2), some (.int saying3), some (.int event4), none, none, none, none]) rfl ?_
  refine r_aload_n X (pc := 0) (i := 1) (zw_dg dk_Contest_share 0 rfl) rfl rfl ?_
  refine r_iload_n X (pc := 1) (i := 3) (zw_dg dk_Contest_share 1 rfl) rfl rfl ?_
  refine r_iconst X (pc := 2) (v := 4) (zw_dg dk_Contest_share 2 rfl) (by decide) ?_
  refine r_imul X (pc := 3) (zw_dg dk_Contest_share 3 rfl)  ?_
  refine r_iload X (pc := 4) (i := 4) (zw_dg dk_Contest_share 4 rfl) rfl ?_
  refine r_iadd X (pc := 6) (zw_dg dk_Contest_share 5 rfl)  ?_
  obtain ⟨x5, hx5, hsem⟩ := zw_bd hsem
  obtain ⟨_, hnx5, hx5⟩ := zw_bd hx5
  refine r_iald X (pc := 7) (zd hS (zw_len_of hnx5)) hx5 (zw_dg dk_Contest_share 6 rfl) ?_
  refine r_istore X (pc := 8) (i := 5) (zw_dg dk_Contest_share 7 rfl) (by decide) rfl ?_
  refine r_iconst X (pc := 10) (v := 1) (zw_dg dk_Contest_share 8 rfl) (by decide) ?_
  refine r_istore X (pc := 11) (i := 6) (zw_dg dk_Contest_share 9 rfl) (by decide) rfl ?_
  refine r_iconst X (pc := 13) (v := 0) (zw_dg dk_Contest_share 10 rfl) (by decide) ?_
  refine r_istore X (pc := 14) (i := 7) (zw_dg dk_Contest_share 11 rfl) (by decide) rfl ?_
  obtain ⟨l9, hl9, hsl9⟩ := zw_bd hsem
  refine r_loopR (pc := 16) (pce := 81) hl9 (fun (winners6, i7) => [some (.ref 65), some (.ref values1), some (.int who2), some (.int saying3), some (.int event4), some (.int x5), some (.int winners6), some (.int i7), none] : Int32 × Int32 → zw_Lc) (fun (winners6, i7) => c : Int32 × Int32 → zw_Ct) (fun winners8 => [some (.ref 65), some (.ref values1), some (.int who2), some (.int saying3), some (.int event4), some (.int x5), some (.int winners8), none, none] : Int32 → zw_Lc) (fun winners8 => c : Int32 → zw_Ct) (fun w => w = r) ?_ rfl rfl ?_ ?_
  · rintro ⟨winners6, i7⟩ rr hsem hR hK hP
    try unfold fn_Contest_share_l1 at hsem
    refine r_iload X (pc := 16) (i := 7) (zw_dg dk_Contest_share 12 rfl) rfl ?_
    refine r_aload_n X (pc := 18) (i := 0) (zw_dg dk_Contest_share 13 rfl) rfl rfl ?_
    refine r_getR X (pc := 19) (r := 3) ci_Contest (zo hS 65 rfl rfl) rfl (zr hS 65 1 rfl rfl) lk_Contest_22 (zw_dg dk_Contest_share 14 rfl) ?_
    refine r_getI X (pc := 22) ci_Held (zo hS 3 rfl rfl) rfl lk_Contest_58 (zw_dg dk_Contest_share 15 rfl) ?_
    refine r_icmp_ge X (pc := 25) (tgt := 81) (zw_dg dk_Contest_share 16 rfl) (by decide) (fun q11 => ?_) (fun q11 => ?_)
    · --
      have p10 : ¬ (i7 < (c.1 3 2)) := (Int32.not_lt.mpr q11)
      have hsem := zw_ifn p10 hsem
      have jj := hK _ (Option.some.inj hsem).symm
      exact (r_fgt [7] rfl jj)
    · --
      have p10 : (i7 < (c.1 3 2)) := (Int32.not_le.mp q11)
      have hsem := zw_ifp p10 hsem
      refine r_aload_n X (pc := 28) (i := 1) (zw_dg dk_Contest_share 17 rfl) rfl rfl ?_
      refine r_aload_n X (pc := 29) (i := 0) (zw_dg dk_Contest_share 18 rfl) rfl rfl ?_
      refine r_getR X (pc := 30) (r := 66) ci_Contest (zo hS 65 rfl rfl) rfl (zr hS 65 2 rfl rfl) lk_Contest_9 (zw_dg dk_Contest_share 19 rfl) ?_
      refine r_iload X (pc := 33) (i := 7) (zw_dg dk_Contest_share 20 rfl) rfl ?_
      obtain ⟨x12, hx12, hsem⟩ := zw_bd hsem
      refine r_iald X (pc := 35) (zo hS 66 rfl rfl) hx12 (zw_dg dk_Contest_share 21 rfl) ?_
      refine r_iconst X (pc := 36) (v := 4) (zw_dg dk_Contest_share 22 rfl) (by decide) ?_
      refine r_imul X (pc := 37) (zw_dg dk_Contest_share 23 rfl)  ?_
      refine r_iload X (pc := 38) (i := 4) (zw_dg dk_Contest_share 24 rfl) rfl ?_
      refine r_iadd X (pc := 40) (zw_dg dk_Contest_share 25 rfl)  ?_
      obtain ⟨x13, hx13, hsem⟩ := zw_bd hsem
      obtain ⟨_, hnx13, hx13⟩ := zw_bd hx13
      refine r_iald X (pc := 41) (zd hS (zw_len_of hnx13)) hx13 (zw_dg dk_Contest_share 26 rfl) ?_
      refine r_istore X (pc := 42) (i := 8) (zw_dg dk_Contest_share 27 rfl) (by decide) rfl ?_
      refine zw_cnd (P := ((¬ i7 = who2) ∧ (x5 < x13))) (J1 := 57) (J2 := 59) (st2 := []) (fun jT jF => ?_) (fun p14 => ?_) (fun p14 => ?_)
      · --
        refine r_iload X (pc := 44) (i := 7) (zw_dg dk_Contest_share 28 rfl) rfl ?_
        refine r_iload_n X (pc := 46) (i := 2) (zw_dg dk_Contest_share 29 rfl) rfl rfl ?_
        refine r_icmp_eq X (pc := 47) (tgt := 59) (zw_dg dk_Contest_share 30 rfl) (by decide) (fun q15 => ?_) (fun q15 => ?_)
        · --
          exact jF (fun q => (fun z => z q15) q.1)
        · --
          refine r_iload X (pc := 50) (i := 8) (zw_dg dk_Contest_share 31 rfl) rfl ?_
          refine r_iload X (pc := 52) (i := 5) (zw_dg dk_Contest_share 32 rfl) rfl ?_
          refine r_icmp_le X (pc := 54) (tgt := 59) (zw_dg dk_Contest_share 33 rfl) (by decide) (fun q16 => ?_) (fun q16 => ?_)
          · --
            exact jF (fun q => (Int32.not_lt.mpr q16) q.2)
          · --
            exact jT ⟨q15, (Int32.not_le.mp q16)⟩
      · --
        have hsem := zw_ifp p14 hsem
        refine r_iconst X (pc := 57) (v := 0) (zw_dg dk_Contest_share 34 rfl) (by decide) ?_
        have hret := hR _ (Option.some.inj hsem).symm
        cases hret
        exact r_iret X (pc := 58) rfl (zw_dg dk_Contest_share 35 rfl)
      · --
        have hsem := zw_ifn p14 hsem
        obtain ⟨winners17, ht75, hs75⟩ := zw_bd hsem
        refine zw_jn (J := 75) (L2 := [some (.ref 65), some (.ref values1), some (.int who2), some (.int saying3), some (.int event4), some (.int x5), some (.int winners17), some (.int i7), some (.int x13)]) (c2 := c) (fun jj => ?_) ?_
        · have hsem := ht75
          refine zw_cnd (P := ((¬ i7 = who2) ∧ (x13 = x5))) (J1 := 72) (J2 := 75) (st2 := []) (fun jT jF => ?_) (fun p18 => ?_) (fun p18 => ?_)
          · --
            refine r_iload X (pc := 59) (i := 7) (zw_dg dk_Contest_share 36 rfl) rfl ?_
            refine r_iload_n X (pc := 61) (i := 2) (zw_dg dk_Contest_share 37 rfl) rfl rfl ?_
            refine r_icmp_eq X (pc := 62) (tgt := 75) (zw_dg dk_Contest_share 38 rfl) (by decide) (fun q19 => ?_) (fun q19 => ?_)
            · --
              exact jF (fun q => (fun z => z q19) q.1)
            · --
              refine r_iload X (pc := 65) (i := 8) (zw_dg dk_Contest_share 39 rfl) rfl ?_
              refine r_iload X (pc := 67) (i := 5) (zw_dg dk_Contest_share 40 rfl) rfl ?_
              refine r_icmp_ne X (pc := 69) (tgt := 75) (zw_dg dk_Contest_share 41 rfl) (by decide) (fun q20 => ?_) (fun q20 => ?_)
              · --
                exact jF (fun q => q20 q.2)
              · --
                exact jT ⟨q19, q20⟩
          · --
            have hsem := zw_ifp p18 hsem
            refine r_iinc X (pc := 72) (i := 6) (k := 1) (zw_dg dk_Contest_share 42 rfl) rfl (by decide) (by decide) rfl ?_
            cases hsem
            exact (r_fgt [] rfl jj)
          · --
            have hsem := zw_ifn p18 hsem
            cases hsem
            exact (r_fgt [] rfl jj)
        have hsem := hs75
        refine r_iinc X (pc := 75) (i := 7) (k := 1) (zw_dg dk_Contest_share 43 rfl) rfl (by decide) (by decide) rfl ?_
        refine r_goto X (pc := 78) (tgt := 16) (zw_dg dk_Contest_share 44 rfl) (by decide) ?_
        have jj := hP _ (Option.some.inj hsem).symm
        exact (r_fgt [8] rfl jj)
  · intro w hw
    subst hw
    exact Option.some.inj hsl9
  rintro winners8 hw
  subst hw
  have hsem := hsl9
  refine r_bipush X (pc := 81) (v := 60) (zw_dg dk_Contest_share 45 rfl) (by decide) ?_
  refine r_iload X (pc := 83) (i := 6) (zw_dg dk_Contest_share 46 rfl) rfl ?_
  obtain ⟨d21, hd21, hsem⟩ := zw_bd hsem
  obtain ⟨hyd21, hd21⟩ := zw_dvI_of hd21
  refine r_idiv X (pc := 85) (zw_dg dk_Contest_share 47 rfl) hyd21 ?_
  refine zw_eqtI hd21 ?_
  cases hsem
  exact r_iret X (pc := 86) rfl (zw_dg dk_Contest_share 48 rfl)
def y_Contest_prizeIf : MethodName := ⟨R_Contest, "prizeIf", "([III)I"⟩
abbrev b_Contest_prizeIf : ByteArray := prog_3_method_4_code
def dl_Contest_prizeIf : List (Nat × Instr × Nat) := [(0, .iconst 0, 1), (1, .istore 4, 2), (3, .iconst 0, 1), (4, .istore 5, 2), (6, .iload 5, 2), (8, .aload_n 0, 1), (9, .getfield 18, 3), (12, .getfield 44, 3), (15, .if_icmp .ge 42, 3), (18, .iload 4, 2), (20, .aload_n 0, 1), (21, .getfield 18, 3), (24, .aload_n 0, 1), (25, .getfield 22, 3), (28, .getfield 26, 3), (31, .iload_n 2, 1), (32, .iaload, 1), (33, .iload 5, 2), (35, .invokevirtual 50, 3), (38, .aload_n 0, 1), (39, .aload_n 1, 1), (40, .iload_n 2, 1), (41, .iload_n 3, 1), (42, .iload 5, 2), (44, .invokevirtual 54, 3), (47, .imul, 1), (48, .iadd, 1), (49, .istore 4, 2), (51, .iinc 5 1, 3), (54, .goto (-48), 3), (57, .iload 4, 2), (59, .ireturn, 1)]
theorem dk_Contest_prizeIf : zw_dk b_Contest_prizeIf dl_Contest_prizeIf = true := by decide +kernel
theorem ce_Contest_prizeIf : zw_cev y_Contest_prizeIf b_Contest_prizeIf 6 (some .int) 3 := ⟨⟨kt_in 1067 (by decide +kernel) rfl, kt_in 95 (by decide +kernel) rfl, by decide +kernel⟩, kt_in 1066 (by decide +kernel) rfl, kt_in 21 (by decide +kernel) rfl⟩
def fn_Contest_prizeIf_l1 (c : zw_Ct) (who2 : Int32) (values1 : Nat) (saying3 : Int32) : Int32 × Int32 → Option ((Int32) ⊕ (Int32 × Int32)) := fun (sum4, e5) =>
  if (e5 < (c.1 1 0)) then
  ((zw_aI 6 c 5 who2).bind fun x10 =>
  (fn_Sayings_partOf c x10 e5).bind fun r11 =>
  (fn_Contest_share c values1 who2 saying3 e5).bind fun r12 =>
  (some ((sum4 + (r11 * r12)) : Int32)).bind fun sum13 =>
  some (.inr (sum13, (e5 + 1))))
  else
  (some (.inl sum4))
def fn_Contest_prizeIf (c : zw_Ct) (values1 : Nat) (who2 : Int32) (saying3 : Int32) : Option Int32 :=
  (zw_whl (fn_Contest_prizeIf_l1 c who2 values1 saying3) zw_F (0, 0)).bind fun sum6 =>
  some sum6
set_option maxRecDepth 100000 in
theorem km_Contest_prizeIf {l : Launch} {g : zw_G} {rr : zw_RR} {sh : zw_Sh} {c : zw_Ct} {values1 : Nat} {who2 : Int32} {saying3 : Int32} {r : Int32} (hS : zw_Ok 0 101 sh rr) (hsem : fn_Contest_prizeIf c values1 who2 saying3 = some r) : zw_Met l g y_Contest_prizeIf b_Contest_prizeIf 6 (some .int) 2 rr sh [.ref 65, .ref values1, .int who2, .int saying3] c (some (.int r)) c := by
  unfold fn_Contest_prizeIf at hsem
  refine zw_Met.of (by decide +kernel) (Nat.le_of_ble_eq_true rfl) (fun p e s m args below meth cd X => ?_)
  refine zw_eL (L2 := [some (.ref 65), some (.ref values1), some (.int who2), some (.int saying3), none, none]) rfl ?_
  refine r_iconst X (pc := 0) (v := 0) (zw_dg dk_Contest_prizeIf 0 rfl) (by decide) ?_
  refine r_istore X (pc := 1) (i := 4) (zw_dg dk_Contest_prizeIf 1 rfl) (by decide) rfl ?_
  refine r_iconst X (pc := 3) (v := 0) (zw_dg dk_Contest_prizeIf 2 rfl) (by decide) ?_
  refine r_istore X (pc := 4) (i := 5) (zw_dg dk_Contest_prizeIf 3 rfl) (by decide) rfl ?_
  obtain ⟨sum6, hl7, hsl7⟩ := zw_bd hsem
  refine r_loop (pc := 6) (pce := 57) hl7 (fun (sum4, e5) => [some (.ref 65), some (.ref values1), some (.int who2), some (.int saying3), some (.int sum4), some (.int e5)] : Int32 × Int32 → zw_Lc) (fun (sum4, e5) => c : Int32 × Int32 → zw_Ct) (fun sum6 => [some (.ref 65), some (.ref values1), some (.int who2), some (.int saying3), some (.int sum6), none] : Int32 → zw_Lc) (fun sum6 => c : Int32 → zw_Ct) ?_ rfl rfl ?_
  · rintro ⟨sum4, e5⟩ rr hsem hK hP
    try unfold fn_Contest_prizeIf_l1 at hsem
    refine r_iload X (pc := 6) (i := 5) (zw_dg dk_Contest_prizeIf 4 rfl) rfl ?_
    refine r_aload_n X (pc := 8) (i := 0) (zw_dg dk_Contest_prizeIf 5 rfl) rfl rfl ?_
    refine r_getR X (pc := 9) (r := 1) ci_Contest (zo hS 65 rfl rfl) rfl (zr hS 65 0 rfl rfl) lk_Contest_18 (zw_dg dk_Contest_prizeIf 6 rfl) ?_
    refine r_getI X (pc := 12) ci_Sayings (zo hS 1 rfl rfl) rfl lk_Contest_44 (zw_dg dk_Contest_prizeIf 7 rfl) ?_
    refine r_icmp_ge X (pc := 15) (tgt := 57) (zw_dg dk_Contest_prizeIf 8 rfl) (by decide) (fun q9 => ?_) (fun q9 => ?_)
    · --
      have p8 : ¬ (e5 < (c.1 1 0)) := (Int32.not_lt.mpr q9)
      have hsem := zw_ifn p8 hsem
      have jj := hK _ (Option.some.inj hsem).symm
      exact (r_fgt [5] rfl jj)
    · --
      have p8 : (e5 < (c.1 1 0)) := (Int32.not_le.mp q9)
      have hsem := zw_ifp p8 hsem
      refine r_iload X (pc := 18) (i := 4) (zw_dg dk_Contest_prizeIf 9 rfl) rfl ?_
      refine r_aload_n X (pc := 20) (i := 0) (zw_dg dk_Contest_prizeIf 10 rfl) rfl rfl ?_
      refine r_getR X (pc := 21) (r := 1) ci_Contest (zo hS 65 rfl rfl) rfl (zr hS 65 0 rfl rfl) lk_Contest_18 (zw_dg dk_Contest_prizeIf 11 rfl) ?_
      refine r_aload_n X (pc := 24) (i := 0) (zw_dg dk_Contest_prizeIf 12 rfl) rfl rfl ?_
      refine r_getR X (pc := 25) (r := 3) ci_Contest (zo hS 65 rfl rfl) rfl (zr hS 65 1 rfl rfl) lk_Contest_22 (zw_dg dk_Contest_prizeIf 13 rfl) ?_
      refine r_getR X (pc := 28) (r := 5) ci_Held (zo hS 3 rfl rfl) rfl (zr hS 3 1 rfl rfl) lk_Contest_26 (zw_dg dk_Contest_prizeIf 14 rfl) ?_
      refine r_iload_n X (pc := 31) (i := 2) (zw_dg dk_Contest_prizeIf 15 rfl) rfl rfl ?_
      obtain ⟨x10, hx10, hsem⟩ := zw_bd hsem
      refine r_iald X (pc := 32) (zo hS 5 rfl rfl) hx10 (zw_dg dk_Contest_prizeIf 16 rfl) ?_
      refine r_iload X (pc := 33) (i := 5) (zw_dg dk_Contest_prizeIf 17 rfl) rfl ?_
      obtain ⟨r11, hr11, hsem⟩ := zw_bd hsem
      refine r_callVi X (pc := 35) (As := [_, _]) (st := [.int sum4]) (km_Sayings_partOf hS hr11) ce_Sayings_partOf kw_1068 (zo hS 1 rfl rfl) rfl rfl ⟨Nat.le_of_ble_eq_true rfl, Nat.le_of_ble_eq_true rfl⟩ (Nat.le_of_ble_eq_true rfl) (zw_dg dk_Contest_prizeIf 18 rfl) ?_
      refine r_aload_n X (pc := 38) (i := 0) (zw_dg dk_Contest_prizeIf 19 rfl) rfl rfl ?_
      refine r_aload_n X (pc := 39) (i := 1) (zw_dg dk_Contest_prizeIf 20 rfl) rfl rfl ?_
      refine r_iload_n X (pc := 40) (i := 2) (zw_dg dk_Contest_prizeIf 21 rfl) rfl rfl ?_
      refine r_iload_n X (pc := 41) (i := 3) (zw_dg dk_Contest_prizeIf 22 rfl) rfl rfl ?_
      refine r_iload X (pc := 42) (i := 5) (zw_dg dk_Contest_prizeIf 23 rfl) rfl ?_
      obtain ⟨r12, hr12, hsem⟩ := zw_bd hsem
      refine r_callVi X (pc := 44) (As := [_, _, _, _]) (st := [.int r11, .int sum4]) (km_Contest_share hS hr12) ce_Contest_share kw_1069 (zo hS 65 rfl rfl) rfl rfl ⟨Nat.le_of_ble_eq_true rfl, Nat.le_of_ble_eq_true rfl⟩ (Nat.le_of_ble_eq_true rfl) (zw_dg dk_Contest_prizeIf 24 rfl) ?_
      refine r_imul X (pc := 47) (zw_dg dk_Contest_prizeIf 25 rfl)  ?_
      refine r_iadd X (pc := 48) (zw_dg dk_Contest_prizeIf 26 rfl)  ?_
      obtain ⟨sum13, hsum13, hsem⟩ := zw_bd hsem
      refine zw_topI hsum13 ?_
      refine r_istore X (pc := 49) (i := 4) (zw_dg dk_Contest_prizeIf 27 rfl) (by decide) rfl ?_
      refine r_iinc X (pc := 51) (i := 5) (k := 1) (zw_dg dk_Contest_prizeIf 28 rfl) rfl (by decide) (by decide) rfl ?_
      refine r_goto X (pc := 54) (tgt := 6) (zw_dg dk_Contest_prizeIf 29 rfl) (by decide) ?_
      have jj := hP _ (Option.some.inj hsem).symm
      exact (r_fgt [] rfl jj)
  have hsem := hsl7
  refine r_iload X (pc := 57) (i := 4) (zw_dg dk_Contest_prizeIf 30 rfl) rfl ?_
  cases hsem
  exact r_iret X (pc := 59) rfl (zw_dg dk_Contest_prizeIf 31 rfl)
def y_Contest_prizeFor : MethodName := ⟨R_Contest, "prizeFor", "([III)I"⟩
abbrev b_Contest_prizeFor : ByteArray := prog_3_method_3_code
def dl_Contest_prizeFor : List (Nat × Instr × Nat) := [(0, .aload_n 0, 1), (1, .invokevirtual 37, 3), (4, .aload_n 0, 1), (5, .aload_n 1, 1), (6, .iload_n 2, 1), (7, .iload_n 3, 1), (8, .invokevirtual 40, 3), (11, .ireturn, 1)]
theorem dk_Contest_prizeFor : zw_dk b_Contest_prizeFor dl_Contest_prizeFor = true := by decide +kernel
theorem ce_Contest_prizeFor : zw_cev y_Contest_prizeFor b_Contest_prizeFor 4 (some .int) 3 := ⟨⟨kt_in 1058 (by decide +kernel) rfl, kt_in 95 (by decide +kernel) rfl, by decide +kernel⟩, kt_in 1056 (by decide +kernel) rfl, kt_in 1057 (by decide +kernel) rfl⟩
def fn_Contest_prizeFor (c : zw_Ct) (values1 : Nat) (who2 : Int32) (saying3 : Int32) : Option (Int32 × zw_Ct) :=
  (fn_Contest_allSayTheTruth c).bind fun c4 =>
  (fn_Contest_prizeIf c4 values1 who2 saying3).bind fun r5 =>
  some (r5, c4)
set_option maxRecDepth 100000 in
theorem km_Contest_prizeFor {l : Launch} {g : zw_G} {rr : zw_RR} {sh : zw_Sh} {c : zw_Ct} {values1 : Nat} {who2 : Int32} {saying3 : Int32} {r : Int32} {c2 : zw_Ct} (hS : zw_Ok 0 101 sh rr) (hsem : fn_Contest_prizeFor c values1 who2 saying3 = some (r, c2)) : zw_Met l g y_Contest_prizeFor b_Contest_prizeFor 4 (some .int) 3 rr sh [.ref 65, .ref values1, .int who2, .int saying3] c (some (.int r)) c2 := by
  unfold fn_Contest_prizeFor at hsem
  refine zw_Met.of (by decide +kernel) (Nat.le_of_ble_eq_true rfl) (fun p e s m args below meth cd X => ?_)
  refine zw_eL (L2 := [some (.ref 65), some (.ref values1), some (.int who2), some (.int saying3)]) rfl ?_
  refine r_aload_n X (pc := 0) (i := 0) (zw_dg dk_Contest_prizeFor 0 rfl) rfl rfl ?_
  obtain ⟨c4, hc4, hsem⟩ := zw_bd hsem
  refine r_callVv X (pc := 1) (As := []) (st := []) (km_Contest_allSayTheTruth hS hc4) ce_Contest_allSayTheTruth kw_1059 (zo hS 65 rfl rfl) rfl rfl ⟨Nat.le_of_ble_eq_true rfl, Nat.le_of_ble_eq_true rfl⟩ (Nat.le_of_ble_eq_true rfl) (zw_dg dk_Contest_prizeFor 1 rfl) ?_
  refine r_aload_n X (pc := 4) (i := 0) (zw_dg dk_Contest_prizeFor 2 rfl) rfl rfl ?_
  refine r_aload_n X (pc := 5) (i := 1) (zw_dg dk_Contest_prizeFor 3 rfl) rfl rfl ?_
  refine r_iload_n X (pc := 6) (i := 2) (zw_dg dk_Contest_prizeFor 4 rfl) rfl rfl ?_
  refine r_iload_n X (pc := 7) (i := 3) (zw_dg dk_Contest_prizeFor 5 rfl) rfl rfl ?_
  obtain ⟨r5, hr5, hsem⟩ := zw_bd hsem
  refine r_callVi X (pc := 8) (As := [_, _, _]) (st := []) (km_Contest_prizeIf hS hr5) ce_Contest_prizeIf kw_1064 (zo hS 65 rfl rfl) rfl rfl ⟨Nat.le_of_ble_eq_true rfl, Nat.le_of_ble_eq_true rfl⟩ (Nat.le_of_ble_eq_true rfl) (zw_dg dk_Contest_prizeFor 6 rfl) ?_
  cases hsem
  exact r_iret X (pc := 11) rfl (zw_dg dk_Contest_prizeFor 7 rfl)
def y_Contest_answer : MethodName := ⟨R_Contest, "answer", "([II)I"⟩
abbrev b_Contest_answer : ByteArray := prog_3_method_6_code
def dl_Contest_answer : List (Nat × Instr × Nat) := [(0, .aload_n 0, 1), (1, .getfield 9, 3), (4, .iload_n 2, 1), (5, .iaload, 1), (6, .istore_n 3, 1), (7, .aload_n 0, 1), (8, .aload_n 1, 1), (9, .iload_n 2, 1), (10, .iload_n 3, 1), (11, .invokevirtual 40, 3), (14, .istore 4, 2), (16, .iconst 0, 1), (17, .istore 5, 2), (19, .iload 5, 2), (21, .aload_n 0, 1), (22, .getfield 18, 3), (25, .getfield 61, 3), (28, .if_icmp .ge 33, 3), (31, .aload_n 0, 1), (32, .aload_n 1, 1), (33, .iload_n 2, 1), (34, .iload 5, 2), (36, .invokevirtual 40, 3), (39, .istore 6, 2), (41, .iload 6, 2), (43, .iload 4, 2), (45, .if_icmp .le 10, 3), (48, .iload 5, 2), (50, .istore_n 3, 1), (51, .iload 6, 2), (53, .istore 4, 2), (55, .iinc 5 1, 3), (58, .goto (-39), 3), (61, .iload_n 3, 1), (62, .ireturn, 1)]
theorem dk_Contest_answer : zw_dk b_Contest_answer dl_Contest_answer = true := by decide +kernel
theorem ce_Contest_answer : zw_cev y_Contest_answer b_Contest_answer 7 (some .int) 2 := ⟨⟨kt_in 1084 (by decide +kernel) rfl, kt_in 95 (by decide +kernel) rfl, by decide +kernel⟩, kt_in 1083 (by decide +kernel) rfl, kt_in 23 (by decide +kernel) rfl⟩
def fn_Contest_answer_l1 (c : zw_Ct) (values1 : Nat) (who2 : Int32) : Int32 × Int32 × Int32 → Option ((Int32 × Int32) ⊕ (Int32 × Int32 × Int32)) := fun (answer5, most6, s7) =>
  if (s7 < (c.1 1 2)) then
  ((fn_Contest_prizeIf c values1 who2 s7).bind fun r13 =>
  (if (most6 < r13) then
  (some ((s7 : Int32), (r13 : Int32)))
  else
  (some ((answer5 : Int32), (most6 : Int32)))).bind fun (answer14, most15) =>
  some (.inr (answer14, most15, (s7 + 1))))
  else
  (some (.inl (answer5, most6)))
def fn_Contest_answer (c : zw_Ct) (values1 : Nat) (who2 : Int32) : Option Int32 :=
  (zw_aI 6 c 66 who2).bind fun x3 =>
  (fn_Contest_prizeIf c values1 who2 x3).bind fun r4 =>
  (zw_whl (fn_Contest_answer_l1 c values1 who2) zw_F (x3, r4, 0)).bind fun (answer8, most9) =>
  some answer8
set_option maxRecDepth 100000 in
theorem km_Contest_answer {l : Launch} {g : zw_G} {rr : zw_RR} {sh : zw_Sh} {c : zw_Ct} {values1 : Nat} {who2 : Int32} {r : Int32} (hS : zw_Ok 0 101 sh rr) (hsem : fn_Contest_answer c values1 who2 = some r) : zw_Met l g y_Contest_answer b_Contest_answer 7 (some .int) 3 rr sh [.ref 65, .ref values1, .int who2] c (some (.int r)) c := by
  unfold fn_Contest_answer at hsem
  refine zw_Met.of (by decide +kernel) (Nat.le_of_ble_eq_true rfl) (fun p e s m args below meth cd X => ?_)
  refine zw_eL (L2 := [some (.ref 65), some (.ref values1), some (.int who2), none, none, none, none]) rfl ?_
  refine r_aload_n X (pc := 0) (i := 0) (zw_dg dk_Contest_answer 0 rfl) rfl rfl ?_
  refine r_getR X (pc := 1) (r := 66) ci_Contest (zo hS 65 rfl rfl) rfl (zr hS 65 2 rfl rfl) lk_Contest_9 (zw_dg dk_Contest_answer 1 rfl) ?_
  refine r_iload_n X (pc := 4) (i := 2) (zw_dg dk_Contest_answer 2 rfl) rfl rfl ?_
  obtain ⟨x3, hx3, hsem⟩ := zw_bd hsem
  refine r_iald X (pc := 5) (zo hS 66 rfl rfl) hx3 (zw_dg dk_Contest_answer 3 rfl) ?_
  refine r_istore_n X (pc := 6) (i := 3) (zw_dg dk_Contest_answer 4 rfl) rfl (by decide) rfl ?_
  refine r_aload_n X (pc := 7) (i := 0) (zw_dg dk_Contest_answer 5 rfl) rfl rfl ?_
  refine r_aload_n X (pc := 8) (i := 1) (zw_dg dk_Contest_answer 6 rfl) rfl rfl ?_
  refine r_iload_n X (pc := 9) (i := 2) (zw_dg dk_Contest_answer 7 rfl) rfl rfl ?_
  refine r_iload_n X (pc := 10) (i := 3) (zw_dg dk_Contest_answer 8 rfl) rfl rfl ?_
  obtain ⟨r4, hr4, hsem⟩ := zw_bd hsem
  refine r_callVi X (pc := 11) (As := [_, _, _]) (st := []) (km_Contest_prizeIf hS hr4) ce_Contest_prizeIf kw_1064 (zo hS 65 rfl rfl) rfl rfl ⟨Nat.le_of_ble_eq_true rfl, Nat.le_of_ble_eq_true rfl⟩ (Nat.le_of_ble_eq_true rfl) (zw_dg dk_Contest_answer 9 rfl) ?_
  refine r_istore X (pc := 14) (i := 4) (zw_dg dk_Contest_answer 10 rfl) (by decide) rfl ?_
  refine r_iconst X (pc := 16) (v := 0) (zw_dg dk_Contest_answer 11 rfl) (by decide) ?_
  refine r_istore X (pc := 17) (i := 5) (zw_dg dk_Contest_answer 12 rfl) (by decide) rfl ?_
  obtain ⟨l10, hl10, hsl10⟩ := zw_bd hsem
  refine r_loop (pc := 19) (pce := 61) hl10 (fun (answer5, most6, s7) => [some (.ref 65), some (.ref values1), some (.int who2), some (.int answer5), some (.int most6), some (.int s7), none] : Int32 × Int32 × Int32 → zw_Lc) (fun (answer5, most6, s7) => c : Int32 × Int32 × Int32 → zw_Ct) (fun (answer8, most9) => [some (.ref 65), some (.ref values1), some (.int who2), some (.int answer8), some (.int most9), none, none] : Int32 × Int32 → zw_Lc) (fun (answer8, most9) => c : Int32 × Int32 → zw_Ct) ?_ rfl rfl ?_
  · rintro ⟨answer5, most6, s7⟩ rr hsem hK hP
    try unfold fn_Contest_answer_l1 at hsem
    refine r_iload X (pc := 19) (i := 5) (zw_dg dk_Contest_answer 13 rfl) rfl ?_
    refine r_aload_n X (pc := 21) (i := 0) (zw_dg dk_Contest_answer 14 rfl) rfl rfl ?_
    refine r_getR X (pc := 22) (r := 1) ci_Contest (zo hS 65 rfl rfl) rfl (zr hS 65 0 rfl rfl) lk_Contest_18 (zw_dg dk_Contest_answer 15 rfl) ?_
    refine r_getI X (pc := 25) ci_Sayings (zo hS 1 rfl rfl) rfl lk_Contest_61 (zw_dg dk_Contest_answer 16 rfl) ?_
    refine r_icmp_ge X (pc := 28) (tgt := 61) (zw_dg dk_Contest_answer 17 rfl) (by decide) (fun q12 => ?_) (fun q12 => ?_)
    · --
      have p11 : ¬ (s7 < (c.1 1 2)) := (Int32.not_lt.mpr q12)
      have hsem := zw_ifn p11 hsem
      have jj := hK _ (Option.some.inj hsem).symm
      exact (r_fgt [5] rfl jj)
    · --
      have p11 : (s7 < (c.1 1 2)) := (Int32.not_le.mp q12)
      have hsem := zw_ifp p11 hsem
      refine r_aload_n X (pc := 31) (i := 0) (zw_dg dk_Contest_answer 18 rfl) rfl rfl ?_
      refine r_aload_n X (pc := 32) (i := 1) (zw_dg dk_Contest_answer 19 rfl) rfl rfl ?_
      refine r_iload_n X (pc := 33) (i := 2) (zw_dg dk_Contest_answer 20 rfl) rfl rfl ?_
      refine r_iload X (pc := 34) (i := 5) (zw_dg dk_Contest_answer 21 rfl) rfl ?_
      obtain ⟨r13, hr13, hsem⟩ := zw_bd hsem
      refine r_callVi X (pc := 36) (As := [_, _, _]) (st := []) (km_Contest_prizeIf hS hr13) ce_Contest_prizeIf kw_1064 (zo hS 65 rfl rfl) rfl rfl ⟨Nat.le_of_ble_eq_true rfl, Nat.le_of_ble_eq_true rfl⟩ (Nat.le_of_ble_eq_true rfl) (zw_dg dk_Contest_answer 22 rfl) ?_
      refine r_istore X (pc := 39) (i := 6) (zw_dg dk_Contest_answer 23 rfl) (by decide) rfl ?_
      obtain ⟨⟨answer14, most15⟩, ht55, hs55⟩ := zw_bd hsem
      refine zw_jn (J := 55) (L2 := [some (.ref 65), some (.ref values1), some (.int who2), some (.int answer14), some (.int most15), some (.int s7), some (.int r13)]) (c2 := c) (fun jj => ?_) ?_
      · have hsem := ht55
        refine r_iload X (pc := 41) (i := 6) (zw_dg dk_Contest_answer 24 rfl) rfl ?_
        refine r_iload X (pc := 43) (i := 4) (zw_dg dk_Contest_answer 25 rfl) rfl ?_
        refine r_icmp_le X (pc := 45) (tgt := 55) (zw_dg dk_Contest_answer 26 rfl) (by decide) (fun q17 => ?_) (fun q17 => ?_)
        · --
          have p16 : ¬ (most6 < r13) := (Int32.not_lt.mpr q17)
          have hsem := zw_ifn p16 hsem
          obtain ⟨rfl, rfl⟩ := zw_in2 hsem
          exact (r_fgt [] rfl jj)
        · --
          have p16 : (most6 < r13) := (Int32.not_le.mp q17)
          have hsem := zw_ifp p16 hsem
          refine r_iload X (pc := 48) (i := 5) (zw_dg dk_Contest_answer 27 rfl) rfl ?_
          refine r_istore_n X (pc := 50) (i := 3) (zw_dg dk_Contest_answer 28 rfl) rfl (by decide) rfl ?_
          refine r_iload X (pc := 51) (i := 6) (zw_dg dk_Contest_answer 29 rfl) rfl ?_
          refine r_istore X (pc := 53) (i := 4) (zw_dg dk_Contest_answer 30 rfl) (by decide) rfl ?_
          obtain ⟨rfl, rfl⟩ := zw_in2 hsem
          exact (r_fgt [] rfl jj)
      have hsem := hs55
      refine r_iinc X (pc := 55) (i := 5) (k := 1) (zw_dg dk_Contest_answer 31 rfl) rfl (by decide) (by decide) rfl ?_
      refine r_goto X (pc := 58) (tgt := 19) (zw_dg dk_Contest_answer 32 rfl) (by decide) ?_
      have jj := hP _ (Option.some.inj hsem).symm
      exact (r_fgt [6] rfl jj)
  obtain ⟨answer8, most9⟩ := l10
  have hsem := hsl10
  refine r_iload_n X (pc := 61) (i := 3) (zw_dg dk_Contest_answer 33 rfl) rfl rfl ?_
  cases hsem
  exact r_iret X (pc := 62) rfl (zw_dg dk_Contest_answer 34 rfl)
def y_Contest_tellBoast : MethodName := ⟨R_Contest, "tellBoast", "([IILPaidForThinking$Row;)I"⟩
abbrev b_Contest_tellBoast : ByteArray := prog_3_method_7_code
def dl_Contest_tellBoast : List (Nat × Instr × Nat) := [(0, .aload_n 0, 1), (1, .invokevirtual 37, 3), (4, .aload_n 0, 1), (5, .getfield 9, 3), (8, .iload_n 2, 1), (9, .iaload, 1), (10, .istore 4, 2), (12, .aload_n 0, 1), (13, .aload_n 1, 1), (14, .iload_n 2, 1), (15, .invokevirtual 64, 3), (18, .istore 5, 2), (20, .aload_n 3, 1), (21, .invokevirtual 68, 3), (24, .aload_n 3, 1), (25, .aload_n 0, 1), (26, .aload_n 1, 1), (27, .iload_n 2, 1), (28, .iload 5, 2), (30, .invokevirtual 40, 3), (33, .i2l, 1), (34, .invokevirtual 73, 3), (37, .aload_n 3, 1), (38, .aload_n 0, 1), (39, .aload_n 1, 1), (40, .iload_n 2, 1), (41, .iload 4, 2), (43, .invokevirtual 40, 3), (46, .i2l, 1), (47, .invokevirtual 73, 3), (50, .aload_n 3, 1), (51, .aload_n 0, 1), (52, .getfield 18, 3), (55, .iload 5, 2), (57, .iload 4, 2), (59, .invokevirtual 77, 3), (62, .i2l, 1), (63, .invokevirtual 73, 3), (66, .iload 5, 2), (68, .ireturn, 1)]
theorem dk_Contest_tellBoast : zw_dk b_Contest_tellBoast dl_Contest_tellBoast = true := by decide +kernel
theorem ce_Contest_tellBoast : zw_cev y_Contest_tellBoast b_Contest_tellBoast 6 (some .int) 3 := ⟨⟨kt_in 1080 (by decide +kernel) rfl, kt_in 95 (by decide +kernel) rfl, by decide +kernel⟩, kt_in 1078 (by decide +kernel) rfl, kt_in 1079 (by decide +kernel) rfl⟩
def fn_Contest_tellBoast (c : zw_Ct) (values1 : Nat) (who2 : Int32) : Option (Int32 × zw_Ct) :=
  (fn_Contest_allSayTheTruth c).bind fun c3 =>
  (zw_aI 6 c3 66 who2).bind fun x4 =>
  (fn_Contest_answer c3 values1 who2).bind fun r5 =>
  (fn_Row_clear c3).bind fun c6 =>
  (fn_Contest_prizeIf c6 values1 who2 r5).bind fun r7 =>
  (fn_Row_add c6 r7.toInt64).bind fun c8 =>
  (fn_Contest_prizeIf c8 values1 who2 x4).bind fun r9 =>
  (fn_Row_add c8 r9.toInt64).bind fun c10 =>
  (fn_Sayings_distance c10 r5 x4).bind fun r11 =>
  (fn_Row_add c10 r11.toInt64).bind fun c12 =>
  some (r5, c12)
set_option maxRecDepth 100000 in
theorem km_Contest_tellBoast {l : Launch} {g : zw_G} {rr : zw_RR} {sh : zw_Sh} {c : zw_Ct} {values1 : Nat} {who2 : Int32} {r : Int32} {c2 : zw_Ct} (hS : zw_Ok 0 101 sh rr) (hsem : fn_Contest_tellBoast c values1 who2 = some (r, c2)) : zw_Met l g y_Contest_tellBoast b_Contest_tellBoast 6 (some .int) 4 rr sh [.ref 65, .ref values1, .int who2, .ref 61] c (some (.int r)) c2 := by
  unfold fn_Contest_tellBoast at hsem
  refine zw_Met.of (by decide +kernel) (Nat.le_of_ble_eq_true rfl) (fun p e s m args below meth cd X => ?_)
  refine zw_eL (L2 := [some (.ref 65), some (.ref values1), some (.int who2), some (.ref 61), none, none]) rfl ?_
  refine r_aload_n X (pc := 0) (i := 0) (zw_dg dk_Contest_tellBoast 0 rfl) rfl rfl ?_
  obtain ⟨c3, hc3, hsem⟩ := zw_bd hsem
  refine r_callVv X (pc := 1) (As := []) (st := []) (km_Contest_allSayTheTruth hS hc3) ce_Contest_allSayTheTruth kw_1059 (zo hS 65 rfl rfl) rfl rfl ⟨Nat.le_of_ble_eq_true rfl, Nat.le_of_ble_eq_true rfl⟩ (Nat.le_of_ble_eq_true rfl) (zw_dg dk_Contest_tellBoast 1 rfl) ?_
  refine r_aload_n X (pc := 4) (i := 0) (zw_dg dk_Contest_tellBoast 2 rfl) rfl rfl ?_
  refine r_getR X (pc := 5) (r := 66) ci_Contest (zo hS 65 rfl rfl) rfl (zr hS 65 2 rfl rfl) lk_Contest_9 (zw_dg dk_Contest_tellBoast 3 rfl) ?_
  refine r_iload_n X (pc := 8) (i := 2) (zw_dg dk_Contest_tellBoast 4 rfl) rfl rfl ?_
  obtain ⟨x4, hx4, hsem⟩ := zw_bd hsem
  refine r_iald X (pc := 9) (zo hS 66 rfl rfl) hx4 (zw_dg dk_Contest_tellBoast 5 rfl) ?_
  refine r_istore X (pc := 10) (i := 4) (zw_dg dk_Contest_tellBoast 6 rfl) (by decide) rfl ?_
  refine r_aload_n X (pc := 12) (i := 0) (zw_dg dk_Contest_tellBoast 7 rfl) rfl rfl ?_
  refine r_aload_n X (pc := 13) (i := 1) (zw_dg dk_Contest_tellBoast 8 rfl) rfl rfl ?_
  refine r_iload_n X (pc := 14) (i := 2) (zw_dg dk_Contest_tellBoast 9 rfl) rfl rfl ?_
  obtain ⟨r5, hr5, hsem⟩ := zw_bd hsem
  refine r_callVi X (pc := 15) (As := [_, _]) (st := []) (km_Contest_answer hS hr5) ce_Contest_answer kw_1081 (zo hS 65 rfl rfl) rfl rfl ⟨Nat.le_of_ble_eq_true rfl, Nat.le_of_ble_eq_true rfl⟩ (Nat.le_of_ble_eq_true rfl) (zw_dg dk_Contest_tellBoast 10 rfl) ?_
  refine r_istore X (pc := 18) (i := 5) (zw_dg dk_Contest_tellBoast 11 rfl) (by decide) rfl ?_
  refine r_aload_n X (pc := 20) (i := 3) (zw_dg dk_Contest_tellBoast 12 rfl) rfl rfl ?_
  obtain ⟨c6, hc6, hsem⟩ := zw_bd hsem
  refine r_callVv X (pc := 21) (As := []) (st := []) (km_Row_clear hS hc6) ce_Row_clear kw_1085 (zo hS 61 rfl rfl) rfl rfl ⟨Nat.le_of_ble_eq_true rfl, Nat.le_of_ble_eq_true rfl⟩ (Nat.le_of_ble_eq_true rfl) (zw_dg dk_Contest_tellBoast 13 rfl) ?_
  refine r_aload_n X (pc := 24) (i := 3) (zw_dg dk_Contest_tellBoast 14 rfl) rfl rfl ?_
  refine r_aload_n X (pc := 25) (i := 0) (zw_dg dk_Contest_tellBoast 15 rfl) rfl rfl ?_
  refine r_aload_n X (pc := 26) (i := 1) (zw_dg dk_Contest_tellBoast 16 rfl) rfl rfl ?_
  refine r_iload_n X (pc := 27) (i := 2) (zw_dg dk_Contest_tellBoast 17 rfl) rfl rfl ?_
  refine r_iload X (pc := 28) (i := 5) (zw_dg dk_Contest_tellBoast 18 rfl) rfl ?_
  obtain ⟨r7, hr7, hsem⟩ := zw_bd hsem
  refine r_callVi X (pc := 30) (As := [_, _, _]) (st := [.ref 61]) (km_Contest_prizeIf hS hr7) ce_Contest_prizeIf kw_1064 (zo hS 65 rfl rfl) rfl rfl ⟨Nat.le_of_ble_eq_true rfl, Nat.le_of_ble_eq_true rfl⟩ (Nat.le_of_ble_eq_true rfl) (zw_dg dk_Contest_tellBoast 19 rfl) ?_
  refine r_i2l X (pc := 33) (zw_dg dk_Contest_tellBoast 20 rfl)  ?_
  obtain ⟨c8, hc8, hsem⟩ := zw_bd hsem
  refine r_callVv X (pc := 34) (As := [_]) (st := []) (km_Row_add hS hc8) ce_Row_add kw_1086 (zo hS 61 rfl rfl) rfl rfl ⟨Nat.le_of_ble_eq_true rfl, Nat.le_of_ble_eq_true rfl⟩ (Nat.le_of_ble_eq_true rfl) (zw_dg dk_Contest_tellBoast 21 rfl) ?_
  refine r_aload_n X (pc := 37) (i := 3) (zw_dg dk_Contest_tellBoast 22 rfl) rfl rfl ?_
  refine r_aload_n X (pc := 38) (i := 0) (zw_dg dk_Contest_tellBoast 23 rfl) rfl rfl ?_
  refine r_aload_n X (pc := 39) (i := 1) (zw_dg dk_Contest_tellBoast 24 rfl) rfl rfl ?_
  refine r_iload_n X (pc := 40) (i := 2) (zw_dg dk_Contest_tellBoast 25 rfl) rfl rfl ?_
  refine r_iload X (pc := 41) (i := 4) (zw_dg dk_Contest_tellBoast 26 rfl) rfl ?_
  obtain ⟨r9, hr9, hsem⟩ := zw_bd hsem
  refine r_callVi X (pc := 43) (As := [_, _, _]) (st := [.ref 61]) (km_Contest_prizeIf hS hr9) ce_Contest_prizeIf kw_1064 (zo hS 65 rfl rfl) rfl rfl ⟨Nat.le_of_ble_eq_true rfl, Nat.le_of_ble_eq_true rfl⟩ (Nat.le_of_ble_eq_true rfl) (zw_dg dk_Contest_tellBoast 27 rfl) ?_
  refine r_i2l X (pc := 46) (zw_dg dk_Contest_tellBoast 28 rfl)  ?_
  obtain ⟨c10, hc10, hsem⟩ := zw_bd hsem
  refine r_callVv X (pc := 47) (As := [_]) (st := []) (km_Row_add hS hc10) ce_Row_add kw_1086 (zo hS 61 rfl rfl) rfl rfl ⟨Nat.le_of_ble_eq_true rfl, Nat.le_of_ble_eq_true rfl⟩ (Nat.le_of_ble_eq_true rfl) (zw_dg dk_Contest_tellBoast 29 rfl) ?_
  refine r_aload_n X (pc := 50) (i := 3) (zw_dg dk_Contest_tellBoast 30 rfl) rfl rfl ?_
  refine r_aload_n X (pc := 51) (i := 0) (zw_dg dk_Contest_tellBoast 31 rfl) rfl rfl ?_
  refine r_getR X (pc := 52) (r := 1) ci_Contest (zo hS 65 rfl rfl) rfl (zr hS 65 0 rfl rfl) lk_Contest_18 (zw_dg dk_Contest_tellBoast 32 rfl) ?_
  refine r_iload X (pc := 55) (i := 5) (zw_dg dk_Contest_tellBoast 33 rfl) rfl ?_
  refine r_iload X (pc := 57) (i := 4) (zw_dg dk_Contest_tellBoast 34 rfl) rfl ?_
  obtain ⟨r11, hr11, hsem⟩ := zw_bd hsem
  refine r_callVi X (pc := 59) (As := [_, _]) (st := [.ref 61]) (km_Sayings_distance hS hr11) ce_Sayings_distance kw_1087 (zo hS 1 rfl rfl) rfl rfl ⟨Nat.le_of_ble_eq_true rfl, Nat.le_of_ble_eq_true rfl⟩ (Nat.le_of_ble_eq_true rfl) (zw_dg dk_Contest_tellBoast 35 rfl) ?_
  refine r_i2l X (pc := 62) (zw_dg dk_Contest_tellBoast 36 rfl)  ?_
  obtain ⟨c12, hc12, hsem⟩ := zw_bd hsem
  refine r_callVv X (pc := 63) (As := [_]) (st := []) (km_Row_add hS hc12) ce_Row_add kw_1086 (zo hS 61 rfl rfl) rfl rfl ⟨Nat.le_of_ble_eq_true rfl, Nat.le_of_ble_eq_true rfl⟩ (Nat.le_of_ble_eq_true rfl) (zw_dg dk_Contest_tellBoast 37 rfl) ?_
  refine r_iload X (pc := 66) (i := 5) (zw_dg dk_Contest_tellBoast 38 rfl) rfl ?_
  cases hsem
  exact r_iret X (pc := 68) rfl (zw_dg dk_Contest_tellBoast 39 rfl)
def y_Contest_roundChanges : MethodName := ⟨R_Contest, "roundChanges", "([I)Z"⟩
abbrev b_Contest_roundChanges : ByteArray := prog_3_method_9_code
def dl_Contest_roundChanges : List (Nat × Instr × Nat) := [(0, .iconst 0, 1), (1, .istore_n 2, 1), (2, .iconst 0, 1), (3, .istore_n 3, 1), (4, .iload_n 3, 1), (5, .aload_n 0, 1), (6, .getfield 22, 3), (9, .getfield 58, 3), (12, .if_icmp .ge 44, 3), (15, .aload_n 0, 1), (16, .aload_n 1, 1), (17, .iload_n 3, 1), (18, .invokevirtual 64, 3), (21, .istore 4, 2), (23, .iload_n 2, 1), (24, .iload 4, 2), (26, .aload_n 0, 1), (27, .getfield 9, 3), (30, .iload_n 3, 1), (31, .iaload, 1), (32, .if_icmp .eq 7, 3), (35, .iconst 1, 1), (36, .goto 4, 3), (39, .iconst 0, 1), (40, .ior, 1), (41, .istore_n 2, 1), (42, .aload_n 0, 1), (43, .getfield 9, 3), (46, .iload_n 3, 1), (47, .iload 4, 2), (49, .iastore, 1), (50, .iinc 3 1, 3), (53, .goto (-49), 3), (56, .iload_n 2, 1), (57, .ireturn, 1)]
theorem dk_Contest_roundChanges : zw_dk b_Contest_roundChanges dl_Contest_roundChanges = true := by decide +kernel
theorem ce_Contest_roundChanges : zw_cev y_Contest_roundChanges b_Contest_roundChanges 5 (some .boolean) 1 := ⟨⟨kt_in 1105 (by decide +kernel) rfl, kt_in 95 (by decide +kernel) rfl, by decide +kernel⟩, kt_in 1104 (by decide +kernel) rfl, kt_in 24 (by decide +kernel) rfl⟩
def fn_Contest_roundChanges_l1 (values1 : Nat) : Int32 × Int32 × zw_Ct → Option ((Int32 × zw_Ct) ⊕ (Int32 × Int32 × zw_Ct)) := fun (changes2, i3, c4) =>
  if (i3 < (c4.1 3 2)) then
  ((fn_Contest_answer c4 values1 i3).bind fun r10 =>
  (zw_aI 6 c4 66 i3).bind fun x11 =>
  (some ((changes2 ||| (if (¬ r10 = x11) then (1 : Int32) else 0)) : Int32)).bind fun changes13 =>
  (zw_uI 6 c4 66 i3 r10).bind fun c14 =>
  some (.inr (changes13, (i3 + 1), c14)))
  else
  (some (.inl (changes2, c4)))
def fn_Contest_roundChanges (c : zw_Ct) (values1 : Nat) : Option (Int32 × zw_Ct) :=
  (zw_whl (fn_Contest_roundChanges_l1 values1) zw_F (0, 0, c)).bind fun (changes5, c6) =>
  (zw_bz changes5).bind fun z15 =>
  some (z15, c6)
set_option maxRecDepth 100000 in
theorem km_Contest_roundChanges {l : Launch} {g : zw_G} {rr : zw_RR} {sh : zw_Sh} {c : zw_Ct} {values1 : Nat} {r : Int32} {c2 : zw_Ct} (hS : zw_Ok 0 101 sh rr) (hsem : fn_Contest_roundChanges c values1 = some (r, c2)) : zw_Met l g y_Contest_roundChanges b_Contest_roundChanges 5 (some .boolean) 4 rr sh [.ref 65, .ref values1] c (some (.int r)) c2 := by
  unfold fn_Contest_roundChanges at hsem
  refine zw_Met.of (by decide +kernel) (Nat.le_of_ble_eq_true rfl) (fun p e s m args below meth cd X => ?_)
  refine zw_eL (L2 := [some (.ref 65), some (.ref values1), none, none, none]) rfl ?_
  refine r_iconst X (pc := 0) (v := 0) (zw_dg dk_Contest_roundChanges 0 rfl) (by decide) ?_
  refine r_istore_n X (pc := 1) (i := 2) (zw_dg dk_Contest_roundChanges 1 rfl) rfl (by decide) rfl ?_
  refine r_iconst X (pc := 2) (v := 0) (zw_dg dk_Contest_roundChanges 2 rfl) (by decide) ?_
  refine r_istore_n X (pc := 3) (i := 3) (zw_dg dk_Contest_roundChanges 3 rfl) rfl (by decide) rfl ?_
  obtain ⟨l7, hl7, hsl7⟩ := zw_bd hsem
  refine r_loop (pc := 4) (pce := 56) hl7 (fun (changes2, i3, c4) => [some (.ref 65), some (.ref values1), some (.int changes2), some (.int i3), none] : Int32 × Int32 × zw_Ct → zw_Lc) (fun (changes2, i3, c4) => c4 : Int32 × Int32 × zw_Ct → zw_Ct) (fun (changes5, c6) => [some (.ref 65), some (.ref values1), some (.int changes5), none, none] : Int32 × zw_Ct → zw_Lc) (fun (changes5, c6) => c6 : Int32 × zw_Ct → zw_Ct) ?_ rfl rfl ?_
  · rintro ⟨changes2, i3, c4⟩ rr hsem hK hP
    try unfold fn_Contest_roundChanges_l1 at hsem
    refine r_iload_n X (pc := 4) (i := 3) (zw_dg dk_Contest_roundChanges 4 rfl) rfl rfl ?_
    refine r_aload_n X (pc := 5) (i := 0) (zw_dg dk_Contest_roundChanges 5 rfl) rfl rfl ?_
    refine r_getR X (pc := 6) (r := 3) ci_Contest (zo hS 65 rfl rfl) rfl (zr hS 65 1 rfl rfl) lk_Contest_22 (zw_dg dk_Contest_roundChanges 6 rfl) ?_
    refine r_getI X (pc := 9) ci_Held (zo hS 3 rfl rfl) rfl lk_Contest_58 (zw_dg dk_Contest_roundChanges 7 rfl) ?_
    refine r_icmp_ge X (pc := 12) (tgt := 56) (zw_dg dk_Contest_roundChanges 8 rfl) (by decide) (fun q9 => ?_) (fun q9 => ?_)
    · --
      have p8 : ¬ (i3 < (c4.1 3 2)) := (Int32.not_lt.mpr q9)
      have hsem := zw_ifn p8 hsem
      have jj := hK _ (Option.some.inj hsem).symm
      exact (r_fgt [3] rfl jj)
    · --
      have p8 : (i3 < (c4.1 3 2)) := (Int32.not_le.mp q9)
      have hsem := zw_ifp p8 hsem
      refine r_aload_n X (pc := 15) (i := 0) (zw_dg dk_Contest_roundChanges 9 rfl) rfl rfl ?_
      refine r_aload_n X (pc := 16) (i := 1) (zw_dg dk_Contest_roundChanges 10 rfl) rfl rfl ?_
      refine r_iload_n X (pc := 17) (i := 3) (zw_dg dk_Contest_roundChanges 11 rfl) rfl rfl ?_
      obtain ⟨r10, hr10, hsem⟩ := zw_bd hsem
      refine r_callVi X (pc := 18) (As := [_, _]) (st := []) (km_Contest_answer hS hr10) ce_Contest_answer kw_1081 (zo hS 65 rfl rfl) rfl rfl ⟨Nat.le_of_ble_eq_true rfl, Nat.le_of_ble_eq_true rfl⟩ (Nat.le_of_ble_eq_true rfl) (zw_dg dk_Contest_roundChanges 12 rfl) ?_
      refine r_istore X (pc := 21) (i := 4) (zw_dg dk_Contest_roundChanges 13 rfl) (by decide) rfl ?_
      refine r_iload_n X (pc := 23) (i := 2) (zw_dg dk_Contest_roundChanges 14 rfl) rfl rfl ?_
      refine r_iload X (pc := 24) (i := 4) (zw_dg dk_Contest_roundChanges 15 rfl) rfl ?_
      refine r_aload_n X (pc := 26) (i := 0) (zw_dg dk_Contest_roundChanges 16 rfl) rfl rfl ?_
      refine r_getR X (pc := 27) (r := 66) ci_Contest (zo hS 65 rfl rfl) rfl (zr hS 65 2 rfl rfl) lk_Contest_9 (zw_dg dk_Contest_roundChanges 17 rfl) ?_
      refine r_iload_n X (pc := 30) (i := 3) (zw_dg dk_Contest_roundChanges 18 rfl) rfl rfl ?_
      obtain ⟨x11, hx11, hsem⟩ := zw_bd hsem
      refine r_iald X (pc := 31) (zo hS 66 rfl rfl) hx11 (zw_dg dk_Contest_roundChanges 19 rfl) ?_
      refine zw_ter (P := (¬ r10 = x11)) (f := Value.int) (x := 1) (y := 0) (J := 40) (st2 := [.int changes2]) (fun jT jF => ?_) ?_
      · --
        refine r_icmp_eq X (pc := 32) (tgt := 39) (zw_dg dk_Contest_roundChanges 20 rfl) (by decide) (fun q12 => ?_) (fun q12 => ?_)
        · --
          refine r_iconst X (pc := 39) (v := 0) (zw_dg dk_Contest_roundChanges 23 rfl) (by decide) ?_
          exact jF (fun z => z q12)
        · --
          refine r_iconst X (pc := 35) (v := 1) (zw_dg dk_Contest_roundChanges 21 rfl) (by decide) ?_
          refine r_goto X (pc := 36) (tgt := 40) (zw_dg dk_Contest_roundChanges 22 rfl) (by decide) ?_
          exact jT q12
      refine r_ior X (pc := 40) (zw_dg dk_Contest_roundChanges 24 rfl)  ?_
      obtain ⟨changes13, hchanges13, hsem⟩ := zw_bd hsem
      refine zw_topI hchanges13 ?_
      refine r_istore_n X (pc := 41) (i := 2) (zw_dg dk_Contest_roundChanges 25 rfl) rfl (by decide) rfl ?_
      refine r_aload_n X (pc := 42) (i := 0) (zw_dg dk_Contest_roundChanges 26 rfl) rfl rfl ?_
      refine r_getR X (pc := 43) (r := 66) ci_Contest (zo hS 65 rfl rfl) rfl (zr hS 65 2 rfl rfl) lk_Contest_9 (zw_dg dk_Contest_roundChanges 27 rfl) ?_
      refine r_iload_n X (pc := 46) (i := 3) (zw_dg dk_Contest_roundChanges 28 rfl) rfl rfl ?_
      refine r_iload X (pc := 47) (i := 4) (zw_dg dk_Contest_roundChanges 29 rfl) rfl ?_
      obtain ⟨c14, hc14, hsem⟩ := zw_bd hsem
      refine r_iast X (pc := 49) (zo hS 66 rfl rfl) hc14 (zw_dg dk_Contest_roundChanges 30 rfl) ?_
      refine r_iinc X (pc := 50) (i := 3) (k := 1) (zw_dg dk_Contest_roundChanges 31 rfl) rfl (by decide) (by decide) rfl ?_
      refine r_goto X (pc := 53) (tgt := 4) (zw_dg dk_Contest_roundChanges 32 rfl) (by decide) ?_
      have jj := hP _ (Option.some.inj hsem).symm
      exact (r_fgt [4] rfl jj)
  obtain ⟨changes5, c6⟩ := l7
  have hsem := hsl7
  refine r_iload_n X (pc := 56) (i := 2) (zw_dg dk_Contest_roundChanges 33 rfl) rfl rfl ?_
  obtain ⟨z15, hz15, hsem⟩ := zw_bd hsem
  obtain ⟨hzz15, hz15⟩ := zw_bz_of hz15
  refine zw_eqtI hz15 ?_
  have hbz : (z15 : Int32) = 0 ∨ (z15 : Int32) = 1 := (by rw [← hz15]; exact hzz15)
  cases hsem
  exact r_zret X (pc := 57) rfl (zw_bzn hbz).1 (zw_dg dk_Contest_roundChanges 34 rfl)
def y_Contest_tellRest : MethodName := ⟨R_Contest, "tellRest", "([ILPaidForThinking$Row;)I"⟩
abbrev b_Contest_tellRest : ByteArray := prog_3_method_8_code
def dl_Contest_tellRest : List (Nat × Instr × Nat) := [(0, .aload_n 0, 1), (1, .invokevirtual 37, 3), (4, .iconst 0, 1), (5, .istore_n 3, 1), (6, .iload_n 3, 1), (7, .bipush 20, 2), (9, .if_icmp .ge 56, 3), (12, .aload_n 0, 1), (13, .aload_n 1, 1), (14, .invokevirtual 80, 3), (17, .ifCond .ne 42, 3), (20, .aload_n 2, 1), (21, .invokevirtual 68, 3), (24, .iconst 0, 1), (25, .istore 4, 2), (27, .iload 4, 2), (29, .aload_n 0, 1), (30, .getfield 22, 3), (33, .getfield 58, 3), (36, .if_icmp .ge 21, 3), (39, .aload_n 2, 1), (40, .aload_n 0, 1), (41, .getfield 9, 3), (44, .iload 4, 2), (46, .iaload, 1), (47, .i2l, 1), (48, .invokevirtual 73, 3), (51, .iinc 4 1, 3), (54, .goto (-27), 3), (57, .iload_n 3, 1), (58, .ireturn, 1), (59, .iinc 3 1, 3), (62, .goto (-56), 3), (65, .bipush (-2), 2), (67, .ireturn, 1)]
theorem dk_Contest_tellRest : zw_dk b_Contest_tellRest dl_Contest_tellRest = true := by decide +kernel
theorem ce_Contest_tellRest : zw_cev y_Contest_tellRest b_Contest_tellRest 5 (some .int) 2 := ⟨⟨kt_in 1101 (by decide +kernel) rfl, kt_in 95 (by decide +kernel) rfl, by decide +kernel⟩, kt_in 1099 (by decide +kernel) rfl, kt_in 1100 (by decide +kernel) rfl⟩
def fn_Contest_tellRest_l2  : Int32 × zw_Ct → Option ((zw_Ct) ⊕ (Int32 × zw_Ct)) := fun (i15, c16) =>
  if (i15 < (c16.1 3 2)) then
  ((zw_aI 6 c16 66 i15).bind fun x21 =>
  (fn_Row_add c16 x21.toInt64).bind fun c22 =>
  some (.inr ((i15 + 1), c22)))
  else
  (some (.inl c16))
def fn_Contest_tellRest_l1 (values1 : Nat) : Int32 × zw_Ct → Option (((Int32 × zw_Ct) ⊕ (zw_Ct)) ⊕ (Int32 × zw_Ct)) := fun (changed4, c5) =>
  if (changed4 < 20) then
  ((fn_Contest_roundChanges c5 values1).bind fun (r10, c11) =>
  if (¬ (¬ r10 = 0)) then
  ((fn_Row_clear c11).bind fun c14 =>
  (zw_whl (fn_Contest_tellRest_l2) zw_F (0, c14)).bind fun c17 =>
  some (.inl (.inl (changed4, c17))))
  else
  (some (.inr ((changed4 + 1), c11))))
  else
  (some (.inl (.inr c5)))
def fn_Contest_tellRest (c : zw_Ct) (values1 : Nat) : Option (Int32 × zw_Ct) :=
  (fn_Contest_allSayTheTruth c).bind fun c3 =>
  (zw_whl (fn_Contest_tellRest_l1 values1) zw_F (0, c3)).bind fun q => match q with
    | .inl w => some w
    | .inr c6 =>
    some ((-2), c6)
set_option maxRecDepth 100000 in
theorem km_Contest_tellRest {l : Launch} {g : zw_G} {rr : zw_RR} {sh : zw_Sh} {c : zw_Ct} {values1 : Nat} {r : Int32} {c2 : zw_Ct} (hS : zw_Ok 0 101 sh rr) (hsem : fn_Contest_tellRest c values1 = some (r, c2)) : zw_Met l g y_Contest_tellRest b_Contest_tellRest 5 (some .int) 5 rr sh [.ref 65, .ref values1, .ref 61] c (some (.int r)) c2 := by
  unfold fn_Contest_tellRest at hsem
  refine zw_Met.of (by decide +kernel) (Nat.le_of_ble_eq_true rfl) (fun p e s m args below meth cd X => ?_)
  refine zw_eL (L2 := [some (.ref 65), some (.ref values1), some (.ref 61), none, none]) rfl ?_
  refine r_aload_n X (pc := 0) (i := 0) (zw_dg dk_Contest_tellRest 0 rfl) rfl rfl ?_
  obtain ⟨c3, hc3, hsem⟩ := zw_bd hsem
  refine r_callVv X (pc := 1) (As := []) (st := []) (km_Contest_allSayTheTruth hS hc3) ce_Contest_allSayTheTruth kw_1059 (zo hS 65 rfl rfl) rfl rfl ⟨Nat.le_of_ble_eq_true rfl, Nat.le_of_ble_eq_true rfl⟩ (Nat.le_of_ble_eq_true rfl) (zw_dg dk_Contest_tellRest 1 rfl) ?_
  refine r_iconst X (pc := 4) (v := 0) (zw_dg dk_Contest_tellRest 2 rfl) (by decide) ?_
  refine r_istore_n X (pc := 5) (i := 3) (zw_dg dk_Contest_tellRest 3 rfl) rfl (by decide) rfl ?_
  obtain ⟨l7, hl7, hsl7⟩ := zw_bd hsem
  refine r_loopR (pc := 6) (pce := 65) hl7 (fun (changed4, c5) => [some (.ref 65), some (.ref values1), some (.ref 61), some (.int changed4), none] : Int32 × zw_Ct → zw_Lc) (fun (changed4, c5) => c5 : Int32 × zw_Ct → zw_Ct) (fun c6 => [some (.ref 65), some (.ref values1), some (.ref 61), none, none] : zw_Ct → zw_Lc) (fun c6 => c6 : zw_Ct → zw_Ct) (fun w => w = (r, c2)) ?_ rfl rfl ?_ ?_
  · rintro ⟨changed4, c5⟩ rr hsem hR hK hP
    try unfold fn_Contest_tellRest_l1 at hsem
    refine r_iload_n X (pc := 6) (i := 3) (zw_dg dk_Contest_tellRest 4 rfl) rfl rfl ?_
    refine r_bipush X (pc := 7) (v := 20) (zw_dg dk_Contest_tellRest 5 rfl) (by decide) ?_
    refine r_icmp_ge X (pc := 9) (tgt := 65) (zw_dg dk_Contest_tellRest 6 rfl) (by decide) (fun q9 => ?_) (fun q9 => ?_)
    · --
      have p8 : ¬ (changed4 < 20) := (Int32.not_lt.mpr q9)
      have hsem := zw_ifn p8 hsem
      have jj := hK _ (Option.some.inj hsem).symm
      exact (r_fgt [3] rfl jj)
    · --
      have p8 : (changed4 < 20) := (Int32.not_le.mp q9)
      have hsem := zw_ifp p8 hsem
      refine r_aload_n X (pc := 12) (i := 0) (zw_dg dk_Contest_tellRest 7 rfl) rfl rfl ?_
      refine r_aload_n X (pc := 13) (i := 1) (zw_dg dk_Contest_tellRest 8 rfl) rfl rfl ?_
      obtain ⟨⟨r10, c11⟩, hr10_c11, hsem⟩ := zw_bd hsem
      refine r_callVi X (pc := 14) (As := [_]) (st := []) (km_Contest_roundChanges hS hr10_c11) ce_Contest_roundChanges kw_1102 (zo hS 65 rfl rfl) rfl rfl ⟨Nat.le_of_ble_eq_true rfl, Nat.le_of_ble_eq_true rfl⟩ (Nat.le_of_ble_eq_true rfl) (zw_dg dk_Contest_tellRest 9 rfl) ?_
      refine r_if_ne X (pc := 17) (tgt := 59) (zw_dg dk_Contest_tellRest 10 rfl) (by decide) (fun q13 => ?_) (fun q13 => ?_)
      · --
        have p12 : ¬ (¬ (¬ r10 = 0)) := (fun q => q q13)
        have hsem := zw_ifn p12 hsem
        refine r_iinc X (pc := 59) (i := 3) (k := 1) (zw_dg dk_Contest_tellRest 31 rfl) rfl (by decide) (by decide) rfl ?_
        refine r_goto X (pc := 62) (tgt := 6) (zw_dg dk_Contest_tellRest 32 rfl) (by decide) ?_
        have jj := hP _ (Option.some.inj hsem).symm
        exact (r_fgt [] rfl jj)
      · --
        have p12 : (¬ (¬ r10 = 0)) := (fun z => z q13)
        have hsem := zw_ifp p12 hsem
        refine r_aload_n X (pc := 20) (i := 2) (zw_dg dk_Contest_tellRest 11 rfl) rfl rfl ?_
        obtain ⟨c14, hc14, hsem⟩ := zw_bd hsem
        refine r_callVv X (pc := 21) (As := []) (st := []) (km_Row_clear hS hc14) ce_Row_clear kw_1085 (zo hS 61 rfl rfl) rfl rfl ⟨Nat.le_of_ble_eq_true rfl, Nat.le_of_ble_eq_true rfl⟩ (Nat.le_of_ble_eq_true rfl) (zw_dg dk_Contest_tellRest 12 rfl) ?_
        refine r_iconst X (pc := 24) (v := 0) (zw_dg dk_Contest_tellRest 13 rfl) (by decide) ?_
        refine r_istore X (pc := 25) (i := 4) (zw_dg dk_Contest_tellRest 14 rfl) (by decide) rfl ?_
        obtain ⟨c17, hl18, hsl18⟩ := zw_bd hsem
        refine r_loop (pc := 27) (pce := 57) hl18 (fun (i15, c16) => [some (.ref 65), some (.ref values1), some (.ref 61), some (.int changed4), some (.int i15)] : Int32 × zw_Ct → zw_Lc) (fun (i15, c16) => c16 : Int32 × zw_Ct → zw_Ct) (fun c17 => [some (.ref 65), some (.ref values1), some (.ref 61), some (.int changed4), none] : zw_Ct → zw_Lc) (fun c17 => c17 : zw_Ct → zw_Ct) ?_ rfl rfl ?_
        · rintro ⟨i15, c16⟩ rr hsem hK hP
          try unfold fn_Contest_tellRest_l2 at hsem
          refine r_iload X (pc := 27) (i := 4) (zw_dg dk_Contest_tellRest 15 rfl) rfl ?_
          refine r_aload_n X (pc := 29) (i := 0) (zw_dg dk_Contest_tellRest 16 rfl) rfl rfl ?_
          refine r_getR X (pc := 30) (r := 3) ci_Contest (zo hS 65 rfl rfl) rfl (zr hS 65 1 rfl rfl) lk_Contest_22 (zw_dg dk_Contest_tellRest 17 rfl) ?_
          refine r_getI X (pc := 33) ci_Held (zo hS 3 rfl rfl) rfl lk_Contest_58 (zw_dg dk_Contest_tellRest 18 rfl) ?_
          refine r_icmp_ge X (pc := 36) (tgt := 57) (zw_dg dk_Contest_tellRest 19 rfl) (by decide) (fun q20 => ?_) (fun q20 => ?_)
          · --
            have p19 : ¬ (i15 < (c16.1 3 2)) := (Int32.not_lt.mpr q20)
            have hsem := zw_ifn p19 hsem
            have jj := hK _ (Option.some.inj hsem).symm
            exact (r_fgt [4] rfl jj)
          · --
            have p19 : (i15 < (c16.1 3 2)) := (Int32.not_le.mp q20)
            have hsem := zw_ifp p19 hsem
            refine r_aload_n X (pc := 39) (i := 2) (zw_dg dk_Contest_tellRest 20 rfl) rfl rfl ?_
            refine r_aload_n X (pc := 40) (i := 0) (zw_dg dk_Contest_tellRest 21 rfl) rfl rfl ?_
            refine r_getR X (pc := 41) (r := 66) ci_Contest (zo hS 65 rfl rfl) rfl (zr hS 65 2 rfl rfl) lk_Contest_9 (zw_dg dk_Contest_tellRest 22 rfl) ?_
            refine r_iload X (pc := 44) (i := 4) (zw_dg dk_Contest_tellRest 23 rfl) rfl ?_
            obtain ⟨x21, hx21, hsem⟩ := zw_bd hsem
            refine r_iald X (pc := 46) (zo hS 66 rfl rfl) hx21 (zw_dg dk_Contest_tellRest 24 rfl) ?_
            refine r_i2l X (pc := 47) (zw_dg dk_Contest_tellRest 25 rfl)  ?_
            obtain ⟨c22, hc22, hsem⟩ := zw_bd hsem
            refine r_callVv X (pc := 48) (As := [_]) (st := []) (km_Row_add hS hc22) ce_Row_add kw_1086 (zo hS 61 rfl rfl) rfl rfl ⟨Nat.le_of_ble_eq_true rfl, Nat.le_of_ble_eq_true rfl⟩ (Nat.le_of_ble_eq_true rfl) (zw_dg dk_Contest_tellRest 26 rfl) ?_
            refine r_iinc X (pc := 51) (i := 4) (k := 1) (zw_dg dk_Contest_tellRest 27 rfl) rfl (by decide) (by decide) rfl ?_
            refine r_goto X (pc := 54) (tgt := 27) (zw_dg dk_Contest_tellRest 28 rfl) (by decide) ?_
            have jj := hP _ (Option.some.inj hsem).symm
            exact (r_fgt [] rfl jj)
        have hsem := hsl18
        refine r_iload_n X (pc := 57) (i := 3) (zw_dg dk_Contest_tellRest 29 rfl) rfl rfl ?_
        have hret := hR _ (Option.some.inj hsem).symm
        cases hret
        exact r_iret X (pc := 58) rfl (zw_dg dk_Contest_tellRest 30 rfl)
  · intro w hw
    subst hw
    exact Option.some.inj hsl7
  rintro c6 hw
  subst hw
  have hsem := hsl7
  refine r_bipush X (pc := 65) (v := (-2)) (zw_dg dk_Contest_tellRest 33 rfl) (by decide) ?_
  cases hsem
  exact r_iret X (pc := 67) rfl (zw_dg dk_Contest_tellRest 34 rfl)
def y_Contest_moreIf : MethodName := ⟨R_Contest, "moreIf", "([IIIII)J"⟩
abbrev b_Contest_moreIf : ByteArray := prog_3_method_12_code
def dl_Contest_moreIf : List (Nat × Instr × Nat) := [(0, .ldc2_w 98, 3), (3, .aload_n 0, 1), (4, .iload_n 1, 1), (5, .iconst 4, 1), (6, .imul, 1), (7, .iload 4, 2), (9, .iadd, 1), (10, .iaload, 1), (11, .i2l, 1), (12, .lmul, 1), (13, .aload_n 0, 1), (14, .iload_n 2, 1), (15, .iconst 4, 1), (16, .imul, 1), (17, .iload 4, 2), (19, .iadd, 1), (20, .iaload, 1), (21, .i2l, 1), (22, .lsub, 1), (23, .aload_n 0, 1), (24, .iload_n 3, 1), (25, .iconst 4, 1), (26, .imul, 1), (27, .iload 4, 2), (29, .iadd, 1), (30, .iaload, 1), (31, .i2l, 1), (32, .lsub, 1), (33, .lreturn, 1)]
theorem dk_Contest_moreIf : zw_dk b_Contest_moreIf dl_Contest_moreIf = true := by decide +kernel
theorem ce_Contest_moreIf : zw_ces y_Contest_moreIf b_Contest_moreIf 5 (some .long) 5 := ⟨⟨kt_in 1120 (by decide +kernel) rfl, kt_in 95 (by decide +kernel) rfl, by decide +kernel⟩, kt_in 1119 (by decide +kernel) rfl⟩
def fn_Contest_moreIf (c : zw_Ct) (values1 : Nat) (saying2 : Int32) (one3 : Int32) (other4 : Int32) (event5 : Int32) : Option Int64 :=
  (zw_dI SH 0 c values1 ((saying2 * 4) + event5)).bind fun x6 =>
  (zw_dI SH 0 c values1 ((one3 * 4) + event5)).bind fun x7 =>
  (zw_dI SH 0 c values1 ((other4 * 4) + event5)).bind fun x8 =>
  some (((2 * x6.toInt64) - x7.toInt64) - x8.toInt64)
set_option maxRecDepth 100000 in
theorem km_Contest_moreIf {l : Launch} {g : zw_G} {rr : zw_RR} {sh : zw_Sh} {c : zw_Ct} {values1 : Nat} {saying2 : Int32} {one3 : Int32} {other4 : Int32} {event5 : Int32} {r : Int64} (hS : zw_Ok 0 101 sh rr) (hsem : fn_Contest_moreIf c values1 saying2 one3 other4 event5 = some r) : zw_Met l g y_Contest_moreIf b_Contest_moreIf 5 (some .long) 1 rr sh [.ref values1, .int saying2, .int one3, .int other4, .int event5] c (some (.long r)) c := by
  unfold fn_Contest_moreIf at hsem
  refine zw_Met.of (by decide +kernel) (Nat.le_of_ble_eq_true rfl) (fun p e s m args below meth cd X => ?_)
  refine zw_eL (L2 := [some (.ref values1), some (.int saying2), some (.int one3), some (.int other4), some (.int event5)]) rfl ?_
  refine r_ldc2 X (pc := 0) (v := 2) kw_1121 (zw_dg dk_Contest_moreIf 0 rfl) ?_
  refine r_aload_n X (pc := 3) (i := 0) (zw_dg dk_Contest_moreIf 1 rfl) rfl rfl ?_
  refine r_iload_n X (pc := 4) (i := 1) (zw_dg dk_Contest_moreIf 2 rfl) rfl rfl ?_
  refine r_iconst X (pc := 5) (v := 4) (zw_dg dk_Contest_moreIf 3 rfl) (by decide) ?_
  refine r_imul X (pc := 6) (zw_dg dk_Contest_moreIf 4 rfl)  ?_
  refine r_iload X (pc := 7) (i := 4) (zw_dg dk_Contest_moreIf 5 rfl) rfl ?_
  refine r_iadd X (pc := 9) (zw_dg dk_Contest_moreIf 6 rfl)  ?_
  obtain ⟨x6, hx6, hsem⟩ := zw_bd hsem
  obtain ⟨_, hnx6, hx6⟩ := zw_bd hx6
  refine r_iald X (pc := 10) (zd hS (zw_len_of hnx6)) hx6 (zw_dg dk_Contest_moreIf 7 rfl) ?_
  refine r_i2l X (pc := 11) (zw_dg dk_Contest_moreIf 8 rfl)  ?_
  refine r_lmul X (pc := 12) (zw_dg dk_Contest_moreIf 9 rfl)  ?_
  refine r_aload_n X (pc := 13) (i := 0) (zw_dg dk_Contest_moreIf 10 rfl) rfl rfl ?_
  refine r_iload_n X (pc := 14) (i := 2) (zw_dg dk_Contest_moreIf 11 rfl) rfl rfl ?_
  refine r_iconst X (pc := 15) (v := 4) (zw_dg dk_Contest_moreIf 12 rfl) (by decide) ?_
  refine r_imul X (pc := 16) (zw_dg dk_Contest_moreIf 13 rfl)  ?_
  refine r_iload X (pc := 17) (i := 4) (zw_dg dk_Contest_moreIf 14 rfl) rfl ?_
  refine r_iadd X (pc := 19) (zw_dg dk_Contest_moreIf 15 rfl)  ?_
  obtain ⟨x7, hx7, hsem⟩ := zw_bd hsem
  obtain ⟨_, hnx7, hx7⟩ := zw_bd hx7
  refine r_iald X (pc := 20) (zd hS (zw_len_of hnx7)) hx7 (zw_dg dk_Contest_moreIf 16 rfl) ?_
  refine r_i2l X (pc := 21) (zw_dg dk_Contest_moreIf 17 rfl)  ?_
  refine r_lsub X (pc := 22) (zw_dg dk_Contest_moreIf 18 rfl)  ?_
  refine r_aload_n X (pc := 23) (i := 0) (zw_dg dk_Contest_moreIf 19 rfl) rfl rfl ?_
  refine r_iload_n X (pc := 24) (i := 3) (zw_dg dk_Contest_moreIf 20 rfl) rfl rfl ?_
  refine r_iconst X (pc := 25) (v := 4) (zw_dg dk_Contest_moreIf 21 rfl) (by decide) ?_
  refine r_imul X (pc := 26) (zw_dg dk_Contest_moreIf 22 rfl)  ?_
  refine r_iload X (pc := 27) (i := 4) (zw_dg dk_Contest_moreIf 23 rfl) rfl ?_
  refine r_iadd X (pc := 29) (zw_dg dk_Contest_moreIf 24 rfl)  ?_
  obtain ⟨x8, hx8, hsem⟩ := zw_bd hsem
  obtain ⟨_, hnx8, hx8⟩ := zw_bd hx8
  refine r_iald X (pc := 30) (zd hS (zw_len_of hnx8)) hx8 (zw_dg dk_Contest_moreIf 25 rfl) ?_
  refine r_i2l X (pc := 31) (zw_dg dk_Contest_moreIf 26 rfl)  ?_
  refine r_lsub X (pc := 32) (zw_dg dk_Contest_moreIf 27 rfl)  ?_
  cases hsem
  exact r_lret X (pc := 33) rfl (zw_dg dk_Contest_moreIf 28 rfl)
def y_Contest_leastMore : MethodName := ⟨R_Contest, "leastMore", "([IIII)J"⟩
abbrev b_Contest_leastMore : ByteArray := prog_3_method_11_code
def dl_Contest_leastMore : List (Nat × Instr × Nat) := [(0, .aload_n 1, 1), (1, .iload_n 2, 1), (2, .iload_n 3, 1), (3, .iload 4, 2), (5, .iconst 0, 1), (6, .invokestatic 88, 3), (9, .lstore 5, 2), (11, .iconst 1, 1), (12, .istore 7, 2), (14, .iload 7, 2), (16, .aload_n 0, 1), (17, .getfield 18, 3), (20, .getfield 44, 3), (23, .if_icmp .ge 26, 3), (26, .lload 5, 2), (28, .aload_n 1, 1), (29, .iload_n 2, 1), (30, .iload_n 3, 1), (31, .iload 4, 2), (33, .iload 7, 2), (35, .invokestatic 88, 3), (38, .invokestatic 92, 3), (41, .lstore 5, 2), (43, .iinc 7 1, 3), (46, .goto (-32), 3), (49, .lload 5, 2), (51, .lreturn, 1)]
theorem dk_Contest_leastMore : zw_dk b_Contest_leastMore dl_Contest_leastMore = true := by decide +kernel
theorem ce_Contest_leastMore : zw_cev y_Contest_leastMore b_Contest_leastMore 8 (some .long) 4 := ⟨⟨kt_in 1117 (by decide +kernel) rfl, kt_in 95 (by decide +kernel) rfl, by decide +kernel⟩, kt_in 1116 (by decide +kernel) rfl, kt_in 25 (by decide +kernel) rfl⟩
def fn_Contest_leastMore_l1 (c : zw_Ct) (values1 : Nat) (saying2 : Int32) (one3 : Int32) (other4 : Int32) : Int64 × Int32 → Option ((Int64) ⊕ (Int64 × Int32)) := fun (least6, e7) =>
  if (e7 < (c.1 1 0)) then
  ((fn_Contest_moreIf c values1 saying2 one3 other4 e7).bind fun r12 =>
  (some ((if r12 < least6 then r12 else least6) : Int64)).bind fun least13 =>
  some (.inr (least13, (e7 + 1))))
  else
  (some (.inl least6))
def fn_Contest_leastMore (c : zw_Ct) (values1 : Nat) (saying2 : Int32) (one3 : Int32) (other4 : Int32) : Option Int64 :=
  (fn_Contest_moreIf c values1 saying2 one3 other4 0).bind fun r5 =>
  (zw_whl (fn_Contest_leastMore_l1 c values1 saying2 one3 other4) zw_F (r5, 1)).bind fun least8 =>
  some least8
set_option maxRecDepth 100000 in
theorem km_Contest_leastMore {l : Launch} {g : zw_G} {rr : zw_RR} {sh : zw_Sh} {c : zw_Ct} {values1 : Nat} {saying2 : Int32} {one3 : Int32} {other4 : Int32} {r : Int64} (hS : zw_Ok 0 101 sh rr) (hsem : fn_Contest_leastMore c values1 saying2 one3 other4 = some r) : zw_Met l g y_Contest_leastMore b_Contest_leastMore 8 (some .long) 2 rr sh [.ref 65, .ref values1, .int saying2, .int one3, .int other4] c (some (.long r)) c := by
  unfold fn_Contest_leastMore at hsem
  refine zw_Met.of (by decide +kernel) (Nat.le_of_ble_eq_true rfl) (fun p e s m args below meth cd X => ?_)
  refine zw_eL (L2 := [some (.ref 65), some (.ref values1), some (.int saying2), some (.int one3), some (.int other4), none, none, none]) rfl ?_
  refine r_aload_n X (pc := 0) (i := 1) (zw_dg dk_Contest_leastMore 0 rfl) rfl rfl ?_
  refine r_iload_n X (pc := 1) (i := 2) (zw_dg dk_Contest_leastMore 1 rfl) rfl rfl ?_
  refine r_iload_n X (pc := 2) (i := 3) (zw_dg dk_Contest_leastMore 2 rfl) rfl rfl ?_
  refine r_iload X (pc := 3) (i := 4) (zw_dg dk_Contest_leastMore 3 rfl) rfl ?_
  refine r_iconst X (pc := 5) (v := 0) (zw_dg dk_Contest_leastMore 4 rfl) (by decide) ?_
  obtain ⟨r5, hr5, hsem⟩ := zw_bd hsem
  refine r_callSl X (pc := 6) (As := [_, _, _, _, _]) (st := []) (km_Contest_moreIf hS hr5) ce_Contest_moreIf kw_1118 rfl ⟨Nat.le_of_ble_eq_true rfl, Nat.le_of_ble_eq_true rfl⟩ (Nat.le_of_ble_eq_true rfl) (zw_dg dk_Contest_leastMore 5 rfl) ?_
  refine r_lstore X (pc := 9) (i := 5) (L2 := [some (.ref 65), some (.ref values1), some (.int saying2), some (.int one3), some (.int other4), some (.long r5), none, none]) (zw_dg dk_Contest_leastMore 6 rfl) (by decide) rfl ?_
  refine r_iconst X (pc := 11) (v := 1) (zw_dg dk_Contest_leastMore 7 rfl) (by decide) ?_
  refine r_istore X (pc := 12) (i := 7) (zw_dg dk_Contest_leastMore 8 rfl) (by decide) rfl ?_
  obtain ⟨least8, hl9, hsl9⟩ := zw_bd hsem
  refine r_loop (pc := 14) (pce := 49) hl9 (fun (least6, e7) => [some (.ref 65), some (.ref values1), some (.int saying2), some (.int one3), some (.int other4), some (.long least6), none, some (.int e7)] : Int64 × Int32 → zw_Lc) (fun (least6, e7) => c : Int64 × Int32 → zw_Ct) (fun least8 => [some (.ref 65), some (.ref values1), some (.int saying2), some (.int one3), some (.int other4), some (.long least8), none, none] : Int64 → zw_Lc) (fun least8 => c : Int64 → zw_Ct) ?_ rfl rfl ?_
  · rintro ⟨least6, e7⟩ rr hsem hK hP
    try unfold fn_Contest_leastMore_l1 at hsem
    refine r_iload X (pc := 14) (i := 7) (zw_dg dk_Contest_leastMore 9 rfl) rfl ?_
    refine r_aload_n X (pc := 16) (i := 0) (zw_dg dk_Contest_leastMore 10 rfl) rfl rfl ?_
    refine r_getR X (pc := 17) (r := 1) ci_Contest (zo hS 65 rfl rfl) rfl (zr hS 65 0 rfl rfl) lk_Contest_18 (zw_dg dk_Contest_leastMore 11 rfl) ?_
    refine r_getI X (pc := 20) ci_Sayings (zo hS 1 rfl rfl) rfl lk_Contest_44 (zw_dg dk_Contest_leastMore 12 rfl) ?_
    refine r_icmp_ge X (pc := 23) (tgt := 49) (zw_dg dk_Contest_leastMore 13 rfl) (by decide) (fun q11 => ?_) (fun q11 => ?_)
    · --
      have p10 : ¬ (e7 < (c.1 1 0)) := (Int32.not_lt.mpr q11)
      have hsem := zw_ifn p10 hsem
      have jj := hK _ (Option.some.inj hsem).symm
      exact (r_fgt [7] rfl jj)
    · --
      have p10 : (e7 < (c.1 1 0)) := (Int32.not_le.mp q11)
      have hsem := zw_ifp p10 hsem
      refine r_lload X (pc := 26) (i := 5) (zw_dg dk_Contest_leastMore 14 rfl) rfl ?_
      refine r_aload_n X (pc := 28) (i := 1) (zw_dg dk_Contest_leastMore 15 rfl) rfl rfl ?_
      refine r_iload_n X (pc := 29) (i := 2) (zw_dg dk_Contest_leastMore 16 rfl) rfl rfl ?_
      refine r_iload_n X (pc := 30) (i := 3) (zw_dg dk_Contest_leastMore 17 rfl) rfl rfl ?_
      refine r_iload X (pc := 31) (i := 4) (zw_dg dk_Contest_leastMore 18 rfl) rfl ?_
      refine r_iload X (pc := 33) (i := 7) (zw_dg dk_Contest_leastMore 19 rfl) rfl ?_
      obtain ⟨r12, hr12, hsem⟩ := zw_bd hsem
      refine r_callSl X (pc := 35) (As := [_, _, _, _, _]) (st := [.long least6]) (km_Contest_moreIf hS hr12) ce_Contest_moreIf kw_1118 rfl ⟨Nat.le_of_ble_eq_true rfl, Nat.le_of_ble_eq_true rfl⟩ (Nat.le_of_ble_eq_true rfl) (zw_dg dk_Contest_leastMore 20 rfl) ?_
      refine r_mminl X (pc := 38) kw_1122 mws_minl kw_88 mwc_minl ⟨Nat.le_of_ble_eq_true rfl, Nat.le_of_ble_eq_true rfl⟩ (st := []) (Nat.le_of_ble_eq_true rfl) (zw_dg dk_Contest_leastMore 21 rfl) ?_
      obtain ⟨least13, hleast13, hsem⟩ := zw_bd hsem
      refine zw_topJ hleast13 ?_
      refine r_lstore X (pc := 41) (i := 5) (L2 := [some (.ref 65), some (.ref values1), some (.int saying2), some (.int one3), some (.int other4), some (.long least13), none, some (.int e7)]) (zw_dg dk_Contest_leastMore 22 rfl) (by decide) rfl ?_
      refine r_iinc X (pc := 43) (i := 7) (k := 1) (zw_dg dk_Contest_leastMore 23 rfl) rfl (by decide) (by decide) rfl ?_
      refine r_goto X (pc := 46) (tgt := 14) (zw_dg dk_Contest_leastMore 24 rfl) (by decide) ?_
      have jj := hP _ (Option.some.inj hsem).symm
      exact (r_fgt [] rfl jj)
  have hsem := hsl9
  refine r_lload X (pc := 49) (i := 5) (zw_dg dk_Contest_leastMore 25 rfl) rfl ?_
  cases hsem
  exact r_lret X (pc := 51) rfl (zw_dg dk_Contest_leastMore 26 rfl)
def y_Contest_tellAgreed : MethodName := ⟨R_Contest, "tellAgreed", "([IIILPaidForThinking$Row;)I"⟩
abbrev b_Contest_tellAgreed : ByteArray := prog_3_method_10_code
def dl_Contest_tellAgreed : List (Nat × Instr × Nat) := [(0, .iconst 0, 1), (1, .istore 5, 2), (3, .aload_n 0, 1), (4, .aload_n 1, 1), (5, .iconst 0, 1), (6, .iload_n 2, 1), (7, .iload_n 3, 1), (8, .invokevirtual 84, 3), (11, .lstore 6, 2), (13, .iconst 1, 1), (14, .istore 8, 2), (16, .iload 8, 2), (18, .aload_n 0, 1), (19, .getfield 18, 3), (22, .getfield 61, 3), (25, .if_icmp .ge 36, 3), (28, .aload_n 0, 1), (29, .aload_n 1, 1), (30, .iload 8, 2), (32, .iload_n 2, 1), (33, .iload_n 3, 1), (34, .invokevirtual 84, 3), (37, .lstore 9, 2), (39, .lload 9, 2), (41, .lload 6, 2), (43, .lcmp, 1), (44, .ifCond .le 11, 3), (47, .iload 8, 2), (49, .istore 5, 2), (51, .lload 9, 2), (53, .lstore 6, 2), (55, .iinc 8 1, 3), (58, .goto (-42), 3), (61, .aload 4, 2), (63, .invokevirtual 68, 3), (66, .aload 4, 2), (68, .lload 6, 2), (70, .invokevirtual 73, 3), (73, .iload 5, 2), (75, .ireturn, 1)]
theorem dk_Contest_tellAgreed : zw_dk b_Contest_tellAgreed dl_Contest_tellAgreed = true := by decide +kernel
theorem ce_Contest_tellAgreed : zw_cev y_Contest_tellAgreed b_Contest_tellAgreed 11 (some .int) 4 := ⟨⟨kt_in 1113 (by decide +kernel) rfl, kt_in 95 (by decide +kernel) rfl, by decide +kernel⟩, kt_in 1111 (by decide +kernel) rfl, kt_in 1112 (by decide +kernel) rfl⟩
def fn_Contest_tellAgreed_l1 (c : zw_Ct) (values1 : Nat) (one2 : Int32) (other3 : Int32) : Int32 × Int64 × Int32 → Option ((Int32 × Int64) ⊕ (Int32 × Int64 × Int32)) := fun (agreed5, greatest6, s7) =>
  if (s7 < (c.1 1 2)) then
  ((fn_Contest_leastMore c values1 s7 one2 other3).bind fun r13 =>
  (if (greatest6 < r13) then
  (some ((s7 : Int32), (r13 : Int64)))
  else
  (some ((agreed5 : Int32), (greatest6 : Int64)))).bind fun (agreed14, greatest15) =>
  some (.inr (agreed14, greatest15, (s7 + 1))))
  else
  (some (.inl (agreed5, greatest6)))
def fn_Contest_tellAgreed (c : zw_Ct) (values1 : Nat) (one2 : Int32) (other3 : Int32) : Option (Int32 × zw_Ct) :=
  (fn_Contest_leastMore c values1 0 one2 other3).bind fun r4 =>
  (zw_whl (fn_Contest_tellAgreed_l1 c values1 one2 other3) zw_F (0, r4, 1)).bind fun (agreed8, greatest9) =>
  (fn_Row_clear c).bind fun c18 =>
  (fn_Row_add c18 greatest9).bind fun c19 =>
  some (agreed8, c19)
set_option maxRecDepth 100000 in
theorem km_Contest_tellAgreed {l : Launch} {g : zw_G} {rr : zw_RR} {sh : zw_Sh} {c : zw_Ct} {values1 : Nat} {one2 : Int32} {other3 : Int32} {r : Int32} {c2 : zw_Ct} (hS : zw_Ok 0 101 sh rr) (hsem : fn_Contest_tellAgreed c values1 one2 other3 = some (r, c2)) : zw_Met l g y_Contest_tellAgreed b_Contest_tellAgreed 11 (some .int) 3 rr sh [.ref 65, .ref values1, .int one2, .int other3, .ref 61] c (some (.int r)) c2 := by
  unfold fn_Contest_tellAgreed at hsem
  refine zw_Met.of (by decide +kernel) (Nat.le_of_ble_eq_true rfl) (fun p e s m args below meth cd X => ?_)
  refine zw_eL (L2 := [some (.ref 65), some (.ref values1), some (.int one2), some (.int other3), some (.ref 61), none, none, none, none, none, none]) rfl ?_
  refine r_iconst X (pc := 0) (v := 0) (zw_dg dk_Contest_tellAgreed 0 rfl) (by decide) ?_
  refine r_istore X (pc := 1) (i := 5) (zw_dg dk_Contest_tellAgreed 1 rfl) (by decide) rfl ?_
  refine r_aload_n X (pc := 3) (i := 0) (zw_dg dk_Contest_tellAgreed 2 rfl) rfl rfl ?_
  refine r_aload_n X (pc := 4) (i := 1) (zw_dg dk_Contest_tellAgreed 3 rfl) rfl rfl ?_
  refine r_iconst X (pc := 5) (v := 0) (zw_dg dk_Contest_tellAgreed 4 rfl) (by decide) ?_
  refine r_iload_n X (pc := 6) (i := 2) (zw_dg dk_Contest_tellAgreed 5 rfl) rfl rfl ?_
  refine r_iload_n X (pc := 7) (i := 3) (zw_dg dk_Contest_tellAgreed 6 rfl) rfl rfl ?_
  obtain ⟨r4, hr4, hsem⟩ := zw_bd hsem
  refine r_callVl X (pc := 8) (As := [_, _, _, _]) (st := []) (km_Contest_leastMore hS hr4) ce_Contest_leastMore kw_1114 (zo hS 65 rfl rfl) rfl rfl ⟨Nat.le_of_ble_eq_true rfl, Nat.le_of_ble_eq_true rfl⟩ (Nat.le_of_ble_eq_true rfl) (zw_dg dk_Contest_tellAgreed 7 rfl) ?_
  refine r_lstore X (pc := 11) (i := 6) (L2 := [some (.ref 65), some (.ref values1), some (.int one2), some (.int other3), some (.ref 61), some (.int 0), some (.long r4), none, none, none, none]) (zw_dg dk_Contest_tellAgreed 8 rfl) (by decide) rfl ?_
  refine r_iconst X (pc := 13) (v := 1) (zw_dg dk_Contest_tellAgreed 9 rfl) (by decide) ?_
  refine r_istore X (pc := 14) (i := 8) (zw_dg dk_Contest_tellAgreed 10 rfl) (by decide) rfl ?_
  obtain ⟨l10, hl10, hsl10⟩ := zw_bd hsem
  refine r_loop (pc := 16) (pce := 61) hl10 (fun (agreed5, greatest6, s7) => [some (.ref 65), some (.ref values1), some (.int one2), some (.int other3), some (.ref 61), some (.int agreed5), some (.long greatest6), none, some (.int s7), none, none] : Int32 × Int64 × Int32 → zw_Lc) (fun (agreed5, greatest6, s7) => c : Int32 × Int64 × Int32 → zw_Ct) (fun (agreed8, greatest9) => [some (.ref 65), some (.ref values1), some (.int one2), some (.int other3), some (.ref 61), some (.int agreed8), some (.long greatest9), none, none, none, none] : Int32 × Int64 → zw_Lc) (fun (agreed8, greatest9) => c : Int32 × Int64 → zw_Ct) ?_ rfl rfl ?_
  · rintro ⟨agreed5, greatest6, s7⟩ rr hsem hK hP
    try unfold fn_Contest_tellAgreed_l1 at hsem
    refine r_iload X (pc := 16) (i := 8) (zw_dg dk_Contest_tellAgreed 11 rfl) rfl ?_
    refine r_aload_n X (pc := 18) (i := 0) (zw_dg dk_Contest_tellAgreed 12 rfl) rfl rfl ?_
    refine r_getR X (pc := 19) (r := 1) ci_Contest (zo hS 65 rfl rfl) rfl (zr hS 65 0 rfl rfl) lk_Contest_18 (zw_dg dk_Contest_tellAgreed 13 rfl) ?_
    refine r_getI X (pc := 22) ci_Sayings (zo hS 1 rfl rfl) rfl lk_Contest_61 (zw_dg dk_Contest_tellAgreed 14 rfl) ?_
    refine r_icmp_ge X (pc := 25) (tgt := 61) (zw_dg dk_Contest_tellAgreed 15 rfl) (by decide) (fun q12 => ?_) (fun q12 => ?_)
    · --
      have p11 : ¬ (s7 < (c.1 1 2)) := (Int32.not_lt.mpr q12)
      have hsem := zw_ifn p11 hsem
      have jj := hK _ (Option.some.inj hsem).symm
      exact (r_fgt [8] rfl jj)
    · --
      have p11 : (s7 < (c.1 1 2)) := (Int32.not_le.mp q12)
      have hsem := zw_ifp p11 hsem
      refine r_aload_n X (pc := 28) (i := 0) (zw_dg dk_Contest_tellAgreed 16 rfl) rfl rfl ?_
      refine r_aload_n X (pc := 29) (i := 1) (zw_dg dk_Contest_tellAgreed 17 rfl) rfl rfl ?_
      refine r_iload X (pc := 30) (i := 8) (zw_dg dk_Contest_tellAgreed 18 rfl) rfl ?_
      refine r_iload_n X (pc := 32) (i := 2) (zw_dg dk_Contest_tellAgreed 19 rfl) rfl rfl ?_
      refine r_iload_n X (pc := 33) (i := 3) (zw_dg dk_Contest_tellAgreed 20 rfl) rfl rfl ?_
      obtain ⟨r13, hr13, hsem⟩ := zw_bd hsem
      refine r_callVl X (pc := 34) (As := [_, _, _, _]) (st := []) (km_Contest_leastMore hS hr13) ce_Contest_leastMore kw_1114 (zo hS 65 rfl rfl) rfl rfl ⟨Nat.le_of_ble_eq_true rfl, Nat.le_of_ble_eq_true rfl⟩ (Nat.le_of_ble_eq_true rfl) (zw_dg dk_Contest_tellAgreed 21 rfl) ?_
      refine r_lstore X (pc := 37) (i := 9) (L2 := [some (.ref 65), some (.ref values1), some (.int one2), some (.int other3), some (.ref 61), some (.int agreed5), some (.long greatest6), none, some (.int s7), some (.long r13), none]) (zw_dg dk_Contest_tellAgreed 22 rfl) (by decide) rfl ?_
      obtain ⟨⟨agreed14, greatest15⟩, ht55, hs55⟩ := zw_bd hsem
      refine zw_jn (J := 55) (L2 := [some (.ref 65), some (.ref values1), some (.int one2), some (.int other3), some (.ref 61), some (.int agreed14), some (.long greatest15), none, some (.int s7), some (.long r13), none]) (c2 := c) (fun jj => ?_) ?_
      · have hsem := ht55
        refine r_lload X (pc := 39) (i := 9) (zw_dg dk_Contest_tellAgreed 23 rfl) rfl ?_
        refine r_lload X (pc := 41) (i := 6) (zw_dg dk_Contest_tellAgreed 24 rfl) rfl ?_
        refine r_lcmp_le X (pc := 43) (tgt := 55) (zw_dg dk_Contest_tellAgreed 25 rfl) (zw_dg dk_Contest_tellAgreed 26 rfl) (by decide) (fun q17 => ?_) (fun q17 => ?_)
        · --
          have p16 : ¬ (greatest6 < r13) := (Int64.not_lt.mpr q17)
          have hsem := zw_ifn p16 hsem
          obtain ⟨rfl, rfl⟩ := zw_in2 hsem
          exact (r_fgt [] rfl jj)
        · --
          have p16 : (greatest6 < r13) := (Int64.not_le.mp q17)
          have hsem := zw_ifp p16 hsem
          refine r_iload X (pc := 47) (i := 8) (zw_dg dk_Contest_tellAgreed 27 rfl) rfl ?_
          refine r_istore X (pc := 49) (i := 5) (zw_dg dk_Contest_tellAgreed 28 rfl) (by decide) rfl ?_
          refine r_lload X (pc := 51) (i := 9) (zw_dg dk_Contest_tellAgreed 29 rfl) rfl ?_
          refine r_lstore X (pc := 53) (i := 6) (L2 := [some (.ref 65), some (.ref values1), some (.int one2), some (.int other3), some (.ref 61), some (.int s7), some (.long r13), none, some (.int s7), some (.long r13), none]) (zw_dg dk_Contest_tellAgreed 30 rfl) (by decide) rfl ?_
          obtain ⟨rfl, rfl⟩ := zw_in2 hsem
          exact (r_fgt [] rfl jj)
      have hsem := hs55
      refine r_iinc X (pc := 55) (i := 8) (k := 1) (zw_dg dk_Contest_tellAgreed 31 rfl) rfl (by decide) (by decide) rfl ?_
      refine r_goto X (pc := 58) (tgt := 16) (zw_dg dk_Contest_tellAgreed 32 rfl) (by decide) ?_
      have jj := hP _ (Option.some.inj hsem).symm
      exact (r_fgt [9] rfl jj)
  obtain ⟨agreed8, greatest9⟩ := l10
  have hsem := hsl10
  refine r_aload X (pc := 61) (i := 4) (zw_dg dk_Contest_tellAgreed 33 rfl) rfl ?_
  obtain ⟨c18, hc18, hsem⟩ := zw_bd hsem
  refine r_callVv X (pc := 63) (As := []) (st := []) (km_Row_clear hS hc18) ce_Row_clear kw_1085 (zo hS 61 rfl rfl) rfl rfl ⟨Nat.le_of_ble_eq_true rfl, Nat.le_of_ble_eq_true rfl⟩ (Nat.le_of_ble_eq_true rfl) (zw_dg dk_Contest_tellAgreed 34 rfl) ?_
  refine r_aload X (pc := 66) (i := 4) (zw_dg dk_Contest_tellAgreed 35 rfl) rfl ?_
  refine r_lload X (pc := 68) (i := 6) (zw_dg dk_Contest_tellAgreed 36 rfl) rfl ?_
  obtain ⟨c19, hc19, hsem⟩ := zw_bd hsem
  refine r_callVv X (pc := 70) (As := [_]) (st := []) (km_Row_add hS hc19) ce_Row_add kw_1086 (zo hS 61 rfl rfl) rfl rfl ⟨Nat.le_of_ble_eq_true rfl, Nat.le_of_ble_eq_true rfl⟩ (Nat.le_of_ble_eq_true rfl) (zw_dg dk_Contest_tellAgreed 37 rfl) ?_
  refine r_iload X (pc := 73) (i := 5) (zw_dg dk_Contest_tellAgreed 38 rfl) rfl ?_
  cases hsem
  exact r_iret X (pc := 75) rfl (zw_dg dk_Contest_tellAgreed 39 rfl)
def y_Contest_canGain : MethodName := ⟨R_Contest, "canGain", "([III)Z"⟩
abbrev b_Contest_canGain : ByteArray := prog_3_method_14_code
def dl_Contest_canGain : List (Nat × Instr × Nat) := [(0, .iconst 0, 1), (1, .istore 4, 2), (3, .iload 4, 2), (5, .aload_n 0, 1), (6, .getfield 18, 3), (9, .getfield 61, 3), (12, .if_icmp .ge 25, 3), (15, .aload_n 0, 1), (16, .aload_n 1, 1), (17, .iload 4, 2), (19, .iload_n 2, 1), (20, .iload_n 3, 1), (21, .invokevirtual 84, 3), (24, .lconst 0, 1), (25, .lcmp, 1), (26, .ifCond .le 5, 3), (29, .iconst 1, 1), (30, .ireturn, 1), (31, .iinc 4 1, 3), (34, .goto (-31), 3), (37, .iconst 0, 1), (38, .ireturn, 1)]
theorem dk_Contest_canGain : zw_dk b_Contest_canGain dl_Contest_canGain = true := by decide +kernel
theorem ce_Contest_canGain : zw_cev y_Contest_canGain b_Contest_canGain 5 (some .boolean) 3 := ⟨⟨kt_in 1134 (by decide +kernel) rfl, kt_in 95 (by decide +kernel) rfl, by decide +kernel⟩, kt_in 1133 (by decide +kernel) rfl, kt_in 26 (by decide +kernel) rfl⟩
def fn_Contest_canGain_l1 (c : zw_Ct) (values1 : Nat) (one2 : Int32) (other3 : Int32) : Int32 → Option (((Int32) ⊕ (Unit)) ⊕ (Int32)) := fun s4 =>
  if (s4 < (c.1 1 2)) then
  ((fn_Contest_leastMore c values1 s4 one2 other3).bind fun r8 =>
  if (0 < r8) then
  (some (.inl (.inl 1)))
  else
  (some (.inr (s4 + 1))))
  else
  (some (.inl (.inr ())))
def fn_Contest_canGain (c : zw_Ct) (values1 : Nat) (one2 : Int32) (other3 : Int32) : Option Int32 :=
  (zw_whl (fn_Contest_canGain_l1 c values1 one2 other3) zw_F 0).bind fun q => match q with
    | .inl w => some w
    | .inr _ =>
    some 0
set_option maxRecDepth 100000 in
theorem km_Contest_canGain {l : Launch} {g : zw_G} {rr : zw_RR} {sh : zw_Sh} {c : zw_Ct} {values1 : Nat} {one2 : Int32} {other3 : Int32} {r : Int32} (hS : zw_Ok 0 101 sh rr) (hsem : fn_Contest_canGain c values1 one2 other3 = some r) : zw_Met l g y_Contest_canGain b_Contest_canGain 5 (some .boolean) 3 rr sh [.ref 65, .ref values1, .int one2, .int other3] c (some (.int r)) c := by
  unfold fn_Contest_canGain at hsem
  refine zw_Met.of (by decide +kernel) (Nat.le_of_ble_eq_true rfl) (fun p e s m args below meth cd X => ?_)
  refine zw_eL (L2 := [some (.ref 65), some (.ref values1), some (.int one2), some (.int other3), none]) rfl ?_
  refine r_iconst X (pc := 0) (v := 0) (zw_dg dk_Contest_canGain 0 rfl) (by decide) ?_
  refine r_istore X (pc := 1) (i := 4) (zw_dg dk_Contest_canGain 1 rfl) (by decide) rfl ?_
  obtain ⟨l5, hl5, hsl5⟩ := zw_bd hsem
  refine r_loopR (pc := 3) (pce := 37) hl5 (fun s4 => [some (.ref 65), some (.ref values1), some (.int one2), some (.int other3), some (.int s4)] : Int32 → zw_Lc) (fun s4 => c : Int32 → zw_Ct) (fun (_ : Unit) => [some (.ref 65), some (.ref values1), some (.int one2), some (.int other3), none] : Unit → zw_Lc) (fun (_ : Unit) => c : Unit → zw_Ct) (fun w => w = r) ?_ rfl rfl ?_ ?_
  · rintro s4 rr hsem hR hK hP
    try unfold fn_Contest_canGain_l1 at hsem
    refine r_iload X (pc := 3) (i := 4) (zw_dg dk_Contest_canGain 2 rfl) rfl ?_
    refine r_aload_n X (pc := 5) (i := 0) (zw_dg dk_Contest_canGain 3 rfl) rfl rfl ?_
    refine r_getR X (pc := 6) (r := 1) ci_Contest (zo hS 65 rfl rfl) rfl (zr hS 65 0 rfl rfl) lk_Contest_18 (zw_dg dk_Contest_canGain 4 rfl) ?_
    refine r_getI X (pc := 9) ci_Sayings (zo hS 1 rfl rfl) rfl lk_Contest_61 (zw_dg dk_Contest_canGain 5 rfl) ?_
    refine r_icmp_ge X (pc := 12) (tgt := 37) (zw_dg dk_Contest_canGain 6 rfl) (by decide) (fun q7 => ?_) (fun q7 => ?_)
    · --
      have p6 : ¬ (s4 < (c.1 1 2)) := (Int32.not_lt.mpr q7)
      have hsem := zw_ifn p6 hsem
      have jj := hK _ (Option.some.inj hsem).symm
      exact (r_fgt [4] rfl jj)
    · --
      have p6 : (s4 < (c.1 1 2)) := (Int32.not_le.mp q7)
      have hsem := zw_ifp p6 hsem
      refine r_aload_n X (pc := 15) (i := 0) (zw_dg dk_Contest_canGain 7 rfl) rfl rfl ?_
      refine r_aload_n X (pc := 16) (i := 1) (zw_dg dk_Contest_canGain 8 rfl) rfl rfl ?_
      refine r_iload X (pc := 17) (i := 4) (zw_dg dk_Contest_canGain 9 rfl) rfl ?_
      refine r_iload_n X (pc := 19) (i := 2) (zw_dg dk_Contest_canGain 10 rfl) rfl rfl ?_
      refine r_iload_n X (pc := 20) (i := 3) (zw_dg dk_Contest_canGain 11 rfl) rfl rfl ?_
      obtain ⟨r8, hr8, hsem⟩ := zw_bd hsem
      refine r_callVl X (pc := 21) (As := [_, _, _, _]) (st := []) (km_Contest_leastMore hS hr8) ce_Contest_leastMore kw_1114 (zo hS 65 rfl rfl) rfl rfl ⟨Nat.le_of_ble_eq_true rfl, Nat.le_of_ble_eq_true rfl⟩ (Nat.le_of_ble_eq_true rfl) (zw_dg dk_Contest_canGain 12 rfl) ?_
      refine r_lconst X (pc := 24) (v := 0) (zw_dg dk_Contest_canGain 13 rfl) (by decide) ?_
      refine r_lcmp_le X (pc := 25) (tgt := 31) (zw_dg dk_Contest_canGain 14 rfl) (zw_dg dk_Contest_canGain 15 rfl) (by decide) (fun q10 => ?_) (fun q10 => ?_)
      · --
        have p9 : ¬ (0 < r8) := (Int64.not_lt.mpr q10)
        have hsem := zw_ifn p9 hsem
        refine r_iinc X (pc := 31) (i := 4) (k := 1) (zw_dg dk_Contest_canGain 18 rfl) rfl (by decide) (by decide) rfl ?_
        refine r_goto X (pc := 34) (tgt := 3) (zw_dg dk_Contest_canGain 19 rfl) (by decide) ?_
        have jj := hP _ (Option.some.inj hsem).symm
        exact (r_fgt [] rfl jj)
      · --
        have p9 : (0 < r8) := (Int64.not_le.mp q10)
        have hsem := zw_ifp p9 hsem
        refine r_iconst X (pc := 29) (v := 1) (zw_dg dk_Contest_canGain 16 rfl) (by decide) ?_
        have hbz : (1 : Int32) = 0 ∨ (1 : Int32) = 1 := (by decide)
        have hret := hR _ (Option.some.inj hsem).symm
        cases hret
        exact r_zret X (pc := 30) rfl (zw_bzn hbz).1 (zw_dg dk_Contest_canGain 17 rfl)
  · intro w hw
    subst hw
    exact Option.some.inj hsl5
  rintro _u hw
  subst hw
  have hsem := hsl5
  refine r_iconst X (pc := 37) (v := 0) (zw_dg dk_Contest_canGain 20 rfl) (by decide) ?_
  have hbz : (0 : Int32) = 0 ∨ (0 : Int32) = 1 := (by decide)
  cases hsem
  exact r_zret X (pc := 38) rfl (zw_bzn hbz).1 (zw_dg dk_Contest_canGain 21 rfl)
def y_Contest_tellGainingPairs : MethodName := ⟨R_Contest, "tellGainingPairs", "([ILPaidForThinking$Row;)I"⟩
abbrev b_Contest_tellGainingPairs : ByteArray := prog_3_method_13_code
def dl_Contest_tellGainingPairs : List (Nat × Instr × Nat) := [(0, .iconst 0, 1), (1, .istore_n 3, 1), (2, .aload_n 2, 1), (3, .invokevirtual 68, 3), (6, .iconst 0, 1), (7, .istore 4, 2), (9, .iload 4, 2), (11, .aload_n 0, 1), (12, .getfield 18, 3), (15, .getfield 61, 3), (18, .if_icmp .ge 66, 3), (21, .iload 4, 2), (23, .iconst 1, 1), (24, .iadd, 1), (25, .istore 5, 2), (27, .iload 5, 2), (29, .aload_n 0, 1), (30, .getfield 18, 3), (33, .getfield 61, 3), (36, .if_icmp .ge 42, 3), (39, .aload_n 0, 1), (40, .aload_n 1, 1), (41, .iload 4, 2), (43, .iload 5, 2), (45, .invokevirtual 100, 3), (48, .ifCond .eq 24, 3), (51, .iload_n 3, 1), (52, .ifCond .ne 17, 3), (55, .aload_n 2, 1), (56, .iload 4, 2), (58, .i2l, 1), (59, .invokevirtual 73, 3), (62, .aload_n 2, 1), (63, .iload 5, 2), (65, .i2l, 1), (66, .invokevirtual 73, 3), (69, .iinc 3 1, 3), (72, .iinc 5 1, 3), (75, .goto (-48), 3), (78, .iinc 4 1, 3), (81, .goto (-72), 3), (84, .iload_n 3, 1), (85, .ireturn, 1)]
theorem dk_Contest_tellGainingPairs : zw_dk b_Contest_tellGainingPairs dl_Contest_tellGainingPairs = true := by decide +kernel
theorem ce_Contest_tellGainingPairs : zw_cev y_Contest_tellGainingPairs b_Contest_tellGainingPairs 6 (some .int) 2 := ⟨⟨kt_in 1130 (by decide +kernel) rfl, kt_in 95 (by decide +kernel) rfl, by decide +kernel⟩, kt_in 1128 (by decide +kernel) rfl, kt_in 1129 (by decide +kernel) rfl⟩
def fn_Contest_tellGainingPairs_l2 (values1 : Nat) (one5 : Int32) : Int32 × Int32 × zw_Ct → Option ((Int32 × zw_Ct) ⊕ (Int32 × Int32 × zw_Ct)) := fun (pairs13, other14, c15) =>
  if (other14 < (c15.1 1 2)) then
  ((fn_Contest_canGain c15 values1 one5 other14).bind fun r21 =>
  (if (¬ r21 = 0) then
  ((if (pairs13 = 0) then
  ((fn_Row_add c15 one5.toInt64).bind fun c29 =>
  (fn_Row_add c29 other14.toInt64).bind fun c30 =>
  some c30)
  else
  (some c15)).bind fun c26 =>
  some (((pairs13 + 1) : Int32), c26))
  else
  (some ((pairs13 : Int32), c15))).bind fun (pairs22, c23) =>
  some (.inr (pairs22, (other14 + 1), c23)))
  else
  (some (.inl (pairs13, c15)))
def fn_Contest_tellGainingPairs_l1 (values1 : Nat) : Int32 × Int32 × zw_Ct → Option ((Int32 × zw_Ct) ⊕ (Int32 × Int32 × zw_Ct)) := fun (pairs4, one5, c6) =>
  if (one5 < (c6.1 1 2)) then
  ((some ((one5 + 1) : Int32)).bind fun other12 =>
  (zw_whl (fn_Contest_tellGainingPairs_l2 values1 one5) zw_F (pairs4, other12, c6)).bind fun (pairs16, c17) =>
  some (.inr (pairs16, (one5 + 1), c17)))
  else
  (some (.inl (pairs4, c6)))
def fn_Contest_tellGainingPairs (c : zw_Ct) (values1 : Nat) : Option (Int32 × zw_Ct) :=
  (fn_Row_clear c).bind fun c3 =>
  (zw_whl (fn_Contest_tellGainingPairs_l1 values1) zw_F (0, 0, c3)).bind fun (pairs7, c8) =>
  some (pairs7, c8)
set_option maxRecDepth 100000 in
theorem km_Contest_tellGainingPairs {l : Launch} {g : zw_G} {rr : zw_RR} {sh : zw_Sh} {c : zw_Ct} {values1 : Nat} {r : Int32} {c2 : zw_Ct} (hS : zw_Ok 0 101 sh rr) (hsem : fn_Contest_tellGainingPairs c values1 = some (r, c2)) : zw_Met l g y_Contest_tellGainingPairs b_Contest_tellGainingPairs 6 (some .int) 4 rr sh [.ref 65, .ref values1, .ref 61] c (some (.int r)) c2 := by
  unfold fn_Contest_tellGainingPairs at hsem
  refine zw_Met.of (by decide +kernel) (Nat.le_of_ble_eq_true rfl) (fun p e s m args below meth cd X => ?_)
  refine zw_eL (L2 := [some (.ref 65), some (.ref values1), some (.ref 61), none, none, none]) rfl ?_
  refine r_iconst X (pc := 0) (v := 0) (zw_dg dk_Contest_tellGainingPairs 0 rfl) (by decide) ?_
  refine r_istore_n X (pc := 1) (i := 3) (zw_dg dk_Contest_tellGainingPairs 1 rfl) rfl (by decide) rfl ?_
  refine r_aload_n X (pc := 2) (i := 2) (zw_dg dk_Contest_tellGainingPairs 2 rfl) rfl rfl ?_
  obtain ⟨c3, hc3, hsem⟩ := zw_bd hsem
  refine r_callVv X (pc := 3) (As := []) (st := []) (km_Row_clear hS hc3) ce_Row_clear kw_1085 (zo hS 61 rfl rfl) rfl rfl ⟨Nat.le_of_ble_eq_true rfl, Nat.le_of_ble_eq_true rfl⟩ (Nat.le_of_ble_eq_true rfl) (zw_dg dk_Contest_tellGainingPairs 3 rfl) ?_
  refine r_iconst X (pc := 6) (v := 0) (zw_dg dk_Contest_tellGainingPairs 4 rfl) (by decide) ?_
  refine r_istore X (pc := 7) (i := 4) (zw_dg dk_Contest_tellGainingPairs 5 rfl) (by decide) rfl ?_
  obtain ⟨l9, hl9, hsl9⟩ := zw_bd hsem
  refine r_loop (pc := 9) (pce := 84) hl9 (fun (pairs4, one5, c6) => [some (.ref 65), some (.ref values1), some (.ref 61), some (.int pairs4), some (.int one5), none] : Int32 × Int32 × zw_Ct → zw_Lc) (fun (pairs4, one5, c6) => c6 : Int32 × Int32 × zw_Ct → zw_Ct) (fun (pairs7, c8) => [some (.ref 65), some (.ref values1), some (.ref 61), some (.int pairs7), none, none] : Int32 × zw_Ct → zw_Lc) (fun (pairs7, c8) => c8 : Int32 × zw_Ct → zw_Ct) ?_ rfl rfl ?_
  · rintro ⟨pairs4, one5, c6⟩ rr hsem hK hP
    try unfold fn_Contest_tellGainingPairs_l1 at hsem
    refine r_iload X (pc := 9) (i := 4) (zw_dg dk_Contest_tellGainingPairs 6 rfl) rfl ?_
    refine r_aload_n X (pc := 11) (i := 0) (zw_dg dk_Contest_tellGainingPairs 7 rfl) rfl rfl ?_
    refine r_getR X (pc := 12) (r := 1) ci_Contest (zo hS 65 rfl rfl) rfl (zr hS 65 0 rfl rfl) lk_Contest_18 (zw_dg dk_Contest_tellGainingPairs 8 rfl) ?_
    refine r_getI X (pc := 15) ci_Sayings (zo hS 1 rfl rfl) rfl lk_Contest_61 (zw_dg dk_Contest_tellGainingPairs 9 rfl) ?_
    refine r_icmp_ge X (pc := 18) (tgt := 84) (zw_dg dk_Contest_tellGainingPairs 10 rfl) (by decide) (fun q11 => ?_) (fun q11 => ?_)
    · --
      have p10 : ¬ (one5 < (c6.1 1 2)) := (Int32.not_lt.mpr q11)
      have hsem := zw_ifn p10 hsem
      have jj := hK _ (Option.some.inj hsem).symm
      exact (r_fgt [4] rfl jj)
    · --
      have p10 : (one5 < (c6.1 1 2)) := (Int32.not_le.mp q11)
      have hsem := zw_ifp p10 hsem
      refine r_iload X (pc := 21) (i := 4) (zw_dg dk_Contest_tellGainingPairs 11 rfl) rfl ?_
      refine r_iconst X (pc := 23) (v := 1) (zw_dg dk_Contest_tellGainingPairs 12 rfl) (by decide) ?_
      refine r_iadd X (pc := 24) (zw_dg dk_Contest_tellGainingPairs 13 rfl)  ?_
      obtain ⟨other12, hother12, hsem⟩ := zw_bd hsem
      refine zw_topI hother12 ?_
      refine r_istore X (pc := 25) (i := 5) (zw_dg dk_Contest_tellGainingPairs 14 rfl) (by decide) rfl ?_
      obtain ⟨l18, hl18, hsl18⟩ := zw_bd hsem
      refine r_loop (pc := 27) (pce := 78) hl18 (fun (pairs13, other14, c15) => [some (.ref 65), some (.ref values1), some (.ref 61), some (.int pairs13), some (.int one5), some (.int other14)] : Int32 × Int32 × zw_Ct → zw_Lc) (fun (pairs13, other14, c15) => c15 : Int32 × Int32 × zw_Ct → zw_Ct) (fun (pairs16, c17) => [some (.ref 65), some (.ref values1), some (.ref 61), some (.int pairs16), some (.int one5), none] : Int32 × zw_Ct → zw_Lc) (fun (pairs16, c17) => c17 : Int32 × zw_Ct → zw_Ct) ?_ rfl rfl ?_
      · rintro ⟨pairs13, other14, c15⟩ rr hsem hK hP
        try unfold fn_Contest_tellGainingPairs_l2 at hsem
        refine r_iload X (pc := 27) (i := 5) (zw_dg dk_Contest_tellGainingPairs 15 rfl) rfl ?_
        refine r_aload_n X (pc := 29) (i := 0) (zw_dg dk_Contest_tellGainingPairs 16 rfl) rfl rfl ?_
        refine r_getR X (pc := 30) (r := 1) ci_Contest (zo hS 65 rfl rfl) rfl (zr hS 65 0 rfl rfl) lk_Contest_18 (zw_dg dk_Contest_tellGainingPairs 17 rfl) ?_
        refine r_getI X (pc := 33) ci_Sayings (zo hS 1 rfl rfl) rfl lk_Contest_61 (zw_dg dk_Contest_tellGainingPairs 18 rfl) ?_
        refine r_icmp_ge X (pc := 36) (tgt := 78) (zw_dg dk_Contest_tellGainingPairs 19 rfl) (by decide) (fun q20 => ?_) (fun q20 => ?_)
        · --
          have p19 : ¬ (other14 < (c15.1 1 2)) := (Int32.not_lt.mpr q20)
          have hsem := zw_ifn p19 hsem
          have jj := hK _ (Option.some.inj hsem).symm
          exact (r_fgt [5] rfl jj)
        · --
          have p19 : (other14 < (c15.1 1 2)) := (Int32.not_le.mp q20)
          have hsem := zw_ifp p19 hsem
          refine r_aload_n X (pc := 39) (i := 0) (zw_dg dk_Contest_tellGainingPairs 20 rfl) rfl rfl ?_
          refine r_aload_n X (pc := 40) (i := 1) (zw_dg dk_Contest_tellGainingPairs 21 rfl) rfl rfl ?_
          refine r_iload X (pc := 41) (i := 4) (zw_dg dk_Contest_tellGainingPairs 22 rfl) rfl ?_
          refine r_iload X (pc := 43) (i := 5) (zw_dg dk_Contest_tellGainingPairs 23 rfl) rfl ?_
          obtain ⟨r21, hr21, hsem⟩ := zw_bd hsem
          refine r_callVi X (pc := 45) (As := [_, _, _]) (st := []) (km_Contest_canGain hS hr21) ce_Contest_canGain kw_1131 (zo hS 65 rfl rfl) rfl rfl ⟨Nat.le_of_ble_eq_true rfl, Nat.le_of_ble_eq_true rfl⟩ (Nat.le_of_ble_eq_true rfl) (zw_dg dk_Contest_tellGainingPairs 24 rfl) ?_
          obtain ⟨⟨pairs22, c23⟩, ht72, hs72⟩ := zw_bd hsem
          refine zw_jn (J := 72) (L2 := [some (.ref 65), some (.ref values1), some (.ref 61), some (.int pairs22), some (.int one5), some (.int other14)]) (c2 := c23) (fun jj => ?_) ?_
          · have hsem := ht72
            refine r_if_eq X (pc := 48) (tgt := 72) (zw_dg dk_Contest_tellGainingPairs 25 rfl) (by decide) (fun q25 => ?_) (fun q25 => ?_)
            · --
              have p24 : ¬ (¬ r21 = 0) := (fun z => z q25)
              have hsem := zw_ifn p24 hsem
              obtain ⟨rfl, rfl⟩ := zw_in2 hsem
              exact (r_fgt [] rfl jj)
            · --
              have p24 : (¬ r21 = 0) := q25
              have hsem := zw_ifp p24 hsem
              obtain ⟨c26, ht69, hs69⟩ := zw_bd hsem
              refine zw_jn (J := 69) (L2 := [some (.ref 65), some (.ref values1), some (.ref 61), some (.int pairs13), some (.int one5), some (.int other14)]) (c2 := c26) (fun jj => ?_) ?_
              · have hsem := ht69
                refine r_iload_n X (pc := 51) (i := 3) (zw_dg dk_Contest_tellGainingPairs 26 rfl) rfl rfl ?_
                refine r_if_ne X (pc := 52) (tgt := 69) (zw_dg dk_Contest_tellGainingPairs 27 rfl) (by decide) (fun q28 => ?_) (fun q28 => ?_)
                · --
                  have p27 : ¬ (pairs13 = 0) := q28
                  have hsem := zw_ifn p27 hsem
                  cases hsem
                  exact (r_fgt [] rfl jj)
                · --
                  have p27 : (pairs13 = 0) := q28
                  have hsem := zw_ifp p27 hsem
                  refine r_aload_n X (pc := 55) (i := 2) (zw_dg dk_Contest_tellGainingPairs 28 rfl) rfl rfl ?_
                  refine r_iload X (pc := 56) (i := 4) (zw_dg dk_Contest_tellGainingPairs 29 rfl) rfl ?_
                  refine r_i2l X (pc := 58) (zw_dg dk_Contest_tellGainingPairs 30 rfl)  ?_
                  obtain ⟨c29, hc29, hsem⟩ := zw_bd hsem
                  refine r_callVv X (pc := 59) (As := [_]) (st := []) (km_Row_add hS hc29) ce_Row_add kw_1086 (zo hS 61 rfl rfl) rfl rfl ⟨Nat.le_of_ble_eq_true rfl, Nat.le_of_ble_eq_true rfl⟩ (Nat.le_of_ble_eq_true rfl) (zw_dg dk_Contest_tellGainingPairs 31 rfl) ?_
                  refine r_aload_n X (pc := 62) (i := 2) (zw_dg dk_Contest_tellGainingPairs 32 rfl) rfl rfl ?_
                  refine r_iload X (pc := 63) (i := 5) (zw_dg dk_Contest_tellGainingPairs 33 rfl) rfl ?_
                  refine r_i2l X (pc := 65) (zw_dg dk_Contest_tellGainingPairs 34 rfl)  ?_
                  obtain ⟨c30, hc30, hsem⟩ := zw_bd hsem
                  refine r_callVv X (pc := 66) (As := [_]) (st := []) (km_Row_add hS hc30) ce_Row_add kw_1086 (zo hS 61 rfl rfl) rfl rfl ⟨Nat.le_of_ble_eq_true rfl, Nat.le_of_ble_eq_true rfl⟩ (Nat.le_of_ble_eq_true rfl) (zw_dg dk_Contest_tellGainingPairs 35 rfl) ?_
                  cases hsem
                  exact (r_fgt [] rfl jj)
              have hsem := hs69
              refine r_iinc X (pc := 69) (i := 3) (k := 1) (zw_dg dk_Contest_tellGainingPairs 36 rfl) rfl (by decide) (by decide) rfl ?_
              obtain ⟨rfl, rfl⟩ := zw_in2 hsem
              exact (r_fgt [] rfl jj)
          have hsem := hs72
          refine r_iinc X (pc := 72) (i := 5) (k := 1) (zw_dg dk_Contest_tellGainingPairs 37 rfl) rfl (by decide) (by decide) rfl ?_
          refine r_goto X (pc := 75) (tgt := 27) (zw_dg dk_Contest_tellGainingPairs 38 rfl) (by decide) ?_
          have jj := hP _ (Option.some.inj hsem).symm
          exact (r_fgt [] rfl jj)
      obtain ⟨pairs16, c17⟩ := l18
      have hsem := hsl18
      refine r_iinc X (pc := 78) (i := 4) (k := 1) (zw_dg dk_Contest_tellGainingPairs 39 rfl) rfl (by decide) (by decide) rfl ?_
      refine r_goto X (pc := 81) (tgt := 9) (zw_dg dk_Contest_tellGainingPairs 40 rfl) (by decide) ?_
      have jj := hP _ (Option.some.inj hsem).symm
      exact (r_fgt [] rfl jj)
  obtain ⟨pairs7, c8⟩ := l9
  have hsem := hsl9
  refine r_iload_n X (pc := 84) (i := 3) (zw_dg dk_Contest_tellGainingPairs 41 rfl) rfl rfl ?_
  cases hsem
  exact r_iret X (pc := 85) rfl (zw_dg dk_Contest_tellGainingPairs 42 rfl)
def y_Contest_findTops : MethodName := ⟨R_Contest, "findTops", "([I)V"⟩
abbrev b_Contest_findTops : ByteArray := prog_3_method_16_code
def dl_Contest_findTops : List (Nat × Instr × Nat) := [(0, .iconst 0, 1), (1, .istore_n 2, 1), (2, .iload_n 2, 1), (3, .aload_n 0, 1), (4, .getfield 18, 3), (7, .getfield 44, 3), (10, .if_icmp .ge 59, 3), (13, .aload_n 0, 1), (14, .getfield 15, 3), (17, .iload_n 2, 1), (18, .aload_n 1, 1), (19, .iload_n 2, 1), (20, .iaload, 1), (21, .iastore, 1), (22, .iconst 1, 1), (23, .istore_n 3, 1), (24, .iload_n 3, 1), (25, .aload_n 0, 1), (26, .getfield 18, 3), (29, .getfield 61, 3), (32, .if_icmp .ge 31, 3), (35, .aload_n 0, 1), (36, .getfield 15, 3), (39, .iload_n 2, 1), (40, .aload_n 0, 1), (41, .getfield 15, 3), (44, .iload_n 2, 1), (45, .iaload, 1), (46, .aload_n 1, 1), (47, .iload_n 3, 1), (48, .iconst 4, 1), (49, .imul, 1), (50, .iload_n 2, 1), (51, .iadd, 1), (52, .iaload, 1), (53, .invokestatic 111, 3), (56, .iastore, 1), (57, .iinc 3 1, 3), (60, .goto (-36), 3), (63, .iinc 2 1, 3), (66, .goto (-64), 3), (69, .return_, 1)]
theorem dk_Contest_findTops : zw_dk b_Contest_findTops dl_Contest_findTops = true := by decide +kernel
theorem ce_Contest_findTops : zw_cev y_Contest_findTops b_Contest_findTops 4 (none) 1 := ⟨⟨kt_in 1146 (by decide +kernel) rfl, kt_in 95 (by decide +kernel) rfl, by decide +kernel⟩, kt_in 1145 (by decide +kernel) rfl, kt_in 27 (by decide +kernel) rfl⟩
def fn_Contest_findTops_l2 (e2 : Int32) (values1 : Nat) : Int32 × zw_Ct → Option ((zw_Ct) ⊕ (Int32 × zw_Ct)) := fun (s10, c11) =>
  if (s10 < (c11.1 1 2)) then
  ((zw_aI 4 c11 67 e2).bind fun x16 =>
  (zw_dI SH 0 c11 values1 ((s10 * 4) + e2)).bind fun x17 =>
  (zw_uI 4 c11 67 e2 (if x16 < x17 then x17 else x16)).bind fun c18 =>
  some (.inr ((s10 + 1), c18)))
  else
  (some (.inl c11))
def fn_Contest_findTops_l1 (values1 : Nat) : Int32 × zw_Ct → Option ((zw_Ct) ⊕ (Int32 × zw_Ct)) := fun (e2, c3) =>
  if (e2 < (c3.1 1 0)) then
  ((zw_dI SH 0 c3 values1 e2).bind fun x8 =>
  (zw_uI 4 c3 67 e2 x8).bind fun c9 =>
  (zw_whl (fn_Contest_findTops_l2 e2 values1) zw_F (1, c9)).bind fun c12 =>
  some (.inr ((e2 + 1), c12)))
  else
  (some (.inl c3))
def fn_Contest_findTops (c : zw_Ct) (values1 : Nat) : Option zw_Ct :=
  (zw_whl (fn_Contest_findTops_l1 values1) zw_F (0, c)).bind fun c4 =>
  some c4
set_option maxRecDepth 100000 in
theorem km_Contest_findTops {l : Launch} {g : zw_G} {rr : zw_RR} {sh : zw_Sh} {c : zw_Ct} {values1 : Nat} {c2 : zw_Ct} (hS : zw_Ok 0 101 sh rr) (hsem : fn_Contest_findTops c values1 = some c2) : zw_Met l g y_Contest_findTops b_Contest_findTops 4 (none) 1 rr sh [.ref 65, .ref values1] c none c2 := by
  unfold fn_Contest_findTops at hsem
  refine zw_Met.of (by decide +kernel) (Nat.le_of_ble_eq_true rfl) (fun p e s m args below meth cd X => ?_)
  refine zw_eL (L2 := [some (.ref 65), some (.ref values1), none, none]) rfl ?_
  refine r_iconst X (pc := 0) (v := 0) (zw_dg dk_Contest_findTops 0 rfl) (by decide) ?_
  refine r_istore_n X (pc := 1) (i := 2) (zw_dg dk_Contest_findTops 1 rfl) rfl (by decide) rfl ?_
  obtain ⟨c4, hl5, hsl5⟩ := zw_bd hsem
  refine r_loop (pc := 2) (pce := 69) hl5 (fun (e2, c3) => [some (.ref 65), some (.ref values1), some (.int e2), none] : Int32 × zw_Ct → zw_Lc) (fun (e2, c3) => c3 : Int32 × zw_Ct → zw_Ct) (fun c4 => [some (.ref 65), some (.ref values1), none, none] : zw_Ct → zw_Lc) (fun c4 => c4 : zw_Ct → zw_Ct) ?_ rfl rfl ?_
  · rintro ⟨e2, c3⟩ rr hsem hK hP
    try unfold fn_Contest_findTops_l1 at hsem
    refine r_iload_n X (pc := 2) (i := 2) (zw_dg dk_Contest_findTops 2 rfl) rfl rfl ?_
    refine r_aload_n X (pc := 3) (i := 0) (zw_dg dk_Contest_findTops 3 rfl) rfl rfl ?_
    refine r_getR X (pc := 4) (r := 1) ci_Contest (zo hS 65 rfl rfl) rfl (zr hS 65 0 rfl rfl) lk_Contest_18 (zw_dg dk_Contest_findTops 4 rfl) ?_
    refine r_getI X (pc := 7) ci_Sayings (zo hS 1 rfl rfl) rfl lk_Contest_44 (zw_dg dk_Contest_findTops 5 rfl) ?_
    refine r_icmp_ge X (pc := 10) (tgt := 69) (zw_dg dk_Contest_findTops 6 rfl) (by decide) (fun q7 => ?_) (fun q7 => ?_)
    · --
      have p6 : ¬ (e2 < (c3.1 1 0)) := (Int32.not_lt.mpr q7)
      have hsem := zw_ifn p6 hsem
      have jj := hK _ (Option.some.inj hsem).symm
      exact (r_fgt [2] rfl jj)
    · --
      have p6 : (e2 < (c3.1 1 0)) := (Int32.not_le.mp q7)
      have hsem := zw_ifp p6 hsem
      refine r_aload_n X (pc := 13) (i := 0) (zw_dg dk_Contest_findTops 7 rfl) rfl rfl ?_
      refine r_getR X (pc := 14) (r := 67) ci_Contest (zo hS 65 rfl rfl) rfl (zr hS 65 3 rfl rfl) lk_Contest_15 (zw_dg dk_Contest_findTops 8 rfl) ?_
      refine r_iload_n X (pc := 17) (i := 2) (zw_dg dk_Contest_findTops 9 rfl) rfl rfl ?_
      refine r_aload_n X (pc := 18) (i := 1) (zw_dg dk_Contest_findTops 10 rfl) rfl rfl ?_
      refine r_iload_n X (pc := 19) (i := 2) (zw_dg dk_Contest_findTops 11 rfl) rfl rfl ?_
      obtain ⟨x8, hx8, hsem⟩ := zw_bd hsem
      obtain ⟨_, hnx8, hx8⟩ := zw_bd hx8
      refine r_iald X (pc := 20) (zd hS (zw_len_of hnx8)) hx8 (zw_dg dk_Contest_findTops 12 rfl) ?_
      obtain ⟨c9, hc9, hsem⟩ := zw_bd hsem
      refine r_iast X (pc := 21) (zo hS 67 rfl rfl) hc9 (zw_dg dk_Contest_findTops 13 rfl) ?_
      refine r_iconst X (pc := 22) (v := 1) (zw_dg dk_Contest_findTops 14 rfl) (by decide) ?_
      refine r_istore_n X (pc := 23) (i := 3) (zw_dg dk_Contest_findTops 15 rfl) rfl (by decide) rfl ?_
      obtain ⟨c12, hl13, hsl13⟩ := zw_bd hsem
      refine r_loop (pc := 24) (pce := 63) hl13 (fun (s10, c11) => [some (.ref 65), some (.ref values1), some (.int e2), some (.int s10)] : Int32 × zw_Ct → zw_Lc) (fun (s10, c11) => c11 : Int32 × zw_Ct → zw_Ct) (fun c12 => [some (.ref 65), some (.ref values1), some (.int e2), none] : zw_Ct → zw_Lc) (fun c12 => c12 : zw_Ct → zw_Ct) ?_ rfl rfl ?_
      · rintro ⟨s10, c11⟩ rr hsem hK hP
        try unfold fn_Contest_findTops_l2 at hsem
        refine r_iload_n X (pc := 24) (i := 3) (zw_dg dk_Contest_findTops 16 rfl) rfl rfl ?_
        refine r_aload_n X (pc := 25) (i := 0) (zw_dg dk_Contest_findTops 17 rfl) rfl rfl ?_
        refine r_getR X (pc := 26) (r := 1) ci_Contest (zo hS 65 rfl rfl) rfl (zr hS 65 0 rfl rfl) lk_Contest_18 (zw_dg dk_Contest_findTops 18 rfl) ?_
        refine r_getI X (pc := 29) ci_Sayings (zo hS 1 rfl rfl) rfl lk_Contest_61 (zw_dg dk_Contest_findTops 19 rfl) ?_
        refine r_icmp_ge X (pc := 32) (tgt := 63) (zw_dg dk_Contest_findTops 20 rfl) (by decide) (fun q15 => ?_) (fun q15 => ?_)
        · --
          have p14 : ¬ (s10 < (c11.1 1 2)) := (Int32.not_lt.mpr q15)
          have hsem := zw_ifn p14 hsem
          have jj := hK _ (Option.some.inj hsem).symm
          exact (r_fgt [3] rfl jj)
        · --
          have p14 : (s10 < (c11.1 1 2)) := (Int32.not_le.mp q15)
          have hsem := zw_ifp p14 hsem
          refine r_aload_n X (pc := 35) (i := 0) (zw_dg dk_Contest_findTops 21 rfl) rfl rfl ?_
          refine r_getR X (pc := 36) (r := 67) ci_Contest (zo hS 65 rfl rfl) rfl (zr hS 65 3 rfl rfl) lk_Contest_15 (zw_dg dk_Contest_findTops 22 rfl) ?_
          refine r_iload_n X (pc := 39) (i := 2) (zw_dg dk_Contest_findTops 23 rfl) rfl rfl ?_
          refine r_aload_n X (pc := 40) (i := 0) (zw_dg dk_Contest_findTops 24 rfl) rfl rfl ?_
          refine r_getR X (pc := 41) (r := 67) ci_Contest (zo hS 65 rfl rfl) rfl (zr hS 65 3 rfl rfl) lk_Contest_15 (zw_dg dk_Contest_findTops 25 rfl) ?_
          refine r_iload_n X (pc := 44) (i := 2) (zw_dg dk_Contest_findTops 26 rfl) rfl rfl ?_
          obtain ⟨x16, hx16, hsem⟩ := zw_bd hsem
          refine r_iald X (pc := 45) (zo hS 67 rfl rfl) hx16 (zw_dg dk_Contest_findTops 27 rfl) ?_
          refine r_aload_n X (pc := 46) (i := 1) (zw_dg dk_Contest_findTops 28 rfl) rfl rfl ?_
          refine r_iload_n X (pc := 47) (i := 3) (zw_dg dk_Contest_findTops 29 rfl) rfl rfl ?_
          refine r_iconst X (pc := 48) (v := 4) (zw_dg dk_Contest_findTops 30 rfl) (by decide) ?_
          refine r_imul X (pc := 49) (zw_dg dk_Contest_findTops 31 rfl)  ?_
          refine r_iload_n X (pc := 50) (i := 2) (zw_dg dk_Contest_findTops 32 rfl) rfl rfl ?_
          refine r_iadd X (pc := 51) (zw_dg dk_Contest_findTops 33 rfl)  ?_
          obtain ⟨x17, hx17, hsem⟩ := zw_bd hsem
          obtain ⟨_, hnx17, hx17⟩ := zw_bd hx17
          refine r_iald X (pc := 52) (zd hS (zw_len_of hnx17)) hx17 (zw_dg dk_Contest_findTops 34 rfl) ?_
          refine r_mmax X (pc := 53) kw_1147 mws_max kw_88 mwc_max ⟨Nat.le_of_ble_eq_true rfl, Nat.le_of_ble_eq_true rfl⟩ (st := [.int e2, .ref 67]) (Nat.le_of_ble_eq_true rfl) (zw_dg dk_Contest_findTops 35 rfl) ?_
          obtain ⟨c18, hc18, hsem⟩ := zw_bd hsem
          refine r_iast X (pc := 56) (zo hS 67 rfl rfl) hc18 (zw_dg dk_Contest_findTops 36 rfl) ?_
          refine r_iinc X (pc := 57) (i := 3) (k := 1) (zw_dg dk_Contest_findTops 37 rfl) rfl (by decide) (by decide) rfl ?_
          refine r_goto X (pc := 60) (tgt := 24) (zw_dg dk_Contest_findTops 38 rfl) (by decide) ?_
          have jj := hP _ (Option.some.inj hsem).symm
          exact (r_fgt [] rfl jj)
      have hsem := hsl13
      refine r_iinc X (pc := 63) (i := 2) (k := 1) (zw_dg dk_Contest_findTops 39 rfl) rfl (by decide) (by decide) rfl ?_
      refine r_goto X (pc := 66) (tgt := 2) (zw_dg dk_Contest_findTops 40 rfl) (by decide) ?_
      have jj := hP _ (Option.some.inj hsem).symm
      exact (r_fgt [] rfl jj)
  have hsem := hsl5
  cases hsem
  exact r_vret X (pc := 69) rfl (zw_dg dk_Contest_findTops 41 rfl)
def y_Contest_rests : MethodName := ⟨R_Contest, "rests", "([III)Z"⟩
abbrev b_Contest_rests : ByteArray := prog_3_method_17_code
def dl_Contest_rests : List (Nat × Instr × Nat) := [(0, .aload_n 0, 1), (1, .getfield 18, 3), (4, .iload_n 3, 1), (5, .invokevirtual 114, 3), (8, .istore 4, 2), (10, .aload_n 0, 1), (11, .getfield 18, 3), (14, .iload_n 2, 1), (15, .invokevirtual 114, 3), (18, .istore 5, 2), (20, .aload_n 1, 1), (21, .iload_n 2, 1), (22, .iconst 4, 1), (23, .imul, 1), (24, .iload 4, 2), (26, .iadd, 1), (27, .iaload, 1), (28, .aload_n 0, 1), (29, .getfield 15, 3), (32, .iload 4, 2), (34, .iaload, 1), (35, .if_icmp .ne 25, 3), (38, .aload_n 1, 1), (39, .iload_n 3, 1), (40, .iconst 4, 1), (41, .imul, 1), (42, .iload 5, 2), (44, .iadd, 1), (45, .iaload, 1), (46, .aload_n 0, 1), (47, .getfield 15, 3), (50, .iload 5, 2), (52, .iaload, 1), (53, .if_icmp .ne 7, 3), (56, .iconst 1, 1), (57, .goto 4, 3), (60, .iconst 0, 1), (61, .ireturn, 1)]
theorem dk_Contest_rests : zw_dk b_Contest_rests dl_Contest_rests = true := by decide +kernel
theorem ce_Contest_rests : zw_cev y_Contest_rests b_Contest_rests 6 (some .boolean) 3 := ⟨⟨kt_in 1151 (by decide +kernel) rfl, kt_in 95 (by decide +kernel) rfl, by decide +kernel⟩, kt_in 1150 (by decide +kernel) rfl, kt_in 28 (by decide +kernel) rfl⟩
def fn_Contest_rests (c : zw_Ct) (values1 : Nat) (a2 : Int32) (b3 : Int32) : Option Int32 :=
  (fn_Sayings_mode c b3).bind fun r4 =>
  (fn_Sayings_mode c a2).bind fun r5 =>
  (zw_dI SH 0 c values1 ((a2 * 4) + r4)).bind fun x6 =>
  (zw_aI 4 c 67 r4).bind fun x7 =>
  (if (x6 = x7) then
  ((zw_dI SH 0 c values1 ((b3 * 4) + r5)).bind fun x10 =>
  (zw_aI 4 c 67 r5).bind fun x11 =>
  some (decide (x10 = x11)))
  else some false).bind fun b8 =>
  some (if b8 = true then (1 : Int32) else 0)
set_option maxRecDepth 100000 in
theorem km_Contest_rests {l : Launch} {g : zw_G} {rr : zw_RR} {sh : zw_Sh} {c : zw_Ct} {values1 : Nat} {a2 : Int32} {b3 : Int32} {r : Int32} (hS : zw_Ok 0 101 sh rr) (hsem : fn_Contest_rests c values1 a2 b3 = some r) : zw_Met l g y_Contest_rests b_Contest_rests 6 (some .boolean) 3 rr sh [.ref 65, .ref values1, .int a2, .int b3] c (some (.int r)) c := by
  unfold fn_Contest_rests at hsem
  refine zw_Met.of (by decide +kernel) (Nat.le_of_ble_eq_true rfl) (fun p e s m args below meth cd X => ?_)
  refine zw_eL (L2 := [some (.ref 65), some (.ref values1), some (.int a2), some (.int b3), none, none]) rfl ?_
  refine r_aload_n X (pc := 0) (i := 0) (zw_dg dk_Contest_rests 0 rfl) rfl rfl ?_
  refine r_getR X (pc := 1) (r := 1) ci_Contest (zo hS 65 rfl rfl) rfl (zr hS 65 0 rfl rfl) lk_Contest_18 (zw_dg dk_Contest_rests 1 rfl) ?_
  refine r_iload_n X (pc := 4) (i := 3) (zw_dg dk_Contest_rests 2 rfl) rfl rfl ?_
  obtain ⟨r4, hr4, hsem⟩ := zw_bd hsem
  refine r_callVi X (pc := 5) (As := [_]) (st := []) (km_Sayings_mode hS hr4) ce_Sayings_mode kw_1152 (zo hS 1 rfl rfl) rfl rfl ⟨Nat.le_of_ble_eq_true rfl, Nat.le_of_ble_eq_true rfl⟩ (Nat.le_of_ble_eq_true rfl) (zw_dg dk_Contest_rests 3 rfl) ?_
  refine r_istore X (pc := 8) (i := 4) (zw_dg dk_Contest_rests 4 rfl) (by decide) rfl ?_
  refine r_aload_n X (pc := 10) (i := 0) (zw_dg dk_Contest_rests 5 rfl) rfl rfl ?_
  refine r_getR X (pc := 11) (r := 1) ci_Contest (zo hS 65 rfl rfl) rfl (zr hS 65 0 rfl rfl) lk_Contest_18 (zw_dg dk_Contest_rests 6 rfl) ?_
  refine r_iload_n X (pc := 14) (i := 2) (zw_dg dk_Contest_rests 7 rfl) rfl rfl ?_
  obtain ⟨r5, hr5, hsem⟩ := zw_bd hsem
  refine r_callVi X (pc := 15) (As := [_]) (st := []) (km_Sayings_mode hS hr5) ce_Sayings_mode kw_1152 (zo hS 1 rfl rfl) rfl rfl ⟨Nat.le_of_ble_eq_true rfl, Nat.le_of_ble_eq_true rfl⟩ (Nat.le_of_ble_eq_true rfl) (zw_dg dk_Contest_rests 8 rfl) ?_
  refine r_istore X (pc := 18) (i := 5) (zw_dg dk_Contest_rests 9 rfl) (by decide) rfl ?_
  refine r_aload_n X (pc := 20) (i := 1) (zw_dg dk_Contest_rests 10 rfl) rfl rfl ?_
  refine r_iload_n X (pc := 21) (i := 2) (zw_dg dk_Contest_rests 11 rfl) rfl rfl ?_
  refine r_iconst X (pc := 22) (v := 4) (zw_dg dk_Contest_rests 12 rfl) (by decide) ?_
  refine r_imul X (pc := 23) (zw_dg dk_Contest_rests 13 rfl)  ?_
  refine r_iload X (pc := 24) (i := 4) (zw_dg dk_Contest_rests 14 rfl) rfl ?_
  refine r_iadd X (pc := 26) (zw_dg dk_Contest_rests 15 rfl)  ?_
  obtain ⟨x6, hx6, hsem⟩ := zw_bd hsem
  obtain ⟨_, hnx6, hx6⟩ := zw_bd hx6
  refine r_iald X (pc := 27) (zd hS (zw_len_of hnx6)) hx6 (zw_dg dk_Contest_rests 16 rfl) ?_
  refine r_aload_n X (pc := 28) (i := 0) (zw_dg dk_Contest_rests 17 rfl) rfl rfl ?_
  refine r_getR X (pc := 29) (r := 67) ci_Contest (zo hS 65 rfl rfl) rfl (zr hS 65 3 rfl rfl) lk_Contest_15 (zw_dg dk_Contest_rests 18 rfl) ?_
  refine r_iload X (pc := 32) (i := 4) (zw_dg dk_Contest_rests 19 rfl) rfl ?_
  obtain ⟨x7, hx7, hsem⟩ := zw_bd hsem
  refine r_iald X (pc := 34) (zo hS 67 rfl rfl) hx7 (zw_dg dk_Contest_rests 20 rfl) ?_
  obtain ⟨b8, hb8, hsb8⟩ := zw_bd hsem
  refine zw_terO (f := Value.int) (v := if b8 = true then 1 else 0) (J := 61) (st2 := []) (c2 := c) (fun jj => ?_) ?_
  · have hsem := hb8
    refine r_icmp_ne X (pc := 35) (tgt := 60) (zw_dg dk_Contest_rests 21 rfl) (by decide) (fun q9 => ?_) (fun q9 => ?_)
    · --
      have hsem := zw_ifn q9 hsem
      have hb_ := (Option.some.inj hsem).symm
      refine r_iconst X (pc := 60) (v := 0) (zw_dg dk_Contest_rests 36 rfl) (by decide) ?_
      rw [hb_] at jj; exact jj
    · --
      have hsem := zw_ifp q9 hsem
      refine r_aload_n X (pc := 38) (i := 1) (zw_dg dk_Contest_rests 22 rfl) rfl rfl ?_
      refine r_iload_n X (pc := 39) (i := 3) (zw_dg dk_Contest_rests 23 rfl) rfl rfl ?_
      refine r_iconst X (pc := 40) (v := 4) (zw_dg dk_Contest_rests 24 rfl) (by decide) ?_
      refine r_imul X (pc := 41) (zw_dg dk_Contest_rests 25 rfl)  ?_
      refine r_iload X (pc := 42) (i := 5) (zw_dg dk_Contest_rests 26 rfl) rfl ?_
      refine r_iadd X (pc := 44) (zw_dg dk_Contest_rests 27 rfl)  ?_
      obtain ⟨x10, hx10, hsem⟩ := zw_bd hsem
      obtain ⟨_, hnx10, hx10⟩ := zw_bd hx10
      refine r_iald X (pc := 45) (zd hS (zw_len_of hnx10)) hx10 (zw_dg dk_Contest_rests 28 rfl) ?_
      refine r_aload_n X (pc := 46) (i := 0) (zw_dg dk_Contest_rests 29 rfl) rfl rfl ?_
      refine r_getR X (pc := 47) (r := 67) ci_Contest (zo hS 65 rfl rfl) rfl (zr hS 65 3 rfl rfl) lk_Contest_15 (zw_dg dk_Contest_rests 30 rfl) ?_
      refine r_iload X (pc := 50) (i := 5) (zw_dg dk_Contest_rests 31 rfl) rfl ?_
      obtain ⟨x11, hx11, hsem⟩ := zw_bd hsem
      refine r_iald X (pc := 52) (zo hS 67 rfl rfl) hx11 (zw_dg dk_Contest_rests 32 rfl) ?_
      refine r_icmp_ne X (pc := 53) (tgt := 60) (zw_dg dk_Contest_rests 33 rfl) (by decide) (fun q12 => ?_) (fun q12 => ?_)
      · --
        have hb_ := (zw_dF hsem q12)
        refine r_iconst X (pc := 60) (v := 0) (zw_dg dk_Contest_rests 36 rfl) (by decide) ?_
        rw [hb_] at jj; exact jj
      · --
        have hb_ := (zw_dT hsem q12)
        refine r_iconst X (pc := 56) (v := 1) (zw_dg dk_Contest_rests 34 rfl) (by decide) ?_
        refine r_goto X (pc := 57) (tgt := 61) (zw_dg dk_Contest_rests 35 rfl) (by decide) ?_
        rw [hb_] at jj; exact jj
  have hsem := hsb8
  have hbz : ((if b8 = true then (1 : Int32) else 0) : Int32) = 0 ∨ ((if b8 = true then (1 : Int32) else 0) : Int32) = 1 := zw_ite01
  cases hsem
  exact r_zret X (pc := 61) rfl (zw_bzn hbz).1 (zw_dg dk_Contest_rests 37 rfl)
def y_Contest_tellPeers : MethodName := ⟨R_Contest, "tellPeers", "([IIILPaidForThinking$Row;)I"⟩
abbrev b_Contest_tellPeers : ByteArray := prog_3_method_15_code
def dl_Contest_tellPeers : List (Nat × Instr × Nat) := [(0, .aload_n 0, 1), (1, .aload_n 1, 1), (2, .invokevirtual 104, 3), (5, .iconst 0, 1), (6, .istore 5, 2), (8, .iconst 0, 1), (9, .istore 6, 2), (11, .iconst (-1), 1), (12, .istore 7, 2), (14, .iconst (-1), 1), (15, .istore 8, 2), (17, .iconst 0, 1), (18, .istore 9, 2), (20, .iload 9, 2), (22, .aload_n 0, 1), (23, .getfield 18, 3), (26, .getfield 61, 3), (29, .if_icmp .ge 90, 3), (32, .iconst 0, 1), (33, .istore 10, 2), (35, .iload 10, 2), (37, .aload_n 0, 1), (38, .getfield 18, 3), (41, .getfield 61, 3), (44, .if_icmp .ge 69, 3), (47, .aload_n 0, 1), (48, .aload_n 1, 1), (49, .iload 9, 2), (51, .iload 10, 2), (53, .invokevirtual 108, 3), (56, .ifCond .eq 51, 3), (59, .iload 5, 2), (61, .ifCond .ne 8, 3), (64, .iload 9, 2), (66, .goto 5, 3), (69, .iload 7, 2), (71, .istore 7, 2), (73, .iload 5, 2), (75, .ifCond .ne 8, 3), (78, .iload 10, 2), (80, .goto 5, 3), (83, .iload 8, 2), (85, .istore 8, 2), (87, .iinc 5 1, 3), (90, .iload 6, 2), (92, .iload 9, 2), (94, .iload 10, 2), (96, .if_icmp .ne 7, 3), (99, .iconst 1, 1), (100, .goto 4, 3), (103, .iconst 0, 1), (104, .iadd, 1), (105, .istore 6, 2), (107, .iinc 10 1, 3), (110, .goto (-75), 3), (113, .iinc 9 1, 3), (116, .goto (-96), 3), (119, .aload 4, 2), (121, .invokevirtual 68, 3), (124, .aload 4, 2), (126, .iload 7, 2), (128, .i2l, 1), (129, .invokevirtual 73, 3), (132, .aload 4, 2), (134, .iload 8, 2), (136, .i2l, 1), (137, .invokevirtual 73, 3), (140, .aload 4, 2), (142, .iload 6, 2), (144, .i2l, 1), (145, .invokevirtual 73, 3), (148, .aload 4, 2), (150, .aload_n 0, 1), (151, .aload_n 1, 1), (152, .iload_n 2, 1), (153, .iload_n 3, 1), (154, .invokevirtual 108, 3), (157, .ifCond .eq 7, 3), (160, .lconst 1, 1), (161, .goto 4, 3), (164, .lconst 0, 1), (165, .invokevirtual 73, 3), (168, .iload 5, 2), (170, .ireturn, 1)]
theorem dk_Contest_tellPeers : zw_dk b_Contest_tellPeers dl_Contest_tellPeers = true := by decide +kernel
theorem ce_Contest_tellPeers : zw_cev y_Contest_tellPeers b_Contest_tellPeers 11 (some .int) 4 := ⟨⟨kt_in 1142 (by decide +kernel) rfl, kt_in 95 (by decide +kernel) rfl, by decide +kernel⟩, kt_in 1140 (by decide +kernel) rfl, kt_in 1141 (by decide +kernel) rfl⟩
def fn_Contest_tellPeers_l2 (c4 : zw_Ct) (values1 : Nat) (a9 : Int32) : Int32 × Int32 × Int32 × Int32 × Int32 → Option ((Int32 × Int32 × Int32 × Int32) ⊕ (Int32 × Int32 × Int32 × Int32 × Int32)) := fun (firstOne17, firstOther18, pairs19, same20, b21) =>
  if (b21 < (c4.1 1 2)) then
  ((fn_Contest_rests c4 values1 a9 b21).bind fun r29 =>
  (if (¬ r29 = 0) then
  ((some ((if (pairs19 = 0) then (a9 : Int32) else firstOne17) : Int32)).bind fun firstOne37 =>
  (some ((if (pairs19 = 0) then (b21 : Int32) else firstOther18) : Int32)).bind fun firstOther39 =>
  (some ((same20 + (if (a9 = b21) then (1 : Int32) else 0)) : Int32)).bind fun same41 =>
  some ((firstOne37 : Int32), (firstOther39 : Int32), ((pairs19 + 1) : Int32), (same41 : Int32)))
  else
  (some ((firstOne17 : Int32), (firstOther18 : Int32), (pairs19 : Int32), (same20 : Int32)))).bind fun (firstOne30, firstOther31, pairs32, same33) =>
  some (.inr (firstOne30, firstOther31, pairs32, same33, (b21 + 1))))
  else
  (some (.inl (firstOne17, firstOther18, pairs19, same20)))
def fn_Contest_tellPeers_l1 (c4 : zw_Ct) (values1 : Nat) : Int32 × Int32 × Int32 × Int32 × Int32 → Option ((Int32 × Int32 × Int32 × Int32) ⊕ (Int32 × Int32 × Int32 × Int32 × Int32)) := fun (firstOne5, firstOther6, pairs7, same8, a9) =>
  if (a9 < (c4.1 1 2)) then
  ((zw_whl (fn_Contest_tellPeers_l2 c4 values1 a9) zw_F (firstOne5, firstOther6, pairs7, same8, 0)).bind fun (firstOne22, firstOther23, pairs24, same25) =>
  some (.inr (firstOne22, firstOther23, pairs24, same25, (a9 + 1))))
  else
  (some (.inl (firstOne5, firstOther6, pairs7, same8)))
def fn_Contest_tellPeers (c : zw_Ct) (values1 : Nat) (one2 : Int32) (other3 : Int32) : Option (Int32 × zw_Ct) :=
  (fn_Contest_findTops c values1).bind fun c4 =>
  (zw_whl (fn_Contest_tellPeers_l1 c4 values1) zw_F ((-1), (-1), 0, 0, 0)).bind fun (firstOne10, firstOther11, pairs12, same13) =>
  (fn_Row_clear c4).bind fun c42 =>
  (fn_Row_add c42 firstOne10.toInt64).bind fun c43 =>
  (fn_Row_add c43 firstOther11.toInt64).bind fun c44 =>
  (fn_Row_add c44 same13.toInt64).bind fun c45 =>
  (fn_Contest_rests c45 values1 one2 other3).bind fun r46 =>
  (fn_Row_add c45 (if (¬ r46 = 0) then (1 : Int64) else 0)).bind fun c48 =>
  some (pairs12, c48)
set_option maxRecDepth 100000 in
theorem km_Contest_tellPeers {l : Launch} {g : zw_G} {rr : zw_RR} {sh : zw_Sh} {c : zw_Ct} {values1 : Nat} {one2 : Int32} {other3 : Int32} {r : Int32} {c2 : zw_Ct} (hS : zw_Ok 0 101 sh rr) (hsem : fn_Contest_tellPeers c values1 one2 other3 = some (r, c2)) : zw_Met l g y_Contest_tellPeers b_Contest_tellPeers 11 (some .int) 4 rr sh [.ref 65, .ref values1, .int one2, .int other3, .ref 61] c (some (.int r)) c2 := by
  unfold fn_Contest_tellPeers at hsem
  refine zw_Met.of (by decide +kernel) (Nat.le_of_ble_eq_true rfl) (fun p e s m args below meth cd X => ?_)
  refine zw_eL (L2 := [some (.ref 65), some (.ref values1), some (.int one2), some (.int other3), some (.ref 61), none, none, none, none, none, none]) rfl ?_
  refine r_aload_n X (pc := 0) (i := 0) (zw_dg dk_Contest_tellPeers 0 rfl) rfl rfl ?_
  refine r_aload_n X (pc := 1) (i := 1) (zw_dg dk_Contest_tellPeers 1 rfl) rfl rfl ?_
  obtain ⟨c4, hc4, hsem⟩ := zw_bd hsem
  refine r_callVv X (pc := 2) (As := [_]) (st := []) (km_Contest_findTops hS hc4) ce_Contest_findTops kw_1143 (zo hS 65 rfl rfl) rfl rfl ⟨Nat.le_of_ble_eq_true rfl, Nat.le_of_ble_eq_true rfl⟩ (Nat.le_of_ble_eq_true rfl) (zw_dg dk_Contest_tellPeers 2 rfl) ?_
  refine r_iconst X (pc := 5) (v := 0) (zw_dg dk_Contest_tellPeers 3 rfl) (by decide) ?_
  refine r_istore X (pc := 6) (i := 5) (zw_dg dk_Contest_tellPeers 4 rfl) (by decide) rfl ?_
  refine r_iconst X (pc := 8) (v := 0) (zw_dg dk_Contest_tellPeers 5 rfl) (by decide) ?_
  refine r_istore X (pc := 9) (i := 6) (zw_dg dk_Contest_tellPeers 6 rfl) (by decide) rfl ?_
  refine r_iconst X (pc := 11) (v := (-1)) (zw_dg dk_Contest_tellPeers 7 rfl) (by decide) ?_
  refine r_istore X (pc := 12) (i := 7) (zw_dg dk_Contest_tellPeers 8 rfl) (by decide) rfl ?_
  refine r_iconst X (pc := 14) (v := (-1)) (zw_dg dk_Contest_tellPeers 9 rfl) (by decide) ?_
  refine r_istore X (pc := 15) (i := 8) (zw_dg dk_Contest_tellPeers 10 rfl) (by decide) rfl ?_
  refine r_iconst X (pc := 17) (v := 0) (zw_dg dk_Contest_tellPeers 11 rfl) (by decide) ?_
  refine r_istore X (pc := 18) (i := 9) (zw_dg dk_Contest_tellPeers 12 rfl) (by decide) rfl ?_
  obtain ⟨l14, hl14, hsl14⟩ := zw_bd hsem
  refine r_loop (pc := 20) (pce := 119) hl14 (fun (firstOne5, firstOther6, pairs7, same8, a9) => [some (.ref 65), some (.ref values1), some (.int one2), some (.int other3), some (.ref 61), some (.int pairs7), some (.int same8), some (.int firstOne5), some (.int firstOther6), some (.int a9), none] : Int32 × Int32 × Int32 × Int32 × Int32 → zw_Lc) (fun (firstOne5, firstOther6, pairs7, same8, a9) => c4 : Int32 × Int32 × Int32 × Int32 × Int32 → zw_Ct) (fun (firstOne10, firstOther11, pairs12, same13) => [some (.ref 65), some (.ref values1), some (.int one2), some (.int other3), some (.ref 61), some (.int pairs12), some (.int same13), some (.int firstOne10), some (.int firstOther11), none, none] : Int32 × Int32 × Int32 × Int32 → zw_Lc) (fun (firstOne10, firstOther11, pairs12, same13) => c4 : Int32 × Int32 × Int32 × Int32 → zw_Ct) ?_ rfl rfl ?_
  · rintro ⟨firstOne5, firstOther6, pairs7, same8, a9⟩ rr hsem hK hP
    try unfold fn_Contest_tellPeers_l1 at hsem
    refine r_iload X (pc := 20) (i := 9) (zw_dg dk_Contest_tellPeers 13 rfl) rfl ?_
    refine r_aload_n X (pc := 22) (i := 0) (zw_dg dk_Contest_tellPeers 14 rfl) rfl rfl ?_
    refine r_getR X (pc := 23) (r := 1) ci_Contest (zo hS 65 rfl rfl) rfl (zr hS 65 0 rfl rfl) lk_Contest_18 (zw_dg dk_Contest_tellPeers 15 rfl) ?_
    refine r_getI X (pc := 26) ci_Sayings (zo hS 1 rfl rfl) rfl lk_Contest_61 (zw_dg dk_Contest_tellPeers 16 rfl) ?_
    refine r_icmp_ge X (pc := 29) (tgt := 119) (zw_dg dk_Contest_tellPeers 17 rfl) (by decide) (fun q16 => ?_) (fun q16 => ?_)
    · --
      have p15 : ¬ (a9 < (c4.1 1 2)) := (Int32.not_lt.mpr q16)
      have hsem := zw_ifn p15 hsem
      have jj := hK _ (Option.some.inj hsem).symm
      exact (r_fgt [9] rfl jj)
    · --
      have p15 : (a9 < (c4.1 1 2)) := (Int32.not_le.mp q16)
      have hsem := zw_ifp p15 hsem
      refine r_iconst X (pc := 32) (v := 0) (zw_dg dk_Contest_tellPeers 18 rfl) (by decide) ?_
      refine r_istore X (pc := 33) (i := 10) (zw_dg dk_Contest_tellPeers 19 rfl) (by decide) rfl ?_
      obtain ⟨l26, hl26, hsl26⟩ := zw_bd hsem
      refine r_loop (pc := 35) (pce := 113) hl26 (fun (firstOne17, firstOther18, pairs19, same20, b21) => [some (.ref 65), some (.ref values1), some (.int one2), some (.int other3), some (.ref 61), some (.int pairs19), some (.int same20), some (.int firstOne17), some (.int firstOther18), some (.int a9), some (.int b21)] : Int32 × Int32 × Int32 × Int32 × Int32 → zw_Lc) (fun (firstOne17, firstOther18, pairs19, same20, b21) => c4 : Int32 × Int32 × Int32 × Int32 × Int32 → zw_Ct) (fun (firstOne22, firstOther23, pairs24, same25) => [some (.ref 65), some (.ref values1), some (.int one2), some (.int other3), some (.ref 61), some (.int pairs24), some (.int same25), some (.int firstOne22), some (.int firstOther23), some (.int a9), none] : Int32 × Int32 × Int32 × Int32 → zw_Lc) (fun (firstOne22, firstOther23, pairs24, same25) => c4 : Int32 × Int32 × Int32 × Int32 → zw_Ct) ?_ rfl rfl ?_
      · rintro ⟨firstOne17, firstOther18, pairs19, same20, b21⟩ rr hsem hK hP
        try unfold fn_Contest_tellPeers_l2 at hsem
        refine r_iload X (pc := 35) (i := 10) (zw_dg dk_Contest_tellPeers 20 rfl) rfl ?_
        refine r_aload_n X (pc := 37) (i := 0) (zw_dg dk_Contest_tellPeers 21 rfl) rfl rfl ?_
        refine r_getR X (pc := 38) (r := 1) ci_Contest (zo hS 65 rfl rfl) rfl (zr hS 65 0 rfl rfl) lk_Contest_18 (zw_dg dk_Contest_tellPeers 22 rfl) ?_
        refine r_getI X (pc := 41) ci_Sayings (zo hS 1 rfl rfl) rfl lk_Contest_61 (zw_dg dk_Contest_tellPeers 23 rfl) ?_
        refine r_icmp_ge X (pc := 44) (tgt := 113) (zw_dg dk_Contest_tellPeers 24 rfl) (by decide) (fun q28 => ?_) (fun q28 => ?_)
        · --
          have p27 : ¬ (b21 < (c4.1 1 2)) := (Int32.not_lt.mpr q28)
          have hsem := zw_ifn p27 hsem
          have jj := hK _ (Option.some.inj hsem).symm
          exact (r_fgt [10] rfl jj)
        · --
          have p27 : (b21 < (c4.1 1 2)) := (Int32.not_le.mp q28)
          have hsem := zw_ifp p27 hsem
          refine r_aload_n X (pc := 47) (i := 0) (zw_dg dk_Contest_tellPeers 25 rfl) rfl rfl ?_
          refine r_aload_n X (pc := 48) (i := 1) (zw_dg dk_Contest_tellPeers 26 rfl) rfl rfl ?_
          refine r_iload X (pc := 49) (i := 9) (zw_dg dk_Contest_tellPeers 27 rfl) rfl ?_
          refine r_iload X (pc := 51) (i := 10) (zw_dg dk_Contest_tellPeers 28 rfl) rfl ?_
          obtain ⟨r29, hr29, hsem⟩ := zw_bd hsem
          refine r_callVi X (pc := 53) (As := [_, _, _]) (st := []) (km_Contest_rests hS hr29) ce_Contest_rests kw_1148 (zo hS 65 rfl rfl) rfl rfl ⟨Nat.le_of_ble_eq_true rfl, Nat.le_of_ble_eq_true rfl⟩ (Nat.le_of_ble_eq_true rfl) (zw_dg dk_Contest_tellPeers 29 rfl) ?_
          obtain ⟨⟨firstOne30, firstOther31, pairs32, same33⟩, ht107, hs107⟩ := zw_bd hsem
          refine zw_jn (J := 107) (L2 := [some (.ref 65), some (.ref values1), some (.int one2), some (.int other3), some (.ref 61), some (.int pairs32), some (.int same33), some (.int firstOne30), some (.int firstOther31), some (.int a9), some (.int b21)]) (c2 := c4) (fun jj => ?_) ?_
          · have hsem := ht107
            refine r_if_eq X (pc := 56) (tgt := 107) (zw_dg dk_Contest_tellPeers 30 rfl) (by decide) (fun q35 => ?_) (fun q35 => ?_)
            · --
              have p34 : ¬ (¬ r29 = 0) := (fun z => z q35)
              have hsem := zw_ifn p34 hsem
              obtain ⟨rfl, rfl, rfl, rfl⟩ := zw_in4 hsem
              exact (r_fgt [] rfl jj)
            · --
              have p34 : (¬ r29 = 0) := q35
              have hsem := zw_ifp p34 hsem
              refine zw_ter (P := (pairs19 = 0)) (f := Value.int) (x := a9) (y := firstOne17) (J := 71) (st2 := []) (fun jT jF => ?_) ?_
              · --
                refine r_iload X (pc := 59) (i := 5) (zw_dg dk_Contest_tellPeers 31 rfl) rfl ?_
                refine r_if_ne X (pc := 61) (tgt := 69) (zw_dg dk_Contest_tellPeers 32 rfl) (by decide) (fun q36 => ?_) (fun q36 => ?_)
                · --
                  refine r_iload X (pc := 69) (i := 7) (zw_dg dk_Contest_tellPeers 35 rfl) rfl ?_
                  exact jF q36
                · --
                  refine r_iload X (pc := 64) (i := 9) (zw_dg dk_Contest_tellPeers 33 rfl) rfl ?_
                  refine r_goto X (pc := 66) (tgt := 71) (zw_dg dk_Contest_tellPeers 34 rfl) (by decide) ?_
                  exact jT q36
              obtain ⟨firstOne37, hfirstOne37, hsem⟩ := zw_bd hsem
              refine zw_topI hfirstOne37 ?_
              refine r_istore X (pc := 71) (i := 7) (zw_dg dk_Contest_tellPeers 36 rfl) (by decide) rfl ?_
              refine zw_ter (P := (pairs19 = 0)) (f := Value.int) (x := b21) (y := firstOther18) (J := 85) (st2 := []) (fun jT jF => ?_) ?_
              · --
                refine r_iload X (pc := 73) (i := 5) (zw_dg dk_Contest_tellPeers 37 rfl) rfl ?_
                refine r_if_ne X (pc := 75) (tgt := 83) (zw_dg dk_Contest_tellPeers 38 rfl) (by decide) (fun q38 => ?_) (fun q38 => ?_)
                · --
                  refine r_iload X (pc := 83) (i := 8) (zw_dg dk_Contest_tellPeers 41 rfl) rfl ?_
                  exact jF q38
                · --
                  refine r_iload X (pc := 78) (i := 10) (zw_dg dk_Contest_tellPeers 39 rfl) rfl ?_
                  refine r_goto X (pc := 80) (tgt := 85) (zw_dg dk_Contest_tellPeers 40 rfl) (by decide) ?_
                  exact jT q38
              obtain ⟨firstOther39, hfirstOther39, hsem⟩ := zw_bd hsem
              refine zw_topI hfirstOther39 ?_
              refine r_istore X (pc := 85) (i := 8) (zw_dg dk_Contest_tellPeers 42 rfl) (by decide) rfl ?_
              refine r_iinc X (pc := 87) (i := 5) (k := 1) (zw_dg dk_Contest_tellPeers 43 rfl) rfl (by decide) (by decide) rfl ?_
              refine r_iload X (pc := 90) (i := 6) (zw_dg dk_Contest_tellPeers 44 rfl) rfl ?_
              refine zw_ter (P := (a9 = b21)) (f := Value.int) (x := 1) (y := 0) (J := 104) (st2 := [.int same20]) (fun jT jF => ?_) ?_
              · --
                refine r_iload X (pc := 92) (i := 9) (zw_dg dk_Contest_tellPeers 45 rfl) rfl ?_
                refine r_iload X (pc := 94) (i := 10) (zw_dg dk_Contest_tellPeers 46 rfl) rfl ?_
                refine r_icmp_ne X (pc := 96) (tgt := 103) (zw_dg dk_Contest_tellPeers 47 rfl) (by decide) (fun q40 => ?_) (fun q40 => ?_)
                · --
                  refine r_iconst X (pc := 103) (v := 0) (zw_dg dk_Contest_tellPeers 50 rfl) (by decide) ?_
                  exact jF q40
                · --
                  refine r_iconst X (pc := 99) (v := 1) (zw_dg dk_Contest_tellPeers 48 rfl) (by decide) ?_
                  refine r_goto X (pc := 100) (tgt := 104) (zw_dg dk_Contest_tellPeers 49 rfl) (by decide) ?_
                  exact jT q40
              refine r_iadd X (pc := 104) (zw_dg dk_Contest_tellPeers 51 rfl)  ?_
              obtain ⟨same41, hsame41, hsem⟩ := zw_bd hsem
              refine zw_topI hsame41 ?_
              refine r_istore X (pc := 105) (i := 6) (zw_dg dk_Contest_tellPeers 52 rfl) (by decide) rfl ?_
              obtain ⟨rfl, rfl, rfl, rfl⟩ := zw_in4 hsem
              exact (r_fgt [] rfl jj)
          have hsem := hs107
          refine r_iinc X (pc := 107) (i := 10) (k := 1) (zw_dg dk_Contest_tellPeers 53 rfl) rfl (by decide) (by decide) rfl ?_
          refine r_goto X (pc := 110) (tgt := 35) (zw_dg dk_Contest_tellPeers 54 rfl) (by decide) ?_
          have jj := hP _ (Option.some.inj hsem).symm
          exact (r_fgt [] rfl jj)
      obtain ⟨firstOne22, firstOther23, pairs24, same25⟩ := l26
      have hsem := hsl26
      refine r_iinc X (pc := 113) (i := 9) (k := 1) (zw_dg dk_Contest_tellPeers 55 rfl) rfl (by decide) (by decide) rfl ?_
      refine r_goto X (pc := 116) (tgt := 20) (zw_dg dk_Contest_tellPeers 56 rfl) (by decide) ?_
      have jj := hP _ (Option.some.inj hsem).symm
      exact (r_fgt [] rfl jj)
  obtain ⟨firstOne10, firstOther11, pairs12, same13⟩ := l14
  have hsem := hsl14
  refine r_aload X (pc := 119) (i := 4) (zw_dg dk_Contest_tellPeers 57 rfl) rfl ?_
  obtain ⟨c42, hc42, hsem⟩ := zw_bd hsem
  refine r_callVv X (pc := 121) (As := []) (st := []) (km_Row_clear hS hc42) ce_Row_clear kw_1085 (zo hS 61 rfl rfl) rfl rfl ⟨Nat.le_of_ble_eq_true rfl, Nat.le_of_ble_eq_true rfl⟩ (Nat.le_of_ble_eq_true rfl) (zw_dg dk_Contest_tellPeers 58 rfl) ?_
  refine r_aload X (pc := 124) (i := 4) (zw_dg dk_Contest_tellPeers 59 rfl) rfl ?_
  refine r_iload X (pc := 126) (i := 7) (zw_dg dk_Contest_tellPeers 60 rfl) rfl ?_
  refine r_i2l X (pc := 128) (zw_dg dk_Contest_tellPeers 61 rfl)  ?_
  obtain ⟨c43, hc43, hsem⟩ := zw_bd hsem
  refine r_callVv X (pc := 129) (As := [_]) (st := []) (km_Row_add hS hc43) ce_Row_add kw_1086 (zo hS 61 rfl rfl) rfl rfl ⟨Nat.le_of_ble_eq_true rfl, Nat.le_of_ble_eq_true rfl⟩ (Nat.le_of_ble_eq_true rfl) (zw_dg dk_Contest_tellPeers 62 rfl) ?_
  refine r_aload X (pc := 132) (i := 4) (zw_dg dk_Contest_tellPeers 63 rfl) rfl ?_
  refine r_iload X (pc := 134) (i := 8) (zw_dg dk_Contest_tellPeers 64 rfl) rfl ?_
  refine r_i2l X (pc := 136) (zw_dg dk_Contest_tellPeers 65 rfl)  ?_
  obtain ⟨c44, hc44, hsem⟩ := zw_bd hsem
  refine r_callVv X (pc := 137) (As := [_]) (st := []) (km_Row_add hS hc44) ce_Row_add kw_1086 (zo hS 61 rfl rfl) rfl rfl ⟨Nat.le_of_ble_eq_true rfl, Nat.le_of_ble_eq_true rfl⟩ (Nat.le_of_ble_eq_true rfl) (zw_dg dk_Contest_tellPeers 66 rfl) ?_
  refine r_aload X (pc := 140) (i := 4) (zw_dg dk_Contest_tellPeers 67 rfl) rfl ?_
  refine r_iload X (pc := 142) (i := 6) (zw_dg dk_Contest_tellPeers 68 rfl) rfl ?_
  refine r_i2l X (pc := 144) (zw_dg dk_Contest_tellPeers 69 rfl)  ?_
  obtain ⟨c45, hc45, hsem⟩ := zw_bd hsem
  refine r_callVv X (pc := 145) (As := [_]) (st := []) (km_Row_add hS hc45) ce_Row_add kw_1086 (zo hS 61 rfl rfl) rfl rfl ⟨Nat.le_of_ble_eq_true rfl, Nat.le_of_ble_eq_true rfl⟩ (Nat.le_of_ble_eq_true rfl) (zw_dg dk_Contest_tellPeers 70 rfl) ?_
  refine r_aload X (pc := 148) (i := 4) (zw_dg dk_Contest_tellPeers 71 rfl) rfl ?_
  refine r_aload_n X (pc := 150) (i := 0) (zw_dg dk_Contest_tellPeers 72 rfl) rfl rfl ?_
  refine r_aload_n X (pc := 151) (i := 1) (zw_dg dk_Contest_tellPeers 73 rfl) rfl rfl ?_
  refine r_iload_n X (pc := 152) (i := 2) (zw_dg dk_Contest_tellPeers 74 rfl) rfl rfl ?_
  refine r_iload_n X (pc := 153) (i := 3) (zw_dg dk_Contest_tellPeers 75 rfl) rfl rfl ?_
  obtain ⟨r46, hr46, hsem⟩ := zw_bd hsem
  refine r_callVi X (pc := 154) (As := [_, _, _]) (st := [.ref 61]) (km_Contest_rests hS hr46) ce_Contest_rests kw_1148 (zo hS 65 rfl rfl) rfl rfl ⟨Nat.le_of_ble_eq_true rfl, Nat.le_of_ble_eq_true rfl⟩ (Nat.le_of_ble_eq_true rfl) (zw_dg dk_Contest_tellPeers 76 rfl) ?_
  refine zw_ter (P := (¬ r46 = 0)) (f := Value.long) (x := 1) (y := 0) (J := 165) (st2 := [.ref 61]) (fun jT jF => ?_) ?_
  · --
    refine r_if_eq X (pc := 157) (tgt := 164) (zw_dg dk_Contest_tellPeers 77 rfl) (by decide) (fun q47 => ?_) (fun q47 => ?_)
    · --
      refine r_lconst X (pc := 164) (v := 0) (zw_dg dk_Contest_tellPeers 80 rfl) (by decide) ?_
      exact jF (fun z => z q47)
    · --
      refine r_lconst X (pc := 160) (v := 1) (zw_dg dk_Contest_tellPeers 78 rfl) (by decide) ?_
      refine r_goto X (pc := 161) (tgt := 165) (zw_dg dk_Contest_tellPeers 79 rfl) (by decide) ?_
      exact jT q47
  obtain ⟨c48, hc48, hsem⟩ := zw_bd hsem
  refine r_callVv X (pc := 165) (As := [_]) (st := []) (km_Row_add hS hc48) ce_Row_add kw_1086 (zo hS 61 rfl rfl) rfl rfl ⟨Nat.le_of_ble_eq_true rfl, Nat.le_of_ble_eq_true rfl⟩ (Nat.le_of_ble_eq_true rfl) (zw_dg dk_Contest_tellPeers 81 rfl) ?_
  refine r_iload X (pc := 168) (i := 5) (zw_dg dk_Contest_tellPeers 82 rfl) rfl ?_
  cases hsem
  exact r_iret X (pc := 170) rfl (zw_dg dk_Contest_tellPeers 83 rfl)
