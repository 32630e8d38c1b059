/-! java/util/Arrays: names, functions, contracts (by program: wip/whole/gen) -/
def y_Arrays_fill : MethodName := ⟨"java/util/Arrays", "fill", "([II)V"⟩
abbrev b_Arrays_fill : ByteArray := prog_29_method_103_code
def dl_Arrays_fill : List (Nat × Instr × Nat) := [(0, .iconst 0, 1), (1, .istore_n 2, 1), (2, .aload_n 0, 1), (3, .arraylength, 1), (4, .istore_n 3, 1), (5, .iload_n 2, 1), (6, .iload_n 3, 1), (7, .if_icmp .ge 13, 3), (10, .aload_n 0, 1), (11, .iload_n 2, 1), (12, .iload_n 1, 1), (13, .iastore, 1), (14, .iinc 2 1, 3), (17, .goto (-12), 3), (20, .return_, 1)]
theorem dk_Arrays_fill : zw_dk b_Arrays_fill dl_Arrays_fill = true := by decide +kernel
theorem ce_Arrays_fill : zw_ces y_Arrays_fill b_Arrays_fill 4 (none) 2 := ⟨⟨kt_in 1273 (by decide +kernel) rfl, kt_in 109 (by decide +kernel) rfl, by decide +kernel⟩, kt_in 1272 (by decide +kernel) rfl⟩
def fn_Arrays_fill_l1 (len4 : Int32) (a1 : Nat) (val2 : Int32) : Int32 × zw_Ct → Option ((Int32 × zw_Ct) ⊕ (Int32 × zw_Ct)) := fun (i5, c6) =>
  if (i5 < len4) then
  ((zw_eI SH 0 c6 a1 i5 val2).bind fun c12 =>
  some (.inr ((i5 + 1), c12)))
  else
  (some (.inl (i5, c6)))
def fn_Arrays_fill (c : zw_Ct) (a1 : Nat) (val2 : Int32) : Option zw_Ct :=
  (zw_len SH 0 a1).bind fun n3 =>
  (some ((nI n3) : Int32)).bind fun len4 =>
  (zw_whl (fn_Arrays_fill_l1 len4 a1 val2) zw_F (0, c)).bind fun (i7, c8) =>
  some c8
set_option maxRecDepth 100000 in
theorem km_Arrays_fill {l : Launch} {g : zw_G} {rr : zw_RR} {sh : zw_Sh} {c : zw_Ct} {a1 : Nat} {val2 : Int32} {c2 : zw_Ct} (hS : zw_Ok 0 101 sh rr) (hsem : fn_Arrays_fill c a1 val2 = some c2) : zw_Met l g y_Arrays_fill b_Arrays_fill 4 (none) 1 rr sh [.ref a1, .int val2] c none c2 := by
  unfold fn_Arrays_fill at hsem
  refine zw_Met.ofF (by decide +kernel) (Nat.le_of_ble_eq_true rfl) (fun p e s m args below meth cd X => ?_)
  refine zw_eL (L2 := [some (.ref a1), some (.int val2), none, none]) rfl ?_
  refine r_iconst X (pc := 0) (v := 0) (zw_dg dk_Arrays_fill 0 rfl) (by decide) ?_
  refine r_istore_n X (pc := 1) (i := 2) (zw_dg dk_Arrays_fill 1 rfl) rfl (by decide) rfl ?_
  refine r_aload_n X (pc := 2) (i := 0) (zw_dg dk_Arrays_fill 2 rfl) rfl rfl ?_
  obtain ⟨n3, hn3, hsem⟩ := zw_bd hsem
  refine r_alen X (pc := 3) (t := 0) (v := nI n3) (zd hS (zw_len_of hn3)) rfl rfl (zw_dg dk_Arrays_fill 3 rfl) ?_
  obtain ⟨len4, hlen4, hsem⟩ := zw_bd hsem
  refine zw_topI hlen4 ?_
  refine r_istore_n X (pc := 4) (i := 3) (zw_dg dk_Arrays_fill 4 rfl) rfl (by decide) rfl ?_
  obtain ⟨l9, hl9, hsl9⟩ := zw_bd hsem
  refine r_loop (pc := 5) (pce := 20) hl9 (fun (i5, c6) => [some (.ref a1), some (.int val2), some (.int i5), some (.int len4)] : Int32 × zw_Ct → zw_Lc) (fun (i5, c6) => c6 : Int32 × zw_Ct → zw_Ct) (fun (i7, c8) => [some (.ref a1), some (.int val2), some (.int i7), some (.int len4)] : Int32 × zw_Ct → zw_Lc) (fun (i7, c8) => c8 : Int32 × zw_Ct → zw_Ct) ?_ rfl rfl ?_
  · rintro ⟨i5, c6⟩ rr hsem hK hP
    try unfold fn_Arrays_fill_l1 at hsem
    refine r_iload_n X (pc := 5) (i := 2) (zw_dg dk_Arrays_fill 5 rfl) rfl rfl ?_
    refine r_iload_n X (pc := 6) (i := 3) (zw_dg dk_Arrays_fill 6 rfl) rfl rfl ?_
    refine r_icmp_ge X (pc := 7) (tgt := 20) (zw_dg dk_Arrays_fill 7 rfl) (by decide) (fun q11 => ?_) (fun q11 => ?_)
    · --
      have p10 : ¬ (i5 < len4) := (Int32.not_lt.mpr q11)
      have hsem := zw_ifn p10 hsem
      have jj := hK _ (Option.some.inj hsem).symm
      exact (r_fgt [] rfl jj)
    · --
      have p10 : (i5 < len4) := (Int32.not_le.mp q11)
      have hsem := zw_ifp p10 hsem
      refine r_aload_n X (pc := 10) (i := 0) (zw_dg dk_Arrays_fill 8 rfl) rfl rfl ?_
      refine r_iload_n X (pc := 11) (i := 2) (zw_dg dk_Arrays_fill 9 rfl) rfl rfl ?_
      refine r_iload_n X (pc := 12) (i := 1) (zw_dg dk_Arrays_fill 10 rfl) rfl rfl ?_
      obtain ⟨c12, hc12, hsem⟩ := zw_bd hsem
      obtain ⟨_, hnc12, hc12⟩ := zw_bd hc12
      refine r_iast X (pc := 13) (zd hS (zw_len_of hnc12)) hc12 (zw_dg dk_Arrays_fill 11 rfl) ?_
      refine r_iinc X (pc := 14) (i := 2) (k := 1) (zw_dg dk_Arrays_fill 12 rfl) rfl (by decide) (by decide) rfl ?_
      refine r_goto X (pc := 17) (tgt := 5) (zw_dg dk_Arrays_fill 13 rfl) (by decide) ?_
      have jj := hP _ (Option.some.inj hsem).symm
      exact (r_fgt [] rfl jj)
  obtain ⟨i7, c8⟩ := l9
  have hsem := hsl9
  cases hsem
  exact r_vret X (pc := 20) rfl (zw_dg dk_Arrays_fill 14 rfl)
