/-! the cases that throw, and all of them (by program: wip/whole/gen/law2.py) -/
def dl_L_part : List (Nat × Instr × Nat) := [(374, .aload_n 1, 1), (375, .aload_n 0, 1), (376, .iload 4, 2), (378, .iconst 1, 1), (379, .iadd, 1), (380, .iaload, 1), (381, .aload_n 0, 1), (382, .iload 4, 2), (384, .iconst 2, 1), (385, .iadd, 1), (386, .iaload, 1), (387, .aload_n 3, 1), (388, .invokestatic 36, 3), (391, .istore 5, 2), (393, .aload_n 2, 1), (394, .aload_n 0, 1), (395, .iload 4, 2), (397, .iconst 1, 1), (398, .iadd, 1), (399, .iaload, 1), (400, .aload_n 0, 1), (401, .iload 4, 2), (403, .iconst 2, 1), (404, .iadd, 1), (405, .iaload, 1), (406, .invokevirtual 41, 3), (409, .istore 6, 2), (411, .aload_n 2, 1), (412, .invokevirtual 42, 3), (415, .iload 5, 2), (417, .if_icmp .eq 5, 3), (420, .iconst 0, 1), (421, .ireturn, 1), (422, .iload 5, 2), (424, .ifCond .ne 15, 3), (427, .aload_n 3, 1), (428, .iconst 0, 1), (429, .laload, 1), (430, .iload 6, 2), (432, .i2l, 1), (433, .lcmp, 1), (434, .ifCond .eq 5, 3), (437, .iconst 0, 1), (438, .ireturn, 1), (439, .goto 2036, 3)]
theorem dk_L_part : zw_dk code dl_L_part = true := by decide +kernel
theorem zq_c_part {p : Program} {l : Launch} {e : Env} {s : State} {m : MethodId} {args : Array Value} {below : List Frame} {meth : Method} {cd : Code} {cells slots : Nat} {Q : State → Prop} {g : zw_G} {sh : zw_Sh} {rr : zw_RR} {c : zw_Ct} {b0 LL : Nat} {xs : Nat → Int32} {i : Int32} {r : Option Int32} {b : Int32} {c1 c2 : zw_Ct} (X : zw_FX p room_1 s m args meth cd cells slots g code "PaidForThinkingLaw" ret 8) (hXS : zx_XS g s s.heap) (hS : zw_Ok 0 101 sh rr) (hX : va_X b0 LL xs s s.heap) (hbl : b0 < g.2.2.1) (hl : l.stackTraces = false) (hin : ∀ v : Int32, v ∈ ([1, 2, 3, 4, 5] : List Int32) → vp_in (i + v) LL) (hf : cells + 1 ≤ room_1.cells ∧ slots + 6 ≤ room_1.slots) (h1 : fn_P_part c (xs (i + 1).toNatClampNeg) (xs (i + 2).toNatClampNeg) = some (r, c1)) (h2 : fn_M_part (fw_part c1 r) (xs (i + 1).toNatClampNeg) (xs (i + 2).toNatClampNeg) = some (b, c2)) (h3 : fn_M_thrown c2 = fk_part r) (h4 : ∀ v, r = some v → c2.2 100 0 = b.toInt64) (kk : ZL p l e room_1 s m args below meth cd (cells + 1) (slots + 6) Q g 8 sh rr b0 2475 (zq_L i) c2 []) : ZL p l e room_1 s m args below meth cd cells slots Q g 8 sh rr b0 374 (zq_L i) c [] := by
  refine zl_aload_n X (pc := 374) (i := 1) (x := 0) (zw_dg dk_L_part 0 rfl) rfl rfl ?_
  refine zl_scr X hX hbl (pc := 375) (v := 1) (i := i) (zw_dg dk_L_part 1 rfl) (zw_dg dk_L_part 2 rfl) (zw_dg dk_L_part 3 rfl) (zw_dg dk_L_part 4 rfl) (zw_dg dk_L_part 5 rfl) (by decide) rfl (hin 1 (by decide)) ?_
  refine zl_scr X hX hbl (pc := 381) (v := 2) (i := i) (zw_dg dk_L_part 6 rfl) (zw_dg dk_L_part 7 rfl) (zw_dg dk_L_part 8 rfl) (zw_dg dk_L_part 9 rfl) (zw_dg dk_L_part 10 rfl) (by decide) rfl (hin 2 (by decide)) ?_
  refine zl_aload_n X (pc := 387) (i := 3) (x := 100) (zw_dg dk_L_part 11 rfl) rfl rfl ?_
  refine zl_callY X hXS (pc := 388) (As := [_, _, _, _]) (st := []) (km_W_part hl hS h1) ce_W_part (n := 4) (by decide +kernel) (kt_in 1355 (by decide +kernel) rfl) rfl ⟨Nat.le_of_ble_eq_true rfl, Nat.le_of_ble_eq_true rfl⟩ (Nat.le_of_ble_eq_true rfl) hf (zw_dg dk_L_part 12 rfl) (fun X2 => ?_)
  refine zl_istore X2 (pc := 391) (i := 5) (zw_dg dk_L_part 13 rfl) (by decide) (by decide) rfl ?_
  refine zl_aload_n X2 (pc := 393) (i := 2) (x := 71) (zw_dg dk_L_part 14 rfl) rfl rfl ?_
  refine zl_scr X2 hX hbl (pc := 394) (v := 1) (i := i) (zw_dg dk_L_part 15 rfl) (zw_dg dk_L_part 16 rfl) (zw_dg dk_L_part 17 rfl) (zw_dg dk_L_part 18 rfl) (zw_dg dk_L_part 19 rfl) (by decide) rfl (hin 1 (by decide)) ?_
  refine zl_scr X2 hX hbl (pc := 400) (v := 2) (i := i) (zw_dg dk_L_part 20 rfl) (zw_dg dk_L_part 21 rfl) (zw_dg dk_L_part 22 rfl) (zw_dg dk_L_part 23 rfl) (zw_dg dk_L_part 24 rfl) (by decide) rfl (hin 2 (by decide)) ?_
  refine zl_callVi X2 (pc := 406) (As := [_, _]) (st := []) (km_M_part hS h2) ce_M_part (kt_in 1605 (by decide +kernel) rfl) (zo hS 71 rfl rfl) rfl rfl ⟨Nat.le_of_ble_eq_true rfl, Nat.le_of_ble_eq_true rfl⟩ (Nat.le_of_ble_eq_true rfl) (zw_dg dk_L_part 25 rfl) ?_
  refine zl_istore X2 (pc := 409) (i := 6) (zw_dg dk_L_part 26 rfl) (by decide) (by decide) rfl ?_
  refine zl_aload_n X2 (pc := 411) (i := 2) (x := 71) (zw_dg dk_L_part 27 rfl) rfl rfl ?_
  refine zl_callVi X2 (pc := 412) (As := []) (st := []) (km_M_thrown hS rfl) ce_M_thrown (kt_in 1587 (by decide +kernel) rfl) (zo hS 71 rfl rfl) rfl rfl ⟨Nat.le_of_ble_eq_true rfl, Nat.le_of_ble_eq_true rfl⟩ (Nat.le_of_ble_eq_true rfl) (zw_dg dk_L_part 28 rfl) ?_
  refine zl_iload X2 (pc := 415) (i := 5) (zw_dg dk_L_part 29 rfl) rfl ?_
  refine zl_icmp_eq X2 (pc := 417) (tgt := 422) (zw_dg dk_L_part 30 rfl) (by decide) (fun _ => ?_) (fun q => absurd h3 q)
  refine zl_iload X2 (pc := 422) (i := 5) (zw_dg dk_L_part 33 rfl) rfl ?_
  have kg : ZL p l e room_1 s m args below meth cd (cells + 1) (slots + 6) Q g 8 sh rr b0 439 ([none, some (.ref 0), some (.ref 71), some (.ref 100), some (.int i), some (.int (fk_part r)), some (.int b), none]) c2 [] := by
    refine zl_goto X2 (pc := 439) (tgt := 2475) (zw_dg dk_L_part 44 rfl) (by decide) ?_
    exact zl_wk (fun i v h => by 
      match i with
      | 0 => cases h
      | 1 => exact h
      | 2 => exact h
      | 3 => exact h
      | 4 => exact h
      | 5 => cases h
      | 6 => cases h
      | 7 => cases h
      | i + 8 => cases h) kk
  refine zl_if_ne X2 (pc := 424) (tgt := 439) (zw_dg dk_L_part 34 rfl) (by decide) (fun _ => kg) (fun q => ?_)
  cases r with
  | none => exact absurd q (by decide)
  | some v =>
  have h4 := h4 v rfl
  refine zl_aload_n X2 (pc := 427) (i := 3) (x := 100) (zw_dg dk_L_part 35 rfl) rfl rfl ?_
  refine zl_iconst X2 (pc := 428) (v := 0) (zw_dg dk_L_part 36 rfl) (by decide) ?_
  refine zl_lald X2 (pc := 429) (zo hS 100 rfl rfl) (zq_o0 c2) (zw_dg dk_L_part 37 rfl) ?_
  refine zl_iload X2 (pc := 430) (i := 6) (zw_dg dk_L_part 38 rfl) rfl ?_
  refine zl_i2l X2 (pc := 432) (zw_dg dk_L_part 39 rfl) ?_
  exact zl_lcmp_eq X2 (pc := 433) (tgt := 439) (zw_dg dk_L_part 40 rfl) (zw_dg dk_L_part 41 rfl) (by decide) (fun _ => kg) (fun q => absurd h4 q)
def dl_L_gets : List (Nat × Instr × Nat) := [(615, .aload_n 1, 1), (616, .aload_n 0, 1), (617, .iload 4, 2), (619, .iconst 1, 1), (620, .iadd, 1), (621, .iaload, 1), (622, .aload_n 0, 1), (623, .iload 4, 2), (625, .iconst 2, 1), (626, .iadd, 1), (627, .iaload, 1), (628, .aload_n 0, 1), (629, .iload 4, 2), (631, .iconst 3, 1), (632, .iadd, 1), (633, .iaload, 1), (634, .aload_n 3, 1), (635, .invokestatic 68, 3), (638, .istore 5, 2), (640, .aload_n 2, 1), (641, .aload_n 0, 1), (642, .iload 4, 2), (644, .iconst 1, 1), (645, .iadd, 1), (646, .iaload, 1), (647, .aload_n 0, 1), (648, .iload 4, 2), (650, .iconst 2, 1), (651, .iadd, 1), (652, .iaload, 1), (653, .aload_n 0, 1), (654, .iload 4, 2), (656, .iconst 3, 1), (657, .iadd, 1), (658, .iaload, 1), (659, .invokevirtual 71, 3), (662, .istore 6, 2), (664, .aload_n 2, 1), (665, .invokevirtual 42, 3), (668, .iload 5, 2), (670, .if_icmp .eq 5, 3), (673, .iconst 0, 1), (674, .ireturn, 1), (675, .iload 5, 2), (677, .ifCond .ne 15, 3), (680, .aload_n 3, 1), (681, .iconst 0, 1), (682, .laload, 1), (683, .iload 6, 2), (685, .i2l, 1), (686, .lcmp, 1), (687, .ifCond .eq 5, 3), (690, .iconst 0, 1), (691, .ireturn, 1), (692, .goto 1783, 3)]
theorem dk_L_gets : zw_dk code dl_L_gets = true := by decide +kernel
theorem zq_c_gets {p : Program} {l : Launch} {e : Env} {s : State} {m : MethodId} {args : Array Value} {below : List Frame} {meth : Method} {cd : Code} {cells slots : Nat} {Q : State → Prop} {g : zw_G} {sh : zw_Sh} {rr : zw_RR} {c : zw_Ct} {b0 LL : Nat} {xs : Nat → Int32} {i : Int32} {r : Option Int32} {b : Int32} {c1 c2 : zw_Ct} (X : zw_FX p room_1 s m args meth cd cells slots g code "PaidForThinkingLaw" ret 8) (hXS : zx_XS g s s.heap) (hS : zw_Ok 0 101 sh rr) (hX : va_X b0 LL xs s s.heap) (hbl : b0 < g.2.2.1) (hl : l.stackTraces = false) (hin : ∀ v : Int32, v ∈ ([1, 2, 3, 4, 5] : List Int32) → vp_in (i + v) LL) (hf : cells + 1 ≤ room_1.cells ∧ slots + 6 ≤ room_1.slots) (h1 : fn_P_gets c (xs (i + 1).toNatClampNeg) (xs (i + 2).toNatClampNeg) (xs (i + 3).toNatClampNeg) = some (r, c1)) (h2 : fn_M_gets (fw_gets c1 r) (xs (i + 1).toNatClampNeg) (xs (i + 2).toNatClampNeg) (xs (i + 3).toNatClampNeg) = some (b, c2)) (h3 : fn_M_thrown c2 = fk_gets r) (h4 : ∀ v, r = some v → c2.2 100 0 = b.toInt64) (kk : ZL p l e room_1 s m args below meth cd (cells + 1) (slots + 6) Q g 8 sh rr b0 2475 (zq_L i) c2 []) : ZL p l e room_1 s m args below meth cd cells slots Q g 8 sh rr b0 615 (zq_L i) c [] := by
  refine zl_aload_n X (pc := 615) (i := 1) (x := 0) (zw_dg dk_L_gets 0 rfl) rfl rfl ?_
  refine zl_scr X hX hbl (pc := 616) (v := 1) (i := i) (zw_dg dk_L_gets 1 rfl) (zw_dg dk_L_gets 2 rfl) (zw_dg dk_L_gets 3 rfl) (zw_dg dk_L_gets 4 rfl) (zw_dg dk_L_gets 5 rfl) (by decide) rfl (hin 1 (by decide)) ?_
  refine zl_scr X hX hbl (pc := 622) (v := 2) (i := i) (zw_dg dk_L_gets 6 rfl) (zw_dg dk_L_gets 7 rfl) (zw_dg dk_L_gets 8 rfl) (zw_dg dk_L_gets 9 rfl) (zw_dg dk_L_gets 10 rfl) (by decide) rfl (hin 2 (by decide)) ?_
  refine zl_scr X hX hbl (pc := 628) (v := 3) (i := i) (zw_dg dk_L_gets 11 rfl) (zw_dg dk_L_gets 12 rfl) (zw_dg dk_L_gets 13 rfl) (zw_dg dk_L_gets 14 rfl) (zw_dg dk_L_gets 15 rfl) (by decide) rfl (hin 3 (by decide)) ?_
  refine zl_aload_n X (pc := 634) (i := 3) (x := 100) (zw_dg dk_L_gets 16 rfl) rfl rfl ?_
  refine zl_callY X hXS (pc := 635) (As := [_, _, _, _, _]) (st := []) (km_W_gets hl hS h1) ce_W_gets (n := 5) (by decide +kernel) (kt_in 1428 (by decide +kernel) rfl) rfl ⟨Nat.le_of_ble_eq_true rfl, Nat.le_of_ble_eq_true rfl⟩ (Nat.le_of_ble_eq_true rfl) hf (zw_dg dk_L_gets 17 rfl) (fun X2 => ?_)
  refine zl_istore X2 (pc := 638) (i := 5) (zw_dg dk_L_gets 18 rfl) (by decide) (by decide) rfl ?_
  refine zl_aload_n X2 (pc := 640) (i := 2) (x := 71) (zw_dg dk_L_gets 19 rfl) rfl rfl ?_
  refine zl_scr X2 hX hbl (pc := 641) (v := 1) (i := i) (zw_dg dk_L_gets 20 rfl) (zw_dg dk_L_gets 21 rfl) (zw_dg dk_L_gets 22 rfl) (zw_dg dk_L_gets 23 rfl) (zw_dg dk_L_gets 24 rfl) (by decide) rfl (hin 1 (by decide)) ?_
  refine zl_scr X2 hX hbl (pc := 647) (v := 2) (i := i) (zw_dg dk_L_gets 25 rfl) (zw_dg dk_L_gets 26 rfl) (zw_dg dk_L_gets 27 rfl) (zw_dg dk_L_gets 28 rfl) (zw_dg dk_L_gets 29 rfl) (by decide) rfl (hin 2 (by decide)) ?_
  refine zl_scr X2 hX hbl (pc := 653) (v := 3) (i := i) (zw_dg dk_L_gets 30 rfl) (zw_dg dk_L_gets 31 rfl) (zw_dg dk_L_gets 32 rfl) (zw_dg dk_L_gets 33 rfl) (zw_dg dk_L_gets 34 rfl) (by decide) rfl (hin 3 (by decide)) ?_
  refine zl_callVi X2 (pc := 659) (As := [_, _, _]) (st := []) (km_M_gets hS h2) ce_M_gets (kt_in 1684 (by decide +kernel) rfl) (zo hS 71 rfl rfl) rfl rfl ⟨Nat.le_of_ble_eq_true rfl, Nat.le_of_ble_eq_true rfl⟩ (Nat.le_of_ble_eq_true rfl) (zw_dg dk_L_gets 35 rfl) ?_
  refine zl_istore X2 (pc := 662) (i := 6) (zw_dg dk_L_gets 36 rfl) (by decide) (by decide) rfl ?_
  refine zl_aload_n X2 (pc := 664) (i := 2) (x := 71) (zw_dg dk_L_gets 37 rfl) rfl rfl ?_
  refine zl_callVi X2 (pc := 665) (As := []) (st := []) (km_M_thrown hS rfl) ce_M_thrown (kt_in 1587 (by decide +kernel) rfl) (zo hS 71 rfl rfl) rfl rfl ⟨Nat.le_of_ble_eq_true rfl, Nat.le_of_ble_eq_true rfl⟩ (Nat.le_of_ble_eq_true rfl) (zw_dg dk_L_gets 38 rfl) ?_
  refine zl_iload X2 (pc := 668) (i := 5) (zw_dg dk_L_gets 39 rfl) rfl ?_
  refine zl_icmp_eq X2 (pc := 670) (tgt := 675) (zw_dg dk_L_gets 40 rfl) (by decide) (fun _ => ?_) (fun q => absurd h3 q)
  refine zl_iload X2 (pc := 675) (i := 5) (zw_dg dk_L_gets 43 rfl) rfl ?_
  have kg : ZL p l e room_1 s m args below meth cd (cells + 1) (slots + 6) Q g 8 sh rr b0 692 ([none, some (.ref 0), some (.ref 71), some (.ref 100), some (.int i), some (.int (fk_gets r)), some (.int b), none]) c2 [] := by
    refine zl_goto X2 (pc := 692) (tgt := 2475) (zw_dg dk_L_gets 54 rfl) (by decide) ?_
    exact zl_wk (fun i v h => by 
      match i with
      | 0 => cases h
      | 1 => exact h
      | 2 => exact h
      | 3 => exact h
      | 4 => exact h
      | 5 => cases h
      | 6 => cases h
      | 7 => cases h
      | i + 8 => cases h) kk
  refine zl_if_ne X2 (pc := 677) (tgt := 692) (zw_dg dk_L_gets 44 rfl) (by decide) (fun _ => kg) (fun q => ?_)
  cases r with
  | none => exact absurd q (by decide)
  | some v =>
  have h4 := h4 v rfl
  refine zl_aload_n X2 (pc := 680) (i := 3) (x := 100) (zw_dg dk_L_gets 45 rfl) rfl rfl ?_
  refine zl_iconst X2 (pc := 681) (v := 0) (zw_dg dk_L_gets 46 rfl) (by decide) ?_
  refine zl_lald X2 (pc := 682) (zo hS 100 rfl rfl) (zq_o0 c2) (zw_dg dk_L_gets 47 rfl) ?_
  refine zl_iload X2 (pc := 683) (i := 6) (zw_dg dk_L_gets 48 rfl) rfl ?_
  refine zl_i2l X2 (pc := 685) (zw_dg dk_L_gets 49 rfl) ?_
  exact zl_lcmp_eq X2 (pc := 686) (tgt := 692) (zw_dg dk_L_gets 50 rfl) (zw_dg dk_L_gets 51 rfl) (by decide) (fun _ => kg) (fun q => absurd h4 q)
def dl_L_row : List (Nat × Instr × Nat) := [(2420, .aload_n 1, 1), (2421, .aload_n 0, 1), (2422, .iload 4, 2), (2424, .iconst 1, 1), (2425, .iadd, 1), (2426, .iaload, 1), (2427, .aload_n 3, 1), (2428, .invokestatic 255, 3), (2431, .istore 5, 2), (2433, .aload_n 2, 1), (2434, .aload_n 0, 1), (2435, .iload 4, 2), (2437, .iconst 1, 1), (2438, .iadd, 1), (2439, .iaload, 1), (2440, .invokevirtual 258, 3), (2443, .lstore 6, 2), (2445, .aload_n 2, 1), (2446, .invokevirtual 42, 3), (2449, .iload 5, 2), (2451, .if_icmp .eq 5, 3), (2454, .iconst 0, 1), (2455, .ireturn, 1), (2456, .iload 5, 2), (2458, .ifCond .ne 14, 3), (2461, .aload_n 3, 1), (2462, .iconst 0, 1), (2463, .laload, 1), (2464, .lload 6, 2), (2466, .lcmp, 1), (2467, .ifCond .eq 5, 3), (2470, .iconst 0, 1), (2471, .ireturn, 1), (2472, .goto 3, 3)]
theorem dk_L_row : zw_dk code dl_L_row = true := by decide +kernel
theorem zq_c_row {p : Program} {l : Launch} {e : Env} {s : State} {m : MethodId} {args : Array Value} {below : List Frame} {meth : Method} {cd : Code} {cells slots : Nat} {Q : State → Prop} {g : zw_G} {sh : zw_Sh} {rr : zw_RR} {c : zw_Ct} {b0 LL : Nat} {xs : Nat → Int32} {i : Int32} {r : Option Int64} {b : Int64} {c1 c2 : zw_Ct} (X : zw_FX p room_1 s m args meth cd cells slots g code "PaidForThinkingLaw" ret 8) (hXS : zx_XS g s s.heap) (hS : zw_Ok 0 101 sh rr) (hX : va_X b0 LL xs s s.heap) (hbl : b0 < g.2.2.1) (hl : l.stackTraces = false) (hin : ∀ v : Int32, v ∈ ([1, 2, 3, 4, 5] : List Int32) → vp_in (i + v) LL) (hf : cells + 1 ≤ room_1.cells ∧ slots + 6 ≤ room_1.slots) (h1 : fn_P_row c (xs (i + 1).toNatClampNeg) = some (r, c1)) (h2 : fn_M_row (fw_row c1 r) (xs (i + 1).toNatClampNeg) = some (b, c2)) (h3 : fn_M_thrown c2 = fk_row r) (h4 : ∀ v, r = some v → c2.2 100 0 = b) (kk : ZL p l e room_1 s m args below meth cd (cells + 1) (slots + 6) Q g 8 sh rr b0 2475 (zq_L i) c2 []) : ZL p l e room_1 s m args below meth cd cells slots Q g 8 sh rr b0 2420 (zq_L i) c [] := by
  refine zl_aload_n X (pc := 2420) (i := 1) (x := 0) (zw_dg dk_L_row 0 rfl) rfl rfl ?_
  refine zl_scr X hX hbl (pc := 2421) (v := 1) (i := i) (zw_dg dk_L_row 1 rfl) (zw_dg dk_L_row 2 rfl) (zw_dg dk_L_row 3 rfl) (zw_dg dk_L_row 4 rfl) (zw_dg dk_L_row 5 rfl) (by decide) rfl (hin 1 (by decide)) ?_
  refine zl_aload_n X (pc := 2427) (i := 3) (x := 100) (zw_dg dk_L_row 6 rfl) rfl rfl ?_
  refine zl_callY X hXS (pc := 2428) (As := [_, _, _]) (st := []) (km_W_row hl hS h1) ce_W_row (n := 3) (by decide +kernel) (kt_in 1436 (by decide +kernel) rfl) rfl ⟨Nat.le_of_ble_eq_true rfl, Nat.le_of_ble_eq_true rfl⟩ (Nat.le_of_ble_eq_true rfl) hf (zw_dg dk_L_row 7 rfl) (fun X2 => ?_)
  refine zl_istore X2 (pc := 2431) (i := 5) (zw_dg dk_L_row 8 rfl) (by decide) (by decide) rfl ?_
  refine zl_aload_n X2 (pc := 2433) (i := 2) (x := 71) (zw_dg dk_L_row 9 rfl) rfl rfl ?_
  refine zl_scr X2 hX hbl (pc := 2434) (v := 1) (i := i) (zw_dg dk_L_row 10 rfl) (zw_dg dk_L_row 11 rfl) (zw_dg dk_L_row 12 rfl) (zw_dg dk_L_row 13 rfl) (zw_dg dk_L_row 14 rfl) (by decide) rfl (hin 1 (by decide)) ?_
  refine zl_callVl X2 (pc := 2440) (As := [_]) (st := []) (km_M_row hS h2) ce_M_row (kt_in 2014 (by decide +kernel) rfl) (zo hS 71 rfl rfl) rfl rfl ⟨Nat.le_of_ble_eq_true rfl, Nat.le_of_ble_eq_true rfl⟩ (Nat.le_of_ble_eq_true rfl) (zw_dg dk_L_row 15 rfl) ?_
  refine zl_lstore X2 (pc := 2443) (i := 6) (zw_dg dk_L_row 16 rfl) (by decide) (by decide) rfl ?_
  refine zl_aload_n X2 (pc := 2445) (i := 2) (x := 71) (zw_dg dk_L_row 17 rfl) rfl rfl ?_
  refine zl_callVi X2 (pc := 2446) (As := []) (st := []) (km_M_thrown hS rfl) ce_M_thrown (kt_in 1587 (by decide +kernel) rfl) (zo hS 71 rfl rfl) rfl rfl ⟨Nat.le_of_ble_eq_true rfl, Nat.le_of_ble_eq_true rfl⟩ (Nat.le_of_ble_eq_true rfl) (zw_dg dk_L_row 18 rfl) ?_
  refine zl_iload X2 (pc := 2449) (i := 5) (zw_dg dk_L_row 19 rfl) rfl ?_
  refine zl_icmp_eq X2 (pc := 2451) (tgt := 2456) (zw_dg dk_L_row 20 rfl) (by decide) (fun _ => ?_) (fun q => absurd h3 q)
  refine zl_iload X2 (pc := 2456) (i := 5) (zw_dg dk_L_row 23 rfl) rfl ?_
  have kg : ZL p l e room_1 s m args below meth cd (cells + 1) (slots + 6) Q g 8 sh rr b0 2472 ([none, some (.ref 0), some (.ref 71), some (.ref 100), some (.int i), some (.int (fk_row r)), some (.long b), none]) c2 [] := by
    refine zl_goto X2 (pc := 2472) (tgt := 2475) (zw_dg dk_L_row 33 rfl) (by decide) ?_
    exact zl_wk (fun i v h => by 
      match i with
      | 0 => cases h
      | 1 => exact h
      | 2 => exact h
      | 3 => exact h
      | 4 => exact h
      | 5 => cases h
      | 6 => cases h
      | 7 => cases h
      | i + 8 => cases h) kk
  refine zl_if_ne X2 (pc := 2458) (tgt := 2472) (zw_dg dk_L_row 24 rfl) (by decide) (fun _ => kg) (fun q => ?_)
  cases r with
  | none => exact absurd q (by decide)
  | some v =>
  have h4 := h4 v rfl
  refine zl_aload_n X2 (pc := 2461) (i := 3) (x := 100) (zw_dg dk_L_row 25 rfl) rfl rfl ?_
  refine zl_iconst X2 (pc := 2462) (v := 0) (zw_dg dk_L_row 26 rfl) (by decide) ?_
  refine zl_lald X2 (pc := 2463) (zo hS 100 rfl rfl) (zq_o0 c2) (zw_dg dk_L_row 27 rfl) ?_
  refine zl_lload X2 (pc := 2464) (i := 6) (zw_dg dk_L_row 28 rfl) rfl ?_
  exact zl_lcmp_eq X2 (pc := 2466) (tgt := 2472) (zw_dg dk_L_row 29 rfl) (zw_dg dk_L_row 30 rfl) (by decide) (fun _ => kg) (fun q => absurd h4 q)
