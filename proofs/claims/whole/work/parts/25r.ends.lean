/-! ends, lot: the least and the greatest pay -/
def zj_eI (V : Nat → Nat → Int32) (s : Nat) (q : Nat × Nat) : Nat → Nat × Nat
  | 0 => q
  | e + 1 => if V s e < V (zj_eI V s q e).1 (zj_eI V s q e).2 then (s, e) else zj_eI V s q e
def zj_eO (V : Nat → Nat → Int32) (E : Nat) : Nat → Nat × Nat
  | 0 => (0, 0)
  | s + 1 => zj_eI V s (zj_eO V E s) E
def zj_mI (V : Nat → Nat → Int32) (s : Nat) (m : Int32) : Nat → Int32
  | 0 => m
  | e + 1 => if zj_mI V s m e < V s e then V s e else zj_mI V s m e
def zj_mO (V : Nat → Nat → Int32) (E : Nat) : Nat → Int32
  | 0 => V 0 0
  | s + 1 => zj_mI V s (zj_mO V E s) E
theorem zj_eI_b {V : Nat → Nat → Int32} {s N E : Nat} {q : Nat × Nat} (hs : s < N) (hq : q.1 < N ∧ q.2 < E) : ∀ e, e ≤ E → (zj_eI V s q e).1 < N ∧ (zj_eI V s q e).2 < E
  | 0, _ => hq
  | e + 1, he => by
    have h := zj_eI_b (V := V) hs hq e (by omega)
    show (if V s e < V (zj_eI V s q e).1 (zj_eI V s q e).2 then (s, e) else zj_eI V s q e).1 < N ∧ (if V s e < V (zj_eI V s q e).1 (zj_eI V s q e).2 then (s, e) else zj_eI V s q e).2 < E
    split
    · exact ⟨hs, by omega⟩
    · exact h
theorem zj_eO_b {V : Nat → Nat → Int32} {N E : Nat} (hN : 0 < N) (hE : 0 < E) : ∀ s, s ≤ N → (zj_eO V E s).1 < N ∧ (zj_eO V E s).2 < E
  | 0, _ => ⟨hN, hE⟩
  | s + 1, hs => zj_eI_b (show s < N by omega) (zj_eO_b hN hE s (by omega)) E (Nat.le_refl _)
theorem sp_least {E T N a : Nat} {pt : Nat → Nat → Nat} {V : Nat → Nat → Int32} {c : zw_Ct} (hT : zr_T E T N pt) (hS : zr_S E T N pt c) (ha : zw_len SH 0 a = some 1820) (hV : zr_V a E N V c) : fn_Pays_leastAt c a = some (nI (4 * (zj_eO V E N).1 + (zj_eO V E N).2)) := by
  have hN := hT.2.2.2.2.2.1
  have hN2 := hT.2.2.2.2.1
  have hE2 := hT.1
  have hE4 := hT.2.1
  unfold fn_Pays_leastAt
  obtain ⟨x, h1, h2⟩ := zp_up (f := fn_Pays_leastAt_l1 c a) (I := fun i t => t = (nI (4 * (zj_eO V E i).1 + (zj_eO V E i).2), nI i)) (P := fun x => x = nI (4 * (zj_eO V E N).1 + (zj_eO V E N).2)) N (by unfold zw_F; omega) (fun s t hs h => by
      subst h
      refine Or.inl ⟨(nI (4 * (zj_eO V E (s + 1)).1 + (zj_eO V E (s + 1)).2), nI (s + 1)), ?_, rfl⟩
      obtain ⟨q, hq⟩ : ∃ q, q = zj_eO V E s := ⟨_, rfl⟩
      have hqb : q.1 < N ∧ q.2 < E := by rw [hq]; exact zj_eO_b (by omega) (by omega) s (by omega)
      obtain ⟨y, g1, g2⟩ := zp_up (f := fn_Pays_leastAt_l2 c (nI s) a) (I := fun i t => t = (nI (4 * (zj_eI V s q i).1 + (zj_eI V s q i).2), nI i)) (P := fun x => x = nI (4 * (zj_eI V s q E).1 + (zj_eI V s q E).2)) E (by unfold zw_F; omega) (fun e t he h => by
          subst h
          refine Or.inl ⟨(nI (4 * (zj_eI V s q (e + 1)).1 + (zj_eI V s q (e + 1)).2), nI (e + 1)), ?_, rfl⟩
          have hb := zj_eI_b (V := V) hs hqb e (by omega)
          unfold fn_Pays_leastAt_l2
          dsimp only
          rw [hS.1, if_pos (nI_lt he (by omega)), zp_bs, nI_at, zp_dI ha (by omega) (by omega), zp_bs, zp_dI ha (by omega) (by omega), zp_bs, hV s hs e he, hV _ hb.1 _ hb.2, nI_1]
          have es : zj_eI V s q (e + 1) = if V s e < V (zj_eI V s q e).1 (zj_eI V s q e).2 then (s, e) else zj_eI V s q e := rfl
          rw [es]
          split
          · rw [zp_bs]
          · rw [zp_bs]) (fun t h => by
          subst h
          refine ⟨_, ?_, rfl⟩
          unfold fn_Pays_leastAt_l2
          dsimp only
          rw [hS.1, if_neg (nI_nlt (Nat.le_refl _) (by omega))]) 0 (nI (4 * q.1 + q.2), 0) (Nat.zero_le _) rfl
      unfold fn_Pays_leastAt_l1
      dsimp only
      rw [hS.2.2.1, if_pos (nI_lt hs (by omega)), ← hq, g1, zp_bs, g2, nI_1, hq]
      rfl) (fun t h => by
      subst h
      refine ⟨_, ?_, rfl⟩
      unfold fn_Pays_leastAt_l1
      dsimp only
      rw [hS.2.2.1, if_neg (nI_nlt (Nat.le_refl _) (by omega))]) 0 (0, 0) (Nat.zero_le _) rfl
  rw [h1, zp_bs, h2]
theorem sp_greatestOf {E T N a : Nat} {pt : Nat → Nat → Nat} {V : Nat → Nat → Int32} {c : zw_Ct} (hT : zr_T E T N pt) (hS : zr_S E T N pt c) (ha : zw_len SH 0 a = some 1820) (hV : zr_V a E N V c) : fn_Pays_greatestOf c a = some (zj_mO V E N) := by
  have hN := hT.2.2.2.2.2.1
  have hN2 := hT.2.2.2.2.1
  have hE2 := hT.1
  have hE4 := hT.2.1
  unfold fn_Pays_greatestOf
  have e0 : zw_dI SH 0 c a 0 = some (V 0 0) := (zp_dI (k := 0) ha (by omega) (by omega)).trans (congrArg some (hV 0 (by omega) 0 (by omega)))
  obtain ⟨x, h1, h2⟩ := zp_up (f := fn_Pays_greatestOf_l1 c a) (I := fun i t => t = (zj_mO V E i, nI i)) (P := fun x => x = zj_mO V E N) N (by unfold zw_F; omega) (fun s t hs h => by
      subst h
      refine Or.inl ⟨(zj_mO V E (s + 1), nI (s + 1)), ?_, rfl⟩
      obtain ⟨y, g1, g2⟩ := zp_up (f := fn_Pays_greatestOf_l2 c a (nI s)) (I := fun i t => t = (zj_mI V s (zj_mO V E s) i, nI i)) (P := fun x => x = zj_mI V s (zj_mO V E s) E) E (by unfold zw_F; omega) (fun e t he h => by
          subst h
          refine Or.inl ⟨(zj_mI V s (zj_mO V E s) (e + 1), nI (e + 1)), ?_, rfl⟩
          unfold fn_Pays_greatestOf_l2
          dsimp only
          rw [hS.1, if_pos (nI_lt he (by omega)), nI_at, zp_dI ha (by omega) (by omega), zp_bs, zp_bs, hV s hs e he, nI_1]
          rfl) (fun t h => by
          subst h
          refine ⟨_, ?_, rfl⟩
          unfold fn_Pays_greatestOf_l2
          dsimp only
          rw [hS.1, if_neg (nI_nlt (Nat.le_refl _) (by omega))]) 0 (zj_mO V E s, 0) (Nat.zero_le _) rfl
      unfold fn_Pays_greatestOf_l1
      dsimp only
      rw [hS.2.2.1, if_pos (nI_lt hs (by omega)), g1, zp_bs, g2, nI_1]
      rfl) (fun t h => by
      subst h
      refine ⟨_, ?_, rfl⟩
      unfold fn_Pays_greatestOf_l1
      dsimp only
      rw [hS.2.2.1, if_neg (nI_nlt (Nat.le_refl _) (by omega))]) 0 (V 0 0, 0) (Nat.zero_le _) rfl
  rw [e0, zp_bs, h1, zp_bs, h2]
theorem sp_Mends {E T N : Nat} {pt : Nat → Nat → Nat} {V : Nat → Nat → Int32} {d : zw_Ct} (hT : zr_T E T N pt) (hM : zr_M E T N pt d) (hV : zr_V 84 E N V d) : zw_whl (fn_M_ends_l1 d) zw_F (V 0 0, 0, 0, 0) = some (zj_mO V E N, nI (zj_eO V E N).1, nI (zj_eO V E N).2) := by
  have hN := hT.2.2.2.2.2.1
  have hN2 := hT.2.2.2.2.1
  have hE2 := hT.1
  have hE4 := hT.2.1
  obtain ⟨x, h1, h2⟩ := zp_up (f := fn_M_ends_l1 d) (I := fun i t => t = (zj_mO V E i, nI (zj_eO V E i).1, nI (zj_eO V E i).2, nI i)) (P := fun x => x = (zj_mO V E N, nI (zj_eO V E N).1, nI (zj_eO V E N).2)) N (by unfold zw_F; omega) (fun s t hs h => by
      subst h
      refine Or.inl ⟨(zj_mO V E (s + 1), nI (zj_eO V E (s + 1)).1, nI (zj_eO V E (s + 1)).2, nI (s + 1)), ?_, rfl⟩
      obtain ⟨q, hq⟩ : ∃ q, q = zj_eO V E s := ⟨_, rfl⟩
      have hqb : q.1 < N ∧ q.2 < E := by rw [hq]; exact zj_eO_b (by omega) (by omega) s (by omega)
      obtain ⟨y, g1, g2⟩ := zp_up (f := fn_M_ends_l2 d (nI s)) (I := fun i t => t = (zj_mI V s (zj_mO V E s) i, nI (zj_eI V s q i).1, nI (zj_eI V s q i).2, nI i)) (P := fun x => x = (zj_mI V s (zj_mO V E s) E, nI (zj_eI V s q E).1, nI (zj_eI V s q E).2)) E (by unfold zw_F; omega) (fun e t he h => by
          subst h
          refine Or.inl ⟨(zj_mI V s (zj_mO V E s) (e + 1), nI (zj_eI V s q (e + 1)).1, nI (zj_eI V s q (e + 1)).2, nI (e + 1)), ?_, rfl⟩
          have hb := zj_eI_b (V := V) hs hqb e (by omega)
          unfold fn_M_ends_l2
          dsimp only
          rw [hM.1, if_pos (nI_lt he (by omega)), nI_at', zp_aI (by omega) (by omega), zp_bs, zp_bs, zp_bs, nI_at', zp_aI (by omega) (by omega), zp_bs, hV s hs e he, hV _ hb.1 _ hb.2, nI_1]
          have es : zj_eI V s q (e + 1) = if V s e < V (zj_eI V s q e).1 (zj_eI V s q e).2 then (s, e) else zj_eI V s q e := rfl
          rw [es]
          by_cases hc : V s e < V (zj_eI V s q e).1 (zj_eI V s q e).2
          · rw [if_neg (fun z => by rw [Int32.lt_iff_toInt_lt] at hc; rw [Int32.le_iff_toInt_le] at z; omega), if_pos hc]
            rfl
          · rw [if_pos (by rw [Int32.lt_iff_toInt_lt] at hc; rw [Int32.le_iff_toInt_le]; omega), if_neg hc]
            rfl) (fun t h => by
          subst h
          refine ⟨_, ?_, rfl⟩
          unfold fn_M_ends_l2
          dsimp only
          rw [hM.1, if_neg (nI_nlt (Nat.le_refl _) (by omega))]) 0 (zj_mO V E s, nI q.1, nI q.2, 0) (Nat.zero_le _) rfl
      unfold fn_M_ends_l1
      dsimp only
      rw [hM.2.2.1, if_pos (nI_lt hs (by omega)), ← hq, g1, zp_bs, g2, nI_1, hq]
      rfl) (fun t h => by
      subst h
      refine ⟨_, ?_, rfl⟩
      unfold fn_M_ends_l1
      dsimp only
      rw [hM.2.2.1, if_neg (nI_nlt (Nat.le_refl _) (by omega))]) 0 (V 0 0, 0, 0, 0) (Nat.zero_le _) rfl
  rw [h1, h2]
theorem nI_div4 {a b : Nat} (hb : b < 4) (ha : a < 10000) : nI (4 * a + b) / 4 = nI a := by
  apply Int32.toInt_inj.mp
  rw [Int32.toInt_div, nI_toInt (by omega), nI_toInt (by omega), show (4 : Int32).toInt = 4 by rfl, Int.tdiv_eq_ediv_of_nonneg (by omega)]
  exact (Int.bmod_eq_of_le (by omega) (by omega)).trans (by omega)
theorem zo_ends : zq_ends zr_Rel := by
  intro n c hn hRel a
  unfold fn_P_ends fn_M_ends
  rcases zo_pay hRel a with ⟨h1, h2⟩ | ⟨p, E, T, V, c1, hp, rfl, h1, hR, hRl, hV, hM, hlen, hisP⟩
  · refine ⟨-1, c, zw_wI c 71 9 0, ?_, ?_, zr_thr hRel⟩
    · rw [h1, zp_bs]
      dsimp only
      rw [if_pos rfl]
    · rw [zp_bs, h2, zp_bs, if_pos (by decide)]
  · have hTab := hRl.2.2.1
    have hT := zt_T hTab.1
    have hN : zt_N E T ≤ 455 := hT.2.2.2.2.2.1
    have hN2 : 2 ≤ zt_N E T := hT.2.2.2.2.1
    have hE4 := hTab.1.2.1
    have hE2 := hTab.1.1
    rw [h1, zp_bs]
    dsimp only
    obtain ⟨q, hq⟩ : ∃ q, q = zj_eO V E (zt_N E T) := ⟨_, rfl⟩
    obtain ⟨m, hm⟩ : ∃ m, m = zj_mO V E (zt_N E T) := ⟨_, rfl⟩
    have hqb : q.1 < zt_N E T ∧ q.2 < E := by rw [hq]; exact zj_eO_b (by omega) (by omega) _ (Nat.le_refl _)
    have hl := sp_least hT hTab.2.1 hlen hV
    rw [← hq] at hl
    obtain ⟨c3, a1, a2, -⟩ := zr_C.clear (c1 := c1) (c3 := c1) zr_A.rf
    obtain ⟨c4, a3, a4, -⟩ := a2.add (by decide) (V q.1 q.2).toInt64
    obtain ⟨c5, a5, a6, -⟩ := a4.add (by simp) m.toInt64
    obtain ⟨c6, a7, a8, -⟩ := a6.add (by simp) (nI q.1).toInt64
    obtain ⟨c7, a9, a10, -⟩ := a8.add (by simp) (nI q.2).toInt64
    have hA79 : zr_A c1 (zw_wI c7 71 9 0) := a10.2.wF (by decide)
    obtain ⟨d1, d2, d3, d4, d5, d6⟩ := zo_laid hTab hM a10.2
    have hD := zr_D.start d4 d5 d6
    have hg := sp_Mends hT (d4.tab hTab).2.2 d3
    rw [← hq, ← hm] at hg
    have hV84 : zr_V 84 E (zt_N E T) V (zw_wI d1 71 8 0) := fun s hs e he => by rw [zw_wI_ne (by decide)]; exact d3 s hs e he
    obtain ⟨e1, f1, f2, -⟩ := hD.tell (by decide) (V q.1 q.2).toInt64
    obtain ⟨e2, f3, f4, -⟩ := f2.tell (by simp) m.toInt64
    obtain ⟨e3, f5, f6, -⟩ := f4.tell (by simp) (nI q.1).toInt64
    obtain ⟨e4, f7, f8, -⟩ := f6.tell (by simp) (nI q.2).toInt64
    have e0 : zw_aI 1820 d1 84 0 = some (V 0 0) := (zp_aI (k := 0) (n := 1820) (by omega) (by omega)).trans (congrArg some (d3 0 (by omega) 0 (by omega)))
    refine ⟨0, c7, e4, ?_, ?_, f8.fin hRl (by simp) a10.1⟩
    · rw [if_neg (fun q => by cases q), zp_bs, hl, zp_bs, a1, zp_bs, zp_dI hlen (by omega) (by omega), zp_bs, (a2.2.V hp hV) _ hqb.1 _ hqb.2, a3, zp_bs, sp_greatestOf hT (a4.2.tab hTab).2.1 hlen (a4.2.V hp hV), zp_bs, ← hm, a5, zp_bs, nI_div4 (by omega) (by omega), a7, zp_bs, nI_4, nI_sub (by omega), show 4 * q.1 + q.2 - 4 * q.1 = q.2 by omega, a9, zp_bs]
    · rw [zp_bs, hisP _ hA79, zp_bs, if_neg (by decide), d2, zp_bs, e0, zp_bs, hg, zp_bs]
      dsimp only
      rw [zp_bs, nI_at', zp_aI (by omega) (by omega), zp_bs, hV84 _ hqb.1 _ hqb.2, f1, zp_bs, f3, zp_bs, f5, zp_bs, f7, zp_bs]
