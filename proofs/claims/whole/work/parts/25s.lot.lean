/-! lot -/
theorem L_lt (a b : Int32) : a.toInt64 < b.toInt64 ↔ a < b := by
  rw [iL, iL, lI_lt (by have := i_bd a; exact ⟨by omega, by omega⟩) (by have := i_bd b; exact ⟨by omega, by omega⟩), Int32.lt_iff_toInt_lt]
theorem sp_Mlot {E T N : Nat} {pt : Nat → Nat → Nat} {V : Nat → Nat → Int32} {d : zw_Ct} (hT : zr_T E T N pt) (hM : zr_M E T N pt d) (hV : zr_V 84 E N V d) : zw_whl (fn_M_lot_l1 d) zw_F ((V 0 0).toInt64, (V 0 0).toInt64, 0) = some ((V (zj_eO V E N).1 (zj_eO V E N).2).toInt64, (zj_mO V E N).toInt64) := by
  have hN := hT.2.2.2.2.2.1
  have hN2 := hT.2.2.2.2.1
  have hE2 := hT.1
  have hE4 := hT.2.1
  obtain ⟨x, h1, h2⟩ := zp_up (f := fn_M_lot_l1 d) (I := fun i t => t = ((V (zj_eO V E i).1 (zj_eO V E i).2).toInt64, (zj_mO V E i).toInt64, nI i)) (P := fun x => x = ((V (zj_eO V E N).1 (zj_eO V E N).2).toInt64, (zj_mO V E N).toInt64)) N (by unfold zw_F; omega) (fun s t hs h => by
      subst h
      refine Or.inl ⟨((V (zj_eO V E (s + 1)).1 (zj_eO V E (s + 1)).2).toInt64, (zj_mO V E (s + 1)).toInt64, nI (s + 1)), ?_, rfl⟩
      obtain ⟨q, hq⟩ : ∃ q, q = zj_eO V E s := ⟨_, rfl⟩
      have hqb : q.1 < N ∧ q.2 < E := by rw [hq]; exact zj_eO_b (by omega) (by omega) s (by omega)
      obtain ⟨y, g1, g2⟩ := zp_up (f := fn_M_lot_l2 d (nI s)) (I := fun i t => t = ((V (zj_eI V s q i).1 (zj_eI V s q i).2).toInt64, (zj_mI V s (zj_mO V E s) i).toInt64, nI i)) (P := fun x => x = ((V (zj_eI V s q E).1 (zj_eI V s q E).2).toInt64, (zj_mI V s (zj_mO V E s) E).toInt64)) E (by unfold zw_F; omega) (fun e t he h => by
          subst h
          refine Or.inl ⟨((V (zj_eI V s q (e + 1)).1 (zj_eI V s q (e + 1)).2).toInt64, (zj_mI V s (zj_mO V E s) (e + 1)).toInt64, nI (e + 1)), ?_, rfl⟩
          have hb := zj_eI_b (V := V) hs hqb e (by omega)
          unfold fn_M_lot_l2
          dsimp only
          rw [hM.1, if_pos (nI_lt he (by omega)), nI_at', zp_aI (by omega) (by omega), zp_bs, zp_bs, zp_bs, zp_bs, hV s hs e he, nI_1]
          have es : zj_eI V s q (e + 1) = if V s e < V (zj_eI V s q e).1 (zj_eI V s q e).2 then (s, e) else zj_eI V s q e := rfl
          have em : zj_mI V s (zj_mO V E s) (e + 1) = if zj_mI V s (zj_mO V E s) e < V s e then V s e else zj_mI V s (zj_mO V E s) e := rfl
          have k1 : (if (V s e).toInt64 < (V (zj_eI V s q e).1 (zj_eI V s q e).2).toInt64 then (V s e).toInt64 else (V (zj_eI V s q e).1 (zj_eI V s q e).2).toInt64) = (V (zj_eI V s q (e + 1)).1 (zj_eI V s q (e + 1)).2).toInt64 := by
            rw [es]
            by_cases hc : V s e < V (zj_eI V s q e).1 (zj_eI V s q e).2
            · rw [if_pos ((L_lt _ _).mpr hc), if_pos hc]
            · rw [if_neg (fun z => hc ((L_lt _ _).mp z)), if_neg hc]
          have k2 : (if (V s e).toInt64 < (zj_mI V s (zj_mO V E s) e).toInt64 then (zj_mI V s (zj_mO V E s) e).toInt64 else (V s e).toInt64) = (zj_mI V s (zj_mO V E s) (e + 1)).toInt64 := by
            rw [em]
            by_cases hc : V s e < zj_mI V s (zj_mO V E s) e
            · rw [if_pos ((L_lt _ _).mpr hc), if_neg (fun z => by rw [Int32.lt_iff_toInt_lt] at hc z; omega)]
            · rw [if_neg (fun z => hc ((L_lt _ _).mp z))]
              by_cases hd : zj_mI V s (zj_mO V E s) e < V s e
              · rw [if_pos hd]
              · rw [if_neg hd]
                exact congrArg Int32.toInt64 (Int32.toInt_inj.mp (by rw [Int32.lt_iff_toInt_lt] at hc hd; omega))
          rw [k1, k2]) (fun t h => by
          subst h
          refine ⟨_, ?_, rfl⟩
          unfold fn_M_lot_l2
          dsimp only
          rw [hM.1, if_neg (nI_nlt (Nat.le_refl _) (by omega))]) 0 ((V q.1 q.2).toInt64, (zj_mO V E s).toInt64, 0) (Nat.zero_le _) rfl
      unfold fn_M_lot_l1
      dsimp only
      rw [hM.2.2.1, if_pos (nI_lt hs (by omega)), ← hq, g1, zp_bs, g2, nI_1, hq]
      rfl) (fun t h => by
      subst h
      refine ⟨_, ?_, rfl⟩
      unfold fn_M_lot_l1
      dsimp only
      rw [hM.2.2.1, if_neg (nI_nlt (Nat.le_refl _) (by omega))]) 0 ((V 0 0).toInt64, (V 0 0).toInt64, 0) (Nat.zero_le _) rfl
  rw [h1, h2]
theorem zo_lot : zq_lot zr_Rel := by
  intro n c hn hRel a s t
  unfold fn_P_lot fn_M_lot
  have w1 : fn_M_in s.toInt64 (-9999) 9999 = fn_P_within s (-9999) 9999 := in_within s (-9999) 9999
  have w2 : fn_M_in t.toInt64 1 9999 = fn_P_within t 1 9999 := in_within t 1 9999
  rw [w1, w2]
  rcases zo_pay hRel a with ⟨h1, h2⟩ | ⟨p, E, T, V, c1, hp, rfl, h1, hR, hRl, hV, hM, hlen, hisP⟩
  · refine ⟨-1, c, zw_wI c 71 9 0, ?_, ?_, zr_thr hRel⟩
    · rw [h1, zp_bs]
      dsimp only
      rw [if_pos (Or.inl (Or.inl rfl))]
    · rw [zp_bs, h2, zp_bs, if_pos (Or.inl (Or.inl (by decide)))]
  · have hTab := hRl.2.2.1
    have hT := zt_T hTab.1
    have hN : zt_N E T ≤ 455 := hT.2.2.2.2.2.1
    have hN2 : 2 ≤ zt_N E T := hT.2.2.2.2.1
    have hE4 := hTab.1.2.1
    have hE2 := hTab.1.1
    have hRel1 : zr_Rel n c1 := ⟨hR, E, T, hRl⟩
    rw [h1, zp_bs]
    dsimp only
    by_cases hc : ((((some (54 + p) : Option Nat) = none) ∨ (¬ (¬ (fn_P_within s (-9999) 9999) = 0))) ∨ (¬ (¬ (fn_P_within t 1 9999) = 0)))
    · have hA9 : zr_A c1 (zw_wI c1 71 9 0) := zr_A.rf.wF (by decide)
      refine ⟨-1, c1, zw_wI c1 71 9 0, by rw [if_pos hc], ?_, zr_thr hRel1⟩
      rw [zp_bs, hisP _ hA9, zp_bs, if_pos]
      rcases hc with (h | h) | h
      · cases h
      · exact Or.inl (Or.inr h)
      · exact Or.inr h
    · obtain ⟨q, hq⟩ : ∃ q, q = zj_eO V E (zt_N E T) := ⟨_, rfl⟩
      obtain ⟨m, hm⟩ : ∃ m, m = zj_mO V E (zt_N E T) := ⟨_, rfl⟩
      have hqb : q.1 < zt_N E T ∧ q.2 < E := by rw [hq]; exact zj_eO_b (by omega) (by omega) _ (Nat.le_refl _)
      have hl := sp_least hT hTab.2.1 hlen hV
      rw [← hq] at hl
      obtain ⟨c3, a1, a2, -⟩ := zr_C.clear (c1 := c1) (c3 := c1) zr_A.rf
      obtain ⟨c4, a3, a4, -⟩ := a2.add (by decide) (-(V q.1 q.2).toInt64)
      obtain ⟨c5, a5, a6, -⟩ := a4.add (by simp) (m.toInt64 - (V q.1 q.2).toInt64)
      have hA59 : zr_A c1 (zw_wI c5 71 9 0) := a6.2.wF (by decide)
      obtain ⟨d1, d2, d3, d4, d5, d6⟩ := zo_laid hTab hM a6.2
      have hD := zr_D.start d4 d5 d6
      have hg := sp_Mlot hT (d4.tab hTab).2.2 d3
      rw [← hq, ← hm] at hg
      obtain ⟨e1, f1, f2, -⟩ := hD.tell (by decide) (-(V q.1 q.2).toInt64)
      obtain ⟨e2, f3, f4, -⟩ := f2.tell (by simp) (m.toInt64 - (V q.1 q.2).toInt64)
      have e0 : zw_aI 1820 d1 84 0 = some (V 0 0) := (zp_aI (k := 0) (n := 1820) (by omega) (by omega)).trans (congrArg some (d3 0 (by omega) 0 (by omega)))
      refine ⟨if ((0 ≤ ((V q.1 q.2).toInt64 + s.toInt64)) ∧ ((m.toInt64 + s.toInt64) ≤ t.toInt64)) then (1 : Int32) else 0, c5, e2, ?_, ?_, f4.fin hRl (by simp) a6.1⟩
      · rw [if_neg hc, zp_bs, zp_bs, hl, zp_bs, zp_dI hlen (by omega) (by omega), zp_bs, zp_bs, hV _ hqb.1 _ hqb.2, sp_greatestOf hT hTab.2.1 hlen hV, zp_bs, zp_bs, ← hm, a1, zp_bs, a3, zp_bs, a5, zp_bs]
      · rw [zp_bs, hisP _ hA59, zp_bs, if_neg (by
          rintro ((h | h) | h)
          · exact h (by decide)
          · exact hc (Or.inl (Or.inr h))
          · exact hc (Or.inr h)), d2, zp_bs, e0, zp_bs, zp_bs, zp_bs, zp_bs, hg, zp_bs]
        dsimp only
        rw [zp_bs, f1, zp_bs, f3, zp_bs]
