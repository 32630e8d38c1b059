/-! rows told on both sides; loses, could, bends, best -/
def zr_C (l : List Int64) (c1 c3 : zw_Ct) : Prop := zr_Rw l c3 ∧ zr_A c1 c3
def zr_D (l : List Int64) (c1 c3 d : zw_Ct) : Prop := zr_Rm l d ∧ zr_A c1 d ∧ d.1 61 = c3.1 61 ∧ d.2 62 = c3.2 62
theorem zr_A.V {E N p : Nat} {V : Nat → Nat → Int32} {c d : zw_Ct} (hA : zr_A c d) (hp : p < 4) (h : zr_V (54 + p) E N V c) : zr_V (54 + p) E N V d := fun s hs e he => by
  have e1 : d.1 (54 + p) = c.1 (54 + p) := by rcases (show p = 0 ∨ p = 1 ∨ p = 2 ∨ p = 3 by omega) with rfl | rfl | rfl | rfl <;> exact hA.1 _ (by decide) (by decide)
  rw [e1]; exact h s hs e he
theorem zo_laid {E T p : Nat} {V : Nat → Nat → Int32} {c1 c3 : zw_Ct} (hTab : zr_Tab E T c1) (hM : zv_M E T p V c1) (hA3 : zr_A c1 c3) : ∃ d1, fn_M_layPay (zw_wI c3 71 9 0) (nI p) = some d1 ∧ zr_V 84 E (zt_N E T) V d1 ∧ zr_A c1 d1 ∧ d1.1 61 = c3.1 61 ∧ d1.2 = c3.2 := by
  have hA39 : zr_A c1 (zw_wI c3 71 9 0) := hA3.wF (by decide)
  obtain ⟨d1, d2, d3, d4, d5, d6⟩ := sp_layPay hTab hM hA39
  exact ⟨d1, d2, d3, ⟨fun k k1 k2 => (d4 k k2 (fun e => k1 (by rw [e]; decide))).trans (hA39.1 k k1 k2), fun j hj => (d5 j hj).trans (hA39.2 j hj)⟩, by rw [d4 61 (by decide) (by decide), zw_wI_ne (by decide)], d6⟩
theorem zr_D.start {c1 c3 d1 : zw_Ct} (hA : zr_A c1 d1) (h1 : d1.1 61 = c3.1 61) (h2 : d1.2 = c3.2) : zr_D [] c1 c3 (zw_wI d1 71 8 0) := ⟨sp_clearM d1, hA.wF (by decide), by rw [zw_wI_ne (by decide)]; exact h1, by rw [← h2]; rfl⟩
theorem zr_D.tell {l : List Int64} {c1 c3 d : zw_Ct} (h : zr_D l c1 c3 d) (hl : l.length < 16) (z : Int64) : ∃ d', fn_M_tell d z = some d' ∧ zr_D (l ++ [z]) c1 c3 d' ∧ (∀ k, k ≠ 71 → d'.1 k = d.1 k) := by
  obtain ⟨c2, a1, a2, a3, a5, a4⟩ := sp_tell h.1 (by omega) z
  exact ⟨c2, a1, ⟨a2, h.2.1.tr (zr_A.of71 a3 (fun j hj => a5 j (fun e => hj (by rw [e]; decide)))), (a3 61 (by decide)).trans h.2.2.1, (a4 62 (by decide)).trans h.2.2.2⟩, a3⟩
theorem zr_D.fin {n E T : Nat} {l : List Int64} {c1 c3 d : zw_Ct} (h : zr_D l c1 c3 d) (hRl : zr_Rl n E T c1) (hl : l.length ≤ 16) (hw : zr_Rw l c3) : zr_Rel (n + 1) d := zr_fin hRl h.2.1 hl (hw.fr h.2.2.1 h.2.2.2) h.1
theorem zr_C.clear {c1 c3 : zw_Ct} (hA : zr_A c1 c3) : ∃ c2, fn_Row_clear c3 = some c2 ∧ zr_C [] c1 c2 ∧ c2.2 = c3.2 := by
  obtain ⟨c2, a1, a2, a3, a4⟩ := sp_clear c3
  exact ⟨c2, a1, ⟨a2, hA.tr (zr_A.of61 a3)⟩, a4⟩
theorem zr_C.add {l : List Int64} {c1 c3 : zw_Ct} (h : zr_C l c1 c3) (hl : l.length < 16) (z : Int64) : ∃ c4, fn_Row_add c3 z = some c4 ∧ zr_C (l ++ [z]) c1 c4 ∧ c4.2 12 = c3.2 12 := by
  obtain ⟨c4, b1, b2, b3, b4⟩ := sp_add h.1 hl z
  exact ⟨c4, b1, ⟨b2, h.2.tr (zr_A.of61 b3)⟩, b4 12 (by decide)⟩
theorem zo_len {p : Nat} (hp : p < 4) : zw_len SH 0 (54 + p) = some 1820 := by
  rcases (show p = 0 ∨ p = 1 ∨ p = 2 ∨ p = 3 by omega) with rfl | rfl | rfl | rfl <;> rfl
theorem zo_loses : zq_loses zr_Rel := by
  intro n c hn hRel a s t
  unfold fn_P_loses fn_M_loses
  rcases zo_pay hRel a with ⟨h1, h2⟩ | ⟨p, E, T, V, c1, hp, rfl, h1, hR, hRl, hV, hM, hlen, hisP⟩
  · refine ⟨-1, c, zw_wI c 71 9 0, ?_, ?_, zr_thr hRel⟩
    · rw [h1, zp_bs]
      dsimp only
      rw [if_pos (Or.inl (Or.inl rfl))]
    · rw [zp_bs, h2, zp_bs, if_pos (Or.inl (Or.inl (by decide)))]
  · have hTab := hRl.2.2.1
    have hT := zt_T hTab.1
    have hRel1 : zr_Rel n c1 := ⟨hR, E, T, hRl⟩
    rw [h1, zp_bs]
    dsimp only
    by_cases hc : ((((some (54 + p) : Option Nat) = none) ∨ (¬ (¬ (fn_Sayings_has c1 s) = 0))) ∨ (¬ (¬ (fn_Sayings_has c1 t) = 0)))
    · have hA9 : zr_A c1 (zw_wI c1 71 9 0) := zr_A.rf.wF (by decide)
      refine ⟨-1, c1, zw_wI c1 71 9 0, by rw [if_pos hc], ?_, zr_thr hRel1⟩
      rw [zp_bs, hisP _ hA9, zp_bs, zr_isSaying (hA9.tab hTab), zr_isSaying (hA9.tab hTab), ← zr_has hTab, ← zr_has hTab, if_pos]
      rcases hc with (h | h) | h
      · cases h
      · exact Or.inl (Or.inr h)
      · exact Or.inr h
    · obtain ⟨sj, hsj, rfl⟩ := has_n (zt_N31 hTab.1) (s := s) (fun q => hc (Or.inl (Or.inr (fun z => z (by rw [zr_has hTab]; exact q)))))
      obtain ⟨tj, htj, rfl⟩ := has_n (zt_N31 hTab.1) (s := t) (fun q => hc (Or.inr (fun z => z (by rw [zr_has hTab]; exact q))))
      have hb := zs_w_bd (V := V) hT (s := sj) htj
      have hb2 := zs_w_bd (V := V) hT (s := zs_top (fun s => zs_w E (zt_p E T) V s tj) (zt_N E T)) htj
      have hT12 := hTab.1.2.2.2
      have hT1 := hTab.1.2.2.1
      obtain ⟨q, r, hq1, hq2⟩ := sp_frac (u := zs_w E (zt_p E T) V (zs_top (fun s => zs_w E (zt_p E T) V s tj) (zt_N E T)) tj - zs_w E (zt_p E T) V sj tj) (by omega) (by omega) (m := T) hT1 (by omega)
      obtain ⟨c2, g1, g2, g3, -⟩ := sp_great hT hTab.2.1 hlen hV htj
      have hA2 : zr_A c1 c2 := zr_A.eq g2
      obtain ⟨c3, a1, a2, -⟩ := zr_C.clear hA2
      obtain ⟨c4, b1, b2, b3, -⟩ := hq1 [] c3 a2.1 (by decide)
      have hA4 : zr_A c1 c4 := a2.2.tr (zr_A.of61 b3)
      have hA49 : zr_A c1 (zw_wI c4 71 9 0) := hA4.wF (by decide)
      obtain ⟨d1, d2, d3, d4, d5, d6⟩ := zo_laid hTab hM hA4
      have hD := zr_D.start d4 d5 d6
      have hV84 : zr_V 84 E (zt_N E T) V (zw_wI d1 71 8 0) := fun s hs e he => by rw [zw_wI_ne (by decide)]; exact d3 s hs e he
      have hTD := hD.2.1.tab hTab
      obtain ⟨d7, f1, f2, f3, f5, f4⟩ := hq2 [] (zw_wI d1 71 8 0) hD.1 (by decide)
      have hD7 : zr_D (([] ++ [q]) ++ [r]) c1 c4 d7 := ⟨f2, hD.2.1.tr (zr_A.of71 f3 (fun j hj => f5 j (fun e => hj (by rw [e]; decide)))), (f3 61 (by decide)).trans hD.2.2.1, (f4 62 (by decide)).trans hD.2.2.2⟩
      refine ⟨0, c4, d7, ?_, ?_, hD7.fin hRl (by simp) b2⟩
      · rw [if_neg hc, zp_bs, g1, zp_bs]
        dsimp only
        rw [sp_worth hT (hA2.tab hTab).2.1 hlen (hA2.V hp hV) hsj htj, zp_bs, zp_bs, a1, zp_bs, (a2.2.tab hTab).2.1.2.1, nL (by omega), lI_sub, b1, zp_bs]
      · rw [zp_bs, hisP _ hA49, zp_bs, zr_isSaying (hA49.tab hTab), zr_isSaying (hA49.tab hTab), ← zr_has hTab, ← zr_has hTab, if_neg (by
          rintro ((h | h) | h)
          · exact h (by decide)
          · exact hc (Or.inl (Or.inr h))
          · exact hc (Or.inr h)), d2, zp_bs, zp_bs, sp_Mbest hT hTD.2.2 hV84 htj, zp_bs, sp_Mworth hT hTD.2.2 hV84 hsj htj, zp_bs, hTD.2.2.2.1, nL (by omega), lI_sub, f1, zp_bs]
theorem zo_gets : zq_gets zr_Rel := by
  intro n c hn hRel a s e
  unfold fn_P_gets
  have no : ∀ (c1 : zw_Ct), zr_Rel n c1 → ¬ (((¬ (fn_M_isPay (zw_wI c1 71 9 0) a).getD 0 = 0) ∧ (¬ (fn_M_isSaying (zw_wI c1 71 9 0) s) = 0)) ∧ (¬ (fn_M_isEvent (zw_wI c1 71 9 0) e) = 0)) → (∃ b, fn_M_isPay (zw_wI c1 71 9 0) a = some b) → ∃ c2, fn_M_gets (fw_gets c1 none) a s e = some (0, c2) ∧ fn_M_thrown c2 = fk_gets none ∧ zr_Rel (n + 1) c2 := by
    rintro c1 hR1 hno ⟨b, hb⟩
    have hno' : ¬ (((¬ b = 0) ∧ (¬ (fn_M_isSaying (zw_wI c1 71 9 0) s) = 0)) ∧ (¬ (fn_M_isEvent (zw_wI c1 71 9 0) e) = 0)) := by rw [hb] at hno; exact hno
    refine ⟨zw_wI (zw_wI c1 71 9 0) 71 9 1, ?_, ?_, ?_⟩
    · unfold fn_M_gets fw_gets
      dsimp only
      rw [zp_bs, hb, zp_bs, if_neg hno']
      rfl
    · unfold fn_M_thrown fk_gets
      rw [zw_wI_eq]
    · obtain ⟨a1, E', T', a2⟩ := zr_thr (v := 0) hR1
      exact ⟨a1.fr (by rw [zw_wI_ne (by decide)]) (zw_wI_at (by decide)) rfl rfl, E', T', a2.fr (zr_A.rf.wF (by decide))⟩
  rcases zo_pay hRel a with ⟨h1, h2⟩ | ⟨p, E, T, V, c1, hp, rfl, h1, hR, hRl, hV, hM, hlen, hisP⟩
  · obtain ⟨c2, x1, x2, x3⟩ := no c hRel (by rw [h2]; exact fun q => q.1.1 rfl) ⟨_, h2⟩
    refine ⟨none, c, 0, c2, ?_, x1, x2, (fun v hv => by cases hv), x3⟩
    rw [h1, zp_bs]
    dsimp only
    rw [if_pos (Or.inl (Or.inl rfl))]
  · have hTab := hRl.2.2.1
    have hRel1 : zr_Rel n c1 := ⟨hR, E, T, hRl⟩
    rw [h1, zp_bs]
    dsimp only
    have hA9 : zr_A c1 (zw_wI c1 71 9 0) := zr_A.rf.wF (by decide)
    by_cases hc : ((((some (54 + p) : Option Nat) = none) ∨ (¬ (¬ (fn_Sayings_has c1 s) = 0))) ∨ (¬ (¬ (fn_Sayings_hasEvent c1 e) = 0)))
    · obtain ⟨c2, x1, x2, x3⟩ := no c1 hRel1 (by
        rw [zr_isSaying (hA9.tab hTab), zr_isEvent (hA9.tab hTab), ← zr_has hTab, ← zr_hasE hTab]
        rintro ⟨⟨-, q1⟩, q2⟩
        rcases hc with (h | h) | h
        · cases h
        · exact h q1
        · exact h q2) ⟨_, hisP _ hA9⟩
      exact ⟨none, c1, 0, c2, by rw [if_pos hc], x1, x2, (fun v hv => by cases hv), x3⟩
    · have k1 : ¬ fn_Sayings_has c1 s = 0 := fun q => hc (Or.inl (Or.inr (fun z => z q)))
      have k2 : ¬ fn_Sayings_hasEvent c1 e = 0 := fun q => hc (Or.inr (fun z => z q))
      obtain ⟨sj, hsj, rfl⟩ := has_n (zt_N31 hTab.1) (s := s) (by rw [← zr_has hTab]; exact k1)
      obtain ⟨ej, hej, rfl⟩ := has_n (N := E) (by have := hTab.1.2.1; omega) (s := e) (by rw [← zr_hasE hTab]; exact k2)
      have hE4 := hTab.1.2.1
      have hN' : zt_N E T ≤ 455 := (zt_ok hTab.1).2.1
      have hA : zr_A c1 (zw_wI (zw_wL c1 100 0 (V sj ej).toInt64) 71 9 0) := zr_A.wF (by decide) (zr_A.wL zr_A.rf)
      obtain ⟨d', g1, g2, g3, g4, g5, g6⟩ := hM _ hA sj hsj ej hej
      have hAd : zr_A c1 d' := hA.tr (zr_A.of71 g2 g3)
      have hTA := hA.tab hTab
      refine ⟨some (V sj ej), c1, V sj ej, d', ?_, ?_, ?_, fun v hv => ?_, ?_⟩
      · rw [if_neg hc, zp_bs, nI_at, zp_dI hlen (by omega) (by omega), zp_bs, hV sj hsj ej hej]
      · unfold fn_M_gets fw_gets
        dsimp only
        rw [zp_bs, hisP _ hA, zp_bs, zr_isSaying hTA, zr_isEvent hTA, ← zr_has hTab, ← zr_hasE hTab, if_pos ⟨⟨by decide, k1⟩, k2⟩, g1, zp_bs, zp_bs]
      · unfold fn_M_thrown fk_gets
        rw [g5, zw_wI_eq]
      · cases hv
        rw [g4]
        exact (zw_wL_eq : (zw_wL c1 100 0 _).2 100 0 = _)
      · refine ⟨hR.fr ((congrFun (g2 61 (by decide)) 1).trans (by rw [zw_wI_ne (by decide)])) (g6.trans (zw_wI_at (by decide))) (by rw [g4]; exact zw_wL_ne (c := c1) (k := 100) (i := 0) (v := (V sj ej).toInt64) (j := 62) (by decide)) (by rw [g4]; exact zw_wL_ne (c := c1) (k := 100) (i := 0) (v := (V sj ej).toInt64) (j := 75) (by decide)), E, T, (hRl.fr hAd).up (Nat.le_succ n)⟩
