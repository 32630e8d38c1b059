/-! decide -/
def zj_cm (E T : Nat) (least : Int32) (t1 t2 s : Nat) : Nat := if least ≤ nI (zt_p E T s 0) then t1 else t2
theorem zj_cm_lt {E T N : Nat} {least : Int32} {t1 t2 s : Nat} (h1 : t1 < N) (h2 : t2 < N) : zj_cm E T least t1 t2 s < N := by
  unfold zj_cm
  split
  · exact h1
  · exact h2
def zj_tr (g : Nat → Int) (cm : Nat → Nat) : Nat → Int64 × Int32
  | 0 => (-1000000000, 0)
  | s + 1 => if ((nI s = nI (cm s)) ∧ ((¬ (¬ (zj_tr g cm s).2 = 0)) ∨ ((zj_tr g cm s).1 < lI (g s)))) then (lI (g s), 1) else zj_tr g cm s
theorem zj_tr_s (g : Nat → Int) (cm : Nat → Nat) (s : Nat) : zj_tr g cm (s + 1) = if ((nI s = nI (cm s)) ∧ ((¬ (¬ (zj_tr g cm s).2 = 0)) ∨ ((zj_tr g cm s).1 < lI (g s)))) then (lI (g s), 1) else zj_tr g cm s := rfl
theorem sp_decidesFirst {E T s : Nat} {least : Int32} {c : zw_Ct} (hTab : zr_Tab E T c) (hs : s < zt_N E T) : fn_Chooser_decidesFirst c (nI s) least = some (if least ≤ nI (zt_p E T s 0) then (1 : Int32) else 0) := by
  have hN : zt_N E T ≤ 455 := (zt_ok hTab.1).2.1
  have e2 : c.1 2 (4 * s + 0) = nI (zt_p E T s 0) := hTab.2.1.2.2.2 s hs 0 (by omega)
  have ea : zw_aI 1820 c 2 (nI s * 4 + 0) = some (nI (zt_p E T s 0)) := by
    have : nI s * 4 + 0 = nI (4 * s + 0) := nI_at s 0
    rw [this, zp_aI (by omega) (by omega), e2]
  unfold fn_Chooser_decidesFirst fn_Sayings_partOf
  rw [ea, zp_bs, zp_bs]
theorem zj_comes {E T : Nat} {least : Int32} {t1 t2 s : Nat} : (if ¬ (if least ≤ nI (zt_p E T s 0) then (1 : Int32) else 0) = 0 then nI t1 else nI t2) = nI (zj_cm E T least t1 t2 s) := by
  unfold zj_cm
  by_cases h : least ≤ nI (zt_p E T s 0)
  · rw [if_pos h, if_pos (by decide), if_pos h]
  · rw [if_neg h, if_neg (fun q => q rfl), if_neg h]
theorem sp_decided {E T v t1 t2 : Nat} {least : Int32} {V : Nat → Nat → Int32} {c : zw_Ct} (hTab : zr_Tab E T c) (hv : zw_len SH 0 v = some 1820) (hV : zr_V v E (zt_N E T) V c) (h1 : t1 < zt_N E T) (h2 : t2 < zt_N E T) : ∃ c2, zw_whl (fn_Chooser_tellDecided_l1 least (nI t1) (nI t2) v) zw_F (-1000000000, 0, 0, c) = some ((zj_tr (fun s => zs_w E (zt_p E T) V s (zj_cm E T least t1 t2 s)) (zj_cm E T least t1 t2) (zt_N E T)).1, (zj_tr (fun s => zs_w E (zt_p E T) V s (zj_cm E T least t1 t2 s)) (zj_cm E T least t1 t2) (zt_N E T)).2, c2) ∧ c2.1 = c.1 ∧ zr_Y (zt_N E T) (fun s => zs_w E (zt_p E T) V s (zj_cm E T least t1 t2 s)) c2 := by
  have hT := zt_T hTab.1
  have hN : zt_N E T ≤ 455 := (zt_ok hTab.1).2.1
  obtain ⟨g, hg⟩ : ∃ g, g = fun s => zs_w E (zt_p E T) V s (zj_cm E T least t1 t2 s) := ⟨_, rfl⟩
  rw [← hg]
  obtain ⟨x, a1, a2, a3, a4⟩ := zp_up (f := fn_Chooser_tellDecided_l1 least (nI t1) (nI t2) v) (I := fun i t => ∃ c', t = ((zj_tr g (zj_cm E T least t1 t2) i).1, (zj_tr g (zj_cm E T least t1 t2) i).2, nI i, c') ∧ c'.1 = c.1 ∧ ∀ s, s < i → c'.2 12 s = lI (g s)) (P := fun x => x = ((zj_tr g (zj_cm E T least t1 t2) (zt_N E T)).1, (zj_tr g (zj_cm E T least t1 t2) (zt_N E T)).2, x.2.2) ∧ x.2.2.1 = c.1 ∧ zr_Y (zt_N E T) g x.2.2) (zt_N E T) (by unfold zw_F; omega) (fun i t hi h => by
      obtain ⟨c', rfl, e1, e2⟩ := h
      have hTab' : zr_Tab E T c' := (zr_A.eq e1).tab hTab
      have hV' : zr_V v E (zt_N E T) V c' := by unfold zr_V; rw [e1]; exact hV
      refine Or.inl ⟨((zj_tr g (zj_cm E T least t1 t2) (i + 1)).1, (zj_tr g (zj_cm E T least t1 t2) (i + 1)).2, nI (i + 1), zw_wL c' 12 i (lI (g i))), ?_, _, rfl, e1, fun s hs => ?_⟩
      · unfold fn_Chooser_tellDecided_l1
        dsimp only
        have eg : zs_w E (zt_p E T) V i (zj_cm E T least t1 t2 i) = g i := by rw [hg]
        rw [hTab'.2.1.2.2.1, if_pos (nI_lt hi (by omega)), sp_decidesFirst hTab' hi, zp_bs, zp_bs, zj_comes, sp_worth hT hTab'.2.1 hv hV' hi (zj_cm_lt h1 h2), zp_bs, eg, zp_uL (by omega) (by omega), zp_bs, nI_1, zj_tr_s]
        by_cases hc : ((nI i = nI (zj_cm E T least t1 t2 i)) ∧ ((¬ (¬ (zj_tr g (zj_cm E T least t1 t2) i).2 = 0)) ∨ ((zj_tr g (zj_cm E T least t1 t2) i).1 < lI (g i))))
        · rw [if_pos hc, zp_bs, if_pos hc]
        · rw [if_neg hc, zp_bs, if_neg hc]
      · by_cases hq : s = i
        · rw [hq, zw_wL_eq]
        · rw [zw_wL_at hq]; exact e2 s (by omega)) (fun t h => by
      obtain ⟨c', rfl, e1, e2⟩ := h
      refine ⟨((zj_tr g (zj_cm E T least t1 t2) (zt_N E T)).1, (zj_tr g (zj_cm E T least t1 t2) (zt_N E T)).2, c'), ?_, rfl, e1, e2⟩
      unfold fn_Chooser_tellDecided_l1
      dsimp only
      rw [show c'.1 1 2 = nI (zt_N E T) by rw [e1]; exact hTab.2.1.2.2.1, if_neg (nI_nlt (Nat.le_refl _) (by omega))]) 0 (-1000000000, 0, 0, c) (Nat.zero_le _) ⟨c, rfl, rfl, fun s hs => by omega⟩
  exact ⟨x.2.2, by rw [a1, ← a2], a3, a4⟩
def zj_dm (g : Nat → Int) (i : Nat) : Int64 := if i = 0 then 0 else lI (g (zs_top g i))
def zj_dj (g : Nat → Int) (cm : Nat → Nat) (i : Nat) : Int32 := if i = 0 then 0 else if nI (zs_top g i) = nI (cm (zs_top g i)) then 1 else 0
theorem sp_Mdecided {E T t1 t2 : Nat} {least : Int32} {V : Nat → Nat → Int32} {d : zw_Ct} (hTab : zr_Tab E T d) (hV : zr_V 84 E (zt_N E T) V d) (h1 : t1 < zt_N E T) (h2 : t2 < zt_N E T) {g : Nat → Int} (hg : g = fun s => zs_w E (zt_p E T) V s (zj_cm E T least t1 t2 s)) {cm : Nat → Nat} (hcm : cm = zj_cm E T least t1 t2) : zw_whl (fn_M_decide_l1 d least (nI t1) (nI t2)) zw_F (-1000000000, 0, 0, 0, 0, 0) = some ((zj_tr g cm (zt_N E T)).1, (zj_tr g cm (zt_N E T)).2, nI (zs_top g (zt_N E T)), zj_dm g (zt_N E T), zj_dj g cm (zt_N E T)) := by
  have hT := zt_T hTab.1
  have hN : zt_N E T ≤ 455 := (zt_ok hTab.1).2.1
  have zg : ∀ s, zb (g s) := fun s => by rw [hg]; exact zs_w_zb hT (zj_cm_lt h1 h2)
  obtain ⟨x, a1, a2⟩ := zp_up (f := fn_M_decide_l1 d least (nI t1) (nI t2)) (I := fun i t => t = ((zj_tr g cm i).1, (zj_tr g cm i).2, nI (zs_top g i), zj_dm g i, zj_dj g cm i, nI i)) (P := fun x => x = ((zj_tr g cm (zt_N E T)).1, (zj_tr g cm (zt_N E T)).2, nI (zs_top g (zt_N E T)), zj_dm g (zt_N E T), zj_dj g cm (zt_N E T))) (zt_N E T) (by unfold zw_F; omega) (fun i t hi h => by
      subst h
      refine Or.inl ⟨((zj_tr g cm (i + 1)).1, (zj_tr g cm (i + 1)).2, nI (zs_top g (i + 1)), zj_dm g (i + 1), zj_dj g cm (i + 1), nI (i + 1)), ?_, rfl⟩
      have eg : zs_w E (zt_p E T) V i (cm i) = g i := by rw [hg, hcm]
      have ec : (if least ≤ nI (zt_p E T i 0) then nI t1 else nI t2) = nI (cm i) := by
        rw [hcm]
        unfold zj_cm
        split <;> rfl
      have e0 : d.1 72 (4 * i) = nI (zt_p E T i 0) := hTab.2.2.2.2.2 i hi 0 (by omega)
      have ecm : cm i < zt_N E T := by rw [hcm]; exact zj_cm_lt h1 h2
      unfold fn_M_decide_l1
      dsimp only
      rw [hTab.2.2.2.2.1, if_pos (nI_lt hi (by omega)), nI_4', zp_aI (by omega) (by omega), zp_bs, zp_bs, e0, ec, sp_Mworth hT hTab.2.2 hV hi ecm, zp_bs, eg, nI_1]
      have eA : (if ((nI i = nI (cm i)) ∧ ((¬ (¬ (zj_tr g cm i).2 = 0)) ∨ ((zj_tr g cm i).1 < lI (g i)))) then some (lI (g i), (1 : Int32)) else some ((zj_tr g cm i).1, (zj_tr g cm i).2)) = some ((zj_tr g cm (i + 1)).1, (zj_tr g cm (i + 1)).2) := by
        rw [zj_tr_s]
        split <;> rfl
      rw [eA, zp_bs]
      dsimp only
      have hm1 : zj_dm g (i + 1) = lI (g (zs_top g (i + 1))) := if_neg (by omega)
      have hj1 : zj_dj g cm (i + 1) = if nI (zs_top g (i + 1)) = nI (cm (zs_top g (i + 1))) then 1 else 0 := if_neg (by omega)
      by_cases h0 : i = 0
      · subst h0
        rw [hm1, hj1, zs_top_1, if_neg (fun q => absurd q.1 (by decide)), zp_bs]
      · have hm0 : zj_dm g i = lI (g (zs_top g i)) := if_neg h0
        have hj0 : zj_dj g cm i = if nI (zs_top g i) = nI (cm (zs_top g i)) then 1 else 0 := if_neg h0
        have hp : (0 : Int32) < nI i := nI_lt (a := 0) (by omega) (by omega)
        rw [hm1, hj1, hm0, hj0, zs_top_s]
        by_cases hc : g (zs_top g i) < g i
        · rw [if_neg (fun q => by have := (lI_le (zg i) (zg (zs_top g i))).mp q.2; omega), zp_bs, if_pos hc]
        · rw [if_pos ⟨hp, (lI_le (zg i) (zg (zs_top g i))).mpr (by omega)⟩, if_neg hc]) (fun t h => by
      subst h
      refine ⟨_, ?_, rfl⟩
      unfold fn_M_decide_l1
      dsimp only
      rw [hTab.2.2.2.2.1, if_neg (nI_nlt (Nat.le_refl _) (by omega))]) 0 (-1000000000, 0, 0, 0, 0, 0) (Nat.zero_le _) rfl
  rw [a1, a2]
theorem zr_asked {E T : Nat} {c1 d : zw_Ct} (hTab : zr_Tab E T c1) (hA : zr_A c1 d) (p : Int32) (hp : fn_M_isPay d p = some 1) (l t o : Int32) : fn_M_isAsked d p l t o = some (fn_P_isDecision c1 l t o) := by
  have w : fn_M_in l.toInt64 0 12 = fn_P_within l 0 12 := in_within l 0 12
  unfold fn_M_isAsked fn_P_isDecision
  rw [hp, zp_bs, w, zr_isSaying (hA.tab hTab), zr_isSaying (hA.tab hTab), ← zr_has hTab, ← zr_has hTab]
  by_cases hc : (((¬ (fn_P_within l 0 12) = 0) ∧ (¬ (fn_Sayings_has c1 t) = 0)) ∧ (¬ (fn_Sayings_has c1 o) = 0))
  · rw [if_pos hc, if_pos ⟨⟨⟨by decide, hc.1.1⟩, hc.1.2⟩, hc.2⟩]
  · rw [if_neg hc, if_neg (fun q => hc ⟨⟨q.1.1.2, q.1.2⟩, q.2⟩)]
theorem zr_asked0 {d : zw_Ct} {p : Int32} (hp : fn_M_isPay d p = some 0) (l t o : Int32) : fn_M_isAsked d p l t o = some 0 := by
  unfold fn_M_isAsked
  rw [hp, zp_bs, if_neg (fun q => q.1.1.1 rfl)]
theorem zr_decision {E T : Nat} {c1 : zw_Ct} (hTab : zr_Tab E T c1) {l t o : Int32} (h : ¬ fn_P_isDecision c1 l t o = 0) : ∃ a b, a < zt_N E T ∧ b < zt_N E T ∧ t = nI a ∧ o = nI b := by
  unfold fn_P_isDecision at h
  by_cases hc : (((¬ (fn_P_within l 0 12) = 0) ∧ (¬ (fn_Sayings_has c1 t) = 0)) ∧ (¬ (fn_Sayings_has c1 o) = 0))
  · obtain ⟨a, ha, ea⟩ := has_n (zt_N31 hTab.1) (s := t) (by rw [← zr_has hTab]; exact hc.1.2)
    obtain ⟨b, hb, eb⟩ := has_n (zt_N31 hTab.1) (s := o) (by rw [← zr_has hTab]; exact hc.2)
    exact ⟨a, b, ha, hb, ea, eb⟩
  · exact absurd (by rw [if_neg hc]) h
theorem zo_decide : zq_decide zr_Rel := by
  intro n c hn hRel a l t o
  unfold fn_P_decide fn_M_decide
  rcases zo_pay hRel a with ⟨h1, h2⟩ | ⟨p, E, T, V, c1, hp, rfl, h1, hR, hRl, hV, hM, hlen, hisP⟩
  · refine ⟨-1, c, zw_wI c 71 9 0, ?_, ?_, zr_thr hRel⟩
    · rw [h1, zp_bs]
      dsimp only
      rw [if_pos (Or.inl rfl)]
    · rw [zp_bs, zr_asked0 h2, zp_bs, if_pos (by decide)]
  · have hTab := hRl.2.2.1
    have hT := zt_T hTab.1
    have hN : zt_N E T ≤ 455 := hT.2.2.2.2.2.1
    have hN2 : 2 ≤ zt_N E T := hT.2.2.2.2.1
    have hRel1 : zr_Rel n c1 := ⟨hR, E, T, hRl⟩
    rw [h1, zp_bs]
    dsimp only
    by_cases hc : (((some (54 + p) : Option Nat) = none) ∨ (¬ (¬ (fn_P_isDecision c1 l t o) = 0)))
    · have hA9 : zr_A c1 (zw_wI c1 71 9 0) := zr_A.rf.wF (by decide)
      refine ⟨-1, c1, zw_wI c1 71 9 0, by rw [if_pos hc], ?_, zr_thr hRel1⟩
      rw [zp_bs, zr_asked hTab hA9 _ (hisP _ hA9), zp_bs, if_pos]
      rcases hc with h | h
      · cases h
      · exact h
    · have hdec : ¬ fn_P_isDecision c1 l t o = 0 := fun q => hc (Or.inr (fun z => z q))
      obtain ⟨t1, t2, ht1, ht2, et, eo⟩ := zr_decision hTab hdec
      obtain ⟨g, hg⟩ : ∃ g, g = fun s => zs_w E (zt_p E T) V s (zj_cm E T l t1 t2 s) := ⟨_, rfl⟩
      obtain ⟨cm, hcm⟩ : ∃ cm, cm = zj_cm E T l t1 t2 := ⟨_, rfl⟩
      obtain ⟨c2, g1, g2, g3⟩ := sp_decided (least := l) hTab hlen hV ht1 ht2
      rw [← hg, ← hcm] at g1
      rw [← hg] at g3
      have zg : ∀ s, s < zt_N E T → zb (g s) := fun s _ => by rw [hg]; exact zs_w_zb hT (zj_cm_lt ht1 ht2)
      have hA2 : zr_A c1 c2 := zr_A.eq g2
      obtain ⟨k, hk⟩ : ∃ k, k = zs_top g (zt_N E T) := ⟨_, rfl⟩
      have hkN : k < zt_N E T := by rw [hk]; exact zs_top_lt _ (by omega)
      have htop : fn_Tally_top c2 = some (nI k) := by
        unfold fn_Tally_top
        rw [sp_top (by omega) hN (hA2.tab hTab).2.1.2.2.1 g3 zg, zp_bs, hk]
      have ecm : zj_cm E T l t1 t2 k = cm k := by rw [hcm]
      have hj : zj_dj g cm (zt_N E T) = if nI k = nI (cm k) then 1 else 0 := by
        rw [hk]
        exact if_neg (by omega)
      have hm : zj_dm g (zt_N E T) = lI (g k) := by
        rw [hk]
        exact if_neg (by omega)
      obtain ⟨c3, a1, a2, b0⟩ := zr_C.clear hA2
      obtain ⟨c4, a3, a4, b1⟩ := a2.add (by decide) (if nI k = nI (cm k) then (1 : Int64) else 0)
      obtain ⟨c5, a5, a6, -⟩ := a4.add (by simp) (lI (g k))
      obtain ⟨c6, a7, a8, -⟩ := a6.add (by simp) (zj_tr g cm (zt_N E T)).1
      have hx : c4.2 12 k = lI (g k) := by rw [b1, b0]; exact g3 k hkN
      have hA69 : zr_A c1 (zw_wI c6 71 9 0) := a8.2.wF (by decide)
      obtain ⟨d1, d2, d3, d4, d5, d6⟩ := zo_laid hTab hM a8.2
      have hD := zr_D.start d4 d5 d6
      have hmd := sp_Mdecided (least := l) (d4.tab hTab) d3 ht1 ht2 hg hcm
      rw [hj, hm, ← hk] at hmd
      obtain ⟨e1, f1, f2, -⟩ := hD.tell (by decide) (if nI k = nI (cm k) then (1 : Int64) else 0)
      obtain ⟨e2, f3, f4, -⟩ := f2.tell (by simp) (lI (g k))
      obtain ⟨e3, f5, f6, -⟩ := f4.tell (by simp) (zj_tr g cm (zt_N E T)).1
      refine ⟨nI k, c6, e3, ?_, ?_, f6.fin hRl (by simp) a8.1⟩
      · rw [if_neg hc, zp_bs]
        unfold fn_Chooser_tellDecided
        rw [et, eo, g1, zp_bs]
        dsimp only
        rw [htop, zp_bs, sp_decidesFirst (hA2.tab hTab) hkN, zp_bs, zp_bs, zj_comes, ecm, a1, zp_bs, a3, zp_bs, zp_aL (by omega) (by omega), zp_bs, hx, a5, zp_bs, a7, zp_bs, zp_bs]
      · rw [zp_bs, zr_asked hTab hA69 _ (hisP _ hA69), zp_bs, if_neg (fun q => q hdec), d2, zp_bs, et, eo, hmd, zp_bs]
        dsimp only
        have ei : (if ¬ (if nI k = nI (cm k) then (1 : Int32) else 0) = 0 then (1 : Int64) else 0) = if nI k = nI (cm k) then (1 : Int64) else 0 := by
          by_cases h : nI k = nI (cm k)
          · rw [if_pos h, if_pos (by decide), if_pos h]
          · rw [if_neg h, if_neg (fun q => q rfl), if_neg h]
        rw [zp_bs, ei, f1, zp_bs, f3, zp_bs, f5, zp_bs]
