/-! agree -/
def zj_min (f : Nat → Int) : Nat → Int
  | 0 => 0
  | n + 1 => if n = 0 then f n else if f n < zj_min f n then f n else zj_min f n
theorem zj_min_s (f : Nat → Int) (n : Nat) : zj_min f (n + 1) = if n = 0 then f n else if f n < zj_min f n then f n else zj_min f n := rfl
theorem zj_min_b {f : Nat → Int} {B : Int} (hB : 0 ≤ B) (h : ∀ i, -B ≤ f i ∧ f i ≤ B) : ∀ n : Nat, -B ≤ zj_min f n ∧ zj_min f n ≤ B
  | 0 => ⟨by show -B ≤ 0; omega, hB⟩
  | n + 1 => by
    have ih := zj_min_b hB h n
    have := h n
    rw [zj_min_s]
    split
    · exact this
    · split
      · exact this
      · exact ih
def zj_more (V : Nat → Nat → Int32) (a b s e : Nat) : Int := 2 * (V s e).toInt - (V a e).toInt - (V b e).toInt
theorem zj_more_b (V : Nat → Nat → Int32) (a b s e : Nat) : -17179869184 ≤ zj_more V a b s e ∧ zj_more V a b s e ≤ 17179869184 := by
  have h1 := i_bd (V s e)
  have h2 := i_bd (V a e)
  have h3 := i_bd (V b e)
  unfold zj_more
  omega
theorem zj_more_z (V : Nat → Nat → Int32) (a b s e : Nat) : zb (zj_more V a b s e) := by
  have := zj_more_b V a b s e
  exact ⟨by omega, by omega⟩
theorem zj_least_z (V : Nat → Nat → Int32) (a b s E : Nat) : zb (zj_min (zj_more V a b s) E) := by
  have := zj_min_b (f := zj_more V a b s) (B := 17179869184) (by omega) (fun e => zj_more_b V a b s e) E
  exact ⟨by omega, by omega⟩
theorem zj_more_L (V : Nat → Nat → Int32) (a b s e : Nat) : ((2 * (V s e).toInt64) - (V a e).toInt64) - (V b e).toInt64 = lI (zj_more V a b s e) := by
  rw [iL, iL, iL, show (2 : Int64) = lI 2 by rfl, lI_mul, lI_sub, lI_sub]
  rfl
theorem sp_moreIf {E T N v a b s e : Nat} {pt : Nat → Nat → Nat} {V : Nat → Nat → Int32} {c : zw_Ct} (hT : zr_T E T N pt) (hv : zw_len SH 0 v = some 1820) (hV : zr_V v E N V c) (ha : a < N) (hb : b < N) (hs : s < N) (he : e < E) : fn_Contest_moreIf c v (nI s) (nI a) (nI b) (nI e) = some (lI (zj_more V a b s e)) := by
  have hN := hT.2.2.2.2.2.1
  have hE4 := hT.2.1
  unfold fn_Contest_moreIf
  rw [nI_at, zp_dI hv (by omega) (by omega), zp_bs, nI_at, zp_dI hv (by omega) (by omega), zp_bs, nI_at, zp_dI hv (by omega) (by omega), zp_bs, hV s hs e he, hV a ha e he, hV b hb e he, ← zj_more_L]
theorem sp_leastMore {E T N v a b s : Nat} {pt : Nat → Nat → Nat} {V : Nat → Nat → Int32} {c : zw_Ct} (hT : zr_T E T N pt) (hS : zr_S E T N pt c) (hv : zw_len SH 0 v = some 1820) (hV : zr_V v E N V c) (ha : a < N) (hb : b < N) (hs : s < N) : fn_Contest_leastMore c v (nI s) (nI a) (nI b) = some (lI (zj_min (zj_more V a b s) E)) := by
  have hE2 := hT.1
  have hE4 := hT.2.1
  unfold fn_Contest_leastMore
  have e0 : fn_Contest_moreIf c v (nI s) (nI a) (nI b) 0 = some (lI (zj_more V a b s 0)) := sp_moreIf (e := 0) hT hv hV ha hb hs (by omega)
  obtain ⟨x, h1, h2⟩ := zp_up (f := fn_Contest_leastMore_l1 c v (nI s) (nI a) (nI b)) (I := fun i t => 1 ≤ i ∧ t = (lI (zj_min (zj_more V a b s) i), nI i)) (P := fun x => x = lI (zj_min (zj_more V a b s) E)) E (by unfold zw_F; omega) (fun i t hi h => by
      obtain ⟨h0, h⟩ := h
      subst h
      refine Or.inl ⟨(lI (zj_min (zj_more V a b s) (i + 1)), nI (i + 1)), ?_, by omega, rfl⟩
      unfold fn_Contest_leastMore_l1
      dsimp only
      rw [hS.1, if_pos (nI_lt hi (by omega)), sp_moreIf hT hv hV ha hb hs hi, zp_bs, zp_bs, nI_1, zj_min_s, if_neg (show ¬ i = 0 by omega)]
      by_cases hc : zj_more V a b s i < zj_min (zj_more V a b s) i
      · rw [if_pos ((lI_lt (zj_more_z V a b s i) (zj_least_z V a b s i)).mpr hc), if_pos hc]
      · rw [if_neg (fun q => hc ((lI_lt (zj_more_z V a b s i) (zj_least_z V a b s i)).mp q)), if_neg hc]) (fun t h => by
      obtain ⟨h0, h⟩ := h
      subst h
      refine ⟨_, ?_, rfl⟩
      unfold fn_Contest_leastMore_l1
      dsimp only
      rw [hS.1, if_neg (nI_nlt (Nat.le_refl _) (by omega))]) 1 (lI (zj_more V a b s 0), 1) (by omega) ⟨Nat.le_refl _, rfl⟩
  rw [e0, zp_bs, h1, zp_bs, h2]
theorem sp_Mmore {E T N a b s : Nat} {pt : Nat → Nat → Nat} {V : Nat → Nat → Int32} {d : zw_Ct} (hT : zr_T E T N pt) (hM : zr_M E T N pt d) (hV : zr_V 84 E N V d) (ha : a < N) (hb : b < N) (hs : s < N) : fn_M_moreTogether d (nI s) (nI a) (nI b) = some (lI (zj_min (zj_more V a b s) E)) := by
  have hN := hT.2.2.2.2.2.1
  have hE2 := hT.1
  have hE4 := hT.2.1
  unfold fn_M_moreTogether
  obtain ⟨x, h1, h2⟩ := zp_up (f := fn_M_moreTogether_l1 d (nI s) (nI a) (nI b)) (I := fun i t => t = (lI (zj_min (zj_more V a b s) i), nI i)) (P := fun x => x = lI (zj_min (zj_more V a b s) E)) E (by unfold zw_F; omega) (fun i t hi h => by
      subst h
      refine Or.inl ⟨(lI (zj_min (zj_more V a b s) (i + 1)), nI (i + 1)), ?_, rfl⟩
      unfold fn_M_moreTogether_l1
      dsimp only
      rw [hM.1, if_pos (nI_lt hi (by omega)), nI_at', zp_aI (by omega) (by omega), zp_bs, nI_at', zp_aI (by omega) (by omega), zp_bs, nI_at', zp_aI (by omega) (by omega), zp_bs, zp_bs, zp_bs, hV s hs i hi, hV a ha i hi, hV b hb i hi, zj_more_L, nI_1, zj_min_s]
      by_cases h0 : i = 0
      · rw [if_pos h0, if_pos (show nI i = 0 by rw [h0]; rfl)]
      · rw [if_neg h0, if_neg (nI_ne0 (by omega) (by omega))]
        by_cases hc : zj_more V a b s i < zj_min (zj_more V a b s) i
        · rw [if_pos ((lI_lt (zj_more_z V a b s i) (zj_least_z V a b s i)).mpr hc), if_pos hc]
        · rw [if_neg (fun q => hc ((lI_lt (zj_more_z V a b s i) (zj_least_z V a b s i)).mp q)), if_neg hc]) (fun t h => by
      subst h
      refine ⟨_, ?_, rfl⟩
      unfold fn_M_moreTogether_l1
      dsimp only
      rw [hM.1, if_neg (nI_nlt (Nat.le_refl _) (by omega))]) 0 (0, 0) (Nat.zero_le _) rfl
  rw [h1, zp_bs, h2]
theorem zs_top_s (f : Nat → Int) (n : Nat) : zs_top f (n + 1) = if f (zs_top f n) < f n then n else zs_top f n := rfl
theorem sp_agreed {E T N v a b : Nat} {pt : Nat → Nat → Nat} {V : Nat → Nat → Int32} {c : zw_Ct} (hT : zr_T E T N pt) (hS : zr_S E T N pt c) (hv : zw_len SH 0 v = some 1820) (hV : zr_V v E N V c) (ha : a < N) (hb : b < N) : zw_whl (fn_Contest_tellAgreed_l1 c v (nI a) (nI b)) zw_F (0, lI (zj_min (zj_more V a b 0) E), 1) = some (nI (zs_top (fun s => zj_min (zj_more V a b s) E) N), lI (zj_min (zj_more V a b (zs_top (fun s => zj_min (zj_more V a b s) E) N)) E)) := by
  have hN := hT.2.2.2.2.2.1
  have hN2 := hT.2.2.2.2.1
  obtain ⟨x, h1, h2⟩ := zp_up (f := fn_Contest_tellAgreed_l1 c v (nI a) (nI b)) (I := fun i t => 1 ≤ i ∧ t = (nI (zs_top (fun s => zj_min (zj_more V a b s) E) i), lI (zj_min (zj_more V a b (zs_top (fun s => zj_min (zj_more V a b s) E) i)) E), nI i)) (P := fun x => x = (nI (zs_top (fun s => zj_min (zj_more V a b s) E) N), lI (zj_min (zj_more V a b (zs_top (fun s => zj_min (zj_more V a b s) E) N)) E))) N (by unfold zw_F; omega) (fun i t hi h => by
      obtain ⟨h0, h⟩ := h
      subst h
      refine Or.inl ⟨(nI (zs_top (fun s => zj_min (zj_more V a b s) E) (i + 1)), lI (zj_min (zj_more V a b (zs_top (fun s => zj_min (zj_more V a b s) E) (i + 1))) E), nI (i + 1)), ?_, by omega, rfl⟩
      unfold fn_Contest_tellAgreed_l1
      dsimp only
      rw [hS.2.2.1, if_pos (nI_lt hi (by omega)), sp_leastMore hT hS hv hV ha hb hi, zp_bs, nI_1, zs_top_s]
      by_cases hc : zj_min (zj_more V a b (zs_top (fun s => zj_min (zj_more V a b s) E) i)) E < zj_min (zj_more V a b i) E
      · rw [if_pos ((lI_lt (zj_least_z V a b _ E) (zj_least_z V a b i E)).mpr hc), zp_bs, if_pos hc]
      · rw [if_neg (fun q => hc ((lI_lt (zj_least_z V a b _ E) (zj_least_z V a b i E)).mp q)), zp_bs, if_neg hc]) (fun t h => by
      obtain ⟨h0, h⟩ := h
      subst h
      refine ⟨_, ?_, rfl⟩
      unfold fn_Contest_tellAgreed_l1
      dsimp only
      rw [hS.2.2.1, if_neg (nI_nlt (Nat.le_refl _) (by omega))]) 1 (0, lI (zj_min (zj_more V a b 0) E), 1) (by omega) ⟨Nat.le_refl _, by rw [zs_top_1]; rfl⟩
  rw [h1, h2]
theorem sp_Magreed {E T N a b : Nat} {pt : Nat → Nat → Nat} {V : Nat → Nat → Int32} {d : zw_Ct} (hT : zr_T E T N pt) (hM : zr_M E T N pt d) (hV : zr_V 84 E N V d) (ha : a < N) (hb : b < N) : zw_whl (fn_M_agree_l1 d (nI a) (nI b)) zw_F (0, 1) = some (nI (zs_top (fun s => zj_min (zj_more V a b s) E) N)) := by
  have hN := hT.2.2.2.2.2.1
  have hN2 := hT.2.2.2.2.1
  obtain ⟨x, h1, h2⟩ := zp_up (f := fn_M_agree_l1 d (nI a) (nI b)) (I := fun i t => 1 ≤ i ∧ t = (nI (zs_top (fun s => zj_min (zj_more V a b s) E) i), nI i)) (P := fun x => x = nI (zs_top (fun s => zj_min (zj_more V a b s) E) N)) N (by unfold zw_F; omega) (fun i t hi h => by
      obtain ⟨h0, h⟩ := h
      subst h
      have hk := zs_top_lt (fun s => zj_min (zj_more V a b s) E) (n := i) (by omega)
      refine Or.inl ⟨(nI (zs_top (fun s => zj_min (zj_more V a b s) E) (i + 1)), nI (i + 1)), ?_, by omega, rfl⟩
      unfold fn_M_agree_l1
      dsimp only
      rw [hM.2.2.1, if_pos (nI_lt hi (by omega)), sp_Mmore hT hM hV ha hb hi, zp_bs, sp_Mmore hT hM hV ha hb (by omega), zp_bs, nI_1, zs_top_s]
      by_cases hc : zj_min (zj_more V a b (zs_top (fun s => zj_min (zj_more V a b s) E) i)) E < zj_min (zj_more V a b i) E
      · rw [if_pos ((lI_lt (zj_least_z V a b _ E) (zj_least_z V a b i E)).mpr hc), zp_bs, if_pos hc]
      · rw [if_neg (fun q => hc ((lI_lt (zj_least_z V a b _ E) (zj_least_z V a b i E)).mp q)), zp_bs, if_neg hc]) (fun t h => by
      obtain ⟨h0, h⟩ := h
      subst h
      refine ⟨_, ?_, rfl⟩
      unfold fn_M_agree_l1
      dsimp only
      rw [hM.2.2.1, if_neg (nI_nlt (Nat.le_refl _) (by omega))]) 1 (0, 1) (by omega) ⟨Nat.le_refl _, by rw [zs_top_1]; rfl⟩
  rw [h1, h2]
theorem zo_agree : zq_agree zr_Rel := by
  intro n c hn hRel a s t
  unfold fn_P_agree fn_M_agree
  rcases zo_pay hRel a with ⟨h1, h2⟩ | ⟨p, E, T, V, c1, hp, rfl, h1, hR, hRl, hV, hM, hlen, hisP⟩
  · refine ⟨-1, c, zw_wI c 71 9 0, ?_, ?_, zr_thr hRel⟩
    · rw [h1, zp_bs]
      dsimp only
      rw [if_pos (Or.inl (Or.inl rfl))]
    · rw [zp_bs, h2, zp_bs, if_pos (Or.inl (Or.inl (by decide)))]
  · have hTab := hRl.2.2.1
    have hT := zt_T hTab.1
    have hN2 : 2 ≤ zt_N E T := hT.2.2.2.2.1
    have hRel1 : zr_Rel n c1 := ⟨hR, E, T, hRl⟩
    rw [h1, zp_bs]
    dsimp only
    by_cases hc : ((((some (54 + p) : Option Nat) = none) ∨ (¬ (¬ (fn_Sayings_has c1 s) = 0))) ∨ (¬ (¬ (fn_Sayings_has c1 t) = 0)))
    · have hA9 : zr_A c1 (zw_wI c1 71 9 0) := zr_A.rf.wF (by decide)
      refine ⟨-1, c1, zw_wI c1 71 9 0, by rw [if_pos hc], ?_, zr_thr hRel1⟩
      rw [zp_bs, hisP _ hA9, zp_bs, zr_isSaying (hA9.tab hTab), zr_isSaying (hA9.tab hTab), ← zr_has hTab, ← zr_has hTab, if_pos]
      rcases hc with (h | h) | h
      · cases h
      · exact Or.inl (Or.inr h)
      · exact Or.inr h
    · obtain ⟨sj, hsj, rfl⟩ := has_n (zt_N31 hTab.1) (s := s) (fun q => hc (Or.inl (Or.inr (fun z => z (by rw [zr_has hTab]; exact q)))))
      obtain ⟨tj, htj, rfl⟩ := has_n (zt_N31 hTab.1) (s := t) (fun q => hc (Or.inr (fun z => z (by rw [zr_has hTab]; exact q))))
      obtain ⟨k, hk⟩ : ∃ k, k = zs_top (fun s => zj_min (zj_more V sj tj s) E) (zt_N E T) := ⟨_, rfl⟩
      have hkN : k < zt_N E T := by rw [hk]; exact zs_top_lt _ (by omega)
      have hg := sp_agreed hT hTab.2.1 hlen hV hsj htj
      rw [← hk] at hg
      have e0 : fn_Contest_leastMore c1 (54 + p) 0 (nI sj) (nI tj) = some (lI (zj_min (zj_more V sj tj 0) E)) := sp_leastMore (s := 0) hT hTab.2.1 hlen hV hsj htj (by omega)
      obtain ⟨c3, a1, a2, -⟩ := zr_C.clear (c1 := c1) (c3 := c1) zr_A.rf
      obtain ⟨c4, a3, a4, -⟩ := a2.add (by decide) (lI (zj_min (zj_more V sj tj k) E))
      have hA49 : zr_A c1 (zw_wI c4 71 9 0) := a4.2.wF (by decide)
      obtain ⟨d1, d2, d3, d4, d5, d6⟩ := zo_laid hTab hM a4.2
      have hD := zr_D.start d4 d5 d6
      have hV84 : zr_V 84 E (zt_N E T) V (zw_wI d1 71 8 0) := fun s hs e he => by rw [zw_wI_ne (by decide)]; exact d3 s hs e he
      have hm := sp_Magreed hT (d4.tab hTab).2.2 d3 hsj htj
      rw [← hk] at hm
      obtain ⟨e1, f1, f2, -⟩ := hD.tell (by decide) (lI (zj_min (zj_more V sj tj k) E))
      refine ⟨nI k, c4, e1, ?_, ?_, f2.fin hRl (by simp) a4.1⟩
      · rw [if_neg hc, zp_bs]
        unfold fn_Contest_tellAgreed
        rw [e0, zp_bs, hg, zp_bs]
        dsimp only
        rw [a1, zp_bs, a3, zp_bs, zp_bs]
      · rw [zp_bs, hisP _ hA49, zp_bs, zr_isSaying (hA49.tab hTab), zr_isSaying (hA49.tab hTab), ← zr_has hTab, ← zr_has hTab, if_neg (by
          rintro ((h | h) | h)
          · exact h (by decide)
          · exact hc (Or.inl (Or.inr h))
          · exact hc (Or.inr h)), d2, zp_bs, hm, zp_bs, zp_bs, sp_Mmore hT (hD.2.1.tab hTab).2.2 hV84 hsj htj hkN, zp_bs, f1, zp_bs]
