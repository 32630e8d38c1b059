/-! bends -/
def zj_bends (f : Nat → Int) : Nat → Nat × Int32 × Int
  | 0 => (0, -1, 0)
  | t + 1 => if f t = 0 then zj_bends f t else if f t ≤ (zj_bends f t).2.2 then ((zj_bends f t).1 + 1, (zj_bends f t).2.1, (zj_bends f t).2.2) else ((zj_bends f t).1 + 1, nI t, f t)
theorem zj_bends_s (f : Nat → Int) (t : Nat) : zj_bends f (t + 1) = if f t = 0 then zj_bends f t else if f t ≤ (zj_bends f t).2.2 then ((zj_bends f t).1 + 1, (zj_bends f t).2.1, (zj_bends f t).2.2) else ((zj_bends f t).1 + 1, nI t, f t) := rfl
theorem zj_bends_m {f : Nat → Int} {B : Int} (hB : 0 ≤ B) : ∀ t : Nat, (∀ i, i < t → 0 ≤ f i ∧ f i ≤ B) → (zj_bends f t).1 ≤ t ∧ 0 ≤ (zj_bends f t).2.2 ∧ (zj_bends f t).2.2 ≤ B
  | 0, _ => ⟨Nat.le_refl _, Int.le_refl _, hB⟩
  | t + 1, h => by
    obtain ⟨h1, h2, h3⟩ := zj_bends_m hB t (fun i hi => h i (by omega))
    have := h t (by omega)
    rw [zj_bends_s]
    split
    · exact ⟨by omega, h2, h3⟩
    · split
      · exact ⟨by dsimp only; omega, h2, h3⟩
      · exact ⟨by dsimp only; omega, this.1, this.2⟩
def zj_off (E N : Nat) (pt : Nat → Nat → Nat) (V : Nat → Nat → Int32) (t : Nat) : Int := zs_w E pt V (zs_top (fun s => zs_w E pt V s t) N) t - zs_w E pt V t t
theorem zj_off_b {E T N : Nat} {pt : Nat → Nat → Nat} {V : Nat → Nat → Int32} (hT : zr_T E T N pt) {t : Nat} (ht : t < N) : 0 ≤ zj_off E N pt V t ∧ zj_off E N pt V t ≤ 206158430208 := by
  have h1 := zs_w_bd (V := V) hT (s := t) ht
  have h2 := zs_w_bd (V := V) hT (s := zs_top (fun s => zs_w E pt V s t) N) ht
  have h3 : zs_w E pt V t t ≤ zs_w E pt V (zs_top (fun s => zs_w E pt V s t) N) t := zs_top_max (fun s => zs_w E pt V s t) ht
  unfold zj_off
  omega
theorem sp_bends {E T N a : Nat} {pt : Nat → Nat → Nat} {V : Nat → Nat → Int32} {c : zw_Ct} (hT : zr_T E T N pt) (hS : zr_S E T N pt c) (ha : zw_len SH 0 a = some 1820) (hV : zr_V a E N V c) : ∃ c2, zw_whl (fn_Judge_tellBends_l1 a) zw_F (0, -1, 0, 0, c) = some (nI (zj_bends (zj_off E N pt V) N).1, (zj_bends (zj_off E N pt V) N).2.1, lI (zj_bends (zj_off E N pt V) N).2.2, c2) ∧ c2.1 = c.1 ∧ (∀ k, k ≠ 12 → c2.2 k = c.2 k) := by
  have hN := hT.2.2.2.2.2.1
  have hN2 := hT.2.2.2.2.1
  obtain ⟨x, h1, h2, h3, h4⟩ := zp_up (f := fn_Judge_tellBends_l1 a) (I := fun i t => ∃ c', t = (nI (zj_bends (zj_off E N pt V) i).1, (zj_bends (zj_off E N pt V) i).2.1, lI (zj_bends (zj_off E N pt V) i).2.2, nI i, c') ∧ c'.1 = c.1 ∧ (∀ k, k ≠ 12 → c'.2 k = c.2 k)) (P := fun x => x = (nI (zj_bends (zj_off E N pt V) N).1, (zj_bends (zj_off E N pt V) N).2.1, lI (zj_bends (zj_off E N pt V) N).2.2, x.2.2.2) ∧ x.2.2.2.1 = c.1 ∧ (∀ k, k ≠ 12 → x.2.2.2.2 k = c.2 k)) N (by unfold zw_F; omega) (fun i t hi h => by
      obtain ⟨c', rfl, e1, e2⟩ := h
      have hS' : zr_S E T N pt c' := by unfold zr_S; rw [e1]; exact hS
      have hV' : zr_V a E N V c' := by unfold zr_V; rw [e1]; exact hV
      obtain ⟨c2, g1, g2, g3, g4⟩ := sp_tally hT hS' ha hV' hi
      refine Or.inl ⟨(nI (zj_bends (zj_off E N pt V) (i + 1)).1, (zj_bends (zj_off E N pt V) (i + 1)).2.1, lI (zj_bends (zj_off E N pt V) (i + 1)).2.2, nI (i + 1), c2), ?_, c2, rfl, g2.trans e1, fun k hk => (g3 k hk).trans (e2 k hk)⟩
      obtain ⟨m1, m2, m3⟩ := zj_bends_m (f := zj_off E N pt V) (B := 206158430208) (by omega) i (fun j hj => zj_off_b hT (by omega))
      have ho := zj_off_b (V := V) hT hi
      unfold fn_Judge_tellBends_l1
      dsimp only
      rw [hS'.2.2.1, if_pos (nI_lt hi (by omega)), g1, zp_bs, sp_greatest (by omega) hN (by rw [g2]; exact hS'.2.2.1) g4 (fun s hs => zs_w_zb hT hi), zp_bs, zp_aL (by omega) (by omega), zp_bs, zp_bs, g4 i hi, lI_sub, nI_1, nI_1]
      have eo : zs_w E pt V (zs_top (fun s => zs_w E pt V s i) N) i - zs_w E pt V i i = zj_off E N pt V i := rfl
      rw [eo, zj_bends_s]
      have z0 : zb 0 := ⟨by decide, by decide⟩
      have zo : zb (zj_off E N pt V i) := ⟨by omega, by omega⟩
      have zm : zb (zj_bends (zj_off E N pt V) i).2.2 := ⟨by omega, by omega⟩
      by_cases hc : zj_off E N pt V i = 0
      · have k1 : ¬ (0 : Int64) < lI (zj_off E N pt V i) := fun q => by have := (lI_lt (a := 0) z0 zo).mp q; omega
        have k2 : ¬ lI (zj_bends (zj_off E N pt V) i).2.2 < lI (zj_off E N pt V i) := fun q => by have := (lI_lt zm zo).mp q; omega
        rw [if_neg k1, zp_bs, if_neg k2, zp_bs, if_pos hc]
      · have k1 : (0 : Int64) < lI (zj_off E N pt V i) := (lI_lt (a := 0) z0 zo).mpr (by omega)
        rw [if_pos k1, zp_bs, if_neg hc]
        by_cases hd : zj_off E N pt V i ≤ (zj_bends (zj_off E N pt V) i).2.2
        · have k2 : ¬ lI (zj_bends (zj_off E N pt V) i).2.2 < lI (zj_off E N pt V i) := fun q => by have := (lI_lt zm zo).mp q; omega
          rw [if_neg k2, zp_bs, if_pos hd]
        · have k2 : lI (zj_bends (zj_off E N pt V) i).2.2 < lI (zj_off E N pt V i) := (lI_lt zm zo).mpr (by omega)
          rw [if_pos k2, zp_bs, if_neg hd]) (fun t h => by
      obtain ⟨c', rfl, e1, e2⟩ := h
      refine ⟨(nI (zj_bends (zj_off E N pt V) N).1, (zj_bends (zj_off E N pt V) N).2.1, lI (zj_bends (zj_off E N pt V) N).2.2, c'), ?_, rfl, e1, e2⟩
      unfold fn_Judge_tellBends_l1
      dsimp only
      rw [show c'.1 1 2 = nI N by rw [e1]; exact hS.2.2.1, if_neg (nI_nlt (Nat.le_refl _) (by omega))]) 0 (0, -1, 0, 0, c) (Nat.zero_le _) ⟨c, rfl, rfl, fun _ _ => rfl⟩
  exact ⟨x.2.2.2, by rw [h1, ← h2], h3, h4⟩
theorem sp_Mbends {E T N : Nat} {pt : Nat → Nat → Nat} {V : Nat → Nat → Int32} {d : zw_Ct} (hT : zr_T E T N pt) (hM : zr_M E T N pt d) (hV : zr_V 84 E N V d) : zw_whl (fn_M_bends_l1 d) zw_F (0, -1, 0, 0) = some (nI (zj_bends (zj_off E N pt V) N).1, (zj_bends (zj_off E N pt V) N).2.1, lI (zj_bends (zj_off E N pt V) N).2.2) := by
  have hN := hT.2.2.2.2.2.1
  have hN2 := hT.2.2.2.2.1
  obtain ⟨x, h1, h2⟩ := zp_up (f := fn_M_bends_l1 d) (I := fun i t => t = (nI (zj_bends (zj_off E N pt V) i).1, (zj_bends (zj_off E N pt V) i).2.1, lI (zj_bends (zj_off E N pt V) i).2.2, nI i)) (P := fun x => x = (nI (zj_bends (zj_off E N pt V) N).1, (zj_bends (zj_off E N pt V) N).2.1, lI (zj_bends (zj_off E N pt V) N).2.2)) N (by unfold zw_F; omega) (fun i t hi h => by
      subst h
      refine Or.inl ⟨(nI (zj_bends (zj_off E N pt V) (i + 1)).1, (zj_bends (zj_off E N pt V) (i + 1)).2.1, lI (zj_bends (zj_off E N pt V) (i + 1)).2.2, nI (i + 1)), ?_, rfl⟩
      obtain ⟨m1, m2, m3⟩ := zj_bends_m (f := zj_off E N pt V) (B := 206158430208) (by omega) i (fun j hj => zj_off_b hT (by omega))
      have ho := zj_off_b (V := V) hT hi
      have z0 : zb 0 := ⟨by decide, by decide⟩
      have zo : zb (zj_off E N pt V i) := ⟨by omega, by omega⟩
      have zm : zb (zj_bends (zj_off E N pt V) i).2.2 := ⟨by omega, by omega⟩
      have eo : zs_w E pt V (zs_top (fun s => zs_w E pt V s i) N) i - zs_w E pt V i i = zj_off E N pt V i := rfl
      unfold fn_M_bends_l1
      dsimp only
      rw [hM.2.2.1, if_pos (nI_lt hi (by omega)), sp_Mbest hT hM hV hi, zp_bs, sp_Mworth hT hM hV hi hi, zp_bs, zp_bs, lI_sub, eo, nI_1, nI_1, zj_bends_s]
      by_cases hc : zj_off E N pt V i = 0
      · have k1 : lI (zj_off E N pt V i) = (0 : Int64) := by rw [hc]; rfl
        rw [if_pos k1, if_pos hc]
      · have k1 : ¬ lI (zj_off E N pt V i) = (0 : Int64) := fun q => hc ((lI_eq (b := 0) zo z0).mp q)
        rw [if_neg k1, if_neg hc]
        by_cases hd : zj_off E N pt V i ≤ (zj_bends (zj_off E N pt V) i).2.2
        · rw [if_pos ((lI_le zo zm).mpr hd), if_pos hd]
        · rw [if_neg (fun q => hd ((lI_le zo zm).mp q)), if_neg hd]) (fun t h => by
      subst h
      refine ⟨_, ?_, rfl⟩
      unfold fn_M_bends_l1
      dsimp only
      rw [hM.2.2.1, if_neg (nI_nlt (Nat.le_refl _) (by omega))]) 0 (0, -1, 0, 0) (Nat.zero_le _) rfl
  rw [h1, h2]
theorem zo_bends : zq_bends zr_Rel := by
  intro n c hn hRel a
  unfold fn_P_bends fn_M_bends
  rcases zo_pay hRel a with ⟨h1, h2⟩ | ⟨p, E, T, V, c1, hp, rfl, h1, hR, hRl, hV, hM, hlen, hisP⟩
  · refine ⟨-1, c, zw_wI c 71 9 0, ?_, ?_, zr_thr hRel⟩
    · rw [h1, zp_bs]
      dsimp only
      rw [if_pos rfl, zp_bs]
    · rw [zp_bs, h2, zp_bs, if_pos (by decide)]
  · have hTab := hRl.2.2.1
    have hT := zt_T hTab.1
    have hN : zt_N E T ≤ 455 := hT.2.2.2.2.2.1
    rw [h1, zp_bs]
    dsimp only
    obtain ⟨c2, g1, g2, g3⟩ := sp_bends hT hTab.2.1 hlen hV
    have hA2 : zr_A c1 c2 := zr_A.eq g2
    obtain ⟨c3, a1, a2, -⟩ := zr_C.clear hA2
    obtain ⟨c4, a3, a4, -⟩ := a2.add (by decide) (zj_bends (zj_off E (zt_N E T) (zt_p E T) V) (zt_N E T)).2.1.toInt64
    obtain ⟨c5, a5, a6, -⟩ := a4.add (by simp) (lI (zj_bends (zj_off E (zt_N E T) (zt_p E T) V) (zt_N E T)).2.2)
    have hA59 : zr_A c1 (zw_wI c5 71 9 0) := a6.2.wF (by decide)
    obtain ⟨d1, d2, d3, d4, d5, d6⟩ := zo_laid hTab hM a6.2
    have hD := zr_D.start d4 d5 d6
    have hg := sp_Mbends hT (d4.tab hTab).2.2 d3
    obtain ⟨e1, f1, f2, -⟩ := hD.tell (by decide) (zj_bends (zj_off E (zt_N E T) (zt_p E T) V) (zt_N E T)).2.1.toInt64
    obtain ⟨e2, f3, f4, -⟩ := f2.tell (by simp) (lI (zj_bends (zj_off E (zt_N E T) (zt_p E T) V) (zt_N E T)).2.2)
    refine ⟨nI (zj_bends (zj_off E (zt_N E T) (zt_p E T) V) (zt_N E T)).1, c5, e2, ?_, ?_, f4.fin hRl (by simp) a6.1⟩
    · rw [if_neg (fun q => by cases q), zp_bs]
      unfold fn_Judge_tellBends
      rw [g1, zp_bs]
      dsimp only
      rw [a1, zp_bs, a3, zp_bs, a5, zp_bs, zp_bs, zp_bs]
    · rw [zp_bs, hisP _ hA59, zp_bs, if_neg (by decide), d2, zp_bs, hg, zp_bs]
      dsimp only
      rw [zp_bs, f1, zp_bs, f3, zp_bs]
/-! best -/
def zj_list (b : Nat → Bool) : Nat → List Int64
  | 0 => []
  | t + 1 => if b t = true ∧ (zj_list b t).length < 10 then zj_list b t ++ [(nI t).toInt64] else zj_list b t
theorem zj_list_s (b : Nat → Bool) (t : Nat) : zj_list b (t + 1) = if b t = true ∧ (zj_list b t).length < 10 then zj_list b t ++ [(nI t).toInt64] else zj_list b t := rfl
theorem zj_list_l (b : Nat → Bool) : ∀ t : Nat, (zj_list b t).length = min (zs_cnt b t) 10
  | 0 => rfl
  | t + 1 => by
    have h := zj_list_l b t
    rw [zj_list_s]
    show _ = min (zs_cnt b t + if b t = true then 1 else 0) 10
    by_cases h1 : b t = true
    · rw [if_pos h1]
      by_cases h2 : (zj_list b t).length < 10
      · rw [if_pos ⟨h1, h2⟩, List.length_append]
        simp only [List.length_cons, List.length_nil]
        omega
      · rw [if_neg (fun q => h2 q.2)]; omega
    · rw [if_neg (fun q => h1 q.1), if_neg h1]; omega
theorem zj_list_st (b : Nat → Bool) {i : Nat} (h : 10 ≤ (zj_list b i).length) : ∀ j : Nat, zj_list b (i + j) = zj_list b i
  | 0 => rfl
  | j + 1 => by
    show zj_list b ((i + j) + 1) = _
    rw [zj_list_s, zj_list_st b h j, if_neg (fun q => by omega)]
theorem sp_best {N : Nat} {f : Nat → Int} {z : Int} {c1 c : zw_Ct} (hN : N ≤ 455) (hC : zr_C [] c1 c) (hS : ∀ d : zw_Ct, zr_A c1 d → d.1 1 2 = nI N) (hY : zr_Y N f c) (hb : ∀ s, s < N → zb (f s)) (hz : zb z) : ∃ c2, zw_whl (fn_Judge_tellBest_l1 (lI z)) zw_F (0, c) = some c2 ∧ zr_C (zj_list (fun s => decide (f s = z)) N) c1 c2 ∧ c2.2 12 = c.2 12 := by
  obtain ⟨x, h1, h2, h3⟩ := zp_up (f := fn_Judge_tellBest_l1 (lI z)) (I := fun i t => ∃ c', t = (nI i, c') ∧ zr_C (zj_list (fun s => decide (f s = z)) i) c1 c' ∧ c'.2 12 = c.2 12) (P := fun x => zr_C (zj_list (fun s => decide (f s = z)) N) c1 x ∧ x.2 12 = c.2 12) N (by unfold zw_F; omega) (fun i t hi h => by
      obtain ⟨c', rfl, e1, e2⟩ := h
      have hl := zj_list_l (fun s => decide (f s = z)) i
      by_cases h10 : (zj_list (fun s => decide (f s = z)) i).length < 10
      · have hk : (nI i < c'.1 1 2) ∧ (c'.1 61 1 < 10) := ⟨by rw [hS c' e1.2]; exact nI_lt hi (by omega), by rw [e1.1.1]; exact nI_lt (b := 10) h10 (by omega)⟩
        by_cases hc : f i = z
        · obtain ⟨c4, g1, g2, g3⟩ := e1.add (by omega) (nI i).toInt64
          refine Or.inl ⟨(nI (i + 1), c4), ?_, c4, rfl, by rw [zj_list_s, if_pos ⟨decide_eq_true hc, h10⟩]; exact g2, g3.trans e2⟩
          unfold fn_Judge_tellBest_l1
          dsimp only
          rw [if_pos hk, zp_aL (by omega) (by omega), zp_bs, show c'.2 12 i = lI z by rw [e2, hY i hi, hc], if_pos rfl, g1, zp_bs, zp_bs, nI_1]
        · refine Or.inl ⟨(nI (i + 1), c'), ?_, c', rfl, by rw [zj_list_s, if_neg (fun q => hc (of_decide_eq_true q.1))]; exact e1, e2⟩
          unfold fn_Judge_tellBest_l1
          dsimp only
          rw [if_pos hk, zp_aL (by omega) (by omega), zp_bs, show c'.2 12 i = lI (f i) by rw [e2, hY i hi], if_neg (fun q => hc ((lI_eq (hb i hi) hz).mp q)), zp_bs, nI_1]
      · have hst := zj_list_st (fun s => decide (f s = z)) (i := i) (by omega) (N - i)
        rw [show i + (N - i) = N by omega] at hst
        refine Or.inr ⟨c', ?_, by rw [hst]; exact e1, e2⟩
        unfold fn_Judge_tellBest_l1
        dsimp only
        rw [if_neg (fun q => nI_nlt (a := (zj_list (fun s => decide (f s = z)) i).length) (b := 10) (by omega) (by omega) (by rw [← e1.1.1]; exact q.2))]) (fun t h => by
      obtain ⟨c', rfl, e1, e2⟩ := h
      refine ⟨c', ?_, e1, e2⟩
      unfold fn_Judge_tellBest_l1
      dsimp only
      rw [if_neg (fun q => nI_nlt (Nat.le_refl N) (by omega) (by have w := q.1; rw [hS c' e1.2] at w; exact w))]) 0 (0, c) (Nat.zero_le _) ⟨c, rfl, hC, rfl⟩
  exact ⟨x, h1, h2, h3⟩
theorem sp_Mbest10 {E T t : Nat} {V : Nat → Nat → Int32} {c1 c3 d : zw_Ct} (hTab : zr_Tab E T c1) (hD : zr_D [] c1 c3 d) (hV : zr_V 84 E (zt_N E T) V d) (ht : t < zt_N E T) : ∃ d2, zw_whl (fn_M_best_l1 (nI t) (lI (zs_w E (zt_p E T) V (zs_top (fun s => zs_w E (zt_p E T) V s t) (zt_N E T)) t))) zw_F (0, 0, d) = some (nI (zs_cnt (fun s => decide (zs_w E (zt_p E T) V s t = zs_w E (zt_p E T) V (zs_top (fun s => zs_w E (zt_p E T) V s t) (zt_N E T)) t)) (zt_N E T)), d2) ∧ zr_D (zj_list (fun s => decide (zs_w E (zt_p E T) V s t = zs_w E (zt_p E T) V (zs_top (fun s => zs_w E (zt_p E T) V s t) (zt_N E T)) t)) (zt_N E T)) c1 c3 d2 := by
  have hT := zt_T hTab.1
  have hN : zt_N E T ≤ 455 := hT.2.2.2.2.2.1
  obtain ⟨z, hz⟩ : ∃ z, z = zs_w E (zt_p E T) V (zs_top (fun s => zs_w E (zt_p E T) V s t) (zt_N E T)) t := ⟨_, rfl⟩
  have zz : zb z := by rw [hz]; exact zs_w_zb hT ht
  rw [← hz]
  obtain ⟨x, h1, h2, h3⟩ := zp_up (f := fn_M_best_l1 (nI t) (lI z)) (I := fun i u => ∃ d', u = (nI (zs_cnt (fun s => decide (zs_w E (zt_p E T) V s t = z)) i), nI i, d') ∧ zr_D (zj_list (fun s => decide (zs_w E (zt_p E T) V s t = z)) i) c1 c3 d' ∧ d'.1 84 = d.1 84) (P := fun x => x.1 = nI (zs_cnt (fun s => decide (zs_w E (zt_p E T) V s t = z)) (zt_N E T)) ∧ zr_D (zj_list (fun s => decide (zs_w E (zt_p E T) V s t = z)) (zt_N E T)) c1 c3 x.2) (zt_N E T) (by unfold zw_F; omega) (fun i u hi h => by
      obtain ⟨d', rfl, e1, e2⟩ := h
      have hl := zj_list_l (fun s => decide (zs_w E (zt_p E T) V s t = z)) i
      have hcl := zs_cnt_le (fun s => decide (zs_w E (zt_p E T) V s t = z)) i
      have hTD := e1.2.1.tab hTab
      have hV' : zr_V 84 E (zt_N E T) V d' := by unfold zr_V; rw [e2]; exact hV
      have hmax : zs_w E (zt_p E T) V i t ≤ z := by rw [hz]; exact zs_top_max (fun s => zs_w E (zt_p E T) V s t) hi
      have hcnt : zs_cnt (fun s => decide (zs_w E (zt_p E T) V s t = z)) (i + 1) = zs_cnt (fun s => decide (zs_w E (zt_p E T) V s t = z)) i + if decide (zs_w E (zt_p E T) V i t = z) = true then 1 else 0 := rfl
      by_cases hc : zs_w E (zt_p E T) V i t = z
      · rw [if_pos (decide_eq_true hc)] at hcnt
        have hk : ¬ lI (zs_w E (zt_p E T) V i t) < lI z := fun q => by have := (lI_lt (zs_w_zb hT ht) zz).mp q; omega
        by_cases h10 : (zj_list (fun s => decide (zs_w E (zt_p E T) V s t = z)) i).length < 10
        · obtain ⟨d4, g1, g2, g3⟩ := e1.tell (by omega) (nI i).toInt64
          refine Or.inl ⟨(nI (zs_cnt (fun s => decide (zs_w E (zt_p E T) V s t = z)) i + 1), nI (i + 1), d4), ?_, d4, by rw [hcnt], by rw [zj_list_s, if_pos ⟨decide_eq_true hc, h10⟩]; exact g2, (g3 84 (by decide)).trans e2⟩
          unfold fn_M_best_l1
          dsimp only
          rw [hTD.2.2.2.2.1, if_pos (nI_lt hi (by omega)), sp_Mworth hT hTD.2.2 hV' hi ht, zp_bs, if_neg hk, if_pos (show nI (zs_cnt (fun s => decide (zs_w E (zt_p E T) V s t = z)) i) < (10 : Int32) from nI_lt (b := 10) (by omega) (by omega)), g1, zp_bs, zp_bs, nI_1, nI_1]
        · refine Or.inl ⟨(nI (zs_cnt (fun s => decide (zs_w E (zt_p E T) V s t = z)) i + 1), nI (i + 1), d'), ?_, d', by rw [hcnt], by rw [zj_list_s, if_neg (fun q => h10 q.2)]; exact e1, e2⟩
          unfold fn_M_best_l1
          dsimp only
          rw [hTD.2.2.2.2.1, if_pos (nI_lt hi (by omega)), sp_Mworth hT hTD.2.2 hV' hi ht, zp_bs, if_neg hk, if_neg (show ¬ nI (zs_cnt (fun s => decide (zs_w E (zt_p E T) V s t = z)) i) < (10 : Int32) from nI_nlt (b := 10) (by omega) (by omega)), zp_bs, nI_1, nI_1]
      · rw [if_neg (fun q => hc (of_decide_eq_true q))] at hcnt
        refine Or.inl ⟨(nI (zs_cnt (fun s => decide (zs_w E (zt_p E T) V s t = z)) i), nI (i + 1), d'), ?_, d', by rw [hcnt]; rfl, by rw [zj_list_s, if_neg (fun q => hc (of_decide_eq_true q.1))]; exact e1, e2⟩
        unfold fn_M_best_l1
        dsimp only
        rw [hTD.2.2.2.2.1, if_pos (nI_lt hi (by omega)), sp_Mworth hT hTD.2.2 hV' hi ht, zp_bs, if_pos ((lI_lt (zs_w_zb hT ht) zz).mpr (by omega)), nI_1]) (fun u h => by
      obtain ⟨d', rfl, e1, e2⟩ := h
      refine ⟨(nI (zs_cnt (fun s => decide (zs_w E (zt_p E T) V s t = z)) (zt_N E T)), d'), ?_, rfl, e1⟩
      unfold fn_M_best_l1
      dsimp only
      rw [(e1.2.1.tab hTab).2.2.2.2.1, if_neg (nI_nlt (Nat.le_refl _) (by omega))]) 0 (0, 0, d) (Nat.zero_le _) ⟨d, rfl, hD, rfl⟩
  exact ⟨x.2, by rw [h1, ← h2], h3⟩
theorem zo_best : zq_best zr_Rel := by
  intro n c hn hRel a s
  unfold fn_P_best fn_M_best
  rcases zo_pay hRel a with ⟨h1, h2⟩ | ⟨p, E, T, V, c1, hp, rfl, h1, hR, hRl, hV, hM, hlen, hisP⟩
  · refine ⟨-1, c, zw_wI c 71 9 0, ?_, ?_, zr_thr hRel⟩
    · rw [h1, zp_bs]
      dsimp only
      rw [if_pos (Or.inl rfl)]
    · rw [zp_bs, h2, zp_bs, if_pos (Or.inl (by decide))]
  · have hTab := hRl.2.2.1
    have hT := zt_T hTab.1
    have hN : zt_N E T ≤ 455 := hT.2.2.2.2.2.1
    have hRel1 : zr_Rel n c1 := ⟨hR, E, T, hRl⟩
    rw [h1, zp_bs]
    dsimp only
    by_cases hc : (((some (54 + p) : Option Nat) = none) ∨ (¬ (¬ (fn_Sayings_has c1 s) = 0)))
    · have hA9 : zr_A c1 (zw_wI c1 71 9 0) := zr_A.rf.wF (by decide)
      refine ⟨-1, c1, zw_wI c1 71 9 0, by rw [if_pos hc], ?_, zr_thr hRel1⟩
      rw [zp_bs, hisP _ hA9, zp_bs, zr_isSaying (hA9.tab hTab), ← zr_has hTab, if_pos]
      rcases hc with h | h
      · cases h
      · exact Or.inr h
    · obtain ⟨sj, hsj, rfl⟩ := has_n (zt_N31 hTab.1) (s := s) (fun q => hc (Or.inr (fun z => z (by rw [zr_has hTab]; exact q))))
      obtain ⟨c2, g1, g2, g3, g4⟩ := sp_great hT hTab.2.1 hlen hV hsj
      have hA2 : zr_A c1 c2 := zr_A.eq g2
      obtain ⟨c3, a1, a2, a3⟩ := zr_C.clear hA2
      have hY3 : zr_Y (zt_N E T) (fun s => zs_w E (zt_p E T) V s sj) c3 := by unfold zr_Y; rw [a3]; exact g4
      obtain ⟨c4, b1, b2, b3⟩ := sp_best (N := zt_N E T) hN a2 (fun d hd => (hd.tab hTab).2.1.2.2.1) hY3 (fun s hs => zs_w_zb hT hsj) (z := zs_w E (zt_p E T) V (zs_top (fun s => zs_w E (zt_p E T) V s sj) (zt_N E T)) sj) (zs_w_zb hT hsj)
      have hY4 : zr_Y (zt_N E T) (fun s => zs_w E (zt_p E T) V s sj) c4 := by unfold zr_Y; rw [b3]; exact hY3
      have hA49 : zr_A c1 (zw_wI c4 71 9 0) := b2.2.wF (by decide)
      obtain ⟨d1, d2, d3, d4, d5, d6⟩ := zo_laid hTab hM b2.2
      have hD := zr_D.start d4 d5 d6
      have hV84 : zr_V 84 E (zt_N E T) V (zw_wI d1 71 8 0) := fun s hs e he => by rw [zw_wI_ne (by decide)]; exact d3 s hs e he
      obtain ⟨e1, f1, f2⟩ := sp_Mbest10 hTab hD hV84 hsj
      refine ⟨nI (zs_cnt (fun s => decide (zs_w E (zt_p E T) V s sj = zs_w E (zt_p E T) V (zs_top (fun s => zs_w E (zt_p E T) V s sj) (zt_N E T)) sj)) (zt_N E T)), c4, e1, ?_, ?_, f2.fin hRl (by rw [zj_list_l]; omega) b2.1⟩
      · rw [if_neg hc, zp_bs]
        unfold fn_Judge_tellBest
        rw [g1, zp_bs]
        dsimp only
        rw [a1, zp_bs, b1, zp_bs, sp_howMany hN (b2.2.tab hTab).2.1.2.2.1 hY4 (fun s hs => zs_w_zb hT hsj) (zs_w_zb hT hsj), zp_bs, zp_bs]
      · rw [zp_bs, hisP _ hA49, zp_bs, if_neg (by
          rw [zr_isSaying (hA49.tab hTab), ← zr_has hTab]
          rintro (h | h)
          · exact h (by decide)
          · exact hc (Or.inr h)), d2, zp_bs, sp_Mbest hT (d4.tab hTab).2.2 d3 hsj, zp_bs, zp_bs, f1, zp_bs]
