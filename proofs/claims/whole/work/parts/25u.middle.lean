/-! middle -/
def zj_mid (L : Nat → Int32) : Nat → Int32 × Int32 × Int32
  | 0 => (-1, 0, 0)
  | r + 1 => if (zj_mid L r).1 = -1 ∨ L r < (zj_mid L r).2.1 then (nI r, L r, 1) else ((zj_mid L r).1, (zj_mid L r).2.1, (zj_mid L r).2.2 + if L r = (zj_mid L r).2.1 then (1 : Int32) else 0)
theorem zj_mid_s (L : Nat → Int32) (r : Nat) : zj_mid L (r + 1) = if (zj_mid L r).1 = -1 ∨ L r < (zj_mid L r).2.1 then (nI r, L r, 1) else ((zj_mid L r).1, (zj_mid L r).2.1, (zj_mid L r).2.2 + if L r = (zj_mid L r).2.1 then (1 : Int32) else 0) := rfl
theorem zj_mid_ne (L : Nat → Int32) : ∀ r : Nat, r < 2 ^ 31 → ¬ (zj_mid L (r + 1)).1 = -1
  | 0, _ => by
    rw [zj_mid_s, if_pos (show (zj_mid L 0).1 = -1 ∨ L 0 < (zj_mid L 0).2.1 from Or.inl rfl)]
    exact nI_nm1 (by omega)
  | r + 1, h => by
    have ih := zj_mid_ne L r (by omega)
    rw [zj_mid_s]
    split
    · exact nI_nm1 (by omega)
    · exact ih
def zj_lost (E T t : Nat) (a b : Int32) (r : Nat) : Int32 := zs_sumI (fun e => nI (zt_p E T t e) * (if nI r < nI e then a * (nI e - nI r) else b * (nI r - nI e))) E
theorem sp_lostBy {E T t r : Nat} {a b : Int32} {c : zw_Ct} (hTab : zr_Tab E T c) (ht : t < zt_N E T) : fn_Chooser_lostBy c (nI r) (nI t) a b = some (zj_lost E T t a b r) := by
  have hE4 := hTab.1.2.1
  have hN : zt_N E T ≤ 455 := (zt_ok hTab.1).2.1
  unfold fn_Chooser_lostBy
  obtain ⟨x, h1, h2⟩ := zp_up (f := fn_Chooser_lostBy_l1 c (nI t) (nI r) a b) (I := fun i u => u = (zs_sumI (fun e => nI (zt_p E T t e) * (if nI r < nI e then a * (nI e - nI r) else b * (nI r - nI e))) i, nI i)) (P := fun x => x = zj_lost E T t a b r) E (by unfold zw_F; omega) (fun i u hi h => by
      subst h
      refine Or.inl ⟨(zs_sumI (fun e => nI (zt_p E T t e) * (if nI r < nI e then a * (nI e - nI r) else b * (nI r - nI e))) (i + 1), nI (i + 1)), ?_, rfl⟩
      unfold fn_Chooser_lostBy_l1 fn_Sayings_partOf
      dsimp only
      rw [hTab.2.1.1, if_pos (nI_lt hi (by omega)), nI_at, zp_aI (by omega) (by omega), zp_bs, zp_bs, zp_bs, hTab.2.1.2.2.2 t ht i (by omega), nI_1, Int32.mul_comm (nI i - nI r) a, Int32.mul_comm (nI r - nI i) b]
      rfl) (fun u h => by
      subst h
      refine ⟨_, ?_, rfl⟩
      unfold fn_Chooser_lostBy_l1
      dsimp only
      rw [hTab.2.1.1, if_neg (nI_nlt (Nat.le_refl _) (by omega))]
      rfl) 0 (0, 0) (Nat.zero_le _) rfl
  rw [h1, zp_bs, h2]
theorem sp_mid {E T t : Nat} {a b : Int32} {c : zw_Ct} (hTab : zr_Tab E T c) (ht : t < zt_N E T) : zw_whl (fn_Chooser_tellMiddle_l1 c (nI t) a b) zw_F (0, zj_lost E T t a b 0, 1, 1) = some ((zj_mid (zj_lost E T t a b) E).1, (zj_mid (zj_lost E T t a b) E).2.1, (zj_mid (zj_lost E T t a b) E).2.2) := by
  have hE4 := hTab.1.2.1
  have hE2 := hTab.1.1
  obtain ⟨x, h1, h2⟩ := zp_up (f := fn_Chooser_tellMiddle_l1 c (nI t) a b) (I := fun i u => 1 ≤ i ∧ u = ((zj_mid (zj_lost E T t a b) i).1, (zj_mid (zj_lost E T t a b) i).2.1, (zj_mid (zj_lost E T t a b) i).2.2, nI i)) (P := fun x => x = ((zj_mid (zj_lost E T t a b) E).1, (zj_mid (zj_lost E T t a b) E).2.1, (zj_mid (zj_lost E T t a b) E).2.2)) E (by unfold zw_F; omega) (fun i u hi h => by
      obtain ⟨h0, h⟩ := h
      subst h
      refine Or.inl ⟨((zj_mid (zj_lost E T t a b) (i + 1)).1, (zj_mid (zj_lost E T t a b) (i + 1)).2.1, (zj_mid (zj_lost E T t a b) (i + 1)).2.2, nI (i + 1)), ?_, by omega, rfl⟩
      have hne : ¬ (zj_mid (zj_lost E T t a b) i).1 = -1 := by
        have := zj_mid_ne (zj_lost E T t a b) (i - 1) (by omega)
        rw [show i - 1 + 1 = i by omega] at this
        exact this
      unfold fn_Chooser_tellMiddle_l1
      dsimp only
      rw [hTab.2.1.1, if_pos (nI_lt hi (by omega)), sp_lostBy hTab ht, zp_bs, nI_1, zj_mid_s]
      by_cases hc : zj_lost E T t a b i < (zj_mid (zj_lost E T t a b) i).2.1
      · rw [if_pos hc, zp_bs, if_pos (Or.inr hc)]
      · have k : ¬ ((zj_mid (zj_lost E T t a b) i).1 = -1 ∨ zj_lost E T t a b i < (zj_mid (zj_lost E T t a b) i).2.1) := fun q => q.elim hne hc
        rw [if_neg hc, if_neg k]
        by_cases hd : zj_lost E T t a b i = (zj_mid (zj_lost E T t a b) i).2.1
        · simp only [if_pos hd, zp_bs]
        · simp only [if_neg hd, zp_bs, Int32.add_zero]) (fun u h => by
      obtain ⟨h0, h⟩ := h
      subst h
      refine ⟨_, ?_, rfl⟩
      unfold fn_Chooser_tellMiddle_l1
      dsimp only
      rw [hTab.2.1.1, if_neg (nI_nlt (Nat.le_refl _) (by omega))]) 1 (0, zj_lost E T t a b 0, 1, 1) (by omega) ⟨Nat.le_refl _, by rw [zj_mid_s, if_pos (show (zj_mid (zj_lost E T t a b) 0).1 = -1 ∨ zj_lost E T t a b 0 < (zj_mid (zj_lost E T t a b) 0).2.1 from Or.inl rfl)]; rfl⟩
  rw [h1, h2]
theorem sp_Mmid {E T t : Nat} {a b : Int32} {d : zw_Ct} (hTab : zr_Tab E T d) (ht : t < zt_N E T) : zw_whl (fn_M_middle_l1 d (nI t) a b) zw_F (-1, 0, 0, 0) = some ((zj_mid (zj_lost E T t a b) E).1, (zj_mid (zj_lost E T t a b) E).2.1, (zj_mid (zj_lost E T t a b) E).2.2) := by
  have hE4 := hTab.1.2.1
  have hN : zt_N E T ≤ 455 := (zt_ok hTab.1).2.1
  obtain ⟨x, h1, h2⟩ := zp_up (f := fn_M_middle_l1 d (nI t) a b) (I := fun i u => u = ((zj_mid (zj_lost E T t a b) i).1, (zj_mid (zj_lost E T t a b) i).2.1, (zj_mid (zj_lost E T t a b) i).2.2, nI i)) (P := fun x => x = ((zj_mid (zj_lost E T t a b) E).1, (zj_mid (zj_lost E T t a b) E).2.1, (zj_mid (zj_lost E T t a b) E).2.2)) E (by unfold zw_F; omega) (fun r u hr h => by
      subst h
      refine Or.inl ⟨((zj_mid (zj_lost E T t a b) (r + 1)).1, (zj_mid (zj_lost E T t a b) (r + 1)).2.1, (zj_mid (zj_lost E T t a b) (r + 1)).2.2, nI (r + 1)), ?_, rfl⟩
      obtain ⟨y, g1, g2⟩ := zp_up (f := fn_M_middle_l2 d (nI t) (nI r) a b) (I := fun i u => u = (zs_sumI (fun e => nI (zt_p E T t e) * (if nI r < nI e then a * (nI e - nI r) else b * (nI r - nI e))) i, nI i)) (P := fun x => x = zj_lost E T t a b r) E (by unfold zw_F; omega) (fun i u hi h => by
          subst h
          refine Or.inl ⟨(zs_sumI (fun e => nI (zt_p E T t e) * (if nI r < nI e then a * (nI e - nI r) else b * (nI r - nI e))) (i + 1), nI (i + 1)), ?_, rfl⟩
          unfold fn_M_middle_l2
          dsimp only
          rw [hTab.2.2.1, if_pos (nI_lt hi (by omega)), nI_at', zp_aI (by omega) (by omega), zp_bs, zp_bs, hTab.2.2.2.2.2 t ht i (by omega), nI_1]
          rfl) (fun u h => by
          subst h
          refine ⟨_, ?_, rfl⟩
          unfold fn_M_middle_l2
          dsimp only
          rw [hTab.2.2.1, if_neg (nI_nlt (Nat.le_refl _) (by omega))]
          rfl) 0 (0, 0) (Nat.zero_le _) rfl
      unfold fn_M_middle_l1
      dsimp only
      rw [hTab.2.2.1, if_pos (nI_lt hr (by omega)), g1, zp_bs, g2, nI_1, zj_mid_s]
      by_cases hc : (zj_mid (zj_lost E T t a b) r).1 = -1 ∨ zj_lost E T t a b r < (zj_mid (zj_lost E T t a b) r).2.1
      · rw [if_pos hc, zp_bs, if_pos hc]
        dsimp only
        rw [if_pos rfl, zp_bs]
        rfl
      · rw [if_neg hc, zp_bs, if_neg hc]
        dsimp only
        rw [zp_bs]) (fun u h => by
      subst h
      refine ⟨_, ?_, rfl⟩
      unfold fn_M_middle_l1
      dsimp only
      rw [hTab.2.2.1, if_neg (nI_nlt (Nat.le_refl _) (by omega))]) 0 (-1, 0, 0, 0) (Nat.zero_le _) rfl
  rw [h1, h2]
theorem zo_middle : zq_middle zr_Rel := by
  intro n c hn hRel s a b
  obtain ⟨hR, E, T, hRl⟩ := hRel
  have hRel : zr_Rel n c := ⟨hR, E, T, hRl⟩
  have hTab := hRl.2.2.1
  have w1 : fn_M_in a.toInt64 0 9 = fn_P_within a 0 9 := in_within a 0 9
  have w2 : fn_M_in b.toInt64 0 9 = fn_P_within b 0 9 := in_within b 0 9
  unfold fn_P_middle fn_M_middle
  rw [w1, w2]
  by_cases hc : (((¬ (¬ (fn_Sayings_has c s) = 0)) ∨ (¬ (¬ (fn_P_within a 0 9) = 0))) ∨ (¬ (¬ (fn_P_within b 0 9) = 0)))
  · have hA : zr_A c (zw_wI c 71 9 0) := zr_A.rf.wF (by decide)
    refine ⟨-1, c, zw_wI c 71 9 0, by rw [if_pos hc], ?_, zr_thr hRel⟩
    rw [zp_bs, zr_isSaying (hA.tab hTab), ← zr_has hTab, if_pos hc]
  · obtain ⟨sj, hsj, rfl⟩ := has_n (zt_N31 hTab.1) (s := s) (fun q => hc (Or.inl (Or.inl (fun z => z (by rw [zr_has hTab]; exact q)))))
    obtain ⟨q, hq⟩ : ∃ q, q = zj_mid (zj_lost E T sj a b) E := ⟨_, rfl⟩
    have h1 := sp_mid (a := a) (b := b) hTab hsj
    rw [← hq] at h1
    obtain ⟨c3, a1, a2, -⟩ := zr_C.clear (c1 := c) (c3 := c) zr_A.rf
    obtain ⟨c4, a3, a4, -⟩ := a2.add (by decide) q.2.1.toInt64
    obtain ⟨c5, a5, a6, -⟩ := a4.add (by simp) q.2.2.toInt64
    have hA5 : zr_A c (zw_wI c5 71 9 0) := a6.2.wF (by decide)
    have hD := zr_D.start (c3 := c5) hA5 (by rw [zw_wI_ne (by decide)]) rfl
    have h2 := sp_Mmid (a := a) (b := b) (hA5.tab hTab) hsj
    rw [← hq] at h2
    obtain ⟨e1, f1, f2, -⟩ := hD.tell (by decide) q.2.1.toInt64
    obtain ⟨e2, f3, f4, -⟩ := f2.tell (by simp) q.2.2.toInt64
    refine ⟨q.1, c5, e2, ?_, ?_, f4.fin hRl (by simp) a6.1⟩
    · rw [if_neg hc]
      unfold fn_Chooser_tellMiddle
      have e0 : fn_Chooser_lostBy c 0 (nI sj) a b = some (zj_lost E T sj a b 0) := sp_lostBy (r := 0) hTab hsj
      rw [e0, zp_bs, h1, zp_bs]
      dsimp only
      rw [a1, zp_bs, a3, zp_bs, a5, zp_bs, zp_bs]
    · rw [zp_bs, if_neg (by rw [zr_isSaying (hA5.tab hTab), ← zr_has hTab]; exact hc), h2, zp_bs]
      dsimp only
      rw [zp_bs, f1, zp_bs, f3, zp_bs]
