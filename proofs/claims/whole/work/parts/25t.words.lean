/-! count, words, middle -/
theorem oi_1 {P : Prop} [Decidable P] (a b : Int32) : (if P then some a else some b : Option Int32) = some (if P then a else b) := by split <;> rfl
theorem oi_2 {P : Prop} [Decidable P] (a b : Int32) (d : zw_Ct) : (if P then some (a, d) else some (b, d) : Option (Int32 × zw_Ct)) = some (if P then a else b, d) := by split <;> rfl
theorem zo_count : zq_count zr_Rel := by
  intro n c hn hRel w
  obtain ⟨hR, E, T, hRl⟩ := hRel
  have hRel : zr_Rel n c := ⟨hR, E, T, hRl⟩
  have hTab := hRl.2.2.1
  have hH := hRl.2.2.2.2.1
  have hA : zr_A c (zw_wI c 71 9 0) := zr_A.rf.wF (by decide)
  have e7 : c.1 61 1 = c.1 71 8 := by obtain ⟨r, -, q1, q2, -⟩ := hR; rw [q1, q2]
  have e8 : c.1 40 1 = c.1 71 6 := by obtain ⟨r, -, q1, q2, -⟩ := hRl.2.1; rw [q1, q2]
  have e0 : c.1 1 0 = c.1 71 0 := hTab.2.1.1.trans hTab.2.2.1.symm
  have e1 : c.1 1 1 = c.1 71 1 := hTab.2.1.2.1.trans hTab.2.2.2.1.symm
  have e2 : c.1 1 2 = c.1 71 2 := hTab.2.1.2.2.1.trans hTab.2.2.2.2.1.symm
  obtain ⟨x, y, h1, h2, h3⟩ := zp_up2 (f := fn_Pays_bits_l1 c) (g := fn_M_count_l1 (zw_wI c 71 9 0)) (I := fun i t u => t.2 = nI i ∧ u = t) (P := fun x y => x = y) 4 (by unfold zw_F; omega) (fun i t u hi h => by
      obtain ⟨t1, t2⟩ := t
      obtain ⟨h, rfl⟩ := h
      dsimp only at h
      subst h
      have ex : ∃ z, fn_Pays_bits_l1 c (t1, nI i) = some (.inr (z, nI (i + 1))) ∧ fn_M_count_l1 (zw_wI c 71 9 0) (t1, nI i) = some (.inr (z, nI (i + 1))) := by
        unfold fn_Pays_bits_l1 fn_M_count_l1
        dsimp only
        have h4 : nI i < (4 : Int32) := nI_lt (b := 4) hi (by omega)
        rw [if_pos h4, if_pos h4, zp_aI hi (by omega), zp_bs, zp_bs, nI_1]
        rcases sp_isPay hRl hA (nI i) with ⟨⟨p, hp, ep, hk⟩, hq⟩ | ⟨hk, hq⟩
        · have : p = i := by
            have := congrArg Int32.toInt ep
            rw [nI_toInt (by omega), nI_toInt (by omega)] at this
            omega
          subst this
          rw [hq, zp_bs, zp_bs, if_neg hk, if_pos (show ¬ (1 : Int32) = 0 by decide)]
          exact ⟨_, rfl, rfl⟩
        · rw [hq, zp_bs, zp_bs, if_pos (hk i hi rfl), if_neg (fun q => q rfl)]
          exact ⟨_, rfl, rfl⟩
      obtain ⟨z, z1, z2⟩ := ex
      exact Or.inl ⟨(z, nI (i + 1)), (z, nI (i + 1)), z1, z2, rfl, rfl⟩) (fun t u h => by
      obtain ⟨t1, t2⟩ := t
      obtain ⟨h, rfl⟩ := h
      dsimp only at h
      subst h
      refine ⟨t1, t1, ?_, ?_, rfl⟩
      · unfold fn_Pays_bits_l1
        dsimp only
        rw [if_neg (show ¬ nI 4 < (4 : Int32) by decide)]
      · unfold fn_M_count_l1
        dsimp only
        rw [if_neg (show ¬ nI 4 < (4 : Int32) by decide)]) 0 (0, 0) (0, 0) (Nat.zero_le _) ⟨rfl, rfl⟩
  subst h3
  have hm : ∀ j, j ≠ 9 → (zw_wI c 71 9 0).1 71 j = c.1 71 j := fun j hj => zw_wI_at hj
  unfold fn_P_count fn_M_count fn_Pays_bits
  rw [h1]
  simp only [zp_bs, h2]
  rw [hm 0 (by decide), hm 1 (by decide), hm 2 (by decide), hm 26 (by decide), hm 33 (by decide), hm 30 (by decide), hm 8 (by decide), hm 6 (by decide), e0, e1, e2, e7, e8, hH.2.2.1, hH.2.2.2.2.1, hH.2.2.2.2.2.2.1]
  simp only [oi_1, oi_2]
  exact ⟨_, zw_wI c 71 9 0, rfl, rfl, zr_thr hRel⟩
theorem zr_said {n E T i s : Nat} {c d : zw_Ct} (hRl : zr_Rl n E T c) (hA : zr_A c d) (hi : i < 6) (hs : s < zt_N E T) : ∃ w : Int32, fn_Held_isWordFor 3 c (nI i) (nI (zt_p E T s 0)) = some w ∧ fn_M_isSaid d (nI i) (nI s) = some w := by
  have hTab := hRl.2.2.1
  have hN : zt_N E T ≤ 455 := (zt_ok hTab.1).2.1
  have hH := hRl.2.2.2.2.1
  have e30 : d.1 71 30 = c.1 3 9 := (hA.2 30 (by decide)).trans hH.2.2.2.2.2.2.1.symm
  have e72 : d.1 72 (4 * s) = nI (zt_p E T s 0) := (hA.tab hTab).2.2.2.2.2 s hs 0 (by omega)
  have e92 : d.1 92 i = c.1 9 i := by rw [hA.1 92 (by decide) (by decide)]; exact (hH.2.2.2.2.2.1 i hi).1.symm
  have e93 : d.1 93 i = c.1 10 i := by rw [hA.1 93 (by decide) (by decide)]; exact (hH.2.2.2.2.2.1 i hi).2.symm
  have i6 : nI i < (6 : Int32) := nI_lt (b := 6) hi (by omega)
  have i0 : (0 : Int32) ≤ nI i := by rw [Int32.le_iff_toInt_le, nI_toInt (by omega), show (0 : Int32).toInt = 0 by rfl]; omega
  unfold fn_Held_isWordFor fn_M_isSaid
  rw [e30]
  by_cases hX : (((c.1 3 9) >>> ((nI i) &&& 31)) &&& 1) = 1
  · rw [if_pos (show ¬ fn_Held_isWord 3 c (nI i) = 0 by unfold fn_Held_isWord; rw [if_pos ⟨⟨i0, i6⟩, hX⟩]; decide), if_pos hX]
    have e9 : c.1 (3 + 6) i = c.1 9 i := rfl
    have e10 : c.1 (3 + 7) i = c.1 10 i := rfl
    simp only [zp_aI (n := 6) hi (show (6 : Nat) < 2 ^ 31 by omega), nI_4', zp_aI (n := 1820) (k := 4 * s) (by omega) (by omega), zp_bs, e72, e92, e93, e9, e10, in_within]
    by_cases h1 : c.1 9 i ≤ nI (zt_p E T s 0)
    · by_cases h2 : nI (zt_p E T s 0) ≤ c.1 10 i
      · refine ⟨1, ?_, ?_⟩
        · rw [if_pos h1, zp_bs, if_pos (decide_eq_true h2)]
        · rw [if_pos (decide_eq_true (by unfold fn_P_within; rw [if_pos ⟨h1, h2⟩]; decide))]
      · refine ⟨0, ?_, ?_⟩
        · rw [if_pos h1, zp_bs, if_neg (fun q => h2 (of_decide_eq_true q))]
        · have k : ¬ ¬ fn_P_within (nI (zt_p E T s 0)) (c.1 9 i) (c.1 10 i) = 0 := fun q => q (by unfold fn_P_within; rw [if_neg (fun z => h2 z.2)])
          rw [decide_eq_false k, if_neg (by decide)]
    · refine ⟨0, ?_, ?_⟩
      · rw [if_neg h1, zp_bs, if_neg (by decide)]
      · have k : ¬ ¬ fn_P_within (nI (zt_p E T s 0)) (c.1 9 i) (c.1 10 i) = 0 := fun q => q (by unfold fn_P_within; rw [if_neg (fun z => h1 z.1)])
        rw [decide_eq_false k, if_neg (by decide)]
  · rw [if_neg (show ¬ ¬ fn_Held_isWord 3 c (nI i) = 0 from fun q => q (by unfold fn_Held_isWord; rw [if_neg (fun z => hX z.2)])), if_neg hX, zp_bs]
    exact ⟨_, rfl, rfl⟩
theorem zo_words : zq_words zr_Rel := by
  intro n c hn hRel s
  obtain ⟨hR, E, T, hRl⟩ := hRel
  have hRel : zr_Rel n c := ⟨hR, E, T, hRl⟩
  have hTab := hRl.2.2.1
  have hN : zt_N E T ≤ 455 := (zt_ok hTab.1).2.1
  have hA : zr_A c (zw_wI c 71 9 0) := zr_A.rf.wF (by decide)
  unfold fn_P_words fn_M_words
  rw [zp_bs, zr_isSaying (hA.tab hTab), zr_has hTab]
  by_cases hc : ¬ (if 0 ≤ s ∧ s < nI (zt_N E T) then (1 : Int32) else 0) = 0
  · obtain ⟨sj, hsj, rfl⟩ := has_n (zt_N31 hTab.1) (s := s) hc
    rw [if_pos hc, if_neg (fun q => q hc)]
    have e2 : c.1 2 (4 * sj + 0) = nI (zt_p E T sj 0) := hTab.2.1.2.2.2 sj hsj 0 (by omega)
    unfold fn_Sayings_partOf fn_Held_wordsFor
    obtain ⟨x, y, h1, h2, h3⟩ := zp_up2 (f := fn_Held_wordsFor_l1 3 c (nI (zt_p E T sj 0))) (g := fn_M_words_l1 (zw_wI c 71 9 0) (nI sj)) (I := fun i t u => t.2 = nI i ∧ u = t) (P := fun x y => x = y) 6 (by unfold zw_F; omega) (fun i t u hi h => by
        obtain ⟨t1, t2⟩ := t
        obtain ⟨h, rfl⟩ := h
        dsimp only at h
        subst h
        obtain ⟨w, w1, w2⟩ := zr_said hRl hA hi hsj
        have h6 : nI i < (6 : Int32) := nI_lt (b := 6) hi (by omega)
        have ex : ∃ z, fn_Held_wordsFor_l1 3 c (nI (zt_p E T sj 0)) (t1, nI i) = some (.inr (z, nI (i + 1))) ∧ fn_M_words_l1 (zw_wI c 71 9 0) (nI sj) (t1, nI i) = some (.inr (z, nI (i + 1))) := by
          unfold fn_Held_wordsFor_l1 fn_M_words_l1
          dsimp only
          rw [if_pos h6, if_pos h6, w1, w2, zp_bs, zp_bs, zp_bs, nI_1]
          by_cases h0 : w = 0
          · rw [if_neg (fun q => q h0), if_neg (fun q => q h0), zp_bs]
            exact ⟨_, rfl, by rw [Int32.or_zero]; rfl⟩
          · rw [if_pos h0, if_pos h0, zp_bs]
            exact ⟨_, rfl, rfl⟩
        obtain ⟨z, z1, z2⟩ := ex
        exact Or.inl ⟨(z, nI (i + 1)), (z, nI (i + 1)), z1, z2, rfl, rfl⟩) (fun t u h => by
        obtain ⟨t1, t2⟩ := t
        obtain ⟨h, rfl⟩ := h
        dsimp only at h
        subst h
        refine ⟨t1, t1, ?_, ?_, rfl⟩
        · unfold fn_Held_wordsFor_l1
          dsimp only
          rw [if_neg (show ¬ nI 6 < (6 : Int32) by decide)]
        · unfold fn_M_words_l1
          dsimp only
          rw [if_neg (show ¬ nI 6 < (6 : Int32) by decide)]) 0 (0, 0) (0, 0) (Nat.zero_le _) ⟨rfl, rfl⟩
    subst h3
    refine ⟨x, zw_wI c 71 9 0, ?_, ?_, zr_thr hRel⟩
    · have ea : zw_aI 1820 c 2 (nI sj * 4 + 0) = some (nI (zt_p E T sj 0)) := by
        have : nI sj * 4 + 0 = nI (4 * sj + 0) := nI_at sj 0
        rw [this, zp_aI (by omega) (by omega), e2]
      rw [ea, zp_bs, zp_bs, h1, zp_bs, zp_bs, zp_bs]
    · rw [h2, zp_bs]
  · rw [if_neg hc, if_pos hc]
    exact ⟨-1, zw_wI c 71 9 0, rfl, rfl, zr_thr hRel⟩
