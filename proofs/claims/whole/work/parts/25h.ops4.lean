/-! the text's end, part, row, saying, words, count -/
theorem zr_Rl.text {n E T : Nat} {c c' : zw_Ct} (g : ∀ k, k ≠ 40 → k ≠ 41 → k ≠ 74 → k ≠ 71 → c'.1 k = c.1 k) (f : ∀ j, j ≠ 6 → j ≠ 9 → c'.1 71 j = c.1 71 j) (hX : zr_X c') (h : zr_Rl n E T c) : zr_Rl n E T c' := by
  obtain ⟨h1, h2, h3, h4, h5, h6⟩ := h
  have G : ∀ k : Nat, k ≠ 40 ∧ k ≠ 41 ∧ k ≠ 74 ∧ k ≠ 71 → c'.1 k = c.1 k := fun k q => g k q.1 q.2.1 q.2.2.1 q.2.2.2
  refine ⟨h1.fr (f 10 (by decide) (by decide)) (G 98 (by decide)) (G 99 (by decide)), hX, h3.fr (G 1 (by decide)) (G 2 (by decide)) (G 72 (by decide)) (f 0 (by decide) (by decide)) (f 1 (by decide) (by decide)) (f 2 (by decide) (by decide)), fun p hp => ?_, ?_, fun i hi => ?_⟩
  · exact (h4 p hp).fr (by rw [G 46 (by decide)]) (by rw [G 82 (by decide)]) (by rw [G 81 (by decide)]) (by rw [G 58 (by decide)]) (G _ (by omega)) (G 83 (by decide)) (G _ (by omega)) (by rw [G 52 (by decide)]) (G _ (by omega)) (G 4 (by decide))
  · exact h5.fr (G 3 (by decide)) (G 4 (by decide)) (G 5 (by decide)) (G 6 (by decide)) (G 7 (by decide)) (G 8 (by decide)) (G 9 (by decide)) (G 10 (by decide)) (G 73 (by decide)) (G 89 (by decide)) (G 92 (by decide)) (G 93 (by decide)) (G 94 (by decide)) (G 95 (by decide)) (G 96 (by decide)) (f 26 (by decide) (by decide)) (f 33 (by decide) (by decide)) (f 30 (by decide) (by decide))
  · exact (h6 i hi).fr (by rw [G 39 (by decide)]) (by rw [G 98 (by decide)]) (by rw [G 99 (by decide)]) (f 10 (by decide) (by decide)) (G 97 (by decide)) (fun k k1 k2 => G k (by omega))
theorem zo_end : zq_end zr_Rel := by
  intro n c hn hRel m
  have hRel0 := hRel
  obtain ⟨hR, E, T, hRl⟩ := hRel
  obtain ⟨L, x1, x2, x3, x4⟩ := hRl.2.1
  unfold fn_P_end fn_Text_cutTo fn_M_end
  have w : fn_M_in m.toInt64 0 (nI L).toInt64 = fn_P_within m 0 (nI L) := in_within m 0 (nI L)
  have e6 : (zw_wI c 71 9 0).1 71 6 = nI L := by rw [zw_wI_at (by decide), x3]
  by_cases hc : 0 ≤ m ∧ m ≤ nI L
  · obtain ⟨j, hj, rfl⟩ := within_n (m := L) rfl (by omega) hc
    have e1 : (zw_wI (zw_wI c 40 1 (nI j)) 71 9 0).1 71 6 = nI L := by rw [zw_wI_at (by decide), zw_wI_ne (by decide), x3]
    refine ⟨1, zw_wI c 40 1 (nI j), zw_wI (zw_wI (zw_wI c 40 1 (nI j)) 71 9 0) 71 6 (nI j), ?_, ?_, ?_, E, T, (zr_Rl.text (c := c) (fun k k1 k2 k3 k4 => ?_) (fun i i1 i2 => ?_) ⟨j, by omega, ?_, ?_, fun k hk => ?_⟩ hRl).up (Nat.le_succ n)⟩
    · rw [x2, if_neg (by
        rintro (h | h)
        · exact nI_pos (n := j) (by omega) h
        · exact nI_nlt (a := L) (b := j) hj (by omega) h)]
      rfl
    · rw [zp_bs, e1, w, if_neg (fun q => within_0 q hc)]; rfl
    · exact hR.fr (by rw [zw_wI_ne (by decide), zw_wI_ne (by decide), zw_wI_ne (by decide)]) (by rw [zw_wI_at (by decide), zw_wI_at (by decide), zw_wI_ne (by decide)]) rfl rfl
    · rw [zw_wI_ne k4, zw_wI_ne k4, zw_wI_ne k1]
    · rw [zw_wI_at i1, zw_wI_at i2, zw_wI_ne (by decide)]
    · rw [zw_wI_ne (by decide), zw_wI_ne (by decide), zw_wI_eq]
    · rw [zw_wI_eq]
    · obtain ⟨u, u1, u2, u3⟩ := x4 k (by omega)
      exact ⟨u, u1, by rw [zw_wI_ne (by decide), zw_wI_ne (by decide), zw_wI_ne (by decide), u2], by rw [zw_wI_ne (by decide), zw_wI_ne (by decide), zw_wI_ne (by decide), u3]⟩
  · refine ⟨0, c, zw_wI c 71 9 0, ?_, ?_, zr_thr hRel0⟩
    · rw [x2, if_pos (by
        simp only [Int32.lt_iff_toInt_lt]
        simp only [Int32.le_iff_toInt_le] at hc
        have z : (0 : Int32).toInt = 0 := by decide
        rw [z] at hc ⊢
        omega)]
      rfl
    · rw [zp_bs, e6, w, if_pos]
      unfold fn_P_within
      rw [if_neg hc]
      decide
theorem zo_part : zq_part zr_Rel := by
  intro n c hn hRel s e
  have hRel0 := hRel
  obtain ⟨hR, E, T, hRl⟩ := hRel
  have hTab := hRl.2.2.1
  unfold fn_P_part
  by_cases hc : ((¬ (¬ (fn_Sayings_has c s) = 0)) ∨ (¬ (¬ (fn_Sayings_hasEvent c e) = 0)))
  · refine ⟨none, c, 0, zw_wI (zw_wI c 71 9 0) 71 9 1, by rw [if_pos hc], ?_, ?_, (fun v hv => by cases hv), ?_⟩
    · have hT9 : zr_Tab E T (zw_wI c 71 9 0) := hTab.fr (zw_wI_ne (by decide)) (zw_wI_ne (by decide)) (zw_wI_ne (by decide)) (zw_wI_at (by decide)) (zw_wI_at (by decide)) (zw_wI_at (by decide))
      unfold fn_M_part fw_part
      dsimp only
      rw [zp_bs, zr_isSaying hT9, zr_isEvent hT9, ← zr_has hTab, ← zr_hasE hTab, if_neg (fun q => hc.elim (fun z => z q.1) (fun z => z q.2))]
      rfl
    · unfold fn_M_thrown fk_part
      rw [zw_wI_eq]
    · have h := zr_thr (v := 0) hRel0
      obtain ⟨a1, E', T', a2⟩ := h
      exact ⟨a1.fr (by rw [zw_wI_ne (by decide)]) (zw_wI_at (by decide)) rfl rfl, E', T', a2.fr (zr_A.rf.wF (by decide))⟩
  · obtain ⟨sj, hsj, rfl⟩ := has_n (zt_N31 hTab.1) (s := s) (fun q => hc (Or.inl (fun z => z (by rw [zr_has hTab]; exact q))))
    obtain ⟨ej, hej, rfl⟩ := has_n (N := E) (by have := hTab.1.2.1; omega) (s := e) (fun q => hc (Or.inr (fun z => z (by rw [zr_hasE hTab]; exact q))))
    have hE4 := hTab.1.2.1
    have hN := (zt_ok hTab.1).2.1
    have hN' : zt_N E T ≤ 455 := hN
    have v1 : c.1 2 (4 * sj + ej) = nI (zt_p E T sj ej) := hTab.2.1.2.2.2 sj hsj ej (by omega)
    refine ⟨some (nI (zt_p E T sj ej)), c, nI (zt_p E T sj ej), zw_wI (zw_wL c 100 0 (nI (zt_p E T sj ej)).toInt64) 71 9 0, ?_, ?_, ?_, fun v hv => ?_, ?_⟩
    · rw [if_neg hc]
      unfold fn_Sayings_partOf
      rw [nI_at, zp_aI (by omega) (by omega), zp_bs, zp_bs, v1]
    · have hT9 : zr_Tab E T (zw_wI (zw_wL c 100 0 (nI (zt_p E T sj ej)).toInt64) 71 9 0) := hTab.fr (zw_wI_ne (by decide)) (zw_wI_ne (by decide)) (zw_wI_ne (by decide)) (zw_wI_at (by decide)) (zw_wI_at (by decide)) (zw_wI_at (by decide))
      unfold fn_M_part fw_part
      dsimp only
      rw [zp_bs, zr_isSaying hT9, zr_isEvent hT9, if_pos ⟨fun q => hc (Or.inl (fun z => z (by rw [zr_has hTab]; exact q))), fun q => hc (Or.inr (fun z => z (by rw [zr_hasE hTab]; exact q)))⟩, nI_at', zp_aI (by omega) (by omega), zp_bs, hT9.2.2.2.2.2 sj hsj ej (by omega)]
      rfl
    · unfold fn_M_thrown fk_part
      rw [zw_wI_eq]
    · cases hv
      exact (zw_wL_eq : (zw_wL c 100 0 _).2 100 0 = _)
    · exact ⟨hR.fr (by rw [zw_wI_ne (by decide)]) (zw_wI_at (by decide)) rfl rfl, E, T, (hRl.fr (zr_A.wF (by decide) (zr_A.wL zr_A.rf))).up (Nat.le_succ n)⟩
theorem zo_row : zq_row zr_Rel := by
  intro n c hn hRel i
  have hRel0 := hRel
  obtain ⟨hR, E, T, hRl⟩ := hRel
  obtain ⟨r, r1, r2, r3, r4⟩ := hR
  unfold fn_P_row
  have w : fn_P_within i 0 (nI r - 1) = if 0 ≤ i ∧ i < nI r then (1 : Int32) else 0 := by
    have h0 : fn_M_in i.toInt64 0 ((nI r) - 1).toInt64 = fn_P_within i 0 (nI r - 1) := in_within i 0 (nI r - 1)
    rw [← h0]; exact in_has (by omega) i
  rw [r2, w]
  by_cases hc : (¬ (¬ (if 0 ≤ i ∧ i < nI r then (1 : Int32) else 0) = 0))
  · refine ⟨none, c, 0, zw_wI (zw_wI c 71 9 0) 71 9 1, by rw [if_pos hc], ?_, ?_, (fun v hv => by cases hv), ?_⟩
    · unfold fn_M_row fw_row
      dsimp only
      rw [zp_bs, zw_wI_at (by decide), r3, in_has (by omega), if_neg (fun q => hc q)]
      rfl
    · unfold fn_M_thrown fk_row
      rw [zw_wI_eq]
    · obtain ⟨a1, E', T', a2⟩ := zr_thr (v := 0) hRel0
      exact ⟨a1.fr (by rw [zw_wI_ne (by decide)]) (zw_wI_at (by decide)) rfl rfl, E', T', a2.fr (zr_A.rf.wF (by decide))⟩
  · obtain ⟨j, hj, rfl⟩ := has_n (N := r) (by omega) (s := i) (fun q => hc (fun z => z q))
    refine ⟨some (c.2 62 j), c, c.2 62 j, zw_wI (zw_wL c 100 0 (c.2 62 j)) 71 9 0, ?_, ?_, ?_, fun v hv => ?_, ?_⟩
    · rw [if_neg hc, zp_aL (by omega) (by omega), zp_bs]
    · unfold fn_M_row fw_row
      dsimp only
      rw [zp_bs, zw_wI_at (by decide), show (zw_wL c 100 0 (c.2 62 j)).1 71 8 = nI r from r3, in_has (by omega), if_pos (fun q => hc (fun z => z q)), zp_aL (by omega) (by omega), zp_bs]
      rw [show (zw_wI (zw_wL c 100 0 (c.2 62 j)) 71 9 0).2 75 j = c.2 62 j from (congrFun (zw_wL_ne (c := c) (k := 100) (i := 0) (v := c.2 62 j) (j := 75) (by decide)) j).trans (r4 j hj).symm]
      rfl
    · unfold fn_M_thrown fk_row
      rw [zw_wI_eq]
    · cases hv
      exact (zw_wL_eq : (zw_wL c 100 0 _).2 100 0 = _)
    · exact ⟨zr_R.fr (c := c) (by rw [zw_wI_ne (by decide)]; rfl) (zw_wI_at (by decide)) rfl rfl ⟨r, r1, r2, r3, r4⟩, E, T, (hRl.fr (zr_A.wF (by decide) (zr_A.wL zr_A.rf))).up (Nat.le_succ n)⟩
theorem zo_saying : zq_saying zr_Rel := by
  intro n c hn hRel a b d e
  have hRel0 := hRel
  obtain ⟨hR, E, T, hRl⟩ := hRel
  have hTab := hRl.2.2.1
  have hN' : zt_N E T ≤ 455 := (zt_ok hTab.1).2.1
  unfold fn_P_saying fn_Sayings_numberOf fn_M_saying
  obtain ⟨x, y, h1, h2, h3⟩ := zp_up2 (f := fn_Sayings_numberOf_l1 c a b d e) (g := fn_M_saying_l1 (zw_wI c 71 9 0) a b d e) (I := fun i t u => t = nI i ∧ u = nI i) (P := fun x y => (∃ w, x = .inl w ∧ y = .inl (w, zw_wI c 71 9 0)) ∨ (x = .inr () ∧ y = .inr ())) (zt_N E T) (by unfold zw_F; omega) (fun i t u hi h => by
      obtain ⟨rfl, rfl⟩ := h
      have hc : ∀ k, k < 4 → c.1 2 (4 * i + k) = nI (zt_p E T i k) := fun k hk => hTab.2.1.2.2.2 i hi k hk
      have hm : ∀ k, k < 4 → (zw_wI c 71 9 0).1 72 (4 * i + k) = nI (zt_p E T i k) := fun k hk => by rw [zw_wI_ne (by decide)]; exact hTab.2.2.2.2.2 i hi k hk
      have e1 : nI (4 * i) + 1 = nI (4 * i + 1) := nI_add _ 1
      have e2 : nI (4 * i) + 2 = nI (4 * i + 2) := nI_add _ 2
      have e3 : nI (4 * i) + 3 = nI (4 * i + 3) := nI_add _ 3
      have f1 : fn_Sayings_numberOf_l1 c a b d e (nI i) = if nI (zt_p E T i 0) = a ∧ nI (zt_p E T i 1) = b ∧ nI (zt_p E T i 2) = d ∧ nI (zt_p E T i 3) = e then some (.inl (.inl (nI i))) else some (.inr (nI (i + 1))) := by
        unfold fn_Sayings_numberOf_l1
        rw [hTab.2.1.2.2.1, if_pos (nI_lt hi (by omega)), nI_4, zp_bs, e1, e2, e3, zp_aI (by omega) (by omega), zp_bs, zp_aI (by omega) (by omega), zp_aI (by omega) (by omega), zp_aI (by omega) (by omega), zp_bs, zp_bs, zp_bs, show c.1 2 (4 * i) = nI (zt_p E T i 0) from hc 0 (by omega), hc 1 (by omega), hc 2 (by omega), hc 3 (by omega), nI_1]
        by_cases h0 : nI (zt_p E T i 0) = a
        · by_cases h1 : nI (zt_p E T i 1) = b
          · by_cases h2 : nI (zt_p E T i 2) = d
            · by_cases h3 : nI (zt_p E T i 3) = e
              · rw [if_pos h0, if_pos h1, if_pos h2, if_pos ⟨h0, h1, h2, h3⟩, zp_bs, if_pos (decide_eq_true h3)]
              · rw [if_pos h0, if_pos h1, if_pos h2, if_neg (fun q => h3 q.2.2.2), zp_bs, if_neg (fun q => h3 (of_decide_eq_true q))]
            · rw [if_pos h0, if_pos h1, if_neg h2, if_neg (fun q => h2 q.2.2.1), zp_bs, if_neg (by decide)]
          · rw [if_pos h0, if_neg h1, if_neg (fun q => h1 q.2.1), zp_bs, if_neg (by decide)]
        · rw [if_neg h0, if_neg (fun q => h0 q.1), zp_bs, if_neg (by decide)]
      have f2 : fn_M_saying_l1 (zw_wI c 71 9 0) a b d e (nI i) = if nI (zt_p E T i 0) = a ∧ nI (zt_p E T i 1) = b ∧ nI (zt_p E T i 2) = d ∧ nI (zt_p E T i 3) = e then some (.inl (.inl (nI i, zw_wI c 71 9 0))) else some (.inr (nI (i + 1))) := by
        unfold fn_M_saying_l1
        rw [show (zw_wI c 71 9 0).1 71 2 = nI (zt_N E T) by rw [zw_wI_at (by decide)]; exact hTab.2.2.2.2.1, if_pos (nI_lt hi (by omega)), nI_4', zp_bs, e1, e2, e3, zp_aI (by omega) (by omega), zp_bs, zp_aI (by omega) (by omega), zp_aI (by omega) (by omega), zp_aI (by omega) (by omega), zp_bs, zp_bs, zp_bs, show (zw_wI c 71 9 0).1 72 (4 * i) = nI (zt_p E T i 0) from hm 0 (by omega), hm 1 (by omega), hm 2 (by omega), hm 3 (by omega), nI_1]
        by_cases h0 : nI (zt_p E T i 0) = a
        · by_cases h1 : nI (zt_p E T i 1) = b
          · by_cases h2 : nI (zt_p E T i 2) = d
            · by_cases h3 : nI (zt_p E T i 3) = e
              · rw [if_pos h0, if_pos h1, if_pos h2, if_pos ⟨h0, h1, h2, h3⟩, zp_bs, if_pos (decide_eq_true h3)]
              · rw [if_pos h0, if_pos h1, if_pos h2, if_neg (fun q => h3 q.2.2.2), zp_bs, if_neg (fun q => h3 (of_decide_eq_true q))]
            · rw [if_pos h0, if_pos h1, if_neg h2, if_neg (fun q => h2 q.2.2.1), zp_bs, if_neg (by decide)]
          · rw [if_pos h0, if_neg h1, if_neg (fun q => h1 q.2.1), zp_bs, if_neg (by decide)]
        · rw [if_neg h0, if_neg (fun q => h0 q.1), zp_bs, if_neg (by decide)]
      by_cases hq : nI (zt_p E T i 0) = a ∧ nI (zt_p E T i 1) = b ∧ nI (zt_p E T i 2) = d ∧ nI (zt_p E T i 3) = e
      · exact Or.inr ⟨_, _, by rw [f1, if_pos hq], by rw [f2, if_pos hq], Or.inl ⟨nI i, rfl, rfl⟩⟩
      · exact Or.inl ⟨_, _, by rw [f1, if_neg hq], by rw [f2, if_neg hq], rfl, rfl⟩) (fun t u h => by
      obtain ⟨rfl, rfl⟩ := h
      refine ⟨.inr (), .inr (), ?_, ?_, Or.inr ⟨rfl, rfl⟩⟩
      · unfold fn_Sayings_numberOf_l1
        rw [hTab.2.1.2.2.1, if_neg (nI_nlt (Nat.le_refl _) (by omega))]
      · unfold fn_M_saying_l1
        rw [show (zw_wI c 71 9 0).1 71 2 = nI (zt_N E T) by rw [zw_wI_at (by decide)]; exact hTab.2.2.2.2.1, if_neg (nI_nlt (Nat.le_refl _) (by omega))]) 0 0 0 (Nat.zero_le _) ⟨rfl, rfl⟩
  rcases h3 with ⟨w, rfl, rfl⟩ | ⟨rfl, rfl⟩
  · exact ⟨w, zw_wI c 71 9 0, by rw [h1]; rfl, by rw [zp_bs, h2]; rfl, zr_thr hRel0⟩
  · exact ⟨-1, zw_wI c 71 9 0, by rw [h1]; rfl, by rw [zp_bs, h2]; rfl, zr_thr hRel0⟩
