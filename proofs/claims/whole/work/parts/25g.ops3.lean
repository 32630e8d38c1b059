/-! go, forget, an evening, a word, the text's end, part, row (by program: wip/whole/gen/ops5.py) -/
theorem zo_go : zq_go zr_Rel := by
  intro n c hn hRel
  have hRel0 := hRel
  obtain ⟨hR, E, T, hRl⟩ := hRel
  have hTab := hRl.2.2.1
  obtain ⟨q1, q2, q3, q4, q5, q6, q7, P, Q, v1, v2, v3, v4, v5, v6⟩ := hRl.2.2.2.2.1
  have hT9 : zr_Tab E T (zw_wI c 71 9 0) := hTab.fr (zw_wI_ne (by decide)) (zw_wI_ne (by decide)) (zw_wI_ne (by decide)) (zw_wI_at (by decide)) (zw_wI_at (by decide)) (zw_wI_at (by decide))
  have e26 : c.1 71 26 = nI P := q3.symm.trans v1
  have e33 : c.1 71 33 = nI Q := q5.symm.trans v3
  obtain ⟨d, hd⟩ : ∃ d, d = zw_wI (zw_wI (zw_wI (zw_wI (zw_wI c 3 2 (0)) 3 6 (0)) 71 9 (0)) 71 26 (0)) 71 33 (0) := ⟨_, rfl⟩
  have g : ∀ k, k ≠ 3 → k ≠ 71 → d.1 k = c.1 k := fun k k3 k71 => by rw [hd, zw_wI_ne k71, zw_wI_ne k71, zw_wI_ne k71, zw_wI_ne k3, zw_wI_ne k3]
  have f71 : ∀ i, i ≠ 9 → i ≠ 26 → i ≠ 33 → d.1 71 i = c.1 71 i := fun i n9 n26 n33 => by rw [hd, zw_wI_at n33, zw_wI_at n26, zw_wI_at n9, zw_wI_ne (by decide), zw_wI_ne (by decide)]
  have f3 : ∀ i, i ≠ 2 → i ≠ 6 → d.1 3 i = c.1 3 i := fun i n2 n6 => by rw [hd, zw_wI_ne (by decide), zw_wI_ne (by decide), zw_wI_ne (by decide), zw_wI_at n6, zw_wI_at n2]
  have r4 : d.1 4 = c.1 4 := g 4 (by decide) (by decide)
  have r73 : d.1 73 = c.1 73 := g 73 (by decide) (by decide)
  have r5 : d.1 5 = c.1 5 := g 5 (by decide) (by decide)
  have r89 : d.1 89 = c.1 89 := g 89 (by decide) (by decide)
  have r3_2 : d.1 3 2 = 0 := by rw [hd, zw_wI_ne (by decide), zw_wI_ne (by decide), zw_wI_ne (by decide), zw_wI_at (by decide), zw_wI_eq]
  have r71_26 : d.1 71 26 = 0 := by rw [hd, zw_wI_at (by decide), zw_wI_eq]
  have r6 : d.1 6 = c.1 6 := g 6 (by decide) (by decide)
  have r94 : d.1 94 = c.1 94 := g 94 (by decide) (by decide)
  have r7 : d.1 7 = c.1 7 := g 7 (by decide) (by decide)
  have r95 : d.1 95 = c.1 95 := g 95 (by decide) (by decide)
  have r8 : d.1 8 = c.1 8 := g 8 (by decide) (by decide)
  have r96 : d.1 96 = c.1 96 := g 96 (by decide) (by decide)
  have r3_6 : d.1 3 6 = 0 := by rw [hd, zw_wI_ne (by decide), zw_wI_ne (by decide), zw_wI_ne (by decide), zw_wI_eq]
  have r71_33 : d.1 71 33 = 0 := by rw [hd, zw_wI_eq]
  have r9 : d.1 9 = c.1 9 := g 9 (by decide) (by decide)
  have r92 : d.1 92 = c.1 92 := g 92 (by decide) (by decide)
  have r10 : d.1 10 = c.1 10 := g 10 (by decide) (by decide)
  have r93 : d.1 93 = c.1 93 := g 93 (by decide) (by decide)
  have r3_9 : d.1 3 9 = c.1 3 9 := f3 9 (by decide) (by decide)
  have r71_30 : d.1 71 30 = c.1 71 30 := f71 30 (by decide) (by decide) (by decide)
  refine ⟨c.1 3 2, zw_wI (zw_wI c 3 2 (0)) 3 6 (0), d, ?_, ?_, ?_, E, T, (zr_Rl.held (c := c) (fun k k1 k2 k3 => g k (fun e => k2 (by rw [e]; decide)) k3) (fun i i1 i2 => f71 i (fun e => i1 (by rw [e]; decide)) (fun e => i2 (by rw [e]; decide)) (fun e => i2 (by rw [e]; decide))) ?_ hRl).up (Nat.le_succ n)⟩
  · rfl
  · rw [hd]
    show some ((zw_wI (zw_wI (zw_wI c 3 2 (0)) 3 6 (0)) 71 9 0).1 71 26, _) = _
    rw [zw_wI_at (by decide), zw_wI_ne (by decide), zw_wI_ne (by decide), ← q3]
  · exact hR.fr (by rw [g 61 (by decide) (by decide)]) (f71 8 (by decide) (by decide) (by decide)) (by rw [hd]; rfl) (by rw [hd]; rfl)
  · unfold zr_H
    rw [r4, r73, r5, r89, r3_2, r71_26, r6, r94, r7, r95, r8, r96, r3_6, r71_33, r9, r92, r10, r93, r3_9, r71_30]
    exact ⟨q1, q2, rfl, q4, rfl, q6, q7, 0, 0, rfl, by omega, rfl, by omega, fun i hi => by omega, fun k hk => by omega⟩
theorem zo_forget : zq_forget zr_Rel := by
  intro n c hn hRel
  have hRel0 := hRel
  obtain ⟨hR, E, T, hRl⟩ := hRel
  have hTab := hRl.2.2.1
  obtain ⟨q1, q2, q3, q4, q5, q6, q7, P, Q, v1, v2, v3, v4, v5, v6⟩ := hRl.2.2.2.2.1
  have hT9 : zr_Tab E T (zw_wI c 71 9 0) := hTab.fr (zw_wI_ne (by decide)) (zw_wI_ne (by decide)) (zw_wI_ne (by decide)) (zw_wI_at (by decide)) (zw_wI_at (by decide)) (zw_wI_at (by decide))
  have e26 : c.1 71 26 = nI P := q3.symm.trans v1
  have e33 : c.1 71 33 = nI Q := q5.symm.trans v3
  unfold fn_P_forget fn_M_forget
  by_cases hc : c.1 3 6 = 0
  · exact ⟨-1, c, zw_wI c 71 9 0, by rw [if_pos hc], by rw [zp_bs, if_pos (by rw [zw_wI_at (by decide), ← q5]; exact hc)], zr_thr hRel0⟩
  · have hQ : 0 < Q := by
      rcases Nat.eq_zero_or_pos Q with e | e
      · exact absurd (by rw [v3, e]; rfl) hc
      · exact e
    have eQ : nI Q - 1 = nI (Q - 1) := nI_sub (b := 1) hQ
    obtain ⟨d, hd⟩ : ∃ d, d = zw_wI (zw_wI (zw_wI c 3 6 (nI (Q - 1))) 71 9 (0)) 71 33 (nI (Q - 1)) := ⟨_, rfl⟩
    have g : ∀ k, k ≠ 3 → k ≠ 71 → d.1 k = c.1 k := fun k k3 k71 => by rw [hd, zw_wI_ne k71, zw_wI_ne k71, zw_wI_ne k3]
    have f71 : ∀ i, i ≠ 9 → i ≠ 33 → d.1 71 i = c.1 71 i := fun i n9 n33 => by rw [hd, zw_wI_at n33, zw_wI_at n9, zw_wI_ne (by decide)]
    have f3 : ∀ i, i ≠ 6 → d.1 3 i = c.1 3 i := fun i n6 => by rw [hd, zw_wI_ne (by decide), zw_wI_ne (by decide), zw_wI_at n6]
    have r4 : d.1 4 = c.1 4 := g 4 (by decide) (by decide)
    have r73 : d.1 73 = c.1 73 := g 73 (by decide) (by decide)
    have r5 : d.1 5 = c.1 5 := g 5 (by decide) (by decide)
    have r89 : d.1 89 = c.1 89 := g 89 (by decide) (by decide)
    have r3_2 : d.1 3 2 = c.1 3 2 := f3 2 (by decide)
    have r71_26 : d.1 71 26 = c.1 71 26 := f71 26 (by decide) (by decide)
    have r6 : d.1 6 = c.1 6 := g 6 (by decide) (by decide)
    have r94 : d.1 94 = c.1 94 := g 94 (by decide) (by decide)
    have r7 : d.1 7 = c.1 7 := g 7 (by decide) (by decide)
    have r95 : d.1 95 = c.1 95 := g 95 (by decide) (by decide)
    have r8 : d.1 8 = c.1 8 := g 8 (by decide) (by decide)
    have r96 : d.1 96 = c.1 96 := g 96 (by decide) (by decide)
    have r3_6 : d.1 3 6 = nI (Q - 1) := by rw [hd, zw_wI_ne (by decide), zw_wI_ne (by decide), zw_wI_eq]
    have r71_33 : d.1 71 33 = nI (Q - 1) := by rw [hd, zw_wI_eq]
    have r9 : d.1 9 = c.1 9 := g 9 (by decide) (by decide)
    have r92 : d.1 92 = c.1 92 := g 92 (by decide) (by decide)
    have r10 : d.1 10 = c.1 10 := g 10 (by decide) (by decide)
    have r93 : d.1 93 = c.1 93 := g 93 (by decide) (by decide)
    have r3_9 : d.1 3 9 = c.1 3 9 := f3 9 (by decide)
    have r71_30 : d.1 71 30 = c.1 71 30 := f71 30 (by decide) (by decide)
    refine ⟨nI (Q - 1), zw_wI c 3 6 (nI (Q - 1)), d, ?_, ?_, ?_, E, T, (zr_Rl.held (c := c) (fun k k1 k2 k3 => g k (fun e => k2 (by rw [e]; decide)) k3) (fun i i1 i2 => f71 i (fun e => i1 (by rw [e]; decide)) (fun e => i2 (by rw [e]; decide))) ?_ hRl).up (Nat.le_succ n)⟩
    · rw [if_neg hc, zp_bs, v3, eQ, zw_wI_eq]
    · rw [zp_bs, zw_wI_at (by decide), zw_wI_ne (by decide), e33, if_neg (by rw [← v3]; exact hc), zp_bs, eQ, zw_wI_eq, hd]
    · exact hR.fr (by rw [g 61 (by decide) (by decide)]) (f71 8 (by decide) (by decide)) (by rw [hd]; rfl) (by rw [hd]; rfl)
    · unfold zr_H
      rw [r4, r73, r5, r89, r3_2, r71_26, r6, r94, r7, r95, r8, r96, r3_6, r71_33, r9, r92, r10, r93, r3_9, r71_30]
      exact ⟨q1, q2, q3, q4, rfl, q6, q7, P, Q - 1, v1, v2, rfl, by omega, v5, fun k hk => v6 k (by omega)⟩
theorem zo_evening : zq_evening zr_Rel := by
  intro n c hn hRel w s e
  have hRel0 := hRel
  obtain ⟨hR, E, T, hRl⟩ := hRel
  have hTab := hRl.2.2.1
  obtain ⟨q1, q2, q3, q4, q5, q6, q7, P, Q, v1, v2, v3, v4, v5, v6⟩ := hRl.2.2.2.2.1
  have hT9 : zr_Tab E T (zw_wI c 71 9 0) := hTab.fr (zw_wI_ne (by decide)) (zw_wI_ne (by decide)) (zw_wI_ne (by decide)) (zw_wI_at (by decide)) (zw_wI_at (by decide)) (zw_wI_at (by decide))
  have e26 : c.1 71 26 = nI P := q3.symm.trans v1
  have e33 : c.1 71 33 = nI Q := q5.symm.trans v3
  unfold fn_P_evening fn_M_evening
  by_cases hc : (((¬ (¬ (fn_Held_hasPerson 3 c w) = 0)) ∨ (¬ (¬ (fn_Sayings_has c s) = 0))) ∨ (¬ (¬ (fn_Sayings_hasEvent c e) = 0)))
  · refine ⟨-1, c, zw_wI c 71 9 0, by rw [if_pos hc], ?_, zr_thr hRel0⟩
    rw [zp_bs, if_pos]
    refine Or.inl ?_
    rw [zr_isOne (P := P) (by rw [zw_wI_at (by decide)]; exact e26) (by omega), zr_isSaying hT9, zr_isEvent hT9, ← zr_hasP v1, ← zr_has hTab, ← zr_hasE hTab]
    exact hc
  · have hc0 := hc
    rw [if_neg hc]
    unfold fn_Held_addEvening
    by_cases h40 : 40 ≤ c.1 3 6
    · refine ⟨-1, c, zw_wI c 71 9 0, ?_, ?_, zr_thr hRel0⟩
      · rw [if_pos h40]; rfl
      · rw [zp_bs, if_pos]
        refine Or.inr ?_
        rw [zw_wI_at (by decide), e33]
        rw [v3, show (40 : Int32) = nI 40 by decide, nI_leI (by omega) (by omega)] at h40
        rw [show Q = 40 by omega]; rfl
    · have hQ : Q < 40 := by
        rw [v3, show (40 : Int32) = nI 40 by decide, nI_leI (by omega) (by omega)] at h40
        omega
      obtain ⟨wj, hwj, rfl⟩ := has_n (N := P) (by omega) (s := w) (fun q => hc (Or.inl (Or.inl (fun z => z (by rw [zr_hasP v1]; exact q)))))
      obtain ⟨sj, hsj, rfl⟩ := has_n (zt_N31 hTab.1) (s := s) (fun q => hc (Or.inl (Or.inr (fun z => z (by rw [zr_has hTab]; exact q)))))
      obtain ⟨ej, hej, rfl⟩ := has_n (N := E) (by have := hTab.1.2.1; omega) (s := e) (fun q => hc (Or.inr (fun z => z (by rw [zr_hasE hTab]; exact q))))
      clear hc
      obtain ⟨d, hd⟩ : ∃ d, d = zw_wI (zw_wI (zw_wI (zw_wI (zw_wI (zw_wI (zw_wI (zw_wI (zw_wI c 6 Q (nI wj)) 7 Q (nI sj)) 8 Q (nI ej)) 3 6 (nI (Q + 1))) 71 9 (0)) 94 Q (nI wj)) 95 Q (nI sj)) 96 Q (nI ej)) 71 33 (nI (Q + 1)) := ⟨_, rfl⟩
      have g : ∀ k, k ≠ 6 → k ≠ 7 → k ≠ 8 → k ≠ 3 → k ≠ 71 → k ≠ 94 → k ≠ 95 → k ≠ 96 → d.1 k = c.1 k := fun k k6 k7 k8 k3 k71 k94 k95 k96 => by rw [hd, zw_wI_ne k71, zw_wI_ne k96, zw_wI_ne k95, zw_wI_ne k94, zw_wI_ne k71, zw_wI_ne k3, zw_wI_ne k8, zw_wI_ne k7, zw_wI_ne k6]
      have f71 : ∀ i, i ≠ 9 → i ≠ 33 → d.1 71 i = c.1 71 i := fun i n9 n33 => by rw [hd, zw_wI_at n33, zw_wI_ne (by decide), zw_wI_ne (by decide), zw_wI_ne (by decide), zw_wI_at n9, zw_wI_ne (by decide), zw_wI_ne (by decide), zw_wI_ne (by decide), zw_wI_ne (by decide)]
      have f3 : ∀ i, i ≠ 6 → d.1 3 i = c.1 3 i := fun i n6 => by rw [hd, zw_wI_ne (by decide), zw_wI_ne (by decide), zw_wI_ne (by decide), zw_wI_ne (by decide), zw_wI_ne (by decide), zw_wI_at n6, zw_wI_ne (by decide), zw_wI_ne (by decide), zw_wI_ne (by decide)]
      have r4 : d.1 4 = c.1 4 := g 4 (by decide) (by decide) (by decide) (by decide) (by decide) (by decide) (by decide) (by decide)
      have r73 : d.1 73 = c.1 73 := g 73 (by decide) (by decide) (by decide) (by decide) (by decide) (by decide) (by decide) (by decide)
      have r5 : d.1 5 = c.1 5 := g 5 (by decide) (by decide) (by decide) (by decide) (by decide) (by decide) (by decide) (by decide)
      have r89 : d.1 89 = c.1 89 := g 89 (by decide) (by decide) (by decide) (by decide) (by decide) (by decide) (by decide) (by decide)
      have r3_2 : d.1 3 2 = c.1 3 2 := f3 2 (by decide)
      have r71_26 : d.1 71 26 = c.1 71 26 := f71 26 (by decide) (by decide)
      have r6 : ∀ i, d.1 6 i = if i = Q then nI wj else c.1 6 i := fun i => by
        rw [hd, zw_wI_ne (by decide), zw_wI_ne (by decide), zw_wI_ne (by decide), zw_wI_ne (by decide), zw_wI_ne (by decide), zw_wI_ne (by decide), zw_wI_ne (by decide), zw_wI_ne (by decide)]
        by_cases e : i = Q
        · rw [e, zw_wI_eq, if_pos rfl]
        · rw [zw_wI_at e, if_neg e]
      have r94 : ∀ i, d.1 94 i = if i = Q then nI wj else c.1 94 i := fun i => by
        rw [hd, zw_wI_ne (by decide), zw_wI_ne (by decide), zw_wI_ne (by decide)]
        by_cases e : i = Q
        · rw [e, zw_wI_eq, if_pos rfl]
        · rw [zw_wI_at e, if_neg e, zw_wI_ne (by decide), zw_wI_ne (by decide), zw_wI_ne (by decide), zw_wI_ne (by decide), zw_wI_ne (by decide)]
      have r7 : ∀ i, d.1 7 i = if i = Q then nI sj else c.1 7 i := fun i => by
        rw [hd, zw_wI_ne (by decide), zw_wI_ne (by decide), zw_wI_ne (by decide), zw_wI_ne (by decide), zw_wI_ne (by decide), zw_wI_ne (by decide), zw_wI_ne (by decide)]
        by_cases e : i = Q
        · rw [e, zw_wI_eq, if_pos rfl]
        · rw [zw_wI_at e, if_neg e, zw_wI_ne (by decide)]
      have r95 : ∀ i, d.1 95 i = if i = Q then nI sj else c.1 95 i := fun i => by
        rw [hd, zw_wI_ne (by decide), zw_wI_ne (by decide)]
        by_cases e : i = Q
        · rw [e, zw_wI_eq, if_pos rfl]
        · rw [zw_wI_at e, if_neg e, zw_wI_ne (by decide), zw_wI_ne (by decide), zw_wI_ne (by decide), zw_wI_ne (by decide), zw_wI_ne (by decide), zw_wI_ne (by decide)]
      have r8 : ∀ i, d.1 8 i = if i = Q then nI ej else c.1 8 i := fun i => by
        rw [hd, zw_wI_ne (by decide), zw_wI_ne (by decide), zw_wI_ne (by decide), zw_wI_ne (by decide), zw_wI_ne (by decide), zw_wI_ne (by decide)]
        by_cases e : i = Q
        · rw [e, zw_wI_eq, if_pos rfl]
        · rw [zw_wI_at e, if_neg e, zw_wI_ne (by decide), zw_wI_ne (by decide)]
      have r96 : ∀ i, d.1 96 i = if i = Q then nI ej else c.1 96 i := fun i => by
        rw [hd, zw_wI_ne (by decide)]
        by_cases e : i = Q
        · rw [e, zw_wI_eq, if_pos rfl]
        · rw [zw_wI_at e, if_neg e, zw_wI_ne (by decide), zw_wI_ne (by decide), zw_wI_ne (by decide), zw_wI_ne (by decide), zw_wI_ne (by decide), zw_wI_ne (by decide), zw_wI_ne (by decide)]
      have r3_6 : d.1 3 6 = nI (Q + 1) := by rw [hd, zw_wI_ne (by decide), zw_wI_ne (by decide), zw_wI_ne (by decide), zw_wI_ne (by decide), zw_wI_ne (by decide), zw_wI_eq]
      have r71_33 : d.1 71 33 = nI (Q + 1) := by rw [hd, zw_wI_eq]
      have r9 : d.1 9 = c.1 9 := g 9 (by decide) (by decide) (by decide) (by decide) (by decide) (by decide) (by decide) (by decide)
      have r92 : d.1 92 = c.1 92 := g 92 (by decide) (by decide) (by decide) (by decide) (by decide) (by decide) (by decide) (by decide)
      have r10 : d.1 10 = c.1 10 := g 10 (by decide) (by decide) (by decide) (by decide) (by decide) (by decide) (by decide) (by decide)
      have r93 : d.1 93 = c.1 93 := g 93 (by decide) (by decide) (by decide) (by decide) (by decide) (by decide) (by decide) (by decide)
      have r3_9 : d.1 3 9 = c.1 3 9 := f3 9 (by decide)
      have r71_30 : d.1 71 30 = c.1 71 30 := f71 30 (by decide) (by decide)
      refine ⟨nI (Q + 1), zw_wI (zw_wI (zw_wI (zw_wI c 6 Q (nI wj)) 7 Q (nI sj)) 8 Q (nI ej)) 3 6 (nI (Q + 1)), d, ?_, ?_, ?_, E, T, (zr_Rl.held (c := c) (fun k k1 k2 k3 => g k (fun e => k2 (by rw [e]; decide)) (fun e => k2 (by rw [e]; decide)) (fun e => k2 (by rw [e]; decide)) (fun e => k2 (by rw [e]; decide)) k3 (fun e => k2 (by rw [e]; decide)) (fun e => k2 (by rw [e]; decide)) (fun e => k2 (by rw [e]; decide))) (fun i i1 i2 => f71 i (fun e => i1 (by rw [e]; decide)) (fun e => i2 (by rw [e]; decide))) ?_ hRl).up (Nat.le_succ n)⟩
      · rw [if_neg h40, v3, zp_uI hQ (by omega), zp_bs, zw_wI_ne (by decide), v3, zp_uI hQ (by omega), zp_bs, zw_wI_ne (by decide), zw_wI_ne (by decide), v3, zp_uI hQ (by omega), zp_bs, zw_wI_ne (by decide), zw_wI_ne (by decide), zw_wI_ne (by decide), v3, nI_1, zp_bs, zp_bs]
        dsimp only
        rw [if_pos (by decide), zw_wI_eq]
      · have m33 : (zw_wI (zw_wI (zw_wI (zw_wI (zw_wI c 6 Q (nI wj)) 7 Q (nI sj)) 8 Q (nI ej)) 3 6 (nI (Q + 1))) 71 9 (0)).1 71 33 = nI Q := by rw [zw_wI_at (by decide), zw_wI_ne (by decide), zw_wI_ne (by decide), zw_wI_ne (by decide), zw_wI_ne (by decide), e33]
        have hc2 : ¬ ((((¬ (¬ (fn_M_isOne (zw_wI (zw_wI (zw_wI (zw_wI (zw_wI c 6 Q (nI wj)) 7 Q (nI sj)) 8 Q (nI ej)) 3 6 (nI (Q + 1))) 71 9 (0)) (nI wj)) = 0)) ∨ (¬ (¬ (fn_M_isSaying (zw_wI (zw_wI (zw_wI (zw_wI (zw_wI c 6 Q (nI wj)) 7 Q (nI sj)) 8 Q (nI ej)) 3 6 (nI (Q + 1))) 71 9 (0)) (nI sj)) = 0))) ∨ (¬ (¬ (fn_M_isEvent (zw_wI (zw_wI (zw_wI (zw_wI (zw_wI c 6 Q (nI wj)) 7 Q (nI sj)) 8 Q (nI ej)) 3 6 (nI (Q + 1))) 71 9 (0)) (nI ej)) = 0))) ∨ ((zw_wI (zw_wI (zw_wI (zw_wI (zw_wI c 6 Q (nI wj)) 7 Q (nI sj)) 8 Q (nI ej)) 3 6 (nI (Q + 1))) 71 9 (0)).1 71 33) = 40) := by
          have hT5 : zr_Tab E T (zw_wI (zw_wI (zw_wI (zw_wI (zw_wI c 6 Q (nI wj)) 7 Q (nI sj)) 8 Q (nI ej)) 3 6 (nI (Q + 1))) 71 9 (0)) := hTab.fr (by rw [zw_wI_ne (by decide), zw_wI_ne (by decide), zw_wI_ne (by decide), zw_wI_ne (by decide), zw_wI_ne (by decide)]) (by rw [zw_wI_ne (by decide), zw_wI_ne (by decide), zw_wI_ne (by decide), zw_wI_ne (by decide), zw_wI_ne (by decide)]) (by rw [zw_wI_ne (by decide), zw_wI_ne (by decide), zw_wI_ne (by decide), zw_wI_ne (by decide), zw_wI_ne (by decide)]) (by rw [zw_wI_at (by decide), zw_wI_ne (by decide), zw_wI_ne (by decide), zw_wI_ne (by decide), zw_wI_ne (by decide)]) (by rw [zw_wI_at (by decide), zw_wI_ne (by decide), zw_wI_ne (by decide), zw_wI_ne (by decide), zw_wI_ne (by decide)]) (by rw [zw_wI_at (by decide), zw_wI_ne (by decide), zw_wI_ne (by decide), zw_wI_ne (by decide), zw_wI_ne (by decide)])
          rw [zr_isOne (P := P) (by rw [zw_wI_at (by decide), zw_wI_ne (by decide), zw_wI_ne (by decide), zw_wI_ne (by decide), zw_wI_ne (by decide), e26]) (by omega), zr_isSaying hT5, zr_isEvent hT5, ← zr_hasP v1, ← zr_has hTab, ← zr_hasE hTab, m33]
          rintro (h | h)
          · exact hc0 h
          · have := (nI_eq (a := Q) (b := 40) (by omega) (by omega)).mp h
            omega
        rw [zp_bs, if_neg hc2, m33, zp_uI hQ (by omega), zp_bs, zw_wI_ne (by decide), m33, zp_uI hQ (by omega), zp_bs, zw_wI_ne (by decide), zw_wI_ne (by decide), m33, zp_uI hQ (by omega), zp_bs, zw_wI_ne (by decide), zw_wI_ne (by decide), zw_wI_ne (by decide), m33, nI_1, zp_bs, zw_wI_eq, hd]
      · exact hR.fr (by rw [g 61 (by decide) (by decide) (by decide) (by decide) (by decide) (by decide) (by decide) (by decide)]) (f71 8 (by decide) (by decide)) (by rw [hd]; rfl) (by rw [hd]; rfl)
      · unfold zr_H
        rw [r4, r73, r5, r89, r3_2, r71_26, r3_6, r71_33, r9, r92, r10, r93, r3_9, r71_30]
        refine ⟨q1, q2, q3, fun i hi => ?_, rfl, q6, q7, P, Q + 1, v1, v2, rfl, by omega, v5, fun k hk => ?_⟩
        · rw [r6, r7, r8, r94, r95, r96]
          by_cases z : i = Q
          · rw [if_pos z, if_pos z, if_pos z, if_pos z, if_pos z, if_pos z]; exact ⟨rfl, rfl, rfl⟩
          · rw [if_neg z, if_neg z, if_neg z, if_neg z, if_neg z, if_neg z]; exact q4 i hi
        · rw [r6, r7, r8]
          by_cases z : k = Q
          · rw [if_pos z, if_pos z, if_pos z]; exact ⟨wj, sj, ej, hwj, hsj, hej, rfl, rfl, rfl⟩
          · rw [if_neg z, if_neg z, if_neg z]; exact v6 k (by omega)
theorem zo_word : zq_word zr_Rel := by
  intro n c hn hRel i fr to
  have hRel0 := hRel
  obtain ⟨hR, E, T, hRl⟩ := hRel
  have hTab := hRl.2.2.1
  obtain ⟨q1, q2, q3, q4, q5, q6, q7, P, Q, v1, v2, v3, v4, v5, v6⟩ := hRl.2.2.2.2.1
  have hT9 : zr_Tab E T (zw_wI c 71 9 0) := hTab.fr (zw_wI_ne (by decide)) (zw_wI_ne (by decide)) (zw_wI_ne (by decide)) (zw_wI_at (by decide)) (zw_wI_at (by decide)) (zw_wI_at (by decide))
  have e26 : c.1 71 26 = nI P := q3.symm.trans v1
  have e33 : c.1 71 33 = nI Q := q5.symm.trans v3
  unfold fn_P_word fn_M_word fn_Held_setWord
  have eT : c.1 1 1 = nI T := hTab.2.1.2.1
  have eT9 : (zw_wI c 71 9 0).1 71 1 = nI T := hT9.2.2.2.1
  have w1 : fn_M_in i.toInt64 0 5 = fn_P_within i 0 5 := in_within i 0 5
  have w2 : fn_M_in fr.toInt64 0 (nI T).toInt64 = fn_P_within fr 0 (nI T) := in_within fr 0 (nI T)
  have w3 : fn_M_in to.toInt64 fr.toInt64 (nI T).toInt64 = fn_P_within to fr (nI T) := in_within to fr (nI T)
  have key : ((((¬ (¬ (fn_P_within i 0 5) = 0)) ∨ (fr < 0)) ∨ (to < fr)) ∨ ((nI T) < to)) ↔ (((¬ (¬ (fn_P_within i 0 5) = 0)) ∨ (¬ (¬ (fn_P_within fr 0 (nI T)) = 0))) ∨ (¬ (¬ (fn_P_within to fr (nI T)) = 0))) := by
    have a2 : (¬ (¬ (fn_P_within fr 0 (nI T)) = 0)) ↔ ¬ (0 ≤ fr ∧ fr ≤ nI T) := by
      unfold fn_P_within
      by_cases h : 0 ≤ fr ∧ fr ≤ nI T
      · rw [if_pos h]; exact ⟨fun q => absurd (by decide) q, fun q => absurd h q⟩
      · rw [if_neg h]; exact ⟨fun _ => h, fun _ q => q rfl⟩
    have a3 : (¬ (¬ (fn_P_within to fr (nI T)) = 0)) ↔ ¬ (fr ≤ to ∧ to ≤ nI T) := by
      unfold fn_P_within
      by_cases h : fr ≤ to ∧ to ≤ nI T
      · rw [if_pos h]; exact ⟨fun q => absurd (by decide) q, fun q => absurd h q⟩
      · rw [if_neg h]; exact ⟨fun _ => h, fun _ q => q rfl⟩
    rw [a2, a3]
    simp only [Int32.lt_iff_toInt_lt, Int32.le_iff_toInt_le]
    by_cases h1 : ¬ (¬ (fn_P_within i 0 5) = 0)
    · exact ⟨fun _ => Or.inl (Or.inl h1), fun _ => Or.inl (Or.inl (Or.inl h1))⟩
    · simp only [h1, false_or]
      omega
  by_cases hc : ((((¬ (¬ (fn_P_within i 0 5) = 0)) ∨ (fr < 0)) ∨ (to < fr)) ∨ ((nI T) < to))
  · refine ⟨0, c, zw_wI c 71 9 0, by rw [eT, if_pos hc], ?_, zr_thr hRel0⟩
    rw [zp_bs, eT9, w1, w2, w3, if_pos (key.mp hc)]
  · obtain ⟨j, hj, rfl⟩ := within_n (m := 5) rfl (by omega) (within_1 (a := i) (lo := 0) (hi := 5) (fun q => hc (Or.inl (Or.inl (Or.inl (fun z => z q))))))
    obtain ⟨d, hd⟩ : ∃ d, d = zw_wI (zw_wI (zw_wI (zw_wI (zw_wI (zw_wI (zw_wI c 9 j (fr)) 10 j (to)) 3 9 (c.1 3 9 ||| 1 <<< (nI j &&& 31))) 71 9 (0)) 92 j (fr)) 93 j (to)) 71 30 (c.1 3 9 ||| 1 <<< (nI j &&& 31)) := ⟨_, rfl⟩
    have g : ∀ k, k ≠ 9 → k ≠ 10 → k ≠ 3 → k ≠ 71 → k ≠ 92 → k ≠ 93 → d.1 k = c.1 k := fun k k9 k10 k3 k71 k92 k93 => by rw [hd, zw_wI_ne k71, zw_wI_ne k93, zw_wI_ne k92, zw_wI_ne k71, zw_wI_ne k3, zw_wI_ne k10, zw_wI_ne k9]
    have f71 : ∀ i, i ≠ 9 → i ≠ 30 → d.1 71 i = c.1 71 i := fun i n9 n30 => by rw [hd, zw_wI_at n30, zw_wI_ne (by decide), zw_wI_ne (by decide), zw_wI_at n9, zw_wI_ne (by decide), zw_wI_ne (by decide), zw_wI_ne (by decide)]
    have f3 : ∀ i, i ≠ 9 → d.1 3 i = c.1 3 i := fun i n9 => by rw [hd, zw_wI_ne (by decide), zw_wI_ne (by decide), zw_wI_ne (by decide), zw_wI_ne (by decide), zw_wI_at n9, zw_wI_ne (by decide), zw_wI_ne (by decide)]
    have r4 : d.1 4 = c.1 4 := g 4 (by decide) (by decide) (by decide) (by decide) (by decide) (by decide)
    have r73 : d.1 73 = c.1 73 := g 73 (by decide) (by decide) (by decide) (by decide) (by decide) (by decide)
    have r5 : d.1 5 = c.1 5 := g 5 (by decide) (by decide) (by decide) (by decide) (by decide) (by decide)
    have r89 : d.1 89 = c.1 89 := g 89 (by decide) (by decide) (by decide) (by decide) (by decide) (by decide)
    have r3_2 : d.1 3 2 = c.1 3 2 := f3 2 (by decide)
    have r71_26 : d.1 71 26 = c.1 71 26 := f71 26 (by decide) (by decide)
    have r6 : d.1 6 = c.1 6 := g 6 (by decide) (by decide) (by decide) (by decide) (by decide) (by decide)
    have r94 : d.1 94 = c.1 94 := g 94 (by decide) (by decide) (by decide) (by decide) (by decide) (by decide)
    have r7 : d.1 7 = c.1 7 := g 7 (by decide) (by decide) (by decide) (by decide) (by decide) (by decide)
    have r95 : d.1 95 = c.1 95 := g 95 (by decide) (by decide) (by decide) (by decide) (by decide) (by decide)
    have r8 : d.1 8 = c.1 8 := g 8 (by decide) (by decide) (by decide) (by decide) (by decide) (by decide)
    have r96 : d.1 96 = c.1 96 := g 96 (by decide) (by decide) (by decide) (by decide) (by decide) (by decide)
    have r3_6 : d.1 3 6 = c.1 3 6 := f3 6 (by decide)
    have r71_33 : d.1 71 33 = c.1 71 33 := f71 33 (by decide) (by decide)
    have r9 : ∀ i, d.1 9 i = if i = j then fr else c.1 9 i := fun i => by
      rw [hd, zw_wI_ne (by decide), zw_wI_ne (by decide), zw_wI_ne (by decide), zw_wI_ne (by decide), zw_wI_ne (by decide), zw_wI_ne (by decide)]
      by_cases e : i = j
      · rw [e, zw_wI_eq, if_pos rfl]
      · rw [zw_wI_at e, if_neg e]
    have r92 : ∀ i, d.1 92 i = if i = j then fr else c.1 92 i := fun i => by
      rw [hd, zw_wI_ne (by decide), zw_wI_ne (by decide)]
      by_cases e : i = j
      · rw [e, zw_wI_eq, if_pos rfl]
      · rw [zw_wI_at e, if_neg e, zw_wI_ne (by decide), zw_wI_ne (by decide), zw_wI_ne (by decide), zw_wI_ne (by decide)]
    have r10 : ∀ i, d.1 10 i = if i = j then to else c.1 10 i := fun i => by
      rw [hd, zw_wI_ne (by decide), zw_wI_ne (by decide), zw_wI_ne (by decide), zw_wI_ne (by decide), zw_wI_ne (by decide)]
      by_cases e : i = j
      · rw [e, zw_wI_eq, if_pos rfl]
      · rw [zw_wI_at e, if_neg e, zw_wI_ne (by decide)]
    have r93 : ∀ i, d.1 93 i = if i = j then to else c.1 93 i := fun i => by
      rw [hd, zw_wI_ne (by decide)]
      by_cases e : i = j
      · rw [e, zw_wI_eq, if_pos rfl]
      · rw [zw_wI_at e, if_neg e, zw_wI_ne (by decide), zw_wI_ne (by decide), zw_wI_ne (by decide), zw_wI_ne (by decide), zw_wI_ne (by decide)]
    have r3_9 : d.1 3 9 = c.1 3 9 ||| 1 <<< (nI j &&& 31) := by rw [hd, zw_wI_ne (by decide), zw_wI_ne (by decide), zw_wI_ne (by decide), zw_wI_ne (by decide), zw_wI_eq]
    have r71_30 : d.1 71 30 = c.1 3 9 ||| 1 <<< (nI j &&& 31) := by rw [hd, zw_wI_eq]
    refine ⟨1, zw_wI (zw_wI (zw_wI c 9 j (fr)) 10 j (to)) 3 9 (c.1 3 9 ||| 1 <<< (nI j &&& 31)), d, ?_, ?_, ?_, E, T, (zr_Rl.held (c := c) (fun k k1 k2 k3 => g k (fun e => k2 (by rw [e]; decide)) (fun e => k2 (by rw [e]; decide)) (fun e => k2 (by rw [e]; decide)) k3 (fun e => k2 (by rw [e]; decide)) (fun e => k2 (by rw [e]; decide))) (fun i i1 i2 => f71 i (fun e => i1 (by rw [e]; decide)) (fun e => i2 (by rw [e]; decide))) ?_ hRl).up (Nat.le_succ n)⟩
    · rw [eT, if_neg hc, zp_uI (by omega) (by omega), zp_bs, zp_uI (by omega) (by omega), zp_bs, zw_wI_ne (by decide), zw_wI_ne (by decide), zp_bs, zp_bs]
    · have mT : (zw_wI (zw_wI (zw_wI (zw_wI c 9 j (fr)) 10 j (to)) 3 9 (c.1 3 9 ||| 1 <<< (nI j &&& 31))) 71 9 (0)).1 71 1 = nI T := by rw [zw_wI_at (by decide), zw_wI_ne (by decide), zw_wI_ne (by decide), zw_wI_ne (by decide)]; exact hTab.2.2.2.1
      rw [zp_bs, mT, w1, w2, w3, if_neg (fun q => hc (key.mpr q)), zp_uI (by omega) (by omega), zp_bs, zp_uI (by omega) (by omega), zp_bs, zw_wI_ne (by decide), zw_wI_ne (by decide), zw_wI_at (by decide), zw_wI_ne (by decide), zw_wI_ne (by decide), zw_wI_ne (by decide), ← q7, zp_bs, hd]
    · exact hR.fr (by rw [g 61 (by decide) (by decide) (by decide) (by decide) (by decide) (by decide)]) (f71 8 (by decide) (by decide)) (by rw [hd]; rfl) (by rw [hd]; rfl)
    · unfold zr_H
      rw [r4, r73, r5, r89, r3_2, r71_26, r6, r94, r7, r95, r8, r96, r3_6, r71_33, r3_9, r71_30]
      refine ⟨q1, q2, q3, q4, q5, fun i hi => ?_, rfl, P, Q, v1, v2, v3, v4, v5, v6⟩
      rw [r9, r10, r92, r93]
      by_cases z : i = j
      · rw [if_pos z, if_pos z, if_pos z, if_pos z]; exact ⟨rfl, rfl⟩
      · rw [if_neg z, if_neg z, if_neg z, if_neg z]; exact q6 i hi
