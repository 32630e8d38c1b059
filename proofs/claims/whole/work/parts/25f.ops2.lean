/-! people, evenings, words, the text's end -/
theorem in_has {N : Nat} (hN : N < 2 ^ 31) (s : Int32) : fn_M_in s.toInt64 0 ((nI N) - 1).toInt64 = if 0 ≤ s ∧ s < nI N then (1 : Int32) else 0 := by
  have h0 : fn_M_in s.toInt64 0 ((nI N) - 1).toInt64 = fn_P_within s 0 (nI N - 1) := in_within s 0 (nI N - 1)
  rw [h0]
  unfold fn_P_within
  have key : (0 ≤ s ∧ s ≤ nI N - 1) ↔ (0 ≤ s ∧ s < nI N) := by
    refine and_congr_right (fun hs => ?_)
    have h1 := Int32.le_iff_toInt_le.mp hs
    rw [Int32.le_iff_toInt_le, Int32.lt_iff_toInt_lt, nI_toInt hN]
    have z : (0 : Int32).toInt = 0 := by decide
    rw [z] at h1
    rcases Nat.eq_zero_or_pos N with e | e
    · have e1 : (nI N - 1).toInt = -1 := by rw [e]; decide
      rw [e1]; omega
    · have e1 : nI N - 1 = nI (N - 1) := nI_sub (b := 1) e
      rw [e1, nI_toInt (by omega)]; omega
  by_cases h : 0 ≤ s ∧ s < nI N
  · rw [if_pos h, if_pos (key.mpr h)]
  · rw [if_neg h, if_neg (fun q => h (key.mp q))]
theorem has_n {N : Nat} (hN : N < 2 ^ 31) {s : Int32} (h : ¬ (if 0 ≤ s ∧ s < nI N then (1 : Int32) else 0) = 0) : ∃ j, j < N ∧ s = nI j := by
  by_cases q : 0 ≤ s ∧ s < nI N
  · obtain ⟨j, hj, e⟩ := nI_of (x := s) (fun z => by
      have h1 := Int32.lt_iff_toInt_lt.mp z
      have h2 := Int32.le_iff_toInt_le.mp q.1
      omega)
    refine ⟨j, ?_, e⟩
    have h2 := q.2
    rw [e] at h2
    exact (nI_ltI hj hN).mp h2
  · exact absurd (if_neg q) h
theorem zt_N31 {E T : Nat} (h : zt_ET E T) : zt_N E T < 2 ^ 31 := by have := (zt_ok h).2.1; omega
/-- has, isSaying -/
theorem zr_has {E T : Nat} {c : zw_Ct} (h : zr_Tab E T c) (s : Int32) : fn_Sayings_has c s = if 0 ≤ s ∧ s < nI (zt_N E T) then (1 : Int32) else 0 := by
  unfold fn_Sayings_has; rw [h.2.1.2.2.1]
theorem zr_isSaying {E T : Nat} {c : zw_Ct} (h : zr_Tab E T c) (s : Int32) : fn_M_isSaying c s = if 0 ≤ s ∧ s < nI (zt_N E T) then (1 : Int32) else 0 := by
  unfold fn_M_isSaying; rw [h.2.2.2.2.1]; exact in_has (zt_N31 h.1) s
theorem zr_hasE {E T : Nat} {c : zw_Ct} (h : zr_Tab E T c) (s : Int32) : fn_Sayings_hasEvent c s = if 0 ≤ s ∧ s < nI E then (1 : Int32) else 0 := by
  unfold fn_Sayings_hasEvent; rw [h.2.1.1]
theorem zr_isEvent {E T : Nat} {c : zw_Ct} (h : zr_Tab E T c) (s : Int32) : fn_M_isEvent c s = if 0 ≤ s ∧ s < nI E then (1 : Int32) else 0 := by
  unfold fn_M_isEvent; rw [h.2.2.1]; exact in_has (by have := h.1.2.1; omega) s
theorem zr_hasP {P : Nat} {c : zw_Ct} (h : c.1 3 2 = nI P) (s : Int32) : fn_Held_hasPerson 3 c s = if 0 ≤ s ∧ s < nI P then (1 : Int32) else 0 := by
  unfold fn_Held_hasPerson; rw [h]
theorem zr_isOne {P : Nat} {c : zw_Ct} (h : c.1 71 26 = nI P) (hP : P < 2 ^ 31) (s : Int32) : fn_M_isOne c s = if 0 ≤ s ∧ s < nI P then (1 : Int32) else 0 := by
  unfold fn_M_isOne; rw [h]; exact in_has hP s
/-- places of what is held -/
def zr_HC : List Nat := [3, 5, 6, 7, 8, 9, 10, 89, 92, 93, 94, 95, 96]
def zr_HF : List Nat := [26, 30, 33]
theorem zr_Rl.held {n E T : Nat} {c c' : zw_Ct} (g : ∀ k, k ∉ zr_SC → k ∉ zr_HC → k ≠ 71 → c'.1 k = c.1 k) (f : ∀ j, j ∉ zr_FS → j ∉ zr_HF → c'.1 71 j = c.1 71 j) (hH : zr_H E T c') (h : zr_Rl n E T c) : zr_Rl n E T c' := by
  obtain ⟨h1, h2, h3, h4, h5, h6⟩ := h
  refine ⟨h1.fr (f 10 (by decide) (by decide)) (g 98 (by decide) (by decide) (by decide)) (g 99 (by decide) (by decide) (by decide)), h2.fr (g 40 (by decide) (by decide) (by decide)) (f 6 (by decide) (by decide)) (g 41 (by decide) (by decide) (by decide)) (g 74 (by decide) (by decide) (by decide)), h3.fr (g 1 (by decide) (by decide) (by decide)) (g 2 (by decide) (by decide) (by decide)) (g 72 (by decide) (by decide) (by decide)) (f 0 (by decide) (by decide)) (f 1 (by decide) (by decide)) (f 2 (by decide) (by decide)), fun p hp => ?_, hH, fun i hi => ?_⟩
  · have e1 : c'.1 (54 + p) = c.1 (54 + p) := by rcases (show p = 0 ∨ p = 1 ∨ p = 2 ∨ p = 3 by omega) with rfl | rfl | rfl | rfl <;> exact g _ (by decide) (by decide) (by decide)
    have e2 : c'.1 (77 + p) = c.1 (77 + p) := by rcases (show p = 0 ∨ p = 1 ∨ p = 2 ∨ p = 3 by omega) with rfl | rfl | rfl | rfl <;> exact g _ (by decide) (by decide) (by decide)
    have e3 : c'.1 (48 + p) = c.1 (48 + p) := by rcases (show p = 0 ∨ p = 1 ∨ p = 2 ∨ p = 3 by omega) with rfl | rfl | rfl | rfl <;> exact g _ (by decide) (by decide) (by decide)
    exact (h4 p hp).fr (by rw [g 46 (by decide) (by decide) (by decide)]) (by rw [g 82 (by decide) (by decide) (by decide)]) (by rw [g 81 (by decide) (by decide) (by decide)]) (by rw [g 58 (by decide) (by decide) (by decide)]) e1 (g 83 (by decide) (by decide) (by decide)) e2 (by rw [g 52 (by decide) (by decide) (by decide)]) e3 (g 4 (by decide) (by decide) (by decide))
  · refine (h6 i hi).fr (by rw [g 39 (by decide) (by decide) (by decide)]) (by rw [g 98 (by decide) (by decide) (by decide)]) (by rw [g 99 (by decide) (by decide) (by decide)]) (f 10 (by decide) (by decide)) (g 97 (by decide) (by decide) (by decide)) (fun k k1 k2 => g k (fun hk => ?_) (fun hk => ?_) (by omega))
    · simp only [zr_SC, List.mem_cons, List.not_mem_nil, or_false] at hk
      omega
    · simp only [zr_HC, List.mem_cons, List.not_mem_nil, or_false] at hk
      omega
theorem nI_6 (P : Nat) (h : P ≤ 6) : (6 ≤ nI P) ↔ (nI P = 6) := by
  have e : (6 : Int32) = nI 6 := by decide
  rw [e, nI_leI (by omega) (by omega), nI_eq (by omega) (by omega)]
  omega
theorem zo_person : zq_person zr_Rel := by
  intro n c hn hRel t
  have hRel0 := hRel
  obtain ⟨hR, E, T, hRl⟩ := hRel
  have hTab := hRl.2.2.1
  have hH := hRl.2.2.2.2.1
  obtain ⟨q1, q2, q3, q4, q5, q6, q7, P, Q, v1, v2, v3, v4, v5, v6⟩ := hH
  unfold fn_P_person fn_M_person
  have hT9 : zr_Tab E T (zw_wI c 71 9 0) := hTab.fr (zw_wI_ne (by decide)) (zw_wI_ne (by decide)) (zw_wI_ne (by decide)) (zw_wI_at (by decide)) (zw_wI_at (by decide)) (zw_wI_at (by decide))
  have e26 : c.1 71 26 = nI P := q3.symm.trans v1
  by_cases hc : ((¬ (¬ (fn_Sayings_has c t) = 0)) ∨ (6 ≤ (c.1 3 2)))
  · refine ⟨-1, c, zw_wI c 71 9 0, by rw [if_pos hc], ?_, zr_thr hRel0⟩
    rw [zp_bs, if_pos]
    rcases hc with h | h
    · exact Or.inl (by rw [zr_isSaying hT9, ← zr_has hTab]; exact h)
    · exact Or.inr (by rw [zw_wI_at (by decide), e26]; rw [v1] at h; exact (nI_6 P v2).mp h)
  · have hP6 : P < 6 := by
      have : ¬ 6 ≤ nI P := fun q => hc (Or.inr (by rw [v1]; exact q))
      rw [nI_6 P v2] at this
      rcases Nat.lt_or_ge P 6 with z | z
      · exact z
      · exact absurd (by rw [show P = 6 by omega]; decide) this
    obtain ⟨j, hj, rfl⟩ := has_n (zt_N31 hTab.1) (s := t) (fun q => hc (Or.inl (fun z => z (by rw [zr_has hTab]; exact q))))
    have hc2 : ¬ ((¬ (¬ (fn_M_isSaying (zw_wI (zw_wI (zw_wI c 5 P (nI j)) 3 2 (nI (P + 1))) 71 9 0) (nI j)) = 0)) ∨ (((zw_wI (zw_wI (zw_wI c 5 P (nI j)) 3 2 (nI (P + 1))) 71 9 0).1 71 26) = 6)) := by
      rintro (h | h)
      · refine hc (Or.inl ?_)
        have hT2 : zr_Tab E T (zw_wI (zw_wI (zw_wI c 5 P (nI j)) 3 2 (nI (P + 1))) 71 9 0) := hTab.fr (by rw [zw_wI_ne (by decide), zw_wI_ne (by decide), zw_wI_ne (by decide)]) (by rw [zw_wI_ne (by decide), zw_wI_ne (by decide), zw_wI_ne (by decide)]) (by rw [zw_wI_ne (by decide), zw_wI_ne (by decide), zw_wI_ne (by decide)]) (by rw [zw_wI_at (by decide), zw_wI_ne (by decide), zw_wI_ne (by decide)]) (by rw [zw_wI_at (by decide), zw_wI_ne (by decide), zw_wI_ne (by decide)]) (by rw [zw_wI_at (by decide), zw_wI_ne (by decide), zw_wI_ne (by decide)])
        rw [zr_has hTab, ← zr_isSaying hT2]; exact h
      · rw [zw_wI_at (by decide), zw_wI_ne (by decide), zw_wI_ne (by decide), e26] at h
        have := (nI_eq (a := P) (b := 6) (by omega) (by omega)).mp h
        omega
    have hm : (zw_wI (zw_wI (zw_wI c 5 P (nI j)) 3 2 (nI (P + 1))) 71 9 0).1 71 26 = nI P := by
      rw [zw_wI_at (by decide), zw_wI_ne (by decide), zw_wI_ne (by decide), e26]
    refine ⟨nI P, zw_wI (zw_wI c 5 P (nI j)) 3 2 (nI (P + 1)), zw_wI (zw_wI (zw_wI (zw_wI (zw_wI c 5 P (nI j)) 3 2 (nI (P + 1))) 71 9 0) 89 P (nI j)) 71 26 (nI (P + 1)), ?_, ?_, ?_, E, T, ?_⟩
    · rw [if_neg hc, v1, zp_uI hP6 (by omega), zp_bs, zw_wI_ne (by decide), v1, nI_1, zp_bs, zw_wI_eq, nI_pred]
    · rw [zp_bs, if_neg hc2, hm, zp_uI hP6 (by omega), zp_bs, zw_wI_ne (by decide), hm, nI_1, zp_bs, zw_wI_eq, nI_pred]
    · refine hR.fr ?_ ?_ rfl rfl
      · rw [zw_wI_ne (by decide), zw_wI_ne (by decide), zw_wI_ne (by decide), zw_wI_ne (by decide), zw_wI_ne (by decide)]
      · rw [zw_wI_at (by decide), zw_wI_ne (by decide), zw_wI_at (by decide), zw_wI_ne (by decide), zw_wI_ne (by decide)]
    · refine (zr_Rl.held (c := c) (fun k k1 k2 k3 => ?_) (fun i i1 i2 => ?_) ?_ hRl).up (Nat.le_succ n)
      · rw [zw_wI_ne k3, zw_wI_ne (fun e => k2 (by rw [e]; decide)), zw_wI_ne k3, zw_wI_ne (fun e => k2 (by rw [e]; decide)), zw_wI_ne (fun e => k2 (by rw [e]; decide))]
      · rw [zw_wI_at (fun e => i2 (by rw [e]; decide)), zw_wI_ne (by decide), zw_wI_at (fun e => i1 (by rw [e]; decide)), zw_wI_ne (by decide), zw_wI_ne (by decide)]
      · have g : ∀ k, k ≠ 5 → k ≠ 3 → k ≠ 71 → k ≠ 89 → (zw_wI (zw_wI (zw_wI (zw_wI (zw_wI c 5 P (nI j)) 3 2 (nI (P + 1))) 71 9 0) 89 P (nI j)) 71 26 (nI (P + 1))).1 k = c.1 k := fun k k5 k3 k71 k89 => by
          rw [zw_wI_ne k71, zw_wI_ne k89, zw_wI_ne k71, zw_wI_ne k3, zw_wI_ne k5]
        have g3 : ∀ i, i ≠ 2 → (zw_wI (zw_wI (zw_wI (zw_wI (zw_wI c 5 P (nI j)) 3 2 (nI (P + 1))) 71 9 0) 89 P (nI j)) 71 26 (nI (P + 1))).1 3 i = c.1 3 i := fun i hi => by
          rw [zw_wI_ne (by decide), zw_wI_ne (by decide), zw_wI_ne (by decide), zw_wI_at hi, zw_wI_ne (by decide)]
        have g32 : (zw_wI (zw_wI (zw_wI (zw_wI (zw_wI c 5 P (nI j)) 3 2 (nI (P + 1))) 71 9 0) 89 P (nI j)) 71 26 (nI (P + 1))).1 3 2 = nI (P + 1) := by
          rw [zw_wI_ne (by decide), zw_wI_ne (by decide), zw_wI_ne (by decide), zw_wI_eq]
        have f : ∀ i, i ≠ 26 → i ≠ 9 → (zw_wI (zw_wI (zw_wI (zw_wI (zw_wI c 5 P (nI j)) 3 2 (nI (P + 1))) 71 9 0) 89 P (nI j)) 71 26 (nI (P + 1))).1 71 i = c.1 71 i := fun i i1 i2 => by
          rw [zw_wI_at i1, zw_wI_ne (by decide), zw_wI_at i2, zw_wI_ne (by decide), zw_wI_ne (by decide)]
        have g5 : ∀ i, (zw_wI (zw_wI (zw_wI (zw_wI (zw_wI c 5 P (nI j)) 3 2 (nI (P + 1))) 71 9 0) 89 P (nI j)) 71 26 (nI (P + 1))).1 5 i = if i = P then nI j else c.1 5 i := fun i => by
          rw [zw_wI_ne (by decide), zw_wI_ne (by decide), zw_wI_ne (by decide), zw_wI_ne (by decide)]
          by_cases e : i = P
          · rw [e, zw_wI_eq, if_pos rfl]
          · rw [zw_wI_at e, if_neg e]
        have g89 : ∀ i, (zw_wI (zw_wI (zw_wI (zw_wI (zw_wI c 5 P (nI j)) 3 2 (nI (P + 1))) 71 9 0) 89 P (nI j)) 71 26 (nI (P + 1))).1 89 i = if i = P then nI j else c.1 89 i := fun i => by
          rw [zw_wI_ne (by decide)]
          by_cases e : i = P
          · rw [e, zw_wI_eq, if_pos rfl]
          · rw [zw_wI_at e, if_neg e, zw_wI_ne (by decide), zw_wI_ne (by decide), zw_wI_ne (by decide)]
        unfold zr_H
        rw [g 4 (by decide) (by decide) (by decide) (by decide), g 6 (by decide) (by decide) (by decide) (by decide), g 7 (by decide) (by decide) (by decide) (by decide), g 8 (by decide) (by decide) (by decide) (by decide), g 9 (by decide) (by decide) (by decide) (by decide), g 10 (by decide) (by decide) (by decide) (by decide), g 73 (by decide) (by decide) (by decide) (by decide), g 92 (by decide) (by decide) (by decide) (by decide), g 93 (by decide) (by decide) (by decide) (by decide), g 94 (by decide) (by decide) (by decide) (by decide), g 95 (by decide) (by decide) (by decide) (by decide), g 96 (by decide) (by decide) (by decide) (by decide), f 33 (by decide) (by decide), f 30 (by decide) (by decide), g3 6 (by decide), g3 9 (by decide), g32]
        refine ⟨q1, fun i hi => ?_, by rw [zw_wI_eq], q4, q5, q6, q7, P + 1, Q, rfl, by omega, v3, v4, fun i hi => ?_, fun k hk => ?_⟩
        · rw [g5, g89]
          by_cases e : i = P
          · rw [if_pos e, if_pos e]
          · rw [if_neg e, if_neg e]; exact q2 i hi
        · rw [g5]
          by_cases e : i = P
          · exact ⟨j, hj, if_pos e⟩
          · rw [if_neg e]; exact v5 i (by omega)
        · obtain ⟨w, s, e, w1, w2⟩ := v6 k hk
          exact ⟨w, s, e, by omega, w2⟩
