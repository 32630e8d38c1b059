/-! meant -/
theorem bit1 (x : Int32) : x &&& 1 = 0 ∨ x &&& 1 = 1 := by
  have h : (x &&& 1).toBitVec.toNat < 2 := by
    rw [Int32.toBitVec_and, BitVec.toNat_and]
    exact Nat.lt_of_le_of_lt Nat.and_le_right (by decide)
  have e := sg_nI (x &&& 1)
  rcases (show (x &&& 1).toBitVec.toNat = 0 ∨ (x &&& 1).toBitVec.toNat = 1 by omega) with q | q
  · rw [q] at e; exact Or.inl e.symm
  · rw [q] at e; exact Or.inr e.symm
theorem sp_meant {n E T w : Nat} {c d : zw_Ct} (hRl : zr_Rl n E T c) (hA : zr_A c d) (hw : w < 6) : ∃ z, zw_whl (fn_Ledger_tellMeant_l1 c (nI w)) zw_F (0, 0, 0) = some z ∧ zw_whl (fn_M_meant_l1 d (nI w)) zw_F (0, 0, 0) = some z := by
  have hTab := hRl.2.2.1
  have hN : zt_N E T ≤ 455 := (zt_ok hTab.1).2.1
  obtain ⟨q1, q2, q3, q4, q5, q6, q7, P, Q, p1, p2, p3, p4, p5, p6⟩ := hRl.2.2.2.2.1
  have e33 : d.1 71 33 = nI Q := by rw [hA.2 33 (by decide), ← q5, p3]
  obtain ⟨x, y, h1, h2, h3⟩ := zp_up2 (f := fn_Ledger_tellMeant_l1 c (nI w)) (g := fn_M_meant_l1 d (nI w)) (I := fun i t u => t.2.2 = nI i ∧ u = t) (P := fun x y => x = y) Q (by unfold zw_F; omega) (fun i t u hi h => by
      obtain ⟨t1, t2, t3⟩ := t
      obtain ⟨h, rfl⟩ := h
      dsimp only at h
      subst h
      obtain ⟨wh, s, ev, g1, g2, g3, g4, g5, g6⟩ := p6 i hi
      have e95 : d.1 95 i = nI s := by rw [hA.1 95 (by decide) (by decide), ← (q4 i (by omega)).2.1, g5]
      have e96 : d.1 96 i = c.1 8 i := by rw [hA.1 96 (by decide) (by decide), ← (q4 i (by omega)).2.2]
      have e2 : c.1 2 (4 * s + 0) = nI (zt_p E T s 0) := hTab.2.1.2.2.2 s g2 0 (by omega)
      have ea : zw_aI 1820 c 2 (nI s * 4 + 0) = some (nI (zt_p E T s 0)) := by
        have : nI s * 4 + 0 = nI (4 * s + 0) := nI_at s 0
        rw [this, zp_aI (by omega) (by omega), e2]
      obtain ⟨b, b1, b2⟩ := zr_said hRl hA hw g2
      have ex : ∃ z z', fn_Ledger_tellMeant_l1 c (nI w) (t1, t2, nI i) = some (.inr (z, z', nI (i + 1))) ∧ fn_M_meant_l1 d (nI w) (t1, t2, nI i) = some (.inr (z, z', nI (i + 1))) := by
        unfold fn_Ledger_tellMeant_l1 fn_M_meant_l1 fn_Sayings_partOf
        dsimp only
        rw [p3, if_pos (nI_lt hi (by omega)), e33, if_pos (nI_lt hi (by omega)), zp_aI (a := 7) (by omega) (by omega), zp_bs, g5, ea, zp_bs, zp_bs, b1, zp_bs, zp_aI (a := 95) (by omega) (by omega), zp_bs, e95, b2, zp_bs, nI_1]
        by_cases h0 : b = 0
        · rw [if_neg (fun q => q h0), if_pos (fun q => q h0), zp_bs]
          exact ⟨t1, t2, rfl, rfl⟩
        · rw [if_pos h0, if_neg (fun q => q h0), zp_aI (a := 8) (by omega) (by omega), zp_aI (a := 96) (by omega) (by omega), e96]
          exact ⟨_, _, rfl, rfl⟩
      obtain ⟨z, z', z1, z2⟩ := ex
      exact Or.inl ⟨(z, z', nI (i + 1)), (z, z', nI (i + 1)), z1, z2, rfl, rfl⟩) (fun t u h => by
      obtain ⟨t1, t2, t3⟩ := t
      obtain ⟨h, rfl⟩ := h
      dsimp only at h
      subst h
      refine ⟨(t1, t2), (t1, t2), ?_, ?_, rfl⟩
      · unfold fn_Ledger_tellMeant_l1
        dsimp only
        rw [p3, if_neg (nI_nlt (Nat.le_refl _) (by omega))]
      · unfold fn_M_meant_l1
        dsimp only
        rw [e33, if_neg (nI_nlt (Nat.le_refl _) (by omega))]) 0 (0, 0, 0) (0, 0, 0) (Nat.zero_le _) ⟨rfl, rfl⟩
  subst h3
  exact ⟨x, h1, h2⟩
theorem zo_meant : zq_meant zr_Rel := by
  intro n c hn hRel i
  obtain ⟨hR, E, T, hRl⟩ := hRel
  have hRel : zr_Rel n c := ⟨hR, E, T, hRl⟩
  have hTab := hRl.2.2.1
  have hH := hRl.2.2.2.2.1
  have w : fn_M_in i.toInt64 0 5 = fn_P_within i 0 5 := in_within i 0 5
  have h30 : ∀ d, zr_A c d → d.1 71 30 = c.1 3 9 := fun d hA => by rw [hA.2 30 (by decide), ← hH.2.2.2.2.2.2.1]
  unfold fn_P_meant fn_M_meant
  rw [w]
  by_cases hc : (0 ≤ i ∧ i ≤ 5) ∧ (((c.1 3 9) >>> (i &&& 31)) &&& 1) = 1
  · obtain ⟨j, hj, rfl⟩ := within_n (m := 5) rfl (by omega) hc.1
    have hw : ¬ fn_Held_isWord 3 c (nI j) = 0 := by
      unfold fn_Held_isWord
      rw [if_pos ⟨⟨hc.1.1, nI_lt (b := 6) (by omega) (by omega)⟩, hc.2⟩]
      decide
    obtain ⟨z, z1, -⟩ := sp_meant hRl (zr_A.rf) (w := j) (by omega)
    obtain ⟨b, hb⟩ : ∃ b : Bool, b = (if 0 < z.1 then (if (c.1 9 j * z.1) ≤ (z.2 * nI T) then decide ((z.2 * nI T) ≤ (c.1 10 j * z.1)) else false) else false) := ⟨_, rfl⟩
    obtain ⟨c3, a1, a2, -⟩ := zr_C.clear (c1 := c) (c3 := c) zr_A.rf
    obtain ⟨c4, a3, a4, -⟩ := a2.add (by decide) z.2.toInt64
    obtain ⟨c5, a5, a6, -⟩ := a4.add (by simp) (if b = true then (1 : Int64) else 0)
    have hA5 : zr_A c (zw_wI c5 71 9 0) := a6.2.wF (by decide)
    have hD := zr_D.start (c3 := c5) hA5 (by rw [zw_wI_ne (by decide)]) rfl
    obtain ⟨z', z1', z2⟩ := sp_meant hRl hA5 (w := j) (by omega)
    rw [z1] at z1'
    cases z1'
    obtain ⟨e1, f1, f2, -⟩ := hD.tell (by decide) z.2.toInt64
    obtain ⟨e2, f3, f4, -⟩ := f2.tell (by simp) (if b = true then (1 : Int64) else 0)
    have hj6 : j < 6 := by omega
    have k92 : e1.1 92 j = c.1 9 j := by rw [f2.2.1.1 92 (by decide) (by decide)]; exact (hH.2.2.2.2.2.1 j hj6).1.symm
    have k93 : e1.1 93 j = c.1 10 j := by rw [f2.2.1.1 93 (by decide) (by decide)]; exact (hH.2.2.2.2.2.1 j hj6).2.symm
    have kT : e1.1 71 1 = nI T := (f2.2.1.tab hTab).2.2.2.1
    refine ⟨z.1, c5, e2, ?_, ?_, f4.fin hRl (by simp) a6.1⟩
    · rw [if_pos hw]
      unfold fn_Ledger_tellMeant
      rw [z1, zp_bs]
      dsimp only
      have eb : (if (0 < z.1) then ((zw_aI 6 c 9 (nI j)).bind fun x23 => if ((x23 * z.1) ≤ (z.2 * nI T)) then ((zw_aI 6 c 10 (nI j)).bind fun x25 => some (decide ((z.2 * nI T) ≤ (x25 * z.1)))) else some false) else some false) = some b := by
        rw [hb, zp_aI hj6 (by omega), zp_bs, zp_aI hj6 (by omega), zp_bs]
        split
        · split <;> rfl
        · rfl
      rw [zp_bs, hTab.2.1.2.1, eb, zp_bs, zp_bs, a1, zp_bs, a3, zp_bs]
      have ei : (if ¬ (if b = true then (1 : Int32) else 0) = 0 then (1 : Int64) else 0) = if b = true then (1 : Int64) else 0 := by
        cases b <;> rfl
      rw [ei, a5, zp_bs, zp_bs]
      rfl
    · have bitn : ¬ ((((zw_wI c5 71 9 0).1 71 30) >>> (nI j &&& 31)) &&& 1) = 0 := by
        rw [h30 _ hA5, hc.2]; decide
      rw [zp_bs, if_neg (by
        rintro (h | h)
        · exact within_0 h hc.1
        · exact bitn h), z2, zp_bs]
      dsimp only
      rw [zp_bs, f1, zp_bs]
      have eb : (if (0 < z.1) then ((zw_aI 6 e1 92 (nI j)).bind fun x27 => (zw_aI 6 e1 93 (nI j)).bind fun x28 => some (decide (¬ (fn_M_in ((z.2 * (e1.1 71 1))).toInt64 ((x27 * z.1)).toInt64 ((x28 * z.1)).toInt64) = 0))) else some false) = some b := by
        rw [hb, zp_aI hj6 (by omega), zp_bs, zp_aI hj6 (by omega), zp_bs, k92, k93, kT, in_within]
        unfold fn_P_within
        by_cases g0 : 0 < z.1
        · rw [if_pos g0, if_pos g0]
          by_cases g1 : (c.1 9 j * z.1) ≤ (z.2 * nI T)
          · by_cases g2 : (z.2 * nI T) ≤ (c.1 10 j * z.1)
            · simp [g1, g2]
            · simp [g1, g2]
          · simp [g1]
        · rw [if_neg g0, if_neg g0]
      rw [eb, zp_bs]
      have ei : (if b = true then some (1 : Int64) else some 0) = some (if b = true then (1 : Int64) else 0) := by cases b <;> rfl
      rw [ei, zp_bs, f3, zp_bs]
  · have hw : fn_Held_isWord 3 c i = 0 := by
      unfold fn_Held_isWord
      rw [if_neg]
      rintro ⟨⟨h1, h2⟩, h3⟩
      refine hc ⟨⟨h1, ?_⟩, h3⟩
      rw [Int32.lt_iff_toInt_lt, show (6 : Int32).toInt = 6 by rfl] at h2
      rw [Int32.le_iff_toInt_le, show (5 : Int32).toInt = 5 by rfl]
      omega
    have hA : zr_A c (zw_wI c 71 9 0) := zr_A.rf.wF (by decide)
    refine ⟨-1, c, zw_wI c 71 9 0, by rw [if_neg (fun q => q hw), zp_bs], ?_, zr_thr hRel⟩
    rw [zp_bs, h30 _ hA, if_pos]
    by_cases h5 : 0 ≤ i ∧ i ≤ 5
    · refine Or.inr ?_
      rcases bit1 ((c.1 3 9) >>> (i &&& 31)) with q | q
      · exact q
      · exact absurd ⟨h5, q⟩ hc
    · refine Or.inl (fun q => q ?_)
      unfold fn_P_within
      rw [if_neg h5]
