/-! sheet -/
theorem zr_turns {n E T : Nat} {c d : zw_Ct} (hR : zr_R c) (hRl : zr_Rl n E T c) (g : ∀ k, k ≠ 4 → k ≠ 58 → k ≠ 71 → k ≠ 73 → d.1 k = c.1 k) (f : ∀ i, i ≠ 9 → d.1 71 i = c.1 71 i) (g58 : ∀ p, p < 4 → d.1 58 p = if c.1 46 p = 2 then 1 else 0) (h62 : d.2 62 = c.2 62) (h75 : d.2 75 = c.2 75) (hq : ∀ i, i < 13 → d.1 4 i = d.1 73 i) : zr_Rel (n + 1) d := by
  obtain ⟨hN, hX, hTab, hP, hH, hK⟩ := hRl
  refine ⟨hR.fr (by rw [g 61 (by decide) (by decide) (by decide) (by decide)]) (f 8 (by decide)) h62 h75, E, T, (hN.fr (f 10 (by decide)) (g 98 (by decide) (by decide) (by decide) (by decide)) (g 99 (by decide) (by decide) (by decide) (by decide))).up (Nat.le_succ n), hX.fr (g 40 (by decide) (by decide) (by decide) (by decide)) (f 6 (by decide)) (g 41 (by decide) (by decide) (by decide) (by decide)) (g 74 (by decide) (by decide) (by decide) (by decide)), hTab.fr (g 1 (by decide) (by decide) (by decide) (by decide)) (g 2 (by decide) (by decide) (by decide) (by decide)) (g 72 (by decide) (by decide) (by decide) (by decide)) (f 0 (by decide)) (f 1 (by decide)) (f 2 (by decide)), fun p hp => ?_, ?_, fun i hi => ?_⟩
  · exact (hP p hp).tc (by rw [g 46 (by decide) (by decide) (by decide) (by decide)]) (by rw [g 82 (by decide) (by decide) (by decide) (by decide)]) (by rw [g 81 (by decide) (by decide) (by decide) (by decide)]) (g58 p hp) (g _ (by omega) (by omega) (by omega) (by omega)) (g 83 (by decide) (by decide) (by decide) (by decide)) (g _ (by omega) (by omega) (by omega) (by omega)) (by rw [g 52 (by decide) (by decide) (by decide) (by decide)]) (g _ (by omega) (by omega) (by omega) (by omega))
  · obtain ⟨q1, q2, q3, q4, q5, q6, q7, q8⟩ := hH
    unfold zr_H
    rw [g 3 (by decide) (by decide) (by decide) (by decide), g 5 (by decide) (by decide) (by decide) (by decide), g 6 (by decide) (by decide) (by decide) (by decide), g 7 (by decide) (by decide) (by decide) (by decide), g 8 (by decide) (by decide) (by decide) (by decide), g 9 (by decide) (by decide) (by decide) (by decide), g 10 (by decide) (by decide) (by decide) (by decide), g 89 (by decide) (by decide) (by decide) (by decide), g 92 (by decide) (by decide) (by decide) (by decide), g 93 (by decide) (by decide) (by decide) (by decide), g 94 (by decide) (by decide) (by decide) (by decide), g 95 (by decide) (by decide) (by decide) (by decide), g 96 (by decide) (by decide) (by decide) (by decide), f 26 (by decide), f 33 (by decide), f 30 (by decide)]
    exact ⟨hq, q2, q3, q4, q5, q6, q7, q8⟩
  · exact (hK i hi).fr (by rw [g 39 (by decide) (by decide) (by decide) (by decide)]) (by rw [g 98 (by decide) (by decide) (by decide) (by decide)]) (by rw [g 99 (by decide) (by decide) (by decide) (by decide)]) (f 10 (by decide)) (g 97 (by decide) (by decide) (by decide) (by decide)) (fun k k1 k2 => g k (by omega) (by omega) (by omega) (by omega))
def zj_sh (kind n2 f step : Int32) (i : Nat) : Int32 := if kind = 3 ∨ n2 ≤ nI i then nI i * nI i else fn_Held_entry kind (f + nI i * step)
theorem sp_sheet (kind n2 f step : Int32) (c : zw_Ct) : ∃ c2, fn_Held_readSheet 3 c kind (if (¬ (if kind = 3 then (1 : Int32) else 0) = 0) then (0 : Int32) else n2) f step = some (zs_sumI (zj_sh kind n2 f step) 13, c2) ∧ (∀ k, k ≠ 4 → c2.1 k = c.1 k) ∧ c2.2 = c.2 ∧ ∀ i, i < 13 → c2.1 4 i = zj_sh kind n2 f step i := by
  unfold fn_Held_readSheet
  obtain ⟨x, h1, h2, h3, h4, h5⟩ := zp_up (f := fn_Held_readSheet_l1 3 (if (¬ (if kind = 3 then (1 : Int32) else 0) = 0) then (0 : Int32) else n2) kind f step) (I := fun i t => ∃ c', t = (zs_sumI (zj_sh kind n2 f step) i, nI i, c') ∧ (∀ k, k ≠ 4 → c'.1 k = c.1 k) ∧ c'.2 = c.2 ∧ ∀ j, j < i → c'.1 4 j = zj_sh kind n2 f step j) (P := fun x => x.1 = zs_sumI (zj_sh kind n2 f step) 13 ∧ (∀ k, k ≠ 4 → x.2.1 k = c.1 k) ∧ x.2.2 = c.2 ∧ ∀ j, j < 13 → x.2.1 4 j = zj_sh kind n2 f step j) 13 (by unfold zw_F; omega) (fun i t hi h => by
      obtain ⟨c', rfl, e1, e2, e3⟩ := h
      have ev : (if nI i < (if (¬ (if kind = 3 then (1 : Int32) else 0) = 0) then (0 : Int32) else n2) then fn_Held_entry kind (f + nI i * step) else nI i * nI i) = zj_sh kind n2 f step i := by
        unfold zj_sh
        by_cases hk : kind = 3
        · rw [if_pos hk, if_pos (show ¬ (1 : Int32) = 0 by decide), if_neg (show ¬ nI i < 0 from nI_nlt (b := 0) (by omega) (by omega)), if_pos (Or.inl hk)]
        · rw [if_neg hk, if_neg (show ¬ ¬ (0 : Int32) = 0 from fun q => q rfl)]
          by_cases hn : nI i < n2
          · rw [if_pos hn, if_neg (fun q => q.elim hk (fun z => by rw [Int32.lt_iff_toInt_lt] at hn; rw [Int32.le_iff_toInt_le] at z; omega))]
          · rw [if_neg hn, if_pos (Or.inr (by rw [Int32.lt_iff_toInt_lt] at hn; rw [Int32.le_iff_toInt_le]; omega))]
      refine Or.inl ⟨(zs_sumI (zj_sh kind n2 f step) (i + 1), nI (i + 1), zw_wI c' 4 i (zj_sh kind n2 f step i)), ?_, _, rfl, fun k hk => by rw [zw_wI_ne hk]; exact e1 k hk, e2, fun j hj => ?_⟩
      · unfold fn_Held_readSheet_l1
        dsimp only
        rw [if_pos (show nI i < (13 : Int32) from nI_lt (b := 13) hi (by omega)), ev]
        have eu : zw_uI 13 c' (3 + 1) (nI i) (zj_sh kind n2 f step i) = some (zw_wI c' 4 i (zj_sh kind n2 f step i)) := zp_uI hi (by omega)
        have ea : zw_aI 13 (zw_wI c' 4 i (zj_sh kind n2 f step i)) (3 + 1) (nI i) = some (zj_sh kind n2 f step i) := (zp_aI hi (by omega)).trans (congrArg some zw_wI_eq)
        rw [eu, zp_bs, ea, zp_bs, zp_bs, nI_1]
        rfl
      · by_cases hq : j = i
        · rw [hq, zw_wI_eq]
        · rw [zw_wI_at hq]; exact e3 j (by omega)) (fun t h => by
      obtain ⟨c', rfl, e1, e2, e3⟩ := h
      refine ⟨(zs_sumI (zj_sh kind n2 f step) 13, c'), ?_, rfl, e1, e2, e3⟩
      unfold fn_Held_readSheet_l1
      dsimp only
      rw [if_neg (show ¬ nI 13 < (13 : Int32) by decide)]) 0 (0, 0, c) (Nat.zero_le _) ⟨c, rfl, fun _ _ => rfl, rfl, fun j hj => by omega⟩
  exact ⟨x.2, by rw [h1, zp_bs, ← h2], h3, h4, h5⟩
theorem sp_Msheet (kind n2 f step : Int32) (c : zw_Ct) : ∃ v c2, zw_whl (fn_M_sheet_l1 kind n2 step) zw_F (0, f, 0, c) = some (zs_sumI (zj_sh kind n2 f step) 13, v, c2) ∧ (∀ k, k ≠ 73 → c2.1 k = c.1 k) ∧ c2.2 = c.2 ∧ ∀ i, i < 13 → c2.1 73 i = zj_sh kind n2 f step i := by
  obtain ⟨x, h1, h2, h3, h4, h5⟩ := zp_up (f := fn_M_sheet_l1 kind n2 step) (I := fun i t => ∃ c', t = (zs_sumI (zj_sh kind n2 f step) i, f + nI i * step, nI i, c') ∧ (∀ k, k ≠ 73 → c'.1 k = c.1 k) ∧ c'.2 = c.2 ∧ ∀ j, j < i → c'.1 73 j = zj_sh kind n2 f step j) (P := fun x => x.1 = zs_sumI (zj_sh kind n2 f step) 13 ∧ (∀ k, k ≠ 73 → x.2.2.1 k = c.1 k) ∧ x.2.2.2 = c.2 ∧ ∀ j, j < 13 → x.2.2.1 73 j = zj_sh kind n2 f step j) 13 (by unfold zw_F; omega) (fun i t hi h => by
      obtain ⟨c', rfl, e1, e2, e3⟩ := h
      refine Or.inl ⟨(zs_sumI (zj_sh kind n2 f step) (i + 1), f + nI (i + 1) * step, nI (i + 1), zw_wI c' 73 i (zj_sh kind n2 f step i)), ?_, _, rfl, fun k hk => by rw [zw_wI_ne hk]; exact e1 k hk, e2, fun j hj => ?_⟩
      · unfold fn_M_sheet_l1
        dsimp only
        have es : f + nI i * step + step = f + nI (i + 1) * step := by rw [← nI_1, Int32.add_mul, Int32.one_mul, Int32.add_assoc]
        rw [if_pos (show nI i < (13 : Int32) from nI_lt (b := 13) hi (by omega)), zp_bs, zp_uI hi (by omega), zp_bs, zp_aI hi (by omega), zp_bs, zp_bs, zp_bs, zw_wI_eq, nI_1, es]
        rfl
      · by_cases hq : j = i
        · rw [hq, zw_wI_eq]
        · rw [zw_wI_at hq]; exact e3 j (by omega)) (fun t h => by
      obtain ⟨c', rfl, e1, e2, e3⟩ := h
      refine ⟨(zs_sumI (zj_sh kind n2 f step) 13, f + nI 13 * step, c'), ?_, rfl, e1, e2, e3⟩
      unfold fn_M_sheet_l1
      dsimp only
      rw [if_neg (show ¬ nI 13 < (13 : Int32) by decide)]) 0 (0, f, 0, c) (Nat.zero_le _) ⟨c, by rw [show nI 0 = 0 by rfl, Int32.zero_mul, Int32.add_zero]; rfl, fun _ _ => rfl, rfl, fun j hj => by omega⟩
  exact ⟨x.2.1, x.2.2, by rw [h1, ← h2], h3, h4, h5⟩
theorem zo_sheet : zq_sheet zr_Rel := by
  intro n c hn hRel kind n2 f step
  obtain ⟨hR, E, T, hRl⟩ := hRel
  have hRel : zr_Rel n c := ⟨hR, E, T, hRl⟩
  have w : fn_M_in kind.toInt64 0 3 = fn_P_within kind 0 3 := in_within kind 0 3
  unfold fn_P_sheet fn_M_sheet
  rw [w]
  by_cases hc : ((¬ (¬ (fn_P_within kind 0 3) = 0)) ∨ (13 < n2))
  · exact ⟨-1, c, zw_wI c 71 9 0, by rw [if_pos hc], by rw [zp_bs, if_pos hc], zr_thr hRel⟩
  · have hk := within_1 (a := kind) (lo := 0) (hi := 3) (fun q => hc (Or.inl (fun z => z q)))
    have hk3 : kind < 3 ↔ ¬ kind = 3 := by
      have h3 : (3 : Int32).toInt = 3 := by rfl
      have := hk.2
      rw [Int32.le_iff_toInt_le, h3] at this
      rw [Int32.lt_iff_toInt_lt, h3]
      constructor
      · intro q e
        rw [e, h3] at q
        omega
      · intro q
        have : ¬ kind.toInt = 3 := fun e => q (Int32.toInt_inj.mp (by rw [e, h3]))
        omega
    have hm : ((¬ (¬ (if kind = 3 then (1 : Int32) else 0) = 0)) ∧ (n2 < 0)) ↔ (kind < 3 ∧ n2 < 0) := by
      rw [hk3]
      by_cases h : kind = 3
      · rw [if_pos h]
        exact ⟨fun q => absurd (show ¬ (1 : Int32) = 0 by decide) q.1, fun q => absurd h q.1⟩
      · rw [if_neg h]
        exact ⟨fun q => ⟨h, q.2⟩, fun q => ⟨fun z => z rfl, q.2⟩⟩
    rw [if_neg hc, zp_bs]
    by_cases h2 : kind < 3 ∧ n2 < 0
    · exact ⟨-2, c, zw_wI c 71 9 0, by rw [if_pos (hm.mpr h2)], by rw [zp_bs, if_neg hc, if_pos h2], zr_thr hRel⟩
    · obtain ⟨c2, a1, a2, a3, a4⟩ := sp_sheet kind n2 f step c
      obtain ⟨c8, t1, t2, t3, t4⟩ := sp_turnChanged c2
      obtain ⟨v, d, b1, b2, b3, b4⟩ := sp_Msheet kind n2 f step (zw_wI c8 71 9 0)
      have er : (if (¬ (if kind = 3 then (1 : Int32) else 0) = 0) then (-3 : Int32) else zs_sumI (zj_sh kind n2 f step) 13) = if kind = 3 then (-3 : Int32) else zs_sumI (zj_sh kind n2 f step) 13 := by
        by_cases h : kind = 3
        · rw [if_pos h, if_pos (by decide), if_pos h]
        · rw [if_neg h, if_neg (fun q => q rfl), if_neg h]
      refine ⟨if kind = 3 then (-3 : Int32) else zs_sumI (zj_sh kind n2 f step) 13, c8, d, ?_, ?_, ?_⟩
      · rw [if_neg (fun q => h2 (hm.mp q)), a1, zp_bs]
        dsimp only
        rw [t1, zp_bs, er]
      · rw [zp_bs, if_neg hc, if_neg h2, b1, zp_bs]
      · refine zr_turns (c := c) hR hRl (fun k k1 k2 k3 k4 => by rw [b2 k k4, zw_wI_ne k3, t2 k k2, a2 k k1]) (fun i hi => by rw [b2 71 (by decide), zw_wI_at hi, t2 71 (by decide), a2 71 (by decide)]) (fun p hp => by rw [b2 58 (by decide), zw_wI_ne (by decide), t4 p hp, a2 46 (by decide)]) (by rw [b3, ← a3, ← t3]; rfl) (by rw [b3, ← a3, ← t3]; rfl) (fun i hi => ?_)
        rw [b4 i hi, b2 4 (by decide), zw_wI_ne (by decide), t2 4 (by decide)]
        exact a4 i hi
