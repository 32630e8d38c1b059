/-! the row on both sides, fractions; the frame of a call that asks a pay -/
def zr_Rw (l : List Int64) (c : zw_Ct) : Prop := c.1 61 1 = nI l.length ∧ ∀ i, i < l.length → c.2 62 i = l.getD i 0
def zr_Rm (l : List Int64) (c : zw_Ct) : Prop := c.1 71 8 = nI l.length ∧ ∀ i, i < l.length → c.2 75 i = l.getD i 0
theorem zr_Rw.fr {l : List Int64} {c d : zw_Ct} (h : zr_Rw l c) (h1 : d.1 61 = c.1 61) (h2 : d.2 62 = c.2 62) : zr_Rw l d := by
  unfold zr_Rw; rw [h1, h2]; exact h
theorem zr_Rm.fr {l : List Int64} {c d : zw_Ct} (h : zr_Rm l c) (h1 : d.1 71 8 = c.1 71 8) (h2 : d.2 75 = c.2 75) : zr_Rm l d := by
  unfold zr_Rm; rw [h1, h2]; exact h
theorem sp_clear (c : zw_Ct) : ∃ c2, fn_Row_clear c = some c2 ∧ zr_Rw [] c2 ∧ (∀ k, k ≠ 61 → c2.1 k = c.1 k) ∧ c2.2 = c.2 := ⟨zw_wI c 61 1 0, rfl, ⟨zw_wI_eq, fun i hi => by simp at hi⟩, fun k hk => zw_wI_ne hk, rfl⟩
theorem getD_snoc {l : List Int64} {z : Int64} {i : Nat} : (l ++ [z]).getD i 0 = if i < l.length then l.getD i 0 else if i = l.length then z else 0 := by
  rw [List.getD_eq_getElem?_getD, List.getD_eq_getElem?_getD, List.getElem?_append]
  by_cases h : i < l.length
  · rw [if_pos h, if_pos h]
  · rw [if_neg h, if_neg h]
    by_cases h2 : i = l.length
    · rw [if_pos h2, h2, Nat.sub_self]; rfl
    · rw [if_neg h2, List.getElem?_eq_none (by simp only [List.length_cons, List.length_nil]; omega)]; rfl
theorem sp_add {l : List Int64} {c : zw_Ct} (h : zr_Rw l c) (hl : l.length < 16) (z : Int64) : ∃ c2, fn_Row_add c z = some c2 ∧ zr_Rw (l ++ [z]) c2 ∧ (∀ k, k ≠ 61 → c2.1 k = c.1 k) ∧ (∀ k, k ≠ 62 → c2.2 k = c.2 k) := by
  refine ⟨zw_wI (zw_wL c 62 l.length z) 61 1 (nI (l.length + 1)), ?_, ⟨?_, fun i hi => ?_⟩, fun k hk => ?_, fun k hk => ?_⟩
  · unfold fn_Row_add
    rw [h.1, if_pos (nI_ltl 16 (n := 16) rfl hl (by omega)), zp_uL (by omega) (by omega), zp_bs, show (zw_wL c 62 l.length z).1 61 1 = nI l.length from h.1, nI_1, zp_bs, zp_bs]
  · rw [zw_wI_eq, List.length_append]; rfl
  · rw [getD_snoc]
    rw [List.length_append] at hi
    simp only [List.length_cons, List.length_nil] at hi
    show (zw_wL c 62 l.length z).2 62 i = _
    by_cases h2 : i < l.length
    · rw [if_pos h2, zw_wL_at (by omega)]; exact h.2 i h2
    · rw [if_neg h2, if_pos (by omega), show i = l.length by omega, zw_wL_eq]
  · rw [zw_wI_ne hk]; rfl
  · exact zw_wL_ne hk
theorem sp_tell {l : List Int64} {c : zw_Ct} (h : zr_Rm l c) (hl : l.length < 24) (z : Int64) : ∃ c2, fn_M_tell c z = some c2 ∧ zr_Rm (l ++ [z]) c2 ∧ (∀ k, k ≠ 71 → c2.1 k = c.1 k) ∧ (∀ j, j ≠ 8 → c2.1 71 j = c.1 71 j) ∧ (∀ k, k ≠ 75 → c2.2 k = c.2 k) := by
  refine ⟨zw_wI (zw_wL c 75 l.length z) 71 8 (nI (l.length + 1)), ?_, ⟨?_, fun i hi => ?_⟩, fun k hk => ?_, fun j hj => ?_, fun k hk => ?_⟩
  · unfold fn_M_tell
    rw [h.1, zp_uL (by omega) (by omega), zp_bs, show (zw_wL c 75 l.length z).1 71 8 = nI l.length from h.1, nI_1, zp_bs]
  · rw [zw_wI_eq, List.length_append]; rfl
  · rw [getD_snoc]
    rw [List.length_append] at hi
    simp only [List.length_cons, List.length_nil] at hi
    show (zw_wL c 75 l.length z).2 75 i = _
    by_cases h2 : i < l.length
    · rw [if_pos h2, zw_wL_at (by omega)]; exact h.2 i h2
    · rw [if_neg h2, if_pos (by omega), show i = l.length by omega, zw_wL_eq]
  · rw [zw_wI_ne hk]; rfl
  · rw [zw_wI_at hj]; rfl
  · exact zw_wL_ne hk
theorem sp_clearM (c : zw_Ct) : zr_Rm [] (zw_wI c 71 8 0) := ⟨zw_wI_eq, fun i hi => by simp at hi⟩
theorem zr_fin {n E T : Nat} {l : List Int64} {c d : zw_Ct} (h : zr_Rl n E T c) (hA : zr_A c d) (hl : l.length ≤ 16) (hw : zr_Rw l d) (hm : zr_Rm l d) : zr_Rel (n + 1) d := ⟨⟨l.length, hl, hw.1, hm.1, fun k hk => (hw.2 k hk).trans (hm.2 k hk).symm⟩, E, T, (h.fr hA).up (Nat.le_succ n)⟩
theorem zr_A.of61 {c d : zw_Ct} (h : ∀ k, k ≠ 61 → d.1 k = c.1 k) : zr_A c d := ⟨fun k k1 _ => h k (fun e => k1 (by rw [e]; decide)), fun j _ => by rw [h 71 (by decide)]⟩
theorem zr_A.of71 {c d : zw_Ct} (h : ∀ k, k ≠ 71 → d.1 k = c.1 k) (h2 : ∀ j, j ∉ zr_FS → d.1 71 j = c.1 71 j) : zr_A c d := ⟨fun k _ k2 => h k k2, h2⟩
/-! fractions -/
theorem lI_div {a b : Int} (ha : 0 ≤ a) (ha2 : a ≤ 4611686018427387904) (hb : 0 < b) (hb2 : b ≤ 4611686018427387904) : lI a / lI b = lI (a / b) := by
  have h0 : 0 ≤ a / b := Int.ediv_nonneg ha (by omega)
  have h1 : a / b ≤ a := Int.ediv_le_self b ha
  apply Int64.toInt_inj.mp
  rw [Int64.toInt_div, lI_toInt ⟨by omega, ha2⟩, lI_toInt ⟨by omega, hb2⟩, lI_toInt ⟨by omega, by omega⟩, Int.tdiv_eq_ediv_of_nonneg ha]
  exact Int.bmod_eq_of_le (by omega) (by omega)
theorem lI_mod {a b : Int} (ha : 0 ≤ a) (ha2 : a ≤ 4611686018427387904) (hb : 0 < b) (hb2 : b ≤ 4611686018427387904) : lI a - lI a / lI b * lI b = lI (a % b) := by
  rw [lI_div ha ha2 hb hb2, lI_mul, lI_sub]
  refine congrArg lI ?_
  have := Int.mul_ediv_add_emod a b
  rw [Int.mul_comm] at this
  omega
theorem sp_gcd {u : Int} (hu : 0 ≤ u) (hu2 : u ≤ 4611686018427387904) {m : Nat} (hm1 : 1 ≤ m) (hm : m ≤ 40) : ∃ (g : Int64) (y : Int64) (z : Int64), ¬ g = 0 ∧ zw_whl fn_Row_commonDivisor_l1 zw_F (lI u, lI m, 0) = some (g, y) ∧ zw_whl fn_M_tellPart_l1 zw_F (lI u, lI m) = some (g, z) := by
  obtain ⟨x, y, h1, h2, h3, h4⟩ := zp_whl2 (f := fn_Row_commonDivisor_l1) (g := fn_M_tellPart_l1) (I := fun n t w => ∃ (a b : Int) (i : Nat), t = (lI a, lI b, nI i) ∧ w = (lI a, lI b) ∧ 0 ≤ a ∧ a ≤ 4611686018427387904 ∧ 0 ≤ b ∧ b ≤ 40 ∧ (0 < a ∨ 0 < b) ∧ b ≤ n ∧ i + n ≤ 199 ∧ (b = 0 → n = 0 ∨ True)) (P := fun x y => x.1 = y.1 ∧ ¬ x.1 = 0) (fun n t w h => by
      obtain ⟨a, b, i, rfl, rfl, a1, a2, b1, b2, ab, bn, hi, -⟩ := h
      by_cases hb : b = 0
      · subst hb
        refine Or.inl ⟨(lI a, lI 0), (lI a, lI 0), ?_, ?_, rfl, ?_⟩
        · unfold fn_Row_commonDivisor_l1
          dsimp only
          rw [if_neg (fun q => q.2 rfl)]
        · unfold fn_M_tellPart_l1
          dsimp only
          rw [if_neg (fun q => q rfl)]
        · intro e
          have := (lI_eq (b := 0) ⟨by omega, a2⟩ ⟨by decide, by decide⟩).mp e
          omega
      · have hb0 : ¬ lI b = (0 : Int64) := fun e => hb ((lI_eq (b := 0) ⟨by omega, by omega⟩ ⟨by decide, by decide⟩).mp e)
        have hmod : zw_rmL (lI a) (lI b) = some (lI (a % b)) := by
          unfold zw_rmL
          rw [if_neg hb0, lI_mod a1 a2 (by omega) (by omega)]
        have m1 := Int.emod_nonneg a hb
        have m2 := Int.emod_lt_of_pos a (show 0 < b by omega)
        cases n with
        | zero => omega
        | succ n =>
          refine Or.inr ⟨n, (lI b, lI (a % b), nI (i + 1)), (lI b, lI (a % b)), rfl, ?_, ?_, b, a % b, i + 1, rfl, rfl, by omega, by omega, m1, by omega, Or.inl (by omega), by omega, by omega, fun _ => Or.inr trivial⟩
          · unfold fn_Row_commonDivisor_l1
            dsimp only
            rw [if_pos ⟨nI_ltl 200 (n := 200) rfl (by omega) (by omega), hb0⟩, hmod, zp_bs, nI_1]
          · unfold fn_M_tellPart_l1
            dsimp only
            rw [if_pos hb0, hmod, zp_bs]) 50 zw_F (lI u, lI m, 0) (lI u, lI m) (by unfold zw_F; omega) ⟨u, m, 0, rfl, rfl, hu, hu2, by omega, by omega, Or.inr (by omega), by omega, by omega, fun _ => Or.inr trivial⟩
  obtain ⟨x1, x2⟩ := x
  obtain ⟨y1, y2⟩ := y
  dsimp only at h3 h4
  subst h3
  exact ⟨x1, x2, y2, h4, h1, h2⟩
theorem sp_frac {u : Int} (hu : -4611686018427387904 ≤ u) (hu2 : u ≤ 4611686018427387904) {m : Nat} (hm1 : 1 ≤ m) (hm : m ≤ 40) : ∃ q r : Int64, (∀ (l : List Int64) (c : zw_Ct), zr_Rw l c → l.length < 15 → ∃ c2, fn_Row_addFraction c (lI u) (lI m) = some c2 ∧ zr_Rw ((l ++ [q]) ++ [r]) c2 ∧ (∀ k, k ≠ 61 → c2.1 k = c.1 k) ∧ (∀ k, k ≠ 62 → c2.2 k = c.2 k)) ∧ (∀ (l : List Int64) (c : zw_Ct), zr_Rm l c → l.length < 15 → ∃ c2, fn_M_tellPart c (lI u) (lI m) = some c2 ∧ zr_Rm ((l ++ [q]) ++ [r]) c2 ∧ (∀ k, k ≠ 71 → c2.1 k = c.1 k) ∧ (∀ j, j ≠ 8 → c2.1 71 j = c.1 71 j) ∧ (∀ k, k ≠ 75 → c2.2 k = c.2 k)) := by
  obtain ⟨w, hw0, hw1, hw⟩ : ∃ w : Int, 0 ≤ w ∧ w ≤ 4611686018427387904 ∧ ((u < 0 → w = -u) ∧ (0 ≤ u → w = u)) := by
    by_cases h : u < 0
    · exact ⟨-u, by omega, by omega, fun _ => rfl, fun q => by omega⟩
    · exact ⟨u, by omega, hu2, fun q => absurd q h, fun _ => rfl⟩
  obtain ⟨g, y, z, hg, h1, h2⟩ := sp_gcd hw0 hw1 hm1 hm
  have zu : zb u := ⟨hu, hu2⟩
  have z0 : zb 0 := ⟨by decide, by decide⟩
  have e1 : (if lI u < 0 then (-lI u : Int64) else lI u) = lI w := by
    by_cases h : u < 0
    · have k : lI u < (0 : Int64) := (lI_lt (b := 0) zu z0).mpr h
      rw [if_pos k, lI_neg, hw.1 h]
    · have k : ¬ lI u < (0 : Int64) := fun q => h ((lI_lt (b := 0) zu z0).mp q)
      rw [if_neg k, hw.2 (by omega)]
  have e2 : (if 0 < lI u then lI u else (-lI u : Int64)) = lI w := by
    by_cases h : 0 < u
    · have k : (0 : Int64) < lI u := (lI_lt (a := 0) z0 zu).mpr h
      rw [if_pos k, hw.2 (by omega)]
    · have k : ¬ (0 : Int64) < lI u := fun q => h ((lI_lt (a := 0) z0 zu).mp q)
      rw [if_neg k, lI_neg]
      refine congrArg lI ?_
      by_cases h3 : u < 0
      · exact (hw.1 h3).symm
      · have := hw.2 (by omega); omega
  have ec : ∀ v : Int64, fn_P_cut v g = some (v / g) := fun v => by
    unfold fn_P_cut
    first
      | (rw [if_neg hg]; rfl)
      | (unfold zw_dvL; simp [hg])
  have ed : ∀ v : Int64, zw_dvL v g = some (v / g) := fun v => by unfold zw_dvL; rw [if_neg hg]
  refine ⟨lI u / g, lI m / g, fun l c hl hlen => ?_, fun l c hl hlen => ?_⟩
  · obtain ⟨c2, a1, a2, a3, a4⟩ := sp_add hl (by omega) (lI u / g)
    obtain ⟨c3, b1, b2, b3, b4⟩ := sp_add a2 (by rw [List.length_append]; simp only [List.length_cons, List.length_nil]; omega) (lI m / g)
    refine ⟨c3, ?_, b2, fun k hk => (b3 k hk).trans (a3 k hk), fun k hk => (b4 k hk).trans (a4 k hk)⟩
    unfold fn_Row_addFraction fn_Row_commonDivisor
    rw [e1, h1, zp_bs]
    dsimp only
    rw [zp_bs, ec, zp_bs, a1, zp_bs, ec, zp_bs, b1, zp_bs]
  · obtain ⟨c2, a1, a2, a3, a5, a4⟩ := sp_tell hl (by omega) (lI u / g)
    obtain ⟨c3, b1, b2, b3, b5, b4⟩ := sp_tell a2 (by rw [List.length_append]; simp only [List.length_cons, List.length_nil]; omega) (lI m / g)
    refine ⟨c3, ?_, b2, fun k hk => (b3 k hk).trans (a3 k hk), fun k hk => (b5 k hk).trans (a5 k hk), fun k hk => (b4 k hk).trans (a4 k hk)⟩
    unfold fn_M_tellPart
    rw [e2, zp_bs, h2, zp_bs]
    dsimp only
    rw [ed, zp_bs, a1, zp_bs, ed, zp_bs, b1, zp_bs]
/-! a call that asks a pay -/
theorem zo_pay {n : Nat} {c : zw_Ct} (hRel : zr_Rel n c) (a : Int32) : (fn_Pays_valuesOf c a = some (none, c) ∧ fn_M_isPay (zw_wI c 71 9 0) a = some 0) ∨ (∃ (p E T : Nat) (V : Nat → Nat → Int32) (c1 : zw_Ct), p < 4 ∧ a = nI p ∧ fn_Pays_valuesOf c a = some (some (54 + p), c1) ∧ zr_R c1 ∧ zr_Rl n E T c1 ∧ zr_V (54 + p) E (zt_N E T) V c1 ∧ zv_M E T p V c1 ∧ zw_len SH 0 (54 + p) = some 1820 ∧ ∀ d, zr_A c1 d → fn_M_isPay d a = some 1) := by
  obtain ⟨hR, E, T, hRl⟩ := hRel
  rcases sp_isPay hRl (zr_A.rf.wF (i := 9) (v := 0) (by decide)) a with ⟨⟨p, hp, rfl, hk⟩, h1⟩ | ⟨h0, h1⟩
  · obtain ⟨V, c1, e1, e2, e3, e4, e5, e6, e7⟩ := sp_pay hRl hp hk
    refine Or.inr ⟨p, E, T, V, c1, hp, rfl, e1, hR.fr (by rw [e3 61 (by decide) (by decide) (by decide) (by omega)]) (by rw [e3 71 (by decide) (by decide) (by decide) (by omega)]) (by rw [e4]) (by rw [e4]), e5, e2, e7, ?_, fun d hA => ?_⟩
    · rcases (show p = 0 ∨ p = 1 ∨ p = 2 ∨ p = 3 by omega) with rfl | rfl | rfl | rfl <;> rfl
    · rcases sp_isPay e5 hA (nI p) with ⟨_, h⟩ | ⟨h, _⟩
      · exact h
      · exact absurd (by rw [← e6]; exact h p hp rfl) hk
  · exact Or.inl ⟨sp_nopay h0, h1⟩
theorem zo_mean : zq_mean zr_Rel := by
  intro n c hn hRel a s t
  unfold fn_P_mean fn_M_mean
  rcases zo_pay hRel a with ⟨h1, h2⟩ | ⟨p, E, T, V, c1, hp, rfl, h1, hR, hRl, hV, hM, hlen, hisP⟩
  · refine ⟨-1, c, zw_wI c 71 9 0, ?_, ?_, zr_thr hRel⟩
    · rw [h1, zp_bs]
      dsimp only
      rw [if_pos (Or.inl (Or.inl rfl))]
    · rw [zp_bs, h2, zp_bs, if_pos (Or.inl (Or.inl (by decide)))]
  · have hTab := hRl.2.2.1
    have hT := zt_T hTab.1
    have hRel1 : zr_Rel n c1 := ⟨hR, E, T, hRl⟩
    rw [h1, zp_bs]
    dsimp only
    by_cases hc : ((((some (54 + p) : Option Nat) = none) ∨ (¬ (¬ (fn_Sayings_has c1 s) = 0))) ∨ (¬ (¬ (fn_Sayings_has c1 t) = 0)))
    · have hA9 : zr_A c1 (zw_wI c1 71 9 0) := zr_A.rf.wF (by decide)
      refine ⟨-1, c1, zw_wI c1 71 9 0, by rw [if_pos hc], ?_, zr_thr hRel1⟩
      rw [zp_bs, hisP _ hA9, zp_bs, zr_isSaying (hA9.tab hTab), zr_isSaying (hA9.tab hTab), ← zr_has hTab, ← zr_has hTab, if_pos]
      rcases hc with (h | h) | h
      · cases h
      · exact Or.inl (Or.inr h)
      · exact Or.inr h
    · obtain ⟨sj, hsj, rfl⟩ := has_n (zt_N31 hTab.1) (s := s) (fun q => hc (Or.inl (Or.inr (fun z => z (by rw [zr_has hTab]; exact q)))))
      obtain ⟨tj, htj, rfl⟩ := has_n (zt_N31 hTab.1) (s := t) (fun q => hc (Or.inr (fun z => z (by rw [zr_has hTab]; exact q))))
      have hb := zs_w_bd (V := V) hT (s := sj) htj
      have hT12 := hTab.1.2.2.2
      have hT1 := hTab.1.2.2.1
      obtain ⟨q, r, hq1, hq2⟩ := sp_frac (u := zs_w E (zt_p E T) V sj tj) (by omega) (by omega) (m := T) hT1 (by omega)
      obtain ⟨c2, a1, a2, a3, a4⟩ := sp_clear c1
      have hS2 : zr_S E T (zt_N E T) (zt_p E T) c2 := by unfold zr_S; rw [a3 1 (by decide), a3 2 (by decide)]; exact hTab.2.1
      have hV2 : zr_V (54 + p) E (zt_N E T) V c2 := fun s hs e he => by rw [a3 _ (by omega)]; exact hV s hs e he
      obtain ⟨c3, b1, b2, b3, b4⟩ := hq1 [] c2 a2 (by decide)
      have hA3 : zr_A c1 c3 := (zr_A.of61 a3).tr (zr_A.of61 b3)
      have hA39 : zr_A c1 (zw_wI c3 71 9 0) := hA3.wF (by decide)
      obtain ⟨d1, d2, d3, d4, d5, d6⟩ := sp_layPay hTab hM hA39
      have hA1 : zr_A c1 d1 := ⟨fun k k1 k2 => (d4 k k2 (fun e => k1 (by rw [e]; decide))).trans (hA39.1 k k1 k2), fun j hj => (d5 j hj).trans (hA39.2 j hj)⟩
      have hA2 : zr_A c1 (zw_wI d1 71 8 0) := hA1.wF (by decide)
      have hV84 : zr_V 84 E (zt_N E T) V (zw_wI d1 71 8 0) := fun s hs e he => by rw [zw_wI_ne (by decide)]; exact d3 s hs e he
      obtain ⟨d7, f1, f2, f3, f5, f4⟩ := hq2 [] (zw_wI d1 71 8 0) (sp_clearM d1) (by decide)
      refine ⟨0, c3, d7, ?_, ?_, zr_fin (l := ([] ++ [q]) ++ [r]) hRl (hA2.tr (zr_A.of71 f3 (fun j hj => f5 j (fun e => hj (by rw [e]; decide))))) (by simp) ?_ f2⟩
      · rw [if_neg hc, a1, zp_bs, zp_bs, sp_worth hT hS2 hlen hV2 hsj htj, zp_bs, hS2.2.1, nL (by omega), b1, zp_bs]
      · rw [zp_bs, hisP _ hA39, zp_bs, zr_isSaying (hA39.tab hTab), zr_isSaying (hA39.tab hTab), ← zr_has hTab, ← zr_has hTab, if_neg (by
          rintro ((h | h) | h)
          · exact h (by decide)
          · exact hc (Or.inl (Or.inr h))
          · exact hc (Or.inr h)), d2, zp_bs, zp_bs, sp_Mworth hT (hA2.tab hTab).2.2 hV84 hsj htj, zp_bs, (hA2.tab hTab).2.2.2.1, nL (by omega), f1, zp_bs]
      · refine b2.fr ?_ ?_
        · rw [f3 61 (by decide), zw_wI_ne (by decide), d4 61 (by decide) (by decide), zw_wI_ne (by decide)]
        · rw [f4 62 (by decide)]
          show d1.2 62 = c3.2 62
          rw [d6]; rfl
