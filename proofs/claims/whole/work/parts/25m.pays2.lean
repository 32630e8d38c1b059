/-! a pay: valuesOf and layPay give the same values -/
/-- what the Model answers of pay p, whatever scratch places hold -/
def zv_M (E T p : Nat) (V : Nat → Nat → Int32) (c : zw_Ct) : Prop := ∀ d : zw_Ct, zr_A c d → ∀ s, s < zt_N E T → ∀ e, e < E → ∃ d', fn_M_payFor d (nI p) (nI s) (nI e) = some (V s e, d') ∧ (∀ k, k ≠ 71 → d'.1 k = d.1 k) ∧ (∀ j, j ∉ zr_FS → d'.1 71 j = d.1 71 j) ∧ d'.2 = d.2 ∧ d'.1 71 9 = d.1 71 9 ∧ d'.1 71 8 = d.1 71 8
theorem zr_A.tab {E T : Nat} {c d : zw_Ct} (hA : zr_A c d) (h : zr_Tab E T c) : zr_Tab E T d := h.fr (hA.1 1 (by decide) (by decide)) (hA.1 2 (by decide) (by decide)) (hA.1 72 (by decide) (by decide)) (hA.2 0 (by decide)) (hA.2 1 (by decide)) (hA.2 2 (by decide))
theorem sp_pay {n E T p : Nat} {c : zw_Ct} (h : zr_Rl n E T c) (hp : p < 4) (hk : ¬ c.1 46 p = 0) : ∃ (V : Nat → Nat → Int32) (c1 : zw_Ct), fn_Pays_valuesOf c (nI p) = some (some (54 + p), c1) ∧ zr_V (54 + p) E (zt_N E T) V c1 ∧ (∀ k, k ≠ 58 → k ≠ 59 → k ≠ 60 → k ≠ 54 + p → c1.1 k = c.1 k) ∧ c1.2 = c.2 ∧ zr_Rl n E T c1 ∧ (c1.1 46 p = c.1 46 p) ∧ zv_M E T p V c1 := by
  have hTab := h.2.2.1
  have hET := hTab.1
  have hT := zt_T hET
  have hN : zt_N E T ≤ 455 := (zt_ok hET).2.1
  have hE4 := hET.2.1
  have hH := h.2.2.2.2.1
  have cell54 : zw_len SH 0 (54 + p) = some 1820 := by rcases (show p = 0 ∨ p = 1 ∨ p = 2 ∨ p = 3 by omega) with rfl | rfl | rfl | rfl <;> rfl
  have cell48 : zw_len SH 0 (48 + p) = some 60 := by rcases (show p = 0 ∨ p = 1 ∨ p = 2 ∨ p = 3 by omega) with rfl | rfl | rfl | rfl <;> rfl
  have hA82 : ∀ c1 d : zw_Ct, zr_A c1 d → d.1 (77 + p) = c1.1 (77 + p) := fun c1 d hA => by rcases (show p = 0 ∨ p = 1 ∨ p = 2 ∨ p = 3 by omega) with rfl | rfl | rfl | rfl <;> exact hA.1 _ (by decide) (by decide)
  have hv0 : ∀ r : Option (Option Nat × zw_Ct), ((zw_aI 4 c 46 (nI p)).bind fun x6 => if x6 = 0 then (some (none, c)) else ((zw_aI 4 c 58 (nI p)).bind fun x9 => (if (¬ (¬ x9 = 0)) then ((zw_gr 48 4 1 (nI p)).bind fun r13 => (zw_aI 4 c 52 (nI p)).bind fun x14 => (zw_gr 54 4 1 (nI p)).bind fun r15 => (fn_Pays_reckonAll c r13 x14 r15).bind fun c16 => (zw_uI 4 c16 58 (nI p) 1).bind fun c17 => some c17) else (some c)).bind fun c10 => (zw_gr 54 4 1 (nI p)).bind fun r18 => some ((some r18), c10))) = r → fn_Pays_valuesOf c (nI p) = r := fun r hr => by
    unfold fn_Pays_valuesOf
    rw [if_neg (nI_pos (by omega)), if_neg (by rw [show (4 : Int32) = nI 4 by decide]; exact nI_ge hp (by omega))]
    exact hr
  rcases h.2.2.2.1 p hp with ⟨a1, -, -⟩ | ⟨a1, a2, a3, a4, a5⟩ | ⟨a1, a2, m, X, b1, b2, b3, b4, b5, b6, b7, b8⟩
  · exact absurd a1 hk
  · refine ⟨fun s e => c.1 83 (4 * (455 * p + s) + e), c, hv0 _ ?_, fun s hs e he => a5 s hs e he, fun _ _ _ _ _ => rfl, rfl, h, rfl, fun d hA s hs e he => ⟨d, ?_, fun _ _ => rfl, fun _ _ => rfl, rfl, rfl, rfl⟩⟩
    · rw [zp_aI hp (by omega), zp_bs, if_neg hk, zp_aI hp (by omega), zp_bs, a4, if_neg (by decide), zp_bs, zp_gr hp (by omega), zp_bs]
    · unfold fn_M_payFor
      rw [zp_aI hp (by omega), zp_bs, hA.1 82 (by decide) (by decide), a2, if_pos (by decide), show (455 : Int32) = nI 455 by decide, nI_mul, nI_add, nI_at', zp_aI (by omega) (by omega), zp_bs, hA.1 83 (by decide) (by decide)]
  · have hz := zt_code_h b5
    have told : ∀ c1 : zw_Ct, (∀ k, k ≠ 58 → k ≠ 59 → k ≠ 60 → k ≠ 54 + p → c1.1 k = c.1 k) → zv_M E T p (fun s e => ze_val (zt_th E T (zt_p E T) (c.1 4) s e) X) c1 := by
      intro c1 hg d hA s hs e he
      have hTab1 : zr_Tab E T c1 := hTab.fr (hg 1 (by decide) (by decide) (by decide) (by omega)) (hg 2 (by decide) (by decide) (by decide) (by omega)) (hg 72 (by decide) (by decide) (by decide) (by omega)) (by rw [hg 71 (by decide) (by decide) (by decide) (by omega)]) (by rw [hg 71 (by decide) (by decide) (by decide) (by omega)]) (by rw [hg 71 (by decide) (by decide) (by decide) (by omega)])
      obtain ⟨d', z1, z2⟩ := sp_told (d := d) (X := X) hET (hA.tab hTab1).2.2 hp hs he (by rw [hA.1 82 (by decide) (by decide), hg 82 (by decide) (by decide) (by decide) (by omega)]; exact a2) (by rw [hA.1 81 (by decide) (by decide), hg 81 (by decide) (by decide) (by decide) (by omega)]; exact b4) b2 (by rw [hA82 c1 d hA, hg (77 + p) (by omega) (by omega) (by omega) (by omega)]; exact b5)
      refine ⟨d', ?_, z2⟩
      rw [z1]
      have et : zt_th E T (zt_p E T) (d.1 73) s e = zt_th E T (zt_p E T) (c.1 4) s e := zt_th_congr hET hs he (fun i hi => by rw [hA.1 73 (by decide) (by decide), hg 73 (by decide) (by decide) (by decide) (by omega)]; exact (hH.1 i hi).symm)
      rw [et]
    by_cases hfr : c.1 58 p = 1
    · have hval : ∀ s, s < zt_N E T → ∀ e, e < E → c.1 (54 + p) (4 * s + e) = ze_val (zt_th E T (zt_p E T) (c.1 4) s e) X := by
        rcases b8 with q | q
        · rw [hfr] at q; exact absurd q (by decide)
        · exact q.2
      refine ⟨_, c, hv0 _ ?_, hval, fun _ _ _ _ _ => rfl, rfl, h, rfl, told c (fun _ _ _ _ _ => rfl)⟩
      rw [zp_aI hp (by omega), zp_bs, if_neg hk, zp_aI hp (by omega), zp_bs, hfr, if_neg (by decide), zp_bs, zp_gr hp (by omega), zp_bs]
    · have hfr0 : c.1 58 p = 0 := by
        rcases b8 with q | q
        · exact q
        · exact absurd q.1 hfr
      obtain ⟨d, e1, e2, e3, e4⟩ := sp_reckonAll (cd := 48 + p) (into := 54 + p) hT hTab.2.1 (by omega) cell48 (by omega) cell54 b3 b7 hz
      have hg : ∀ k, k ≠ 58 → k ≠ 59 → k ≠ 60 → k ≠ 54 + p → (zw_wI d 58 p 1).1 k = c.1 k := fun k k1 k2 k3 k4 => (zw_wI_ne k1).trans (e2 k k2 k3 k4)
      refine ⟨_, zw_wI d 58 p 1, hv0 _ ?_, fun s hs e he => ?_, hg, ?_, ?_, ?_, told _ hg⟩
      · rw [zp_aI hp (by omega), zp_bs, if_neg hk, zp_aI hp (by omega), zp_bs, hfr0, if_pos (by decide), zp_gr hp (by omega), zp_bs, zp_aI hp (by omega), zp_bs, zp_gr hp (by omega), zp_bs, b6, e1, zp_bs, zp_uI hp (by omega), zp_bs, zp_bs, zp_bs]
      · rw [zw_wI_ne (by omega)]; exact e4 s hs e he
      · exact e3
      · obtain ⟨h1, h2, h3, h4, h5, h6⟩ := h
        have G : ∀ k : Nat, k ≠ 58 ∧ k ≠ 59 ∧ k ≠ 60 ∧ k ≠ 54 + p → (zw_wI d 58 p 1).1 k = c.1 k := fun k q => hg k q.1 q.2.1 q.2.2.1 q.2.2.2
        have g71 : (zw_wI d 58 p 1).1 71 = c.1 71 := G 71 (by omega)
        refine ⟨h1.fr (by rw [g71]) (G 98 (by omega)) (G 99 (by omega)), h2.fr (G 40 (by omega)) (by rw [g71]) (G 41 (by omega)) (G 74 (by omega)), h3.fr (G 1 (by omega)) (G 2 (by omega)) (G 72 (by omega)) (by rw [g71]) (by rw [g71]) (by rw [g71]), fun q hq => ?_, h5.fr (G 3 (by omega)) (G 4 (by omega)) (G 5 (by omega)) (G 6 (by omega)) (G 7 (by omega)) (G 8 (by omega)) (G 9 (by omega)) (G 10 (by omega)) (G 73 (by omega)) (G 89 (by omega)) (G 92 (by omega)) (G 93 (by omega)) (G 94 (by omega)) (G 95 (by omega)) (G 96 (by omega)) (by rw [g71]) (by rw [g71]) (by rw [g71]), fun i hi => (h6 i hi).fr (by rw [G 39 (by omega)]) (by rw [G 98 (by omega)]) (by rw [G 99 (by omega)]) (by rw [g71]) (G 97 (by omega)) (fun k k1 k2 => G k (by omega))⟩
        by_cases hqp : q = p
        · subst hqp
          refine Or.inr (Or.inr ⟨by rw [G 46 (by omega)]; exact a1, by rw [G 82 (by omega)]; exact a2, m, X, b1, b2, b3, by rw [G 81 (by omega)]; exact b4, by rw [G (77 + q) (by omega)]; exact b5, by rw [G 52 (by omega)]; exact b6, by rw [G (48 + q) (by omega)]; exact b7, Or.inr ⟨zw_wI_eq, fun s hs e he => ?_⟩⟩)
          rw [G 4 (by omega), zw_wI_ne (by omega)]
          exact e4 s hs e he
        · exact (h4 q hq).fr (by rw [G 46 (by omega)]) (by rw [G 82 (by omega)]) (by rw [G 81 (by omega)]) (by rw [zw_wI_at hqp, e2 58 (by decide) (by decide) (by omega)]) (G (54 + q) (by omega)) (G 83 (by omega)) (G (77 + q) (by omega)) (by rw [G 52 (by omega)]) (G (48 + q) (by omega)) (G 4 (by omega))
      · rw [hg 46 (by decide) (by decide) (by decide) (by omega)]
/-- no pay -/
theorem sp_nopay {c : zw_Ct} {a : Int32} (h : ∀ p, p < 4 → a = nI p → c.1 46 p = 0) : fn_Pays_valuesOf c a = some (none, c) := by
  unfold fn_Pays_valuesOf
  by_cases h1 : a < 0
  · rw [if_pos h1]
  rw [if_neg h1]
  by_cases h2 : 4 ≤ a
  · rw [if_pos h2]
  rw [if_neg h2]
  obtain ⟨j, hj, rfl⟩ := nI_of h1
  have hj4 : j < 4 := by
    rcases Nat.lt_or_ge j 4 with q | q
    · exact q
    · exact absurd (nI_le q hj) h2
  rw [zp_aI hj4 (by omega), zp_bs, if_pos (h j hj4 rfl)]
theorem zr_P.kind {E T p : Nat} {c : zw_Ct} (h : zr_P E T p c) : (c.1 46 p = 0 ∧ c.1 82 p = 0 ∧ c.1 81 p = 0) ∨ (¬ c.1 46 p = 0 ∧ (¬ c.1 82 p = 0 ∨ (c.1 82 p = 0 ∧ 0 < c.1 81 p))) := by
  rcases h with h | ⟨a1, a2, a3, a4, a5⟩ | ⟨a1, a2, m, X, b1, b2, b3, b4, -⟩
  · exact Or.inl h
  · exact Or.inr ⟨by rw [a1]; decide, Or.inl (by rw [a2]; decide)⟩
  · exact Or.inr ⟨by rw [a1]; decide, Or.inr ⟨a2, by rw [b4, show (0 : Int32) = nI 0 by rfl]; exact nI_lt b1 (by omega)⟩⟩
/-- the Model's test, beside the class's kinds -/
theorem sp_isPay {n E T : Nat} {c d : zw_Ct} (h : zr_Rl n E T c) (hA : zr_A c d) (a : Int32) : ((∃ p, p < 4 ∧ a = nI p ∧ ¬ c.1 46 p = 0) ∧ fn_M_isPay d a = some 1) ∨ ((∀ p, p < 4 → a = nI p → c.1 46 p = 0) ∧ fn_M_isPay d a = some 0) := by
  have w : fn_M_in a.toInt64 0 3 = fn_P_within a 0 3 := in_within a 0 3
  unfold fn_M_isPay
  rw [w]
  by_cases hw : 0 ≤ a ∧ a ≤ 3
  · obtain ⟨p, hp, rfl⟩ := within_n (m := 3) (hi := 3) rfl (by omega) hw
    rw [if_pos (by unfold fn_P_within; rw [if_pos hw]; decide), zp_aI (by omega) (by omega), zp_bs, zp_aI (by omega) (by omega), zp_bs, hA.1 82 (by decide) (by decide), hA.1 81 (by decide) (by decide)]
    rcases (h.2.2.2.1 p (by omega)).kind with ⟨k1, k2, k3⟩ | ⟨k1, k2⟩
    · refine Or.inr ⟨fun q hq e => by rw [← (nI_eq (by omega) (by omega)).mp e]; exact k1, ?_⟩
      rw [k2, k3, if_neg (by decide), zp_bs]
      rfl
    · refine Or.inl ⟨⟨p, by omega, rfl, k1⟩, ?_⟩
      rcases k2 with k2 | ⟨k2, k3⟩
      · rw [if_pos k2, zp_bs]; rfl
      · rw [k2, if_neg (by decide), zp_bs, if_pos (decide_eq_true k3)]
  · refine Or.inr ⟨fun p hp e => ?_, ?_⟩
    · exact absurd ⟨by rw [e]; exact nI_pos' (by omega), by rw [e, show (3 : Int32) = nI 3 by decide]; exact nI_le (by omega) (by omega)⟩ hw
    · rw [if_neg (by unfold fn_P_within; rw [if_neg hw]; decide), zp_bs]
      rfl
/-- the Model lays a pay's values -/
theorem sp_layPay {E T p : Nat} {V : Nat → Nat → Int32} {c d : zw_Ct} (hTab : zr_Tab E T c) (hV : zv_M E T p V c) (hA : zr_A c d) : ∃ d', fn_M_layPay d (nI p) = some d' ∧ zr_V 84 E (zt_N E T) V d' ∧ (∀ k, k ≠ 71 → k ≠ 84 → d'.1 k = d.1 k) ∧ (∀ j, j ∉ zr_FS → d'.1 71 j = d.1 71 j) ∧ d'.2 = d.2 := by
  have hET := hTab.1
  have hN : zt_N E T ≤ 455 := (zt_ok hET).2.1
  have hE4 := hET.2.1
  -- agreement with d
  have agree : ∀ b : zw_Ct, (∀ k, k ≠ 71 → k ≠ 84 → b.1 k = d.1 k) → (∀ j, j ∉ zr_FS → b.1 71 j = d.1 71 j) → zr_A c b := fun b h1 h2 => ⟨fun k k1 k2 => (h1 k k2 (fun q => k1 (by rw [q]; decide))).trans (hA.1 k k1 k2), fun j hj => (h2 j hj).trans (hA.2 j hj)⟩
  unfold fn_M_layPay
  obtain ⟨x, h1, h2⟩ := zp_up (f := fn_M_layPay_l1 (nI p)) (I := fun s t => t.1 = nI s ∧ (∀ k, k ≠ 71 → k ≠ 84 → t.2.1 k = d.1 k) ∧ (∀ j, j ∉ zr_FS → t.2.1 71 j = d.1 71 j) ∧ t.2.2 = d.2 ∧ ∀ q, q < s → ∀ e, e < E → t.2.1 84 (4 * q + e) = V q e) (P := fun d' => (∀ k, k ≠ 71 → k ≠ 84 → d'.1 k = d.1 k) ∧ (∀ j, j ∉ zr_FS → d'.1 71 j = d.1 71 j) ∧ d'.2 = d.2 ∧ ∀ q, q < zt_N E T → ∀ e, e < E → d'.1 84 (4 * q + e) = V q e) (zt_N E T) (by unfold zw_F; omega) (fun s t hs h => by
      obtain ⟨t1, b⟩ := t
      obtain ⟨ht, g1, g2, g3, g4⟩ := h
      dsimp only at ht g1 g2 g3 g4
      subst ht
      have hTb : zr_Tab E T b := (agree b g1 g2).tab hTab
      obtain ⟨y, y1, y2⟩ := zp_up (f := fn_M_layPay_l2 (nI p) (nI s)) (I := fun i t => t.1 = nI i ∧ (∀ k, k ≠ 71 → k ≠ 84 → t.2.1 k = d.1 k) ∧ (∀ j, j ∉ zr_FS → t.2.1 71 j = d.1 71 j) ∧ t.2.2 = d.2 ∧ (∀ q, q < s → ∀ e, e < E → t.2.1 84 (4 * q + e) = V q e) ∧ ∀ e, e < i → t.2.1 84 (4 * s + e) = V s e) (P := fun d' => (∀ k, k ≠ 71 → k ≠ 84 → d'.1 k = d.1 k) ∧ (∀ j, j ∉ zr_FS → d'.1 71 j = d.1 71 j) ∧ d'.2 = d.2 ∧ (∀ q, q < s → ∀ e, e < E → d'.1 84 (4 * q + e) = V q e) ∧ ∀ e, e < E → d'.1 84 (4 * s + e) = V s e) E (by unfold zw_F; omega) (fun i t hi h => by
          obtain ⟨t1, b⟩ := t
          obtain ⟨ht, g1, g2, g3, g4, g5⟩ := h
          dsimp only at ht g1 g2 g3 g4 g5
          subst ht
          have hTb : zr_Tab E T b := (agree b g1 g2).tab hTab
          obtain ⟨b', z1, z2, z3, z4, -⟩ := hV b (agree b g1 g2) s hs i hi
          refine Or.inl ⟨(nI (i + 1), zw_wI b' 84 (4 * s + i) (V s i)), ?_, rfl, fun k k1 k2 => ?_, fun j hj => ?_, ?_, fun q hq e he => ?_, fun e he => ?_⟩
          · unfold fn_M_layPay_l2
            dsimp only
            rw [hTb.2.2.1, if_pos (nI_lt hi (by omega)), z1, zp_bs]
            dsimp only
            rw [nI_at', zp_uI (by omega) (by omega), zp_bs, nI_1]
          · dsimp only
            rw [zw_wI_ne k2, z2 k k1]; exact g1 k k1 k2
          · dsimp only
            rw [zw_wI_ne (by decide), z3 j hj]; exact g2 j hj
          · exact z4.trans g3
          · dsimp only
            rw [zw_wI_at (by omega), z2 84 (by decide)]; exact g4 q hq e he
          · dsimp only
            by_cases hq : e = i
            · rw [hq, zw_wI_eq]
            · rw [zw_wI_at (by omega), z2 84 (by decide)]; exact g5 e (by omega)) (fun t h => by
          obtain ⟨t1, b⟩ := t
          obtain ⟨ht, g1, g2, g3, g4, g5⟩ := h
          dsimp only at ht g1 g2 g3 g4 g5
          subst ht
          refine ⟨b, ?_, g1, g2, g3, g4, g5⟩
          unfold fn_M_layPay_l2
          dsimp only
          rw [((agree b g1 g2).tab hTab).2.2.1, if_neg (nI_nlt (Nat.le_refl _) (by omega))]) 0 (0, b) (Nat.zero_le _) ⟨rfl, g1, g2, g3, g4, fun e he => by omega⟩
      refine Or.inl ⟨(nI (s + 1), y), ?_, rfl, y2.1, y2.2.1, y2.2.2.1, fun q hq e he => ?_⟩
      · unfold fn_M_layPay_l1
        dsimp only
        rw [hTb.2.2.2.2.1, if_pos (nI_lt hs (by omega)), y1, zp_bs, nI_1]
      · by_cases hq2 : q = s
        · rw [hq2]; exact y2.2.2.2.2 e he
        · exact y2.2.2.2.1 q (by omega) e he) (fun t h => by
      obtain ⟨t1, b⟩ := t
      obtain ⟨ht, g1, g2, g3, g4⟩ := h
      dsimp only at ht g1 g2 g3 g4
      subst ht
      refine ⟨b, ?_, g1, g2, g3, g4⟩
      unfold fn_M_layPay_l1
      dsimp only
      rw [((agree b g1 g2).tab hTab).2.2.2.2.1, if_neg (nI_nlt (Nat.le_refl _) (by omega))]) 0 (0, d) (Nat.zero_le _) ⟨rfl, fun _ _ _ => rfl, fun _ _ => rfl, rfl, fun q hq => by omega⟩
  exact ⟨x, by rw [h1, zp_bs], h2.2.2.2, h2.1, h2.2.1, h2.2.2.1⟩
