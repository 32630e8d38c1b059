/-! two pays: what the Model answers rests on its own cells alone -/
def zr_MC : List Nat := [72, 73, 77, 78, 79, 80, 81, 82, 83]
def zr_B (c d : zw_Ct) : Prop := (∀ k, k ∈ zr_MC → d.1 k = c.1 k) ∧ ∀ j, j ∉ zr_FS → d.1 71 j = c.1 71 j
theorem zr_B.rf {c : zw_Ct} : zr_B c c := ⟨fun _ _ => rfl, fun _ _ => rfl⟩
theorem zr_B.tr {c c' c'' : zw_Ct} (h : zr_B c c') (h' : zr_B c' c'') : zr_B c c'' := ⟨fun k hk => (h'.1 k hk).trans (h.1 k hk), fun j hj => (h'.2 j hj).trans (h.2 j hj)⟩
theorem zr_B.M {E T : Nat} {c d : zw_Ct} (hA : zr_B c d) (h : zr_M E T (zt_N E T) (zt_p E T) c) : zr_M E T (zt_N E T) (zt_p E T) d := by
  unfold zr_M at h ⊢
  rw [hA.2 0 (by decide), hA.2 1 (by decide), hA.2 2 (by decide), hA.1 72 (by decide)]
  exact h
def zv_N (E T p : Nat) (V : Nat → Nat → Int32) (c : zw_Ct) : Prop := ∀ d : zw_Ct, zr_B c d → ∀ s, s < zt_N E T → ∀ e, e < E → ∃ d', fn_M_payFor d (nI p) (nI s) (nI e) = some (V s e, d') ∧ (∀ k, k ≠ 71 → d'.1 k = d.1 k) ∧ (∀ j, j ∉ zr_FS → d'.1 71 j = d.1 71 j) ∧ d'.2 = d.2 ∧ d'.1 71 9 = d.1 71 9 ∧ d'.1 71 8 = d.1 71 8
theorem sp_freshN {n E T p : Nat} {c : zw_Ct} (h : zr_Rl n E T c) (hp : p < 4) (hk : ¬ c.1 46 p = 0) (hf : c.1 58 p = 1) : zv_N E T p (fun s e => c.1 (54 + p) (4 * s + e)) c := by
  have hTab := h.2.2.1
  have hET := hTab.1
  have hN : zt_N E T ≤ 455 := (zt_ok hET).2.1
  have hE4 := hET.2.1
  have hH := h.2.2.2.2.1
  intro d hA s hs e he
  have h77 : d.1 (77 + p) = c.1 (77 + p) := by rcases (show p = 0 ∨ p = 1 ∨ p = 2 ∨ p = 3 by omega) with rfl | rfl | rfl | rfl <;> exact hA.1 _ (by decide)
  rcases h.2.2.2.1 p hp with ⟨a1, -, -⟩ | ⟨a1, a2, a3, a4, a5⟩ | ⟨a1, a2, m, X, b1, b2, b3, b4, b5, b6, b7, b8⟩
  · exact absurd a1 hk
  · refine ⟨d, ?_, fun _ _ => rfl, fun _ _ => rfl, rfl, rfl, rfl⟩
    unfold fn_M_payFor
    rw [zp_aI hp (by omega), zp_bs, hA.1 82 (by decide), a2, if_pos (by decide), show (455 : Int32) = nI 455 by decide, nI_mul, nI_add, nI_at', zp_aI (by omega) (by omega), zp_bs, hA.1 83 (by decide)]
    exact congrArg (fun z => some (z, d)) (a5 s hs e he).symm
  · have hval : c.1 (54 + p) (4 * s + e) = ze_val (zt_th E T (zt_p E T) (c.1 4) s e) X := by
      rcases b8 with q | q
      · rw [hf] at q; exact absurd q (by decide)
      · exact q.2 s hs e he
    obtain ⟨d', z1, z2⟩ := sp_told (d := d) (X := X) hET (hA.M hTab.2.2) hp hs he (by rw [hA.1 82 (by decide)]; exact a2) (by rw [hA.1 81 (by decide)]; exact b4) b2 (by rw [h77]; exact b5)
    refine ⟨d', ?_, z2⟩
    have et : zt_th E T (zt_p E T) (d.1 73) s e = zt_th E T (zt_p E T) (c.1 4) s e := zt_th_congr hET hs he (fun i hi => by rw [hA.1 73 (by decide)]; exact (hH.1 i hi).symm)
    rw [z1, et]
    dsimp only
    rw [hval]
theorem sp_layPayN {E T p : Nat} {V : Nat → Nat → Int32} {c d : zw_Ct} (hET : zt_ET E T) (hMc : zr_M E T (zt_N E T) (zt_p E T) c) (hV : zv_N E T p V c) (hA : zr_B c d) : ∃ d', fn_M_layPay d (nI p) = some d' ∧ zr_V 84 E (zt_N E T) V d' ∧ (∀ k, k ≠ 71 → k ≠ 84 → d'.1 k = d.1 k) ∧ (∀ j, j ∉ zr_FS ∨ j = 8 → d'.1 71 j = d.1 71 j) ∧ d'.2 = d.2 := by
  have hN : zt_N E T ≤ 455 := (zt_ok hET).2.1
  have hE4 := hET.2.1
  -- agreement with d
  have agree : ∀ b : zw_Ct, (∀ k, k ≠ 71 → k ≠ 84 → b.1 k = d.1 k) → (∀ j, j ∉ zr_FS ∨ j = 8 → b.1 71 j = d.1 71 j) → zr_B c b := fun b h1 h2 => ⟨fun k hk => (h1 k (fun q => by rw [q] at hk; revert hk; decide) (fun q => by rw [q] at hk; revert hk; decide)).trans (hA.1 k hk), fun j hj => (h2 j (Or.inl hj)).trans (hA.2 j hj)⟩
  unfold fn_M_layPay
  obtain ⟨x, h1, h2⟩ := zp_up (f := fn_M_layPay_l1 (nI p)) (I := fun s t => t.1 = nI s ∧ (∀ k, k ≠ 71 → k ≠ 84 → t.2.1 k = d.1 k) ∧ (∀ j, j ∉ zr_FS ∨ j = 8 → t.2.1 71 j = d.1 71 j) ∧ t.2.2 = d.2 ∧ ∀ q, q < s → ∀ e, e < E → t.2.1 84 (4 * q + e) = V q e) (P := fun d' => (∀ k, k ≠ 71 → k ≠ 84 → d'.1 k = d.1 k) ∧ (∀ j, j ∉ zr_FS ∨ j = 8 → d'.1 71 j = d.1 71 j) ∧ d'.2 = d.2 ∧ ∀ q, q < zt_N E T → ∀ e, e < E → d'.1 84 (4 * q + e) = V q e) (zt_N E T) (by unfold zw_F; omega) (fun s t hs h => by
      obtain ⟨t1, b⟩ := t
      obtain ⟨ht, g1, g2, g3, g4⟩ := h
      dsimp only at ht g1 g2 g3 g4
      subst ht
      have hTb := (agree b g1 g2).M hMc
      obtain ⟨y, y1, y2⟩ := zp_up (f := fn_M_layPay_l2 (nI p) (nI s)) (I := fun i t => t.1 = nI i ∧ (∀ k, k ≠ 71 → k ≠ 84 → t.2.1 k = d.1 k) ∧ (∀ j, j ∉ zr_FS ∨ j = 8 → t.2.1 71 j = d.1 71 j) ∧ t.2.2 = d.2 ∧ (∀ q, q < s → ∀ e, e < E → t.2.1 84 (4 * q + e) = V q e) ∧ ∀ e, e < i → t.2.1 84 (4 * s + e) = V s e) (P := fun d' => (∀ k, k ≠ 71 → k ≠ 84 → d'.1 k = d.1 k) ∧ (∀ j, j ∉ zr_FS ∨ j = 8 → d'.1 71 j = d.1 71 j) ∧ d'.2 = d.2 ∧ (∀ q, q < s → ∀ e, e < E → d'.1 84 (4 * q + e) = V q e) ∧ ∀ e, e < E → d'.1 84 (4 * s + e) = V s e) E (by unfold zw_F; omega) (fun i t hi h => by
          obtain ⟨t1, b⟩ := t
          obtain ⟨ht, g1, g2, g3, g4, g5⟩ := h
          dsimp only at ht g1 g2 g3 g4 g5
          subst ht
          have hTb := (agree b g1 g2).M hMc
          obtain ⟨b', z1, z2, z3, z4, z5, z6⟩ := hV b (agree b g1 g2) s hs i hi
          refine Or.inl ⟨(nI (i + 1), zw_wI b' 84 (4 * s + i) (V s i)), ?_, rfl, fun k k1 k2 => ?_, fun j hj => ?_, ?_, fun q hq e he => ?_, fun e he => ?_⟩
          · unfold fn_M_layPay_l2
            dsimp only
            rw [hTb.1, if_pos (nI_lt hi (by omega)), z1, zp_bs]
            dsimp only
            rw [nI_at', zp_uI (by omega) (by omega), zp_bs, nI_1]
          · dsimp only
            rw [zw_wI_ne k2, z2 k k1]; exact g1 k k1 k2
          · dsimp only
            rw [zw_wI_ne (by decide)]
            rcases hj with hj | rfl
            · rw [z3 j hj]; exact g2 j (Or.inl hj)
            · rw [z6]; exact g2 8 (Or.inr rfl)
          · exact z4.trans g3
          · dsimp only
            rw [zw_wI_at (by omega), z2 84 (by decide)]; exact g4 q hq e he
          · dsimp only
            by_cases hq : e = i
            · rw [hq, zw_wI_eq]
            · rw [zw_wI_at (by omega), z2 84 (by decide)]; exact g5 e (by omega)) (fun t h => by
          obtain ⟨t1, b⟩ := t
          obtain ⟨ht, g1, g2, g3, g4, g5⟩ := h
          dsimp only at ht g1 g2 g3 g4 g5
          subst ht
          refine ⟨b, ?_, g1, g2, g3, g4, g5⟩
          unfold fn_M_layPay_l2
          dsimp only
          rw [((agree b g1 g2).M hMc).1, if_neg (nI_nlt (Nat.le_refl _) (by omega))]) 0 (0, b) (Nat.zero_le _) ⟨rfl, g1, g2, g3, g4, fun e he => by omega⟩
      refine Or.inl ⟨(nI (s + 1), y), ?_, rfl, y2.1, y2.2.1, y2.2.2.1, fun q hq e he => ?_⟩
      · unfold fn_M_layPay_l1
        dsimp only
        rw [hTb.2.2.1, if_pos (nI_lt hs (by omega)), y1, zp_bs, nI_1]
      · by_cases hq2 : q = s
        · rw [hq2]; exact y2.2.2.2.2 e he
        · exact y2.2.2.2.1 q (by omega) e he) (fun t h => by
      obtain ⟨t1, b⟩ := t
      obtain ⟨ht, g1, g2, g3, g4⟩ := h
      dsimp only at ht g1 g2 g3 g4
      subst ht
      refine ⟨b, ?_, g1, g2, g3, g4⟩
      unfold fn_M_layPay_l1
      dsimp only
      rw [((agree b g1 g2).M hMc).2.2.1, if_neg (nI_nlt (Nat.le_refl _) (by omega))]) 0 (0, d) (Nat.zero_le _) ⟨rfl, fun _ _ _ => rfl, fun _ _ => rfl, rfl, fun q hq => by omega⟩
  exact ⟨x, by rw [h1, zp_bs], h2.2.2.2, h2.1, h2.2.1, h2.2.2.1⟩
/-- both valuesOf -/
theorem sp_two_pays {n E T p q : Nat} {c : zw_Ct} (hR : zr_R c) (h : zr_Rl n E T c) (hp : p < 4) (hq : q < 4) (hkp : ¬ c.1 46 p = 0) (hkq : ¬ c.1 46 q = 0) : ∃ c1 c2, fn_Pays_valuesOf c (nI p) = some (some (54 + p), c1) ∧ fn_Pays_valuesOf c1 (nI q) = some (some (54 + q), c2) ∧ zr_R c2 ∧ zr_Rl n E T c2 ∧ zv_N E T p (fun s e => c2.1 (54 + p) (4 * s + e)) c2 ∧ zv_N E T q (fun s e => c2.1 (54 + q) (4 * s + e)) c2 := by
  obtain ⟨V, c1, e1, e2, e3, e4, e5, e6, e7, e8, e9⟩ := sp_payX h hp hkp
  have k1 : c1.1 46 = c.1 46 := e3 46 (by decide) (by decide) (by decide) (by omega)
  obtain ⟨V', c2, f1, f2, f3, f4, f5, f6, f7, f8, f9⟩ := sp_payX e5 hq (by rw [k1]; exact hkq)
  have k2 : c2.1 46 = c.1 46 := by rw [f3 46 (by decide) (by decide) (by decide) (by omega), k1]
  have fp : c2.1 58 p = 1 := by
    by_cases e : p = q
    · rw [e]; exact f8
    · rw [f9 p e]; exact e8
  have r61 : c2.1 61 = c.1 61 := by rw [f3 61 (by decide) (by decide) (by decide) (by omega), e3 61 (by decide) (by decide) (by decide) (by omega)]
  have r71 : c2.1 71 = c.1 71 := by rw [f3 71 (by decide) (by decide) (by decide) (by omega), e3 71 (by decide) (by decide) (by decide) (by omega)]
  exact ⟨c1, c2, e1, f1, hR.fr (by rw [r61]) (by rw [r71]) (by rw [f4, e4]) (by rw [f4, e4]), f5, sp_freshN f5 hp (by rw [k2]; exact hkp) fp, sp_freshN f5 hq (by rw [k2]; exact hkq) f8⟩
/-- the frame of a call that asks two pays -/
theorem zo_pays {n : Nat} {c : zw_Ct} (hRel : zr_Rel n c) (a b : Int32) : (∃ (r r' : Option Nat) (c1 c2 : zw_Ct), fn_Pays_valuesOf c a = some (r, c1) ∧ fn_Pays_valuesOf c1 b = some (r', c2) ∧ (r = none ∨ r' = none) ∧ zr_Rel n c2 ∧ ((fn_M_isPay (zw_wI c2 71 9 0) a = some 0) ∨ (fn_M_isPay (zw_wI c2 71 9 0) a = some 1 ∧ fn_M_isPay (zw_wI c2 71 9 0) b = some 0))) ∨ (∃ (p q E T : Nat) (c1 c2 : zw_Ct), p < 4 ∧ q < 4 ∧ a = nI p ∧ b = nI q ∧ fn_Pays_valuesOf c a = some (some (54 + p), c1) ∧ fn_Pays_valuesOf c1 b = some (some (54 + q), c2) ∧ zr_R c2 ∧ zr_Rl n E T c2 ∧ zv_N E T p (fun s e => c2.1 (54 + p) (4 * s + e)) c2 ∧ zv_N E T q (fun s e => c2.1 (54 + q) (4 * s + e)) c2 ∧ ∀ d, zr_A c2 d → fn_M_isPay d a = some 1 ∧ fn_M_isPay d b = some 1) := by
  obtain ⟨hR, E, T, hRl⟩ := hRel
  have hRel : zr_Rel n c := ⟨hR, E, T, hRl⟩
  rcases sp_isPay hRl (zr_A.rf (c := c)) a with ⟨⟨p, hp, rfl, hk⟩, h1⟩ | ⟨h0, h1⟩
  · rcases sp_isPay hRl (zr_A.rf (c := c)) b with ⟨⟨q, hq, rfl, hkq⟩, g1⟩ | ⟨g0, g1⟩
    · obtain ⟨c1, c2, e1, e2, e3, e4, e5, e6⟩ := sp_two_pays hR hRl hp hq hk hkq
      have k2 : c2.1 46 = c.1 46 := by
        obtain ⟨V, c1', f1, f2, f3, -⟩ := sp_payX hRl hp hk
        rw [e1] at f1
        have := congrArg Prod.snd (Option.some.inj f1)
        dsimp only at this
        subst this
        obtain ⟨V', c2', i1, i2, i3, -⟩ := sp_payX (c := c1) (by
          obtain ⟨_, c1', f1', _, _, _, f5', _⟩ := sp_payX hRl hp hk
          rw [e1] at f1'
          have := congrArg Prod.snd (Option.some.inj f1')
          dsimp only at this
          subst this
          exact f5') hq (by rw [f3 46 (by decide) (by decide) (by decide) (by omega)]; exact hkq)
        rw [e2] at i1
        have := congrArg Prod.snd (Option.some.inj i1)
        dsimp only at this
        subst this
        rw [i3 46 (by decide) (by decide) (by decide) (by omega), f3 46 (by decide) (by decide) (by decide) (by omega)]
      refine Or.inr ⟨p, q, E, T, c1, c2, hp, hq, rfl, rfl, e1, e2, e3, e4, e5, e6, fun d hA => ⟨?_, ?_⟩⟩
      · rcases sp_isPay e4 hA (nI p) with ⟨_, h⟩ | ⟨h, _⟩
        · exact h
        · exact absurd (by rw [← k2]; exact h p hp rfl) hk
      · rcases sp_isPay e4 hA (nI q) with ⟨_, h⟩ | ⟨h, _⟩
        · exact h
        · exact absurd (by rw [← k2]; exact h q hq rfl) hkq
    · obtain ⟨V, c1, e1, e2, e3, e4, e5, e6, e7, e8, e9⟩ := sp_payX hRl hp hk
      have k1 : c1.1 46 = c.1 46 := e3 46 (by decide) (by decide) (by decide) (by omega)
      have f1 := sp_nopay (c := c1) (a := b) (fun x hx ex => by rw [k1]; exact g0 x hx ex)
      have hA9 : zr_A c1 (zw_wI c1 71 9 0) := zr_A.rf.wF (by decide)
      refine Or.inl ⟨_, _, c1, c1, e1, f1, Or.inr rfl, ⟨hR.fr (by rw [e3 61 (by decide) (by decide) (by decide) (by omega)]) (by rw [e3 71 (by decide) (by decide) (by decide) (by omega)]) (by rw [e4]) (by rw [e4]), E, T, e5⟩, Or.inr ⟨?_, ?_⟩⟩
      · rcases sp_isPay e5 hA9 (nI p) with ⟨_, h⟩ | ⟨h, _⟩
        · exact h
        · exact absurd (by rw [← k1]; exact h p hp rfl) hk
      · rcases sp_isPay e5 hA9 b with ⟨⟨x, hx, ex, hkx⟩, _⟩ | ⟨_, h⟩
        · exact absurd (by rw [k1]; exact g0 x hx ex) hkx
        · exact h
  · have f1 := sp_nopay (c := c) (a := a) h0
    have hA9 : zr_A c (zw_wI c 71 9 0) := zr_A.rf.wF (by decide)
    rcases sp_isPay hRl (zr_A.rf (c := c)) b with ⟨⟨q, hq, rfl, hkq⟩, g1⟩ | ⟨g0, g1⟩
    · obtain ⟨V, c1, e1, e2, e3, e4, e5, e6, e7, e8, e9⟩ := sp_payX hRl hq hkq
      have k1 : c1.1 46 = c.1 46 := e3 46 (by decide) (by decide) (by decide) (by omega)
      have hA9 : zr_A c1 (zw_wI c1 71 9 0) := zr_A.rf.wF (by decide)
      refine Or.inl ⟨_, _, c, c1, f1, e1, Or.inl rfl, ⟨hR.fr (by rw [e3 61 (by decide) (by decide) (by decide) (by omega)]) (by rw [e3 71 (by decide) (by decide) (by decide) (by omega)]) (by rw [e4]) (by rw [e4]), E, T, e5⟩, Or.inl ?_⟩
      rcases sp_isPay e5 hA9 a with ⟨⟨x, hx, ex, hkx⟩, _⟩ | ⟨_, h⟩
      · exact absurd (by rw [k1]; exact h0 x hx ex) hkx
      · exact h
    · have f2 := sp_nopay (c := c) (a := b) g0
      refine Or.inl ⟨_, _, c, c, f1, f2, Or.inl rfl, hRel, Or.inl ?_⟩
      rcases sp_isPay hRl hA9 a with ⟨⟨x, hx, ex, hkx⟩, _⟩ | ⟨_, h⟩
      · exact absurd (h0 x hx ex) hkx
      · exact h
/-- the Model lays both -/
theorem sp_layBoth {E T p q : Nat} {V W : Nat → Nat → Int32} {c d : zw_Ct} (hET : zt_ET E T) (hMc : zr_M E T (zt_N E T) (zt_p E T) c) (hV : zv_N E T p V c) (hW : zv_N E T q W c) (hA : zr_B c d) : ∃ d', fn_M_layBoth d (nI p) (nI q) = some d' ∧ zr_V 84 E (zt_N E T) V d' ∧ zr_V 85 E (zt_N E T) W d' ∧ (∀ k, k ≠ 71 → k ≠ 84 → k ≠ 85 → d'.1 k = d.1 k) ∧ (∀ j, j ∉ zr_FS ∨ j = 8 → d'.1 71 j = d.1 71 j) ∧ d'.2 = d.2 := by
  have hN : zt_N E T ≤ 455 := (zt_ok hET).2.1
  have hE4 := hET.2.1
  obtain ⟨d1, a1, a2, a3, a4, a5⟩ := sp_layPayN hET hMc hW hA
  obtain ⟨d2, b1, b2, b3, b4⟩ := zp_detC (f := fn_M_layBoth_l1) (fun i c => (nI i, c)) (fun i x => (∀ k, k ≠ 85 → x.1 k = d1.1 k) ∧ x.2 = d1.2 ∧ ∀ j, j < i → x.1 85 j = d1.1 84 j) (fun c => c) 1820 0 (Nat.zero_le _) (by unfold zw_F; omega) (fun i x _ hi ⟨q1, q2, q3⟩ => by
    refine ⟨zw_wI x 85 i (d1.1 84 i), ?_, fun k hk => by rw [zw_wI_ne hk]; exact q1 k hk, q2, fun j hj => ?_⟩
    · unfold fn_M_layBoth_l1
      dsimp only
      rw [if_pos (show nI i < (1820 : Int32) from nI_lt (b := 1820) hi (by omega)), zp_aI (by omega) (by omega), zp_bs, q1 84 (by decide), zp_uI (by omega) (by omega), zp_bs, nI_1]
    · by_cases e : j = i
      · rw [e, zw_wI_eq]
      · rw [zw_wI_at e]; exact q3 j (by omega)) (fun x _ => by
    unfold fn_M_layBoth_l1
    dsimp only
    rw [if_neg (show ¬ nI 1820 < (1820 : Int32) by decide)]) d1 ⟨fun _ _ => rfl, rfl, fun j hj => absurd hj (Nat.not_lt_zero j)⟩
  have b1' : zw_whl fn_M_layBoth_l1 zw_F (0, d1) = some d2 := b1
  have hA2 : zr_B c d2 := ⟨fun k hk => by rw [b2 k (fun e => by rw [e] at hk; revert hk; decide), a3 k (fun e => by rw [e] at hk; revert hk; decide) (fun e => by rw [e] at hk; revert hk; decide)]; exact hA.1 k hk, fun j hj => by rw [b2 71 (by decide), a4 j (Or.inl hj)]; exact hA.2 j hj⟩
  obtain ⟨d3, e1, e2, e3, e4, e5⟩ := sp_layPayN hET hMc hV hA2
  refine ⟨d3, ?_, e2, fun s hs e he => ?_, fun k k1 k2 k3 => by rw [e3 k k1 k2, b2 k k3, a3 k k1 k2], fun j hj => by rw [e4 j hj, b2 71 (by decide), a4 j hj], by rw [e5, b3, a5]⟩
  · unfold fn_M_layBoth
    rw [a1, zp_bs, b1', zp_bs, e1, zp_bs]
  · rw [e3 85 (by decide) (by decide), b4 _ (by omega)]
    exact a2 s hs e he
theorem zr_A.B {c d : zw_Ct} (h : zr_A c d) : zr_B c d := ⟨fun k hk => h.1 k (fun q => by revert hk; revert q; simp only [zr_SC, zr_MC, List.mem_cons, List.not_mem_nil, or_false]; omega) (fun e => by rw [e] at hk; revert hk; decide), h.2⟩
