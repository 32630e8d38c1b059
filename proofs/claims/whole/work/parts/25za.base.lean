/-! loops whose states are known; a pay's values once more; the end of a call that tells no row -/
theorem zp_det {τ ρ : Type} {f : τ → Option (ρ ⊕ τ)} {x : ρ} (st : Nat → τ) (N i0 : Nat) (h0 : i0 ≤ N) (hN : N < zw_F) (step : ∀ i, i0 ≤ i → i < N → f (st i) = some (.inr (st (i + 1)))) (stop : f (st N) = some (.inl x)) : zw_whl f zw_F (st i0) = some x := by
  obtain ⟨y, h1, h2⟩ := zp_up (f := f) (I := fun i t => i0 ≤ i ∧ t = st i) (P := fun y => y = x) N hN (fun i t hi h => Or.inl ⟨st (i + 1), by rw [h.2]; exact step i h.1 hi, by omega, rfl⟩) (fun t h => ⟨x, by rw [h.2]; exact stop, rfl⟩) i0 (st i0) h0 ⟨Nat.le_refl _, rfl⟩
  rw [h1, h2]
theorem zp_detC {τ ρ : Type} {f : τ → Option (ρ ⊕ τ)} (st : Nat → zw_Ct → τ) (Q : Nat → zw_Ct → Prop) (R : zw_Ct → ρ) (N i0 : Nat) (h0 : i0 ≤ N) (hN : N < zw_F) (step : ∀ i c, i0 ≤ i → i < N → Q i c → ∃ c', f (st i c) = some (.inr (st (i + 1) c')) ∧ Q (i + 1) c') (stop : ∀ c, Q N c → f (st N c) = some (.inl (R c))) (c : zw_Ct) (hc : Q i0 c) : ∃ c', zw_whl f zw_F (st i0 c) = some (R c') ∧ Q N c' := by
  obtain ⟨y, h1, c', h2, h3⟩ := zp_up (f := f) (I := fun i t => i0 ≤ i ∧ ∃ c', t = st i c' ∧ Q i c') (P := fun y => ∃ c', y = R c' ∧ Q N c') N hN (fun i t hi h => by
      obtain ⟨q0, c1, rfl, q1⟩ := h
      obtain ⟨c2, q2, q3⟩ := step i c1 q0 hi q1
      exact Or.inl ⟨st (i + 1) c2, q2, by omega, c2, rfl, q3⟩) (fun t h => by
      obtain ⟨q0, c1, rfl, q1⟩ := h
      exact ⟨R c1, stop c1 q1, c1, rfl, q1⟩) i0 (st i0 c) h0 ⟨Nat.le_refl _, c, rfl, hc⟩
  exact ⟨c', by rw [h1, h2], h3⟩
/-- the first one with b, or none -/
theorem zj_fst (b : Nat → Bool) : ∀ N : Nat, (∀ j, j < N → b j = false) ∨ ∃ k, k < N ∧ b k = true ∧ ∀ j, j < k → b j = false
  | 0 => Or.inl (fun j hj => absurd hj (Nat.not_lt_zero j))
  | N + 1 => by
    rcases zj_fst b N with h | ⟨k, h1, h2, h3⟩
    · cases hb : b N with
      | true => exact Or.inr ⟨N, Nat.lt_succ_self N, hb, h⟩
      | false =>
        refine Or.inl (fun j hj => ?_)
        by_cases e : j = N
        · rw [e]; exact hb
        · exact h j (by omega)
    · exact Or.inr ⟨k, by omega, h2, h3⟩
theorem sp_payX {n E T p : Nat} {c : zw_Ct} (h : zr_Rl n E T c) (hp : p < 4) (hk : ¬ c.1 46 p = 0) : ∃ (V : Nat → Nat → Int32) (c1 : zw_Ct), fn_Pays_valuesOf c (nI p) = some (some (54 + p), c1) ∧ zr_V (54 + p) E (zt_N E T) V c1 ∧ (∀ k, k ≠ 58 → k ≠ 59 → k ≠ 60 → k ≠ 54 + p → c1.1 k = c.1 k) ∧ c1.2 = c.2 ∧ zr_Rl n E T c1 ∧ (c1.1 46 p = c.1 46 p) ∧ zv_M E T p V c1 ∧ c1.1 58 p = 1 ∧ (∀ j, j ≠ p → c1.1 58 j = c.1 58 j) := by
  have hTab := h.2.2.1
  have hET := hTab.1
  have hT := zt_T hET
  have hN : zt_N E T ≤ 455 := (zt_ok hET).2.1
  have hE4 := hET.2.1
  have hH := h.2.2.2.2.1
  have cell54 : zw_len SH 0 (54 + p) = some 1820 := by rcases (show p = 0 ∨ p = 1 ∨ p = 2 ∨ p = 3 by omega) with rfl | rfl | rfl | rfl <;> rfl
  have cell48 : zw_len SH 0 (48 + p) = some 60 := by rcases (show p = 0 ∨ p = 1 ∨ p = 2 ∨ p = 3 by omega) with rfl | rfl | rfl | rfl <;> rfl
  have hA82 : ∀ c1 d : zw_Ct, zr_A c1 d → d.1 (77 + p) = c1.1 (77 + p) := fun c1 d hA => by rcases (show p = 0 ∨ p = 1 ∨ p = 2 ∨ p = 3 by omega) with rfl | rfl | rfl | rfl <;> exact hA.1 _ (by decide) (by decide)
  have hv0 : ∀ r : Option (Option Nat × zw_Ct), ((zw_aI 4 c 46 (nI p)).bind fun x6 => if x6 = 0 then (some (none, c)) else ((zw_aI 4 c 58 (nI p)).bind fun x9 => (if (¬ (¬ x9 = 0)) then ((zw_gr 48 4 1 (nI p)).bind fun r13 => (zw_aI 4 c 52 (nI p)).bind fun x14 => (zw_gr 54 4 1 (nI p)).bind fun r15 => (fn_Pays_reckonAll c r13 x14 r15).bind fun c16 => (zw_uI 4 c16 58 (nI p) 1).bind fun c17 => some c17) else (some c)).bind fun c10 => (zw_gr 54 4 1 (nI p)).bind fun r18 => some ((some r18), c10))) = r → fn_Pays_valuesOf c (nI p) = r := fun r hr => by
    unfold fn_Pays_valuesOf
    rw [if_neg (nI_pos (by omega)), if_neg (by rw [show (4 : Int32) = nI 4 by decide]; exact nI_ge hp (by omega))]
    exact hr
  rcases h.2.2.2.1 p hp with ⟨a1, -, -⟩ | ⟨a1, a2, a3, a4, a5⟩ | ⟨a1, a2, m, X, b1, b2, b3, b4, b5, b6, b7, b8⟩
  · exact absurd a1 hk
  · refine ⟨fun s e => c.1 83 (4 * (455 * p + s) + e), c, hv0 _ ?_, fun s hs e he => a5 s hs e he, fun _ _ _ _ _ => rfl, rfl, h, rfl, fun d hA s hs e he => ⟨d, ?_, fun _ _ => rfl, fun _ _ => rfl, rfl, rfl, rfl⟩, a4, fun _ _ => rfl⟩
    · rw [zp_aI hp (by omega), zp_bs, if_neg hk, zp_aI hp (by omega), zp_bs, a4, if_neg (by decide), zp_bs, zp_gr hp (by omega), zp_bs]
    · unfold fn_M_payFor
      rw [zp_aI hp (by omega), zp_bs, hA.1 82 (by decide) (by decide), a2, if_pos (by decide), show (455 : Int32) = nI 455 by decide, nI_mul, nI_add, nI_at', zp_aI (by omega) (by omega), zp_bs, hA.1 83 (by decide) (by decide)]
  · have hz := zt_code_h b5
    have told : ∀ c1 : zw_Ct, (∀ k, k ≠ 58 → k ≠ 59 → k ≠ 60 → k ≠ 54 + p → c1.1 k = c.1 k) → zv_M E T p (fun s e => ze_val (zt_th E T (zt_p E T) (c.1 4) s e) X) c1 := by
      intro c1 hg d hA s hs e he
      have hTab1 : zr_Tab E T c1 := hTab.fr (hg 1 (by decide) (by decide) (by decide) (by omega)) (hg 2 (by decide) (by decide) (by decide) (by omega)) (hg 72 (by decide) (by decide) (by decide) (by omega)) (by rw [hg 71 (by decide) (by decide) (by decide) (by omega)]) (by rw [hg 71 (by decide) (by decide) (by decide) (by omega)]) (by rw [hg 71 (by decide) (by decide) (by decide) (by omega)])
      obtain ⟨d', z1, z2⟩ := sp_told (d := d) (X := X) hET (hA.tab hTab1).2.2 hp hs he (by rw [hA.1 82 (by decide) (by decide), hg 82 (by decide) (by decide) (by decide) (by omega)]; exact a2) (by rw [hA.1 81 (by decide) (by decide), hg 81 (by decide) (by decide) (by decide) (by omega)]; exact b4) b2 (by rw [hA82 c1 d hA, hg (77 + p) (by omega) (by omega) (by omega) (by omega)]; exact b5)
      refine ⟨d', ?_, z2⟩
      rw [z1]
      have et : zt_th E T (zt_p E T) (d.1 73) s e = zt_th E T (zt_p E T) (c.1 4) s e := zt_th_congr hET hs he (fun i hi => by rw [hA.1 73 (by decide) (by decide), hg 73 (by decide) (by decide) (by decide) (by omega)]; exact (hH.1 i hi).symm)
      rw [et]
    by_cases hfr : c.1 58 p = 1
    · have hval : ∀ s, s < zt_N E T → ∀ e, e < E → c.1 (54 + p) (4 * s + e) = ze_val (zt_th E T (zt_p E T) (c.1 4) s e) X := by
        rcases b8 with q | q
        · rw [hfr] at q; exact absurd q (by decide)
        · exact q.2
      refine ⟨_, c, hv0 _ ?_, hval, fun _ _ _ _ _ => rfl, rfl, h, rfl, told c (fun _ _ _ _ _ => rfl), hfr, fun _ _ => rfl⟩
      rw [zp_aI hp (by omega), zp_bs, if_neg hk, zp_aI hp (by omega), zp_bs, hfr, if_neg (by decide), zp_bs, zp_gr hp (by omega), zp_bs]
    · have hfr0 : c.1 58 p = 0 := by
        rcases b8 with q | q
        · exact q
        · exact absurd q.1 hfr
      obtain ⟨d, e1, e2, e3, e4⟩ := sp_reckonAll (cd := 48 + p) (into := 54 + p) hT hTab.2.1 (by omega) cell48 (by omega) cell54 b3 b7 hz
      have hg : ∀ k, k ≠ 58 → k ≠ 59 → k ≠ 60 → k ≠ 54 + p → (zw_wI d 58 p 1).1 k = c.1 k := fun k k1 k2 k3 k4 => (zw_wI_ne k1).trans (e2 k k2 k3 k4)
      refine ⟨_, zw_wI d 58 p 1, hv0 _ ?_, fun s hs e he => ?_, hg, ?_, ?_, ?_, told _ hg, zw_wI_eq, fun j hj => ?_⟩
      · rw [zp_aI hp (by omega), zp_bs, if_neg hk, zp_aI hp (by omega), zp_bs, hfr0, if_pos (by decide), zp_gr hp (by omega), zp_bs, zp_aI hp (by omega), zp_bs, zp_gr hp (by omega), zp_bs, b6, e1, zp_bs, zp_uI hp (by omega), zp_bs, zp_bs, zp_bs]
      · rw [zw_wI_ne (by omega)]; exact e4 s hs e he
      · exact e3
      · obtain ⟨h1, h2, h3, h4, h5, h6⟩ := h
        have G : ∀ k : Nat, k ≠ 58 ∧ k ≠ 59 ∧ k ≠ 60 ∧ k ≠ 54 + p → (zw_wI d 58 p 1).1 k = c.1 k := fun k q => hg k q.1 q.2.1 q.2.2.1 q.2.2.2
        have g71 : (zw_wI d 58 p 1).1 71 = c.1 71 := G 71 (by omega)
        refine ⟨h1.fr (by rw [g71]) (G 98 (by omega)) (G 99 (by omega)), h2.fr (G 40 (by omega)) (by rw [g71]) (G 41 (by omega)) (G 74 (by omega)), h3.fr (G 1 (by omega)) (G 2 (by omega)) (G 72 (by omega)) (by rw [g71]) (by rw [g71]) (by rw [g71]), fun q hq => ?_, h5.fr (G 3 (by omega)) (G 4 (by omega)) (G 5 (by omega)) (G 6 (by omega)) (G 7 (by omega)) (G 8 (by omega)) (G 9 (by omega)) (G 10 (by omega)) (G 73 (by omega)) (G 89 (by omega)) (G 92 (by omega)) (G 93 (by omega)) (G 94 (by omega)) (G 95 (by omega)) (G 96 (by omega)) (by rw [g71]) (by rw [g71]) (by rw [g71]), fun i hi => (h6 i hi).fr (by rw [G 39 (by omega)]) (by rw [G 98 (by omega)]) (by rw [G 99 (by omega)]) (by rw [g71]) (G 97 (by omega)) (fun k k1 k2 => G k (by omega))⟩
        by_cases hqp : q = p
        · subst hqp
          refine Or.inr (Or.inr ⟨by rw [G 46 (by omega)]; exact a1, by rw [G 82 (by omega)]; exact a2, m, X, b1, b2, b3, by rw [G 81 (by omega)]; exact b4, by rw [G (77 + q) (by omega)]; exact b5, by rw [G 52 (by omega)]; exact b6, by rw [G (48 + q) (by omega)]; exact b7, Or.inr ⟨zw_wI_eq, fun s hs e he => ?_⟩⟩)
          rw [G 4 (by omega), zw_wI_ne (by omega)]
          exact e4 s hs e he
        · exact (h4 q hq).fr (by rw [G 46 (by omega)]) (by rw [G 82 (by omega)]) (by rw [G 81 (by omega)]) (by rw [zw_wI_at hqp, e2 58 (by decide) (by decide) (by omega)]) (G (54 + q) (by omega)) (G 83 (by omega)) (G (77 + q) (by omega)) (by rw [G 52 (by omega)]) (G (48 + q) (by omega)) (G 4 (by omega))
      · rw [hg 46 (by decide) (by decide) (by decide) (by omega)]
      · rw [zw_wI_at hj, e2 58 (by decide) (by decide) (by omega)]
theorem sp_fresh {n E T p : Nat} {c : zw_Ct} (h : zr_Rl n E T c) (hp : p < 4) (hk : ¬ c.1 46 p = 0) (hf : c.1 58 p = 1) : fn_Pays_valuesOf c (nI p) = some (some (54 + p), c) ∧ zv_M E T p (fun s e => c.1 (54 + p) (4 * s + e)) c := by
  obtain ⟨V, c1, e1, e2, -, -, -, -, e7, -⟩ := sp_payX h hp hk
  have ev : fn_Pays_valuesOf c (nI p) = some (some (54 + p), c) := by
    unfold fn_Pays_valuesOf
    rw [if_neg (nI_pos (by omega)), if_neg (by rw [show (4 : Int32) = nI 4 by decide]; exact nI_ge hp (by omega)), zp_aI hp (by omega), zp_bs, if_neg hk, zp_aI hp (by omega), zp_bs, hf, if_neg (by decide), zp_bs, zp_gr hp (by omega), zp_bs]
  rw [ev] at e1
  have e3 : c = c1 := congrArg Prod.snd (Option.some.inj e1)
  subst e3
  refine ⟨ev, fun d hA s hs e he => ?_⟩
  obtain ⟨d', q⟩ := e7 d hA s hs e he
  exact ⟨d', by dsimp only; rw [e2 s hs e he]; exact q⟩
theorem sp_layPayX {E T p : Nat} {V : Nat → Nat → Int32} {c d : zw_Ct} (hTab : zr_Tab E T c) (hV : zv_M E T p V c) (hA : zr_A c d) : ∃ d', fn_M_layPay d (nI p) = some d' ∧ zr_V 84 E (zt_N E T) V d' ∧ (∀ k, k ≠ 71 → k ≠ 84 → d'.1 k = d.1 k) ∧ (∀ j, j ∉ zr_FS ∨ j = 8 → d'.1 71 j = d.1 71 j) ∧ d'.2 = d.2 := by
  have hET := hTab.1
  have hN : zt_N E T ≤ 455 := (zt_ok hET).2.1
  have hE4 := hET.2.1
  -- agreement with d
  have agree : ∀ b : zw_Ct, (∀ k, k ≠ 71 → k ≠ 84 → b.1 k = d.1 k) → (∀ j, j ∉ zr_FS ∨ j = 8 → b.1 71 j = d.1 71 j) → zr_A c b := fun b h1 h2 => ⟨fun k k1 k2 => (h1 k k2 (fun q => k1 (by rw [q]; decide))).trans (hA.1 k k1 k2), fun j hj => (h2 j (Or.inl hj)).trans (hA.2 j hj)⟩
  unfold fn_M_layPay
  obtain ⟨x, h1, h2⟩ := zp_up (f := fn_M_layPay_l1 (nI p)) (I := fun s t => t.1 = nI s ∧ (∀ k, k ≠ 71 → k ≠ 84 → t.2.1 k = d.1 k) ∧ (∀ j, j ∉ zr_FS ∨ j = 8 → t.2.1 71 j = d.1 71 j) ∧ t.2.2 = d.2 ∧ ∀ q, q < s → ∀ e, e < E → t.2.1 84 (4 * q + e) = V q e) (P := fun d' => (∀ k, k ≠ 71 → k ≠ 84 → d'.1 k = d.1 k) ∧ (∀ j, j ∉ zr_FS ∨ j = 8 → d'.1 71 j = d.1 71 j) ∧ d'.2 = d.2 ∧ ∀ q, q < zt_N E T → ∀ e, e < E → d'.1 84 (4 * q + e) = V q e) (zt_N E T) (by unfold zw_F; omega) (fun s t hs h => by
      obtain ⟨t1, b⟩ := t
      obtain ⟨ht, g1, g2, g3, g4⟩ := h
      dsimp only at ht g1 g2 g3 g4
      subst ht
      have hTb : zr_Tab E T b := (agree b g1 g2).tab hTab
      obtain ⟨y, y1, y2⟩ := zp_up (f := fn_M_layPay_l2 (nI p) (nI s)) (I := fun i t => t.1 = nI i ∧ (∀ k, k ≠ 71 → k ≠ 84 → t.2.1 k = d.1 k) ∧ (∀ j, j ∉ zr_FS ∨ j = 8 → t.2.1 71 j = d.1 71 j) ∧ t.2.2 = d.2 ∧ (∀ q, q < s → ∀ e, e < E → t.2.1 84 (4 * q + e) = V q e) ∧ ∀ e, e < i → t.2.1 84 (4 * s + e) = V s e) (P := fun d' => (∀ k, k ≠ 71 → k ≠ 84 → d'.1 k = d.1 k) ∧ (∀ j, j ∉ zr_FS ∨ j = 8 → d'.1 71 j = d.1 71 j) ∧ d'.2 = d.2 ∧ (∀ q, q < s → ∀ e, e < E → d'.1 84 (4 * q + e) = V q e) ∧ ∀ e, e < E → d'.1 84 (4 * s + e) = V s e) E (by unfold zw_F; omega) (fun i t hi h => by
          obtain ⟨t1, b⟩ := t
          obtain ⟨ht, g1, g2, g3, g4, g5⟩ := h
          dsimp only at ht g1 g2 g3 g4 g5
          subst ht
          have hTb : zr_Tab E T b := (agree b g1 g2).tab hTab
          obtain ⟨b', z1, z2, z3, z4, z5, z6⟩ := hV b (agree b g1 g2) s hs i hi
          refine Or.inl ⟨(nI (i + 1), zw_wI b' 84 (4 * s + i) (V s i)), ?_, rfl, fun k k1 k2 => ?_, fun j hj => ?_, ?_, fun q hq e he => ?_, fun e he => ?_⟩
          · unfold fn_M_layPay_l2
            dsimp only
            rw [hTb.2.2.1, if_pos (nI_lt hi (by omega)), z1, zp_bs]
            dsimp only
            rw [nI_at', zp_uI (by omega) (by omega), zp_bs, nI_1]
          · dsimp only
            rw [zw_wI_ne k2, z2 k k1]; exact g1 k k1 k2
          · dsimp only
            rw [zw_wI_ne (by decide)]
            rcases hj with hj | rfl
            · rw [z3 j hj]; exact g2 j (Or.inl hj)
            · rw [z6]; exact g2 8 (Or.inr rfl)
          · exact z4.trans g3
          · dsimp only
            rw [zw_wI_at (by omega), z2 84 (by decide)]; exact g4 q hq e he
          · dsimp only
            by_cases hq : e = i
            · rw [hq, zw_wI_eq]
            · rw [zw_wI_at (by omega), z2 84 (by decide)]; exact g5 e (by omega)) (fun t h => by
          obtain ⟨t1, b⟩ := t
          obtain ⟨ht, g1, g2, g3, g4, g5⟩ := h
          dsimp only at ht g1 g2 g3 g4 g5
          subst ht
          refine ⟨b, ?_, g1, g2, g3, g4, g5⟩
          unfold fn_M_layPay_l2
          dsimp only
          rw [((agree b g1 g2).tab hTab).2.2.1, if_neg (nI_nlt (Nat.le_refl _) (by omega))]) 0 (0, b) (Nat.zero_le _) ⟨rfl, g1, g2, g3, g4, fun e he => by omega⟩
      refine Or.inl ⟨(nI (s + 1), y), ?_, rfl, y2.1, y2.2.1, y2.2.2.1, fun q hq e he => ?_⟩
      · unfold fn_M_layPay_l1
        dsimp only
        rw [hTb.2.2.2.2.1, if_pos (nI_lt hs (by omega)), y1, zp_bs, nI_1]
      · by_cases hq2 : q = s
        · rw [hq2]; exact y2.2.2.2.2 e he
        · exact y2.2.2.2.1 q (by omega) e he) (fun t h => by
      obtain ⟨t1, b⟩ := t
      obtain ⟨ht, g1, g2, g3, g4⟩ := h
      dsimp only at ht g1 g2 g3 g4
      subst ht
      refine ⟨b, ?_, g1, g2, g3, g4⟩
      unfold fn_M_layPay_l1
      dsimp only
      rw [((agree b g1 g2).tab hTab).2.2.2.2.1, if_neg (nI_nlt (Nat.le_refl _) (by omega))]) 0 (0, d) (Nat.zero_le _) ⟨rfl, fun _ _ _ => rfl, fun _ _ => rfl, rfl, fun q hq => by omega⟩
  exact ⟨x, by rw [h1, zp_bs], h2.2.2.2, h2.1, h2.2.1, h2.2.2.1⟩
theorem zo_laidX {E T p : Nat} {V : Nat → Nat → Int32} {c1 c3 : zw_Ct} (hTab : zr_Tab E T c1) (hM : zv_M E T p V c1) (hA3 : zr_A c1 c3) : ∃ d1, fn_M_layPay (zw_wI c3 71 9 0) (nI p) = some d1 ∧ zr_V 84 E (zt_N E T) V d1 ∧ zr_A c1 d1 ∧ (∀ k, k ≠ 71 → k ≠ 84 → d1.1 k = c3.1 k) ∧ d1.2 = c3.2 ∧ d1.1 71 8 = c3.1 71 8 := by
  have hA39 : zr_A c1 (zw_wI c3 71 9 0) := hA3.wF (by decide)
  obtain ⟨d1, d2, d3, d4, d5, d6⟩ := sp_layPayX hTab hM hA39
  exact ⟨d1, d2, d3, ⟨fun k k1 k2 => (d4 k k2 (fun e => k1 (by rw [e]; decide))).trans (hA39.1 k k1 k2), fun j hj => (d5 j (Or.inl hj)).trans (hA39.2 j hj)⟩, fun k k1 k2 => (d4 k k1 k2).trans (zw_wI_ne k1), d6, (d5 8 (Or.inr rfl)).trans (zw_wI_at (by decide))⟩
theorem zr_fin0 {n E T : Nat} {c1 d : zw_Ct} (hR : zr_R c1) (hRl : zr_Rl n E T c1) (hA : zr_A c1 d) (h61 : d.1 61 = c1.1 61) (h8 : d.1 71 8 = c1.1 71 8) (h62 : d.2 62 = c1.2 62) (h75 : d.2 75 = c1.2 75) : zr_Rel (n + 1) d := ⟨hR.fr (by rw [h61]) h8 h62 h75, E, T, (hRl.fr hA).up (Nat.le_succ n)⟩
theorem lI_toInt32 {z : Int} (h1 : -2147483648 ≤ z) (h2 : z ≤ 2147483647) : (lI z).toInt32.toInt = z := by
  rw [Int64.toInt_toInt32, lI_toInt ⟨by omega, by omega⟩]
  exact Int.bmod_eq_of_le (by omega) (by omega)
theorem lI_i32 {z : Int} (h1 : -2147483648 ≤ z) (h2 : z ≤ 2147483647) : (lI z).toInt32.toInt64 = lI z := by rw [iL, lI_toInt32 h1 h2]
theorem lI_n32 {n : Nat} (h : n < 2147483648) : (lI n).toInt32 = nI n := Int32.toInt_inj.mp (by rw [lI_toInt32 (by omega) (by omega), nI_toInt (by omega)])
