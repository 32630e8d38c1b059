/-! make, back, take: two events -/
theorem zt_chk4 : ∀ T, T < 13 → 1 ≤ T → zt_N 2 T = T + 1 ∧ ∀ k, k < T + 1 → zt_p 2 T k 0 = k ∧ zt_p 2 T k 1 = T - k := by decide +kernel
theorem zt_two {E T : Nat} (h : zt_ET E T) (hE : E = 2) : zt_N E T = T + 1 ∧ ∀ k, k < T + 1 → zt_p E T k 0 = k ∧ zt_p E T k 1 = T - k := by
  subst hE
  exact zt_chk4 T (by have := h.2.2.2; omega) h.2.2.1
def zj_sl (tn : Nat → Int32) (T s : Nat) : Int32 := tn (min s (T - 1) + 1) - tn (min s (T - 1))
theorem sp_slope {T s : Nat} {c : zw_Ct} (hT : c.1 1 1 = nI T) (hT1 : 1 ≤ T) (hT12 : T ≤ 12) (hs : s < 13) : fn_Pays_slope c (nI s) = some (zj_sl (c.1 4) T s) := by
  have e : nI T - 1 = nI (T - 1) := nI_sub (b := 1) hT1
  unfold fn_Pays_slope zj_sl
  rw [hT, e, zp_bs]
  have em : (if nI (T - 1) < nI s then nI (T - 1) else nI s) = nI (min s (T - 1)) := by
    by_cases h : T - 1 < s
    · rw [if_pos (nI_lt h (by omega)), Nat.min_eq_right (by omega)]
    · rw [if_neg (nI_nlt (by omega) (by omega)), Nat.min_eq_left (by omega)]
  rw [em, nI_1, zp_aI (by omega) (by omega), zp_bs, zp_aI (by omega) (by omega), zp_bs]
def zj_m0 (tn : Nat → Int32) (T s : Nat) : Int32 := tn s - nI s * zj_sl tn T s
def zj_m1 (tn : Nat → Int32) (T s : Nat) : Int32 := tn s + (nI T - nI s) * zj_sl tn T s
def zj_nb (tn : Nat → Int32) (T s : Nat) : Bool := decide (1 ≤ s ∧ s < T ∧ zj_sl tn T s < zj_sl tn T (s - 1))
theorem zj_sl_congr {tn tn' : Nat → Int32} {T s : Nat} (hT : T ≤ 12) (h : ∀ i, i < 13 → tn i = tn' i) (hT1 : 1 ≤ T) : zj_sl tn T s = zj_sl tn' T s := by
  unfold zj_sl
  rw [h _ (by omega), h _ (by omega)]
theorem zo_make : zq_make zr_Rel := by
  intro n c hn hRel i
  have hRel0 := hRel
  obtain ⟨hR, E, T, hRl⟩ := hRel
  have hTab := hRl.2.2.1
  have hET := hTab.1
  have hT := zt_T hET
  have hN : zt_N E T ≤ 455 := (zt_ok hET).2.1
  have hT1 := hET.2.2.1
  have hT12 := hET.2.2.2
  have hE4 := hET.2.1
  have hH := hRl.2.2.2.2.1
  have w : fn_M_in i.toInt64 0 3 = fn_P_within i 0 3 := in_within i 0 3
  unfold fn_P_make fn_M_make
  rw [w, hTab.2.1.1]
  by_cases hc : ((¬ (¬ (fn_P_within i 0 3) = 0)) ∨ (¬ nI E = 2))
  · exact ⟨-1, c, zw_wI c 71 9 0, by rw [if_pos hc], by rw [zp_bs, zw_wI_at (by decide), hTab.2.2.1, if_pos hc.symm], zr_thr hRel0⟩
  · have hE2 : E = 2 := by
      by_cases h : nI E = 2
      · exact (nI_eq (b := 2) (by omega) (by omega)).mp h
      · exact absurd (Or.inr h) hc
    obtain ⟨hN1, hpt⟩ := zt_two hET hE2
    obtain ⟨ij, hij, rfl⟩ := within_n (a := i) (m := 3) rfl (by omega) (within_1 (a := i) (lo := 0) (hi := 3) (fun q => hc (Or.inl (fun z => z q))))
    rw [if_neg hc]
    obtain ⟨tn, htn⟩ : ∃ tn, tn = c.1 4 := ⟨_, rfl⟩
    -- the class's values
    obtain ⟨c2, a1, a2, a3, a4, a5⟩ := zp_detC (f := fn_Pays_makeOfTurn_l1 (nI ij)) (fun j c => (nI j, c)) (fun j x => (∀ k, k ≠ 54 + ij → x.1 k = c.1 k) ∧ x.2 = c.2 ∧ (∀ k, k < j → x.1 (54 + ij) (4 * k) = zj_m0 tn T (T - k)) ∧ ∀ k, k < j → x.1 (54 + ij) (4 * k + 1) = zj_m1 tn T (T - k)) (fun c => c) (zt_N E T) 0 (Nat.zero_le _) (by unfold zw_F; omega) (fun j x _ hj ⟨q1, q2, q3, q4⟩ => by
      have hTx : zr_Tab E T x := hTab.fr (q1 1 (by omega)) (q1 2 (by omega)) (q1 72 (by omega)) (by rw [q1 71 (by omega)]) (by rw [q1 71 (by omega)]) (by rw [q1 71 (by omega)])
      have ep : zt_p E T j 1 = T - j := (hpt j (by omega)).2
      have hpo : fn_Sayings_partOf x (nI j) 1 = some (nI (T - j)) := by rw [← ep]; exact sp_partOf (e := 1) hT hTx.2.1 hj (by omega)
      have x4 : x.1 4 = tn := by rw [q1 4 (by omega), htn]
      obtain ⟨x2, hx2⟩ : ∃ x2, x2 = zw_wI x (54 + ij) (4 * j) (zj_m0 tn T (T - j)) := ⟨_, rfl⟩
      have x24 : x2.1 4 = tn := by rw [hx2, zw_wI_ne (by omega)]; exact x4
      have x21 : x2.1 1 1 = nI T := by rw [hx2, zw_wI_ne (by omega)]; exact hTx.2.1.2.1
      refine ⟨zw_wI x2 (54 + ij) (4 * j + 1) (zj_m1 tn T (T - j)), ?_, fun k hk => by rw [zw_wI_ne hk, hx2, zw_wI_ne hk]; exact q1 k hk, by rw [hx2]; exact q2, fun k hk => ?_, fun k hk => ?_⟩
      · unfold fn_Pays_makeOfTurn_l1
        dsimp only
        rw [hTx.2.1.2.2.1, if_pos (nI_lt hj (by omega)), hpo, zp_bs, nI_4, zp_bs, zp_gr (by omega) (by omega), zp_bs, zp_aI (by omega) (by omega), zp_bs, sp_slope hTx.2.1.2.1 hT1 hT12 (by omega), zp_bs, x4, zp_eI (zo_len (by omega)) (by omega) (by omega), zp_bs]
        have e0 : tn (T - j) - nI (T - j) * zj_sl tn T (T - j) = zj_m0 tn T (T - j) := rfl
        rw [e0, ← hx2, zp_bs, zp_aI (by omega) (by omega), zp_bs, sp_slope x21 hT1 hT12 (by omega), zp_bs, x24, x21, nI_1, zp_eI (zo_len (by omega)) (by omega) (by omega), zp_bs, nI_1]
        rfl
      · by_cases e : k = j
        · rw [e, zw_wI_at (by omega), hx2, zw_wI_eq]
        · rw [zw_wI_at (by omega), hx2, zw_wI_at (by omega)]; exact q3 k (by omega)
      · by_cases e : k = j
        · rw [e, zw_wI_eq]
        · rw [zw_wI_at (by omega), hx2, zw_wI_at (by omega)]; exact q4 k (by omega)) (fun x ⟨q1, _⟩ => by
      unfold fn_Pays_makeOfTurn_l1
      dsimp only
      rw [q1 1 (by omega), hTab.2.1.2.2.1, if_neg (nI_nlt (Nat.le_refl _) (by omega))]) c ⟨fun _ _ => rfl, rfl, fun k hk => absurd hk (Nat.not_lt_zero k), fun k hk => absurd hk (Nat.not_lt_zero k)⟩
    have a1' : zw_whl (fn_Pays_makeOfTurn_l1 (nI ij)) zw_F (0, c) = some c2 := a1
    obtain ⟨c3, hc3⟩ : ∃ c3, c3 = zw_wI (zw_wI c2 46 ij 2) 58 ij 1 := ⟨_, rfl⟩
    have f3 : ∀ k, k ≠ 46 → k ≠ 58 → k ≠ 54 + ij → c3.1 k = c.1 k := fun k k1 k2 k3 => by rw [hc3, zw_wI_ne k2, zw_wI_ne k1]; exact a2 k k3
    have c34 : c3.1 4 = tn := by rw [f3 4 (by decide) (by decide) (by omega), htn]
    have c31 : c3.1 1 1 = nI T := by rw [f3 1 (by decide) (by decide) (by omega)]; exact hTab.2.1.2.1
    obtain ⟨bn, hbn⟩ : ∃ bn, bn = zj_any (zj_nb tn T) (T + 1) := ⟨_, rfl⟩
    have nbT : zj_nb tn T T = false := decide_eq_false (fun z => by omega)
    have nb0 : zj_nb tn T 0 = false := decide_eq_false (fun z => by omega)
    have cb : (zw_whl (fn_Pays_makeOfTurn_l2 c3) zw_F 1 = some (.inl (0, c3)) ∧ bn = true) ∨ (zw_whl (fn_Pays_makeOfTurn_l2 c3) zw_F 1 = some (.inr ()) ∧ bn = false) := by
      have step : ∀ s, 1 ≤ s → s < T → fn_Pays_makeOfTurn_l2 c3 (nI s) = if zj_nb tn T s = true then some (.inl (.inl (0, c3))) else some (.inr (nI (s + 1))) := fun s h1 hs => by
        have e1 : nI s - 1 = nI (s - 1) := nI_sub (b := 1) h1
        unfold fn_Pays_makeOfTurn_l2
        rw [c31, if_pos (nI_lt hs (by omega)), sp_slope c31 hT1 hT12 (by omega), zp_bs, e1, sp_slope c31 hT1 hT12 (by omega), zp_bs, c34, nI_1]
        by_cases h : zj_sl tn T s < zj_sl tn T (s - 1)
        · rw [if_pos h, if_pos (show zj_nb tn T s = true from decide_eq_true ⟨h1, hs, h⟩)]
        · rw [if_neg h, if_neg (show ¬ zj_nb tn T s = true from fun q => h (of_decide_eq_true q).2.2)]
      rw [hbn]
      rcases zj_fst (zj_nb tn T) (T + 1) with hno | ⟨k, hk, hbk, hfk⟩
      · have h := zp_det (f := fn_Pays_makeOfTurn_l2 c3) (x := .inr ()) (fun i => nI i) T 1 hT1 (by unfold zw_F; omega) (fun s h1 hs => by rw [step s h1 hs, hno s (by omega), if_neg (by decide)]) (by
          unfold fn_Pays_makeOfTurn_l2
          rw [c31, if_neg (nI_nlt (Nat.le_refl _) (by omega))])
        have h' : zw_whl (fn_Pays_makeOfTurn_l2 c3) zw_F 1 = some (.inr ()) := h
        exact Or.inr ⟨h', zj_any_no _ hno⟩
      · have hk' := of_decide_eq_true hbk
        have h := zp_det (f := fn_Pays_makeOfTurn_l2 c3) (x := .inl (0, c3)) (fun i => nI i) k 1 hk'.1 (by unfold zw_F; omega) (fun s h1 hs => by rw [step s h1 (by omega), hfk s hs, if_neg (by decide)]) (by rw [step k hk'.1 hk'.2.1, hbk, if_pos rfl])
        have h' : zw_whl (fn_Pays_makeOfTurn_l2 c3) zw_F 1 = some (.inl (0, c3)) := h
        exact Or.inl ⟨h', zj_any_yes hbk _ hk⟩
    -- the Model
    obtain ⟨d0, hd0⟩ : ∃ d0, d0 = zw_wI c3 71 9 0 := ⟨_, rfl⟩
    have d73 : ∀ k, k < 13 → d0.1 73 k = tn k := fun k hk => by rw [hd0, zw_wI_ne (by decide), f3 73 (by decide) (by decide) (by omega), htn]; exact (hH.1 k hk).symm
    have d711 : d0.1 71 1 = nI T := by rw [hd0, zw_wI_at (by decide), f3 71 (by decide) (by decide) (by omega)]; exact hTab.2.2.2.1
    obtain ⟨d1, b1, b2, b3, b4, b5, b6⟩ := zp_detC (f := fn_M_make_l1 (nI ij)) (fun s c => (if zj_any (zj_nb tn T) s = true then 0 else 1, nI s, c)) (fun s x => (∀ k, k ≠ 83 → x.1 k = d0.1 k) ∧ x.2 = d0.2 ∧ (∀ k, k < 1820 * ij ∨ 1820 * (ij + 1) ≤ k → x.1 83 k = d0.1 83 k) ∧ (∀ k, k < s → x.1 83 (4 * (455 * ij + (T - k))) = zj_m0 tn T k) ∧ ∀ k, k < s → x.1 83 (4 * (455 * ij + (T - k)) + 1) = zj_m1 tn T k) (fun c => (if zj_any (zj_nb tn T) (T + 1) = true then 0 else 1, c)) (T + 1) 0 (Nat.zero_le _) (by unfold zw_F; omega) (fun s x _ hs ⟨q1, q2, q3, q4, q5⟩ => by
      have hx73 : ∀ k, k < 13 → x.1 73 k = tn k := fun k hk => by rw [q1 73 (by decide)]; exact d73 k hk
      have hx71 : x.1 71 1 = nI T := by rw [q1 71 (by decide)]; exact d711
      have ev : (if nI s = nI T then ((zw_aI 13 x 73 (nI s)).bind fun x20 => (zw_aI 13 x 73 (nI s - 1)).bind fun x21 => some ((x20 - x21) : Int32)) else ((zw_aI 13 x 73 (nI s + 1)).bind fun x18 => (zw_aI 13 x 73 (nI s)).bind fun x19 => some ((x18 - x19) : Int32))) = some (zj_sl tn T s) := by
        unfold zj_sl
        by_cases h : s = T
        · have e1 : nI s - 1 = nI (s - 1) := nI_sub (b := 1) (by omega)
          rw [if_pos (by rw [h]), e1, zp_aI (by omega) (by omega), zp_bs, zp_aI (by omega) (by omega), zp_bs, hx73 s (by omega), hx73 (s - 1) (by omega), Nat.min_eq_right (by omega), h, show T - 1 + 1 = T by omega]
        · rw [if_neg (fun z => h ((nI_eq (by omega) (by omega)).mp z)), nI_1, zp_aI (by omega) (by omega), zp_bs, zp_aI (by omega) (by omega), zp_bs, hx73 s (by omega), hx73 (s + 1) (by omega), Nat.min_eq_left (by omega)]
      have ek : (4 : Int32) * (((455 * nI ij) + nI T) - nI s) = nI (4 * (455 * ij + (T - s))) := by
        rw [show (455 : Int32) = nI 455 by decide, nI_mul, nI_add, nI_sub (by omega), nI_4', show 455 * ij + T - s = 455 * ij + (T - s) by omega]
      obtain ⟨x2, hx2⟩ : ∃ x2, x2 = zw_wI x 83 (4 * (455 * ij + (T - s))) (zj_m0 tn T s) := ⟨_, rfl⟩
      obtain ⟨x3, hx3⟩ : ∃ x3, x3 = zw_wI x2 83 (4 * (455 * ij + (T - s)) + 1) (zj_m1 tn T s) := ⟨_, rfl⟩
      have h2 : ∀ k, k ≠ 83 → x2.1 k = x.1 k := fun k hk => by rw [hx2, zw_wI_ne hk]
      have h3 : ∀ k, k ≠ 83 → x3.1 k = x.1 k := fun k hk => by rw [hx3, zw_wI_ne hk]; exact h2 k hk
      refine ⟨x3, ?_, fun k hk => by rw [h3 k hk]; exact q1 k hk, by rw [hx3, hx2]; exact q2, fun k hk => by rw [hx3, zw_wI_at (by omega), hx2, zw_wI_at (by omega)]; exact q3 k hk, fun k hk => ?_, fun k hk => ?_⟩
      · unfold fn_M_make_l1
        dsimp only
        rw [hx71, if_pos (nI_le (show s ≤ T by omega) (by omega)), ev, zp_bs, ek, zp_bs, zp_aI (by omega) (by omega), zp_bs, hx73 s (by omega)]
        have e0 : tn s - nI s * zj_sl tn T s = zj_m0 tn T s := rfl
        rw [e0, zp_uI (by omega) (by omega), zp_bs, ← hx2, zp_aI (by omega) (by omega), zp_bs, h2 73 (by decide), hx73 s (by omega), h2 71 (by decide), hx71, nI_1]
        have e1 : tn s + (nI T - nI s) * zj_sl tn T s = zj_m1 tn T s := rfl
        rw [e1, zp_uI (by omega) (by omega), zp_bs, ← hx3, h3 71 (by decide), hx71, nI_1]
        have hs' : zj_any (zj_nb tn T) (s + 1) = (zj_any (zj_nb tn T) s || zj_nb tn T s) := rfl
        have eb : (if 0 < nI s then (if nI s < nI T then ((zw_aI 13 x3 73 (nI (s + 1))).bind fun x31 => (zw_aI 13 x3 73 (nI s)).bind fun x32 => (zw_aI 13 x3 73 (nI s)).bind fun x33 => (zw_aI 13 x3 73 (nI s - 1)).bind fun x34 => some (decide ((x31 - x32) < (x33 - x34)))) else some false) else some false) = some (zj_nb tn T s) := by
          by_cases h0 : 0 < s
          · rw [if_pos (show (0 : Int32) < nI s from nI_lt (a := 0) h0 (by omega))]
            by_cases h1 : s < T
            · have e1 : nI s - 1 = nI (s - 1) := nI_sub (b := 1) (by omega)
              rw [if_pos (nI_lt h1 (by omega)), e1, zp_aI (by omega) (by omega), zp_bs, zp_aI (by omega) (by omega), zp_bs, zp_bs, zp_aI (by omega) (by omega), zp_bs, h3 73 (by decide), hx73 s (by omega), hx73 (s + 1) (by omega), hx73 (s - 1) (by omega)]
              have w1 : zj_sl tn T s = tn (s + 1) - tn s := by unfold zj_sl; rw [Nat.min_eq_left (by omega)]
              have w2 : zj_sl tn T (s - 1) = tn s - tn (s - 1) := by unfold zj_sl; rw [Nat.min_eq_left (by omega), show s - 1 + 1 = s by omega]
              unfold zj_nb
              rw [w1, w2]
              by_cases h2 : tn (s + 1) - tn s < tn s - tn (s - 1)
              · rw [decide_eq_true h2, decide_eq_true ⟨h0, h1, h2⟩]
              · rw [decide_eq_false h2, decide_eq_false (fun z => h2 z.2.2)]
            · rw [if_neg (nI_nlt (by omega) (by omega)), show zj_nb tn T s = false from decide_eq_false (fun z => h1 z.2.1)]
          · rw [if_neg (show ¬ (0 : Int32) < nI s by rw [show s = 0 by omega]; decide), show zj_nb tn T s = false from decide_eq_false (fun z => by omega)]
        rw [eb, zp_bs, hs']
        cases zj_nb tn T s with
        | true => rw [if_pos rfl, zp_bs, Bool.or_true, if_pos rfl]
        | false => rw [if_neg (show ¬ false = true by decide), zp_bs, Bool.or_false]
      · by_cases e : k = s
        · rw [e, hx3, zw_wI_at (by omega), hx2, zw_wI_eq]
        · rw [hx3, zw_wI_at (by omega), hx2, zw_wI_at (by omega)]; exact q4 k (by omega)
      · by_cases e : k = s
        · rw [e, hx3, zw_wI_eq]
        · rw [hx3, zw_wI_at (by omega), hx2, zw_wI_at (by omega)]; exact q5 k (by omega)) (fun x ⟨q1, _⟩ => by
      unfold fn_M_make_l1
      dsimp only
      rw [q1 71 (by decide), d711, if_neg (show ¬ nI (T + 1) ≤ nI T from nI_ge (by omega) (by omega))]) d0 ⟨fun _ _ => rfl, rfl, fun _ _ => rfl, fun k hk => absurd hk (Nat.not_lt_zero k), fun k hk => absurd hk (Nat.not_lt_zero k)⟩
    have b1' : zw_whl (fn_M_make_l1 (nI ij)) zw_F (1, 0, d0) = some (if zj_any (zj_nb tn T) (T + 1) = true then 0 else 1, d1) := b1
    have D : ∀ k, k ≠ 71 → k ≠ 83 → k ≠ 82 → k ≠ 81 → (zw_wI (zw_wI d1 82 ij 1) 81 ij 0).1 k = c3.1 k := fun k k1 k2 k3 k4 => by rw [zw_wI_ne k4, zw_wI_ne k3, b2 k k2, hd0, zw_wI_ne k1]
    have D71 : ∀ j, j ≠ 9 → (zw_wI (zw_wI d1 82 ij 1) 81 ij 0).1 71 j = c.1 71 j := fun j hj => by rw [zw_wI_ne (by decide), zw_wI_ne (by decide), b2 71 (by decide), hd0, zw_wI_at hj, f3 71 (by decide) (by decide) (by omega)]
    refine ⟨if bn = true then 0 else 1, c3, zw_wI (zw_wI d1 82 ij 1) 81 ij 0, ?_, ?_, zr_made (i := ij) (by omega) hR hRl (fun k k0 k1 k2 k3 k4 k5 k6 k7 => by rw [D k k7 k4 k5 k6, f3 k k1 k2 k3]) (fun j hj => D71 j (fun e => hj (by rw [e]; decide))) (fun x hx => by rw [D 46 (by decide) (by decide) (by decide) (by decide), hc3, zw_wI_ne (by decide), zw_wI_at hx, a2 46 (by omega)]) (fun x hx => by rw [D 58 (by decide) (by decide) (by decide) (by decide), hc3, zw_wI_at hx, zw_wI_ne (by decide), a2 58 (by omega)]) (fun x hx => by rw [zw_wI_ne (by decide), zw_wI_at hx, b2 82 (by decide), hd0, zw_wI_ne (by decide), f3 82 (by decide) (by decide) (by omega)]) (fun x hx => by rw [zw_wI_at hx, zw_wI_ne (by decide), b2 81 (by decide), hd0, zw_wI_ne (by decide), f3 81 (by decide) (by decide) (by omega)]) (fun k hk => by rw [zw_wI_ne (by decide), zw_wI_ne (by decide), b4 k hk, hd0, zw_wI_ne (by decide), f3 83 (by decide) (by decide) (by omega)]) ?_ ?_ (by rw [zw_wI_ne (by decide), zw_wI_eq]) zw_wI_eq (fun s hs e he => ?_) ?_ ?_ ?_ ?_⟩
    · unfold fn_Pays_makeOfTurn
      rw [a1', zp_bs, sp_setMade (by omega), ← hc3, zp_bs]
      rcases cb with ⟨h, hb⟩ | ⟨h, hb⟩
      · rw [h, zp_bs, hb]; rfl
      · rw [h, zp_bs, hb]; rfl
    · rw [zp_bs, zw_wI_at (by decide), f3 71 (by decide) (by decide) (by omega), hTab.2.2.1, if_neg (fun z => hc z.symm), ← hd0, b1', zp_bs]
      dsimp only
      rw [zp_uI (by omega) (by omega), zp_bs, zp_uI (by omega) (by omega), zp_bs, ← hbn]
      cases bn <;> rfl
    · rw [D 46 (by decide) (by decide) (by decide) (by decide), hc3, zw_wI_ne (by decide), zw_wI_eq]
    · rw [D 58 (by decide) (by decide) (by decide) (by decide), hc3, zw_wI_eq]
    · have hb4 := b5 (T - s) (by omega)
      have hb5 := b6 (T - s) (by omega)
      rw [show T - (T - s) = s by omega] at hb4 hb5
      rw [D _ (by omega) (by omega) (by omega) (by omega), hc3, zw_wI_ne (by omega), zw_wI_ne (by omega), zw_wI_ne (by decide), zw_wI_ne (by decide)]
      rcases (show e = 0 ∨ e = 1 by omega) with rfl | rfl
      · rw [Nat.add_zero, Nat.add_zero, a4 s hs, hb4]
      · rw [a5 s hs, hb5]
    · rw [D 61 (by decide) (by decide) (by decide) (by decide), f3 61 (by decide) (by decide) (by omega)]
    · exact D71 8 (by decide)
    · show d1.2 62 = c.2 62
      rw [b3, hd0]
      show c3.2 62 = c.2 62
      rw [hc3]
      show c2.2 62 = c.2 62
      rw [a3]
    · show d1.2 75 = c.2 75
      rw [b3, hd0]
      show c3.2 75 = c.2 75
      rw [hc3]
      show c2.2 75 = c.2 75
      rw [a3]
