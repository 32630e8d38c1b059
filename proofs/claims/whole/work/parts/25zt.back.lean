/-! back, take -/
def zj_F (E N T : Nat) (pt : Nat → Nat → Nat) (V : Nat → Nat → Int32) (k : Nat) : Int := zs_w E pt V (zs_top (fun s => zs_w E pt V s (T - k)) N) (T - k)
theorem sp_gF {E T N a k : Nat} {pt : Nat → Nat → Nat} {V : Nat → Nat → Int32} {c : zw_Ct} (hT : zr_T E T N pt) (hN1 : N = T + 1) (hS : zr_S E T N pt c) (ha : zw_len SH 0 a = some 1820) (hV : zr_V a E N V c) (hk : k < T + 1) : ∃ c2, fn_Judge_greatestWorth c a ((c.1 1 1) - nI k) = some (lI (zj_F E N T pt V k), c2) ∧ c2.1 = c.1 ∧ ∀ k, k ≠ 12 → c2.2 k = c.2 k := by
  have e : c.1 1 1 - nI k = nI (T - k) := by rw [hS.2.1]; exact nI_sub (by omega)
  obtain ⟨c2, h1, h2, h3, -⟩ := sp_great (t := T - k) hT hS ha hV (by omega)
  exact ⟨c2, by rw [e]; exact h1, h2, h3⟩
theorem zj_F_b {E T N k : Nat} {pt : Nat → Nat → Nat} {V : Nat → Nat → Int32} (hT : zr_T E T N pt) (hN1 : N = T + 1) : -103079215104 ≤ zj_F E N T pt V k ∧ zj_F E N T pt V k ≤ 103079215104 := zs_w_bd hT (by omega)
def zj_fl (F : Nat → Int) : Nat → List Int64
  | 0 => []
  | k + 1 => zj_fl F k ++ [lI (F k)]
theorem zj_fl_l (F : Nat → Int) : ∀ k : Nat, (zj_fl F k).length = k
  | 0 => rfl
  | k + 1 => by
    show (zj_fl F k ++ [lI (F k)]).length = k + 1
    rw [List.length_append, zj_fl_l F k]
    rfl
theorem zj_fl_g (F : Nat → Int) : ∀ k i : Nat, i < k → (zj_fl F k).getD i 0 = lI (F i)
  | k + 1, i, h => by
    show (zj_fl F k ++ [lI (F k)]).getD i 0 = lI (F i)
    rw [getD_snoc, zj_fl_l]
    by_cases e : i < k
    · rw [if_pos e]; exact zj_fl_g F k i e
    · rw [if_neg e, if_pos (by omega), show i = k by omega]
/-- the Model's table -/
theorem sp_table {E T p : Nat} {V : Nat → Nat → Int32} {c d : zw_Ct} (hET : zt_ET E T) (hE2 : E = 2) (hMc : zr_M E T (zt_N E T) (zt_p E T) c) (hV : zv_N E T p V c) (hA : zr_B c d) : ∃ d', fn_M_findTable d (nI p) = some d' ∧ (∀ k, k ≠ 71 → k ≠ 84 → d'.1 k = d.1 k) ∧ (∀ j, j ∉ zr_FS ∨ j = 8 → d'.1 71 j = d.1 71 j) ∧ (∀ k, k ≠ 86 → d'.2 k = d.2 k) ∧ ∀ k, k < T + 1 → d'.2 86 k = lI (zj_F E (zt_N E T) T (zt_p E T) V k) := by
  have hT := zt_T hET
  have hT12 := hET.2.2.2
  obtain ⟨hN1, hpt⟩ := zt_two hET hE2
  obtain ⟨d1, a1, a2, a3, a4, a5⟩ := sp_layPayN hET hMc hV hA
  have hB1 : zr_B c d1 := ⟨fun k hk => by
    have hk' : k = 72 ∨ k = 73 ∨ k = 77 ∨ k = 78 ∨ k = 79 ∨ k = 80 ∨ k = 81 ∨ k = 82 ∨ k = 83 := by simpa only [zr_MC, List.mem_cons, List.not_mem_nil, or_false] using hk
    rw [a3 k (by omega) (by omega)]; exact hA.1 k hk, fun j hj => by rw [a4 j (Or.inl hj)]; exact hA.2 j hj⟩
  obtain ⟨d2, b1, b2, b3, b4⟩ := zp_detC (f := fn_M_findTable_l1) (fun t c => (nI t, c)) (fun t x => x.1 = d1.1 ∧ (∀ k, k ≠ 86 → x.2 k = d1.2 k) ∧ ∀ k, k < t → x.2 86 (T - k) = lI (zs_w E (zt_p E T) V (zs_top (fun s => zs_w E (zt_p E T) V s k) (zt_N E T)) k)) (fun c => c) (zt_N E T) 0 (Nat.zero_le _) (by unfold zw_F; omega) (fun t x _ ht ⟨q1, q2, q3⟩ => by
    have hMx : zr_M E T (zt_N E T) (zt_p E T) x := by unfold zr_M; rw [q1]; exact hB1.M hMc
    have hVx : zr_V 84 E (zt_N E T) V x := by unfold zr_V; rw [q1]; exact a2
    have e1 : 4 * nI t + 1 = nI (4 * t + 1) := nI_at' t 1
    refine ⟨zw_wL x 86 (T - t) (lI (zs_w E (zt_p E T) V (zs_top (fun s => zs_w E (zt_p E T) V s t) (zt_N E T)) t)), ?_, q1, fun k hk => by rw [zw_wL_ne hk]; exact q2 k hk, fun k hk => ?_⟩
    · unfold fn_M_findTable_l1
      dsimp only
      rw [hMx.2.2.1, if_pos (nI_lt ht (by omega)), e1, zp_aI (by omega) (by omega), zp_bs, hMx.2.2.2 t ht 1 (by omega), (hpt t (by omega)).2, sp_Mbest hT hMx hVx ht, zp_bs, zp_uL (by omega) (by omega), zp_bs, nI_1]
    · by_cases e : k = t
      · rw [e, zw_wL_eq]
      · rw [zw_wL_at (by omega)]; exact q3 k (by omega)) (fun x ⟨q1, _⟩ => by
    unfold fn_M_findTable_l1
    dsimp only
    rw [q1, (hB1.M hMc).2.2.1, if_neg (nI_nlt (Nat.le_refl _) (by omega))]) d1 ⟨rfl, fun _ _ => rfl, fun k hk => absurd hk (Nat.not_lt_zero k)⟩
  have b1' : zw_whl fn_M_findTable_l1 zw_F (0, d1) = some d2 := b1
  refine ⟨d2, ?_, fun k k1 k2 => by rw [b2]; exact a3 k k1 k2, fun j hj => by rw [b2]; exact a4 j hj, fun k hk => by rw [b3 k hk, a5], fun k hk => ?_⟩
  · unfold fn_M_findTable
    rw [a1, zp_bs, b1', zp_bs]
  · have h := b4 (T - k) (by omega)
    rw [show T - (T - k) = k by omega] at h
    exact h
def zj_nF (F : Nat → Int) (i : Nat) : Bool := decide (2 ≤ i ∧ lI (F i) - lI (F (i - 1)) < lI (F (i - 1)) - lI (F (i - 2)))
def zj_nM (F : Nat → Int) (T k : Nat) : Bool := decide (k < T) && zj_nF F (k + 1)
theorem zj_any_sh {b : Nat → Bool} (h : b 0 = false) : ∀ n : Nat, zj_any b (n + 1) = zj_any (fun k => b (k + 1)) n
  | 0 => by
    show (false || b 0) = false
    rw [h]
    rfl
  | n + 1 => by
    show (zj_any b (n + 1) || b (n + 1)) = (zj_any (fun k => b (k + 1)) n || b (n + 1))
    rw [zj_any_sh h n]
theorem zj_any_congr {b b' : Nat → Bool} : ∀ n : Nat, (∀ k, k < n → b k = b' k) → zj_any b n = zj_any b' n
  | 0, _ => rfl
  | n + 1, h => by
    show (zj_any b n || b n) = (zj_any b' n || b' n)
    rw [zj_any_congr n (fun k hk => h k (by omega)), h n (by omega)]
theorem zj_nM_any (F : Nat → Int) (T : Nat) : zj_any (zj_nM F T) (T + 1) = zj_any (zj_nF F) (T + 1) := by
  rw [zj_any_sh (b := zj_nF F) (decide_eq_false (by omega)) T]
  show (zj_any (zj_nM F T) T || zj_nM F T T) = _
  have e : zj_nM F T T = false := by unfold zj_nM; rw [decide_eq_false (by omega)]; rfl
  rw [e, Bool.or_false]
  exact zj_any_congr T (fun k hk => by unfold zj_nM; rw [decide_eq_true hk, Bool.true_and])
theorem zo_back : zq_back zr_Rel := by
  intro n c hn hRel a
  unfold fn_P_back fn_M_back
  rcases zo_payN hRel a with ⟨h1, h2⟩ | ⟨p, E, T, c1, hp, rfl, h1, hR, hRl, hM, hisP⟩
  · refine ⟨-1, c, zw_wI c 71 9 0, ?_, ?_, zr_thr hRel⟩
    · rw [h1, zp_bs]
      dsimp only
      rw [if_pos (Or.inl rfl)]
    · rw [zp_bs]
      by_cases he : ¬ (zw_wI c 71 9 0).1 71 0 = 2
      · rw [if_pos he]
      · rw [if_neg he, h2, zp_bs, if_pos (by decide)]
  · have hTab := hRl.2.2.1
    have hET := hTab.1
    have hT := zt_T hET
    have hN : zt_N E T ≤ 455 := hT.2.2.2.2.2.1
    have hT1 := hET.2.2.1
    have hT12 := hET.2.2.2
    have hE4 := hET.2.1
    have hRel1 : zr_Rel n c1 := ⟨hR, E, T, hRl⟩
    rw [h1, zp_bs]
    dsimp only
    have hA9 : zr_A c1 (zw_wI c1 71 9 0) := zr_A.rf.wF (by decide)
    by_cases hE : nI E = 2
    · have hE2 : E = 2 := (nI_eq (b := 2) (by omega) (by omega)).mp hE
      obtain ⟨hN1, hpt⟩ := zt_two hET hE2
      obtain ⟨V, hVd⟩ : ∃ V : Nat → Nat → Int32, V = fun s e => c1.1 (54 + p) (4 * s + e) := ⟨_, rfl⟩
      have hV : zr_V (54 + p) E (zt_N E T) V c1 := fun s _ e _ => by rw [hVd]
      rw [← hVd] at hM
      obtain ⟨F, hF⟩ : ∃ F, F = zj_F E (zt_N E T) T (zt_p E T) V := ⟨_, rfl⟩
      have hcond : ¬ (((some (54 + p) : Option Nat) = none) ∨ (¬ c1.1 1 0 = 2)) := by
        rw [hTab.2.1.1]
        rintro (h | h)
        · cases h
        · exact h hE
      obtain ⟨c2, a1, a2, -⟩ := zr_C.clear (c1 := c1) (c3 := c1) zr_A.rf
      obtain ⟨c3, b1, b2⟩ := zp_detC (f := fn_P_back_l1 (some (54 + p))) (fun k c => (nI k, c)) (fun k x => zr_C (zj_fl F k) c1 x) (fun c => c) (T + 1) 0 (Nat.zero_le _) (by unfold zw_F; omega) (fun k x _ hk q => by
        have hTx := q.2.tab hTab
        obtain ⟨y, e1, e2, e3⟩ := sp_gF hT hN1 hTx.2.1 (zo_len hp) (q.2.V hp hV) hk
        rw [← hF] at e1
        have hCy : zr_C (zj_fl F k) c1 y := ⟨q.1.fr (by rw [e2]) (e3 62 (by decide)), q.2.tr (zr_A.eq e2)⟩
        obtain ⟨z, f1, f2, -⟩ := hCy.add (by rw [zj_fl_l]; omega) (lI (F k))
        refine ⟨z, ?_, f2⟩
        unfold fn_P_back_l1
        dsimp only
        have ec : nI k ≤ x.1 1 1 := by rw [hTx.2.1.2.1]; exact nI_le (show k ≤ T by omega) (by omega)
        rw [if_pos ec, zp_bs, e1, zp_bs]
        dsimp only
        rw [f1, zp_bs, nI_1]) (fun x q => by
        unfold fn_P_back_l1
        dsimp only
        rw [(q.2.tab hTab).2.1.2.1, if_neg (nI_ge (by omega) (by omega))]) c2 a2
      have b1' : zw_whl (fn_P_back_l1 (some (54 + p))) zw_F (0, c2) = some c3 := b1
      have hrow : ∀ i, i < T + 1 → c3.2 62 i = lI (F i) := fun i hi => by rw [b2.1.2 i (by rw [zj_fl_l]; exact hi), zj_fl_g F (T + 1) i hi]
      have hsz : c3.1 61 1 = nI (T + 1) := by rw [b2.1.1, zj_fl_l]
      obtain ⟨bn, hbn⟩ : ∃ bn, bn = zj_any (zj_nF F) (T + 1) := ⟨_, rfl⟩
      have cb : fn_Row_isBent c3 = some (if bn = true then 0 else 1) := by
        have step : ∀ i, 2 ≤ i → i < T + 1 → fn_Row_isBent_l1 c3 (nI i) = if zj_nF F i = true then some (.inl (.inl 0)) else some (.inr (nI (i + 1))) := fun i h2 hi => by
          have e1 : nI i - 1 = nI (i - 1) := nI_sub (b := 1) (by omega)
          have e2 : nI i - 2 = nI (i - 2) := nI_sub (b := 2) (by omega)
          unfold fn_Row_isBent_l1
          rw [hsz, if_pos (nI_lt hi (by omega)), e1, e2, zp_aL (by omega) (by omega), zp_bs, zp_aL (by omega) (by omega), zp_bs, zp_bs, zp_aL (by omega) (by omega), zp_bs, hrow i hi, hrow (i - 1) (by omega), hrow (i - 2) (by omega), nI_1]
          by_cases h : lI (F i) - lI (F (i - 1)) < lI (F (i - 1)) - lI (F (i - 2))
          · rw [if_pos h, if_pos (show zj_nF F i = true from decide_eq_true ⟨h2, h⟩)]
          · rw [if_neg h, if_neg (show ¬ zj_nF F i = true from fun q => h (of_decide_eq_true q).2)]
        unfold fn_Row_isBent
        rw [hbn]
        rcases zj_fst (zj_nF F) (T + 1) with hno | ⟨k, hk, hbk, hfk⟩
        · have h := zp_det (f := fn_Row_isBent_l1 c3) (x := .inr ()) (fun i => nI i) (T + 1) 2 (by omega) (by unfold zw_F; omega) (fun i h2 hi => by rw [step i h2 hi, hno i hi, if_neg (by decide)]) (by
            unfold fn_Row_isBent_l1
            rw [hsz, if_neg (nI_nlt (Nat.le_refl _) (by omega))])
          have h' : zw_whl (fn_Row_isBent_l1 c3) zw_F 2 = some (.inr ()) := h
          rw [h', zp_bs, zj_any_no _ hno]
          rfl
        · have hk2 := (of_decide_eq_true hbk).1
          have h := zp_det (f := fn_Row_isBent_l1 c3) (x := .inl 0) (fun i => nI i) k 2 hk2 (by unfold zw_F; omega) (fun i h2 hi => by rw [step i h2 (by omega), hfk i hi, if_neg (by decide)]) (by rw [step k hk2 hk, hbk, if_pos rfl])
          have h' : zw_whl (fn_Row_isBent_l1 c3) zw_F 2 = some (.inl 0) := h
          rw [h', zp_bs, zj_any_yes hbk _ hk]
          rfl
      have hA39 : zr_A c1 (zw_wI c3 71 9 0) := b2.2.wF (by decide)
      obtain ⟨d1, e1, e2, e3, e4, e5⟩ := sp_table hET hE2 hTab.2.2 hM hA39.B
      have hAd : zr_A c1 d1 := ⟨fun k k1 k2 => (e2 k k2 (fun e => k1 (by rw [e]; decide))).trans (hA39.1 k k1 k2), fun j hj => (e3 j (Or.inl hj)).trans (hA39.2 j hj)⟩
      have hD : zr_D [] c1 c3 (zw_wI d1 71 8 0) := ⟨sp_clearM d1, hAd.wF (by decide), by rw [zw_wI_ne (by decide), e2 61 (by decide) (by decide), zw_wI_ne (by decide)], e4 62 (by decide)⟩
      rw [← hF] at e5
      obtain ⟨d2, f1, f2, f3⟩ := zp_detC (f := fn_M_back_l1) (fun k c => (if zj_any (zj_nM F T) k = true then 0 else 1, nI k, c)) (fun k x => zr_D (zj_fl F k) c1 c3 x ∧ ∀ j, j < T + 1 → x.2 86 j = lI (F j)) (fun c => (if zj_any (zj_nM F T) (T + 1) = true then 0 else 1, c)) (T + 1) 0 (Nat.zero_le _) (by unfold zw_F; omega) (fun k x _ hk ⟨q, qt⟩ => by
        have hTx := q.2.1.tab hTab
        obtain ⟨y, g1, g2, g3, g4, g5⟩ := sp_tell q.1 (by rw [zj_fl_l]; omega) (lI (F k))
        have hDy : zr_D (zj_fl F k ++ [lI (F k)]) c1 c3 y := ⟨g2, q.2.1.tr (zr_A.of71 g3 (fun j hj => g4 j (fun e => hj (by rw [e]; decide)))), (g3 61 (by decide)).trans q.2.2.1, (g5 62 (by decide)).trans q.2.2.2⟩
        have hTy := hDy.2.1.tab hTab
        have yt : ∀ j, j < T + 1 → y.2 86 j = lI (F j) := fun j hj => by rw [g5 86 (by decide)]; exact qt j hj
        refine ⟨y, ?_, hDy, yt⟩
        have hs' : zj_any (zj_nM F T) (k + 1) = (zj_any (zj_nM F T) k || zj_nM F T k) := rfl
        have eb : (if 0 < nI k then (if nI k < nI T then ((zw_aL 13 y 86 (nI (k + 1))).bind fun x25 => (zw_aL 13 y 86 (nI k)).bind fun x26 => (zw_aL 13 y 86 (nI k)).bind fun x27 => (zw_aL 13 y 86 (nI k - 1)).bind fun x28 => some (decide ((x25 - x26) < (x27 - x28)))) else some false) else some false) = some (zj_nM F T k) := by
          unfold zj_nM zj_nF
          by_cases h0 : 0 < k
          · rw [if_pos (show (0 : Int32) < nI k from nI_lt (a := 0) h0 (by omega))]
            by_cases h1 : k < T
            · have e1 : nI k - 1 = nI (k - 1) := nI_sub (b := 1) (by omega)
              rw [if_pos (nI_lt h1 (by omega)), e1, zp_aL (by omega) (by omega), zp_bs, zp_aL (by omega) (by omega), zp_bs, zp_bs, zp_aL (by omega) (by omega), zp_bs, yt k hk, yt (k + 1) (by omega), yt (k - 1) (by omega), decide_eq_true h1, Bool.true_and]
              by_cases h2 : lI (F (k + 1)) - lI (F k) < lI (F k) - lI (F (k - 1))
              · rw [decide_eq_true h2, decide_eq_true (show 2 ≤ k + 1 ∧ lI (F (k + 1)) - lI (F (k + 1 - 1)) < lI (F (k + 1 - 1)) - lI (F (k + 1 - 2)) from ⟨by omega, h2⟩)]
              · rw [decide_eq_false h2, decide_eq_false (show ¬ (2 ≤ k + 1 ∧ lI (F (k + 1)) - lI (F (k + 1 - 1)) < lI (F (k + 1 - 1)) - lI (F (k + 1 - 2))) from fun z => h2 z.2)]
            · rw [if_neg (nI_nlt (by omega) (by omega)), decide_eq_false h1, Bool.false_and]
          · rw [if_neg (show ¬ (0 : Int32) < nI k by rw [show k = 0 by omega]; decide), decide_eq_false (show ¬ (2 ≤ k + 1 ∧ lI (F (k + 1)) - lI (F (k + 1 - 1)) < lI (F (k + 1 - 1)) - lI (F (k + 1 - 2))) from fun z => by omega), Bool.and_false]
        unfold fn_M_back_l1
        dsimp only
        have ec : nI k ≤ x.1 71 1 := by rw [hTx.2.2.2.1]; exact nI_le (show k ≤ T by omega) (by omega)
        rw [if_pos ec, zp_aL (by omega) (by omega), zp_bs, qt k hk, g1, zp_bs, hTy.2.2.2.1, nI_1, eb, zp_bs, hs']
        cases zj_nM F T k with
        | true => rw [if_pos rfl, zp_bs, Bool.or_true, if_pos rfl]
        | false => rw [if_neg (show ¬ false = true by decide), zp_bs, Bool.or_false]) (fun x ⟨q, _⟩ => by
        unfold fn_M_back_l1
        dsimp only
        rw [(q.2.1.tab hTab).2.2.2.1, if_neg (nI_ge (by omega) (by omega))]) (zw_wI d1 71 8 0) ⟨hD, e5⟩
      have f1' : zw_whl fn_M_back_l1 zw_F (1, 0, zw_wI d1 71 8 0) = some (if zj_any (zj_nM F T) (T + 1) = true then 0 else 1, d2) := f1
      refine ⟨if bn = true then 0 else 1, c3, d2, ?_, ?_, f2.fin hRl (by rw [zj_fl_l]; omega) b2.1⟩
      · rw [if_neg hcond, a1, zp_bs, b1', zp_bs, cb, zp_bs]
        cases bn <;> rfl
      · rw [zp_bs, (hA39.tab hTab).2.2.1, if_neg (fun z => z hE), hisP _ (hA39.1 82 (by decide) (by decide)) (hA39.1 81 (by decide) (by decide)), zp_bs, if_neg (by decide), e1, zp_bs, zp_bs, f1', zp_bs, zj_nM_any, ← hbn]
        cases bn <;> rfl
    · refine ⟨-1, c1, zw_wI c1 71 9 0, ?_, ?_, zr_thr hRel1⟩
      · rw [hTab.2.1.1, if_pos (Or.inr hE)]
      · rw [zp_bs, (hA9.tab hTab).2.2.1, if_pos hE]
theorem zr_turns2 {n E T : Nat} {c d : zw_Ct} (hR : zr_R c) (hRl : zr_Rl n E T c) (g : ∀ k, k ∉ zr_SC → k ≠ 4 → k ≠ 58 → k ≠ 71 → k ≠ 73 → d.1 k = c.1 k) (f : ∀ j, j ∉ zr_FS → d.1 71 j = c.1 71 j) (g58 : ∀ p, p < 4 → d.1 58 p = if c.1 46 p = 2 then 1 else 0) (h61 : d.1 61 = c.1 61) (h8 : d.1 71 8 = c.1 71 8) (h62 : d.2 62 = c.2 62) (h75 : d.2 75 = c.2 75) (hq : ∀ i, i < 13 → d.1 4 i = d.1 73 i) : zr_Rel (n + 1) d := by
  obtain ⟨h1, h2, h3, h4, hH, h6⟩ := hRl
  have G : ∀ k, k ∉ zr_SC → k ≠ 4 ∧ k ≠ 58 ∧ k ≠ 71 ∧ k ≠ 73 → d.1 k = c.1 k := fun k k1 k2 => g k k1 k2.1 k2.2.1 k2.2.2.1 k2.2.2.2
  refine ⟨hR.fr (by rw [h61]) h8 h62 h75, E, T, ?_⟩
  refine zr_Rl.up (Nat.le_succ n) ⟨h1.fr (f 10 (by decide)) (G 98 (by decide) (by decide)) (G 99 (by decide) (by decide)), h2.fr (G 40 (by decide) (by decide)) (f 6 (by decide)) (G 41 (by decide) (by decide)) (G 74 (by decide) (by decide)), h3.fr (G 1 (by decide) (by decide)) (G 2 (by decide) (by decide)) (G 72 (by decide) (by decide)) (f 0 (by decide)) (f 1 (by decide)) (f 2 (by decide)), fun p hp => ?_, ?_, fun i hi => ?_⟩
  · have e1 : d.1 (54 + p) = c.1 (54 + p) := by rcases (show p = 0 ∨ p = 1 ∨ p = 2 ∨ p = 3 by omega) with rfl | rfl | rfl | rfl <;> exact G _ (by decide) (by decide)
    have e2 : d.1 (77 + p) = c.1 (77 + p) := by rcases (show p = 0 ∨ p = 1 ∨ p = 2 ∨ p = 3 by omega) with rfl | rfl | rfl | rfl <;> exact G _ (by decide) (by decide)
    have e3 : d.1 (48 + p) = c.1 (48 + p) := by rcases (show p = 0 ∨ p = 1 ∨ p = 2 ∨ p = 3 by omega) with rfl | rfl | rfl | rfl <;> exact G _ (by decide) (by decide)
    exact (h4 p hp).tc (by rw [G 46 (by decide) (by decide)]) (by rw [G 82 (by decide) (by decide)]) (by rw [G 81 (by decide) (by decide)]) (g58 p hp) e1 (G 83 (by decide) (by decide)) e2 (by rw [G 52 (by decide) (by decide)]) e3
  · obtain ⟨q1, q2, q3, q4, q5, q6, q7, q8⟩ := hH
    unfold zr_H
    rw [G 3 (by decide) (by decide), G 5 (by decide) (by decide), G 6 (by decide) (by decide), G 7 (by decide) (by decide), G 8 (by decide) (by decide), G 9 (by decide) (by decide), G 10 (by decide) (by decide), G 89 (by decide) (by decide), G 92 (by decide) (by decide), G 93 (by decide) (by decide), G 94 (by decide) (by decide), G 95 (by decide) (by decide), G 96 (by decide) (by decide), f 26 (by decide), f 33 (by decide), f 30 (by decide)]
    exact ⟨hq, q2, q3, q4, q5, q6, q7, q8⟩
  · refine (h6 i hi).fr (by rw [G 39 (by decide) (by decide)]) (by rw [G 98 (by decide) (by decide)]) (by rw [G 99 (by decide) (by decide)]) (f 10 (by decide)) (G 97 (by decide) (by decide)) (fun k k1 k2 => G k (fun hk => ?_) (by omega))
    simp only [zr_SC, List.mem_cons, List.not_mem_nil, or_false] at hk
    omega
theorem zo_take : zq_take zr_Rel := by
  intro n c hn hRel a
  unfold fn_P_take fn_M_take
  rcases zo_payN hRel a with ⟨h1, h2⟩ | ⟨p, E, T, c1, hp, rfl, h1, hR, hRl, hM, hisP⟩
  · refine ⟨0, c, zw_wI c 71 9 0, ?_, ?_, zr_thr hRel⟩
    · rw [h1, zp_bs]
      dsimp only
      rw [if_pos rfl]
    · rw [zp_bs]
      by_cases he : ¬ (zw_wI c 71 9 0).1 71 0 = 2
      · rw [if_pos he]
      · rw [if_neg he, h2, zp_bs, if_pos (by decide)]
  · have hTab := hRl.2.2.1
    have hET := hTab.1
    have hT := zt_T hET
    have hN : zt_N E T ≤ 455 := hT.2.2.2.2.2.1
    have hT1 := hET.2.2.1
    have hT12 := hET.2.2.2
    have hE4 := hET.2.1
    have hH := hRl.2.2.2.2.1
    have hRel1 : zr_Rel n c1 := ⟨hR, E, T, hRl⟩
    rw [h1, zp_bs]
    dsimp only
    rw [if_neg (show ¬ (some (54 + p) : Option Nat) = none by intro q; cases q)]
    have hA9 : zr_A c1 (zw_wI c1 71 9 0) := zr_A.rf.wF (by decide)
    by_cases hE : nI E = 2
    · have hE2 : E = 2 := (nI_eq (b := 2) (by omega) (by omega)).mp hE
      obtain ⟨hN1, hpt⟩ := zt_two hET hE2
      obtain ⟨V, hVd⟩ : ∃ V : Nat → Nat → Int32, V = fun s e => c1.1 (54 + p) (4 * s + e) := ⟨_, rfl⟩
      have hV : zr_V (54 + p) E (zt_N E T) V c1 := fun s _ e _ => by rw [hVd]
      rw [← hVd] at hM
      obtain ⟨F, hF⟩ : ∃ F, F = zj_F E (zt_N E T) T (zt_p E T) V := ⟨_, rfl⟩
      have Fb : ∀ k, -103079215104 ≤ F k ∧ F k ≤ 103079215104 := fun k => by rw [hF]; exact zj_F_b hT hN1
      obtain ⟨v, hv⟩ : ∃ v : Nat → Int64, v = fun k => lI (F k) / lI (T : Int) := ⟨_, rfl⟩
      have vv : ∀ k, lI (F k) / lI (T : Int) = v k := fun k => by rw [hv]
      have zT : zb (T : Int) := ⟨by omega, by omega⟩
      obtain ⟨bad, hbad⟩ : ∃ bad : Nat → Bool, bad = fun k => decide (v k < -9999 ∨ 9999 < v k) := ⟨_, rfl⟩
      have badv : ∀ k, bad k = decide (v k < -9999 ∨ 9999 < v k) := fun k => by rw [hbad]
      have min : ∀ k, (¬ ¬ fn_M_in (v k) (-9999) 9999 = 0) ↔ bad k = true := fun k => by
        unfold fn_M_in
        rw [badv]
        by_cases h : -9999 ≤ v k ∧ v k ≤ 9999
        · rw [if_pos h]
          constructor
          · intro z; exact absurd (show ¬ (1 : Int32) = 0 by decide) z
          · intro z
            have z2 := of_decide_eq_true z
            rw [Int64.le_iff_toInt_le, Int64.le_iff_toInt_le] at h
            rw [Int64.lt_iff_toInt_lt, Int64.lt_iff_toInt_lt] at z2
            omega
        · rw [if_neg h]
          constructor
          · intro _
            refine decide_eq_true ?_
            rw [Int64.le_iff_toInt_le, Int64.le_iff_toInt_le] at h
            rw [Int64.lt_iff_toInt_lt, Int64.lt_iff_toInt_lt]
            omega
          · intro _ z; exact z rfl
      -- turnOf of the class at any contents
      have turnOf : ∀ x : zw_Ct, zr_S E T (zt_N E T) (zt_p E T) x → zr_V (54 + p) E (zt_N E T) V x → ∀ k, k < T + 1 → ∃ y, fn_Judge_turnOf x (54 + p) (nI k) = some (v k, y) ∧ y.1 = x.1 ∧ ∀ j, j ≠ 12 → y.2 j = x.2 j := fun x hSx hVx k hk => by
        obtain ⟨y, e1, e2, e3⟩ := sp_gF hT hN1 hSx (zo_len hp) hVx hk
        rw [← hF] at e1
        refine ⟨y, ?_, e2, e3⟩
        unfold fn_Judge_turnOf
        rw [e1, zp_bs]
        dsimp only
        rw [e2, hSx.2.1, nL (by omega), sp_cut zT (by omega), zp_bs, vv]
      have fitstep : ∀ x : zw_Ct, x.1 = c1.1 → ∀ k, k < T + 1 → ∃ y, fn_Judge_fitsTurn_l1 (54 + p) (nI k, x) = (if bad k = true then some (.inl (.inl (0, y))) else some (.inr (nI (k + 1), y))) ∧ y.1 = c1.1 ∧ ∀ j, j ≠ 12 → y.2 j = x.2 j := fun x hx k hk => by
        have hSx : zr_S E T (zt_N E T) (zt_p E T) x := by unfold zr_S; rw [hx]; exact hTab.2.1
        obtain ⟨y, e1, e2, e3⟩ := turnOf x hSx (by unfold zr_V; rw [hx]; exact hV) k hk
        refine ⟨y, ?_, e2.trans hx, e3⟩
        unfold fn_Judge_fitsTurn_l1
        dsimp only
        rw [hSx.2.1, if_pos (nI_le (show k ≤ T by omega) (by omega)), e1, zp_bs]
        dsimp only
        rw [nI_1, badv]
        by_cases h : v k < -9999 ∨ 9999 < v k
        · rw [if_pos h, if_pos (decide_eq_true h)]
        · rw [if_neg h, if_neg (fun z => h (of_decide_eq_true z))]
      -- the Model's table behind any contents
      have mtab : ∀ x, zr_B c1 (zw_wI x 71 9 0) → ∃ d1, fn_M_findTable (zw_wI x 71 9 0) (nI p) = some d1 ∧ (∀ k, k ≠ 71 → k ≠ 84 → d1.1 k = x.1 k) ∧ (∀ j, j ∉ zr_FS ∨ j = 8 → d1.1 71 j = (zw_wI x 71 9 0).1 71 j) ∧ (∀ k, k ≠ 86 → d1.2 k = x.2 k) ∧ (∀ k, k < T + 1 → d1.2 86 k = lI (F k)) ∧ d1.1 71 1 = nI T := fun x hB => by
        obtain ⟨d1, e1, e2, e3, e4, e5⟩ := sp_table hET hE2 hTab.2.2 hM hB
        rw [← hF] at e5
        exact ⟨d1, e1, fun k k1 k2 => by rw [e2 k k1 k2, zw_wI_ne k1], e3, e4, e5, by rw [e3 1 (Or.inl (by decide)), hB.2 1 (by decide)]; exact hTab.2.2.2.1⟩
      have mstep : ∀ d1 : zw_Ct, (∀ k, k < T + 1 → d1.2 86 k = lI (F k)) → d1.1 71 1 = nI T → ∀ k, k < T + 1 → fn_M_take_l1 d1 (nI k) = if bad k = true then some (.inl (.inl (0, d1))) else some (.inr (nI (k + 1))) := fun d1 ht h1 k hk => by
        unfold fn_M_take_l1
        rw [h1, if_pos (nI_le (show k ≤ T by omega) (by omega)), zp_aL (by omega) (by omega), zp_bs, ht k hk, nL (by omega), sp_dvL zT (by omega), zp_bs, vv, nI_1]
        by_cases h : bad k = true
        · rw [if_pos ((min k).mpr h), if_pos h]
        · rw [if_neg (fun z => h ((min k).mp z)), if_neg h]
      rw [hTab.2.1.1, if_neg (fun z => z hE), zp_bs]
      rcases zj_fst bad (T + 1) with hno | ⟨k, hk, hbk, hfk⟩
      · -- it fits
        obtain ⟨y, y1, y2, y3, y4⟩ := zp_up (f := fn_Judge_fitsTurn_l1 (54 + p)) (I := fun k t => ∃ x : zw_Ct, t = (nI k, x) ∧ x.1 = c1.1 ∧ ∀ j, j ≠ 12 → x.2 j = c1.2 j) (P := fun y => ∃ x : zw_Ct, y = .inr x ∧ x.1 = c1.1 ∧ ∀ j, j ≠ 12 → x.2 j = c1.2 j) (T + 1) (by unfold zw_F; omega) (fun k t hk h => by
          obtain ⟨x, rfl, q1, q2⟩ := h
          obtain ⟨y, e1, e2, e3⟩ := fitstep x q1 k hk
          rw [hno k hk, if_neg (by decide)] at e1
          exact Or.inl ⟨_, e1, y, rfl, e2, fun j hj => (e3 j hj).trans (q2 j hj)⟩) (fun t h => by
          obtain ⟨x, rfl, q1, q2⟩ := h
          refine ⟨.inr x, ?_, x, rfl, q1, q2⟩
          unfold fn_Judge_fitsTurn_l1
          dsimp only
          rw [q1, hTab.2.1.2.1, if_neg (nI_ge (by omega) (by omega))]) 0 (0, c1) (Nat.zero_le _) ⟨c1, rfl, rfl, fun _ _ => rfl⟩
        obtain ⟨y4a, y4b⟩ := y4
        obtain ⟨c3, g1, g2, g3, g4, g5⟩ := zp_detC (f := fn_P_take_l1 (54 + p)) (fun k c => (nI k, c)) (fun k x => (∀ j, j ≠ 4 → x.1 j = c1.1 j) ∧ (∀ j, j ≠ 12 → x.2 j = c1.2 j) ∧ (∀ j, j < k → x.1 4 j = (v j).toInt32) ∧ ∀ j, k ≤ j → x.1 4 j = c1.1 4 j) (fun c => c) (T + 1) 0 (Nat.zero_le _) (by unfold zw_F; omega) (fun k x _ hk ⟨q1, q2, q3, q4⟩ => by
          have hSx : zr_S E T (zt_N E T) (zt_p E T) x := by unfold zr_S; rw [q1 1 (by decide), q1 2 (by decide)]; exact hTab.2.1
          obtain ⟨y, e1, e2, e3⟩ := turnOf x hSx (fun s hs e he => by rw [q1 _ (by omega)]; exact hV s hs e he) k hk
          refine ⟨zw_wI y 4 k (v k).toInt32, ?_, fun j hj => by rw [zw_wI_ne hj, e2]; exact q1 j hj, fun j hj => (e3 j hj).trans (q2 j hj), fun j hj => ?_, fun j hj => by rw [zw_wI_at (by omega), e2]; exact q4 j (by omega)⟩
          · unfold fn_P_take_l1
            dsimp only
            rw [hSx.2.1, if_pos (nI_le (show k ≤ T by omega) (by omega)), e1, zp_bs]
            dsimp only
            rw [zp_uI (by omega) (by omega), zp_bs, nI_1]
          · by_cases e : j = k
            · rw [e, zw_wI_eq]
            · rw [zw_wI_at e, e2]; exact q3 j (by omega)) (fun x ⟨q1, _⟩ => by
          unfold fn_P_take_l1
          dsimp only
          rw [q1 1 (by decide), hTab.2.1.2.1, if_neg (nI_ge (by omega) (by omega))]) y2 ⟨fun j _ => by rw [y4a], y4b, fun j hj => absurd hj (Nat.not_lt_zero j), fun j _ => by rw [y4a]⟩
        have g1' : zw_whl (fn_P_take_l1 (54 + p)) zw_F (0, y2) = some c3 := g1
        obtain ⟨c4, t1, t2, t3, t4⟩ := sp_turnChanged c3
        have f4 : ∀ j, j ≠ 4 → j ≠ 58 → c4.1 j = c1.1 j := fun j j1 j2 => by rw [t2 j j2]; exact g2 j j1
        have hB : zr_B c1 (zw_wI c4 71 9 0) := ⟨fun k hk => by
          have hk' : k = 72 ∨ k = 73 ∨ k = 77 ∨ k = 78 ∨ k = 79 ∨ k = 80 ∨ k = 81 ∨ k = 82 ∨ k = 83 := by simpa only [zr_MC, List.mem_cons, List.not_mem_nil, or_false] using hk
          rw [zw_wI_ne (by omega), f4 k (by omega) (by omega)], fun j hj => by rw [zw_wI_at (fun e => hj (by rw [e]; decide)), f4 71 (by decide) (by decide)]⟩
        obtain ⟨d1, m1, m2, m3, m4, m5, m6⟩ := mtab c4 hB
        have hl := zp_det (f := fn_M_take_l1 d1) (x := .inr ()) (fun k => nI k) (T + 1) 0 (Nat.zero_le _) (by unfold zw_F; omega) (fun k _ hk => by rw [mstep d1 m5 m6 k hk, hno k hk, if_neg (by decide)]) (by
          unfold fn_M_take_l1
          rw [m6, if_neg (nI_ge (by omega) (by omega))])
        have hl' : zw_whl (fn_M_take_l1 d1) zw_F 0 = some (.inr ()) := hl
        obtain ⟨d2, u1, u2, u3, u4, u5⟩ := zp_detC (f := fn_M_take_l2) (fun k c => (nI k, c)) (fun k x => (∀ j, j ≠ 73 → x.1 j = d1.1 j) ∧ x.2 = d1.2 ∧ (∀ j, j < k → x.1 73 j = (v j).toInt32) ∧ ∀ j, k ≤ j → x.1 73 j = d1.1 73 j) (fun c => c) (T + 1) 0 (Nat.zero_le _) (by unfold zw_F; omega) (fun k x _ hk ⟨q1, q2, q3, q4⟩ => by
          refine ⟨zw_wI x 73 k (v k).toInt32, ?_, fun j hj => by rw [zw_wI_ne hj]; exact q1 j hj, q2, fun j hj => ?_, fun j hj => by rw [zw_wI_at (by omega)]; exact q4 j (by omega)⟩
          · unfold fn_M_take_l2
            dsimp only
            rw [q1 71 (by decide), m6, if_pos (nI_le (show k ≤ T by omega) (by omega)), zp_aL (by omega) (by omega), zp_bs, q2, m5 k hk, nL (by omega), sp_dvL zT (by omega), zp_bs, vv, zp_uI (by omega) (by omega), zp_bs, nI_1]
          · by_cases e : j = k
            · rw [e, zw_wI_eq]
            · rw [zw_wI_at e]; exact q3 j (by omega)) (fun x ⟨q1, _⟩ => by
          unfold fn_M_take_l2
          dsimp only
          rw [q1 71 (by decide), m6, if_neg (nI_ge (by omega) (by omega))]) d1 ⟨fun _ _ => rfl, rfl, fun j hj => absurd hj (Nat.not_lt_zero j), fun _ _ => rfl⟩
        have u1' : zw_whl fn_M_take_l2 zw_F (0, d1) = some d2 := u1
        refine ⟨1, c4, d2, ?_, ?_, zr_turns2 hR hRl (fun k k0 k1 k2 k3 k4 => by rw [u2 k k4, m2 k k3 (fun e => k0 (by rw [e]; decide)), f4 k k1 k2]) (fun j hj => by rw [u2 71 (by decide), m3 j (Or.inl hj)]; exact hB.2 j hj) (fun q hq => by rw [u2 58 (by decide), m2 58 (by decide) (by decide), t4 q hq, g2 46 (by decide)]) (by rw [u2 61 (by decide), m2 61 (by decide) (by decide), f4 61 (by decide) (by decide)]) (by rw [u2 71 (by decide), m3 8 (Or.inr rfl), zw_wI_at (by decide), f4 71 (by decide) (by decide)]) (by rw [u3, m4 62 (by decide), t3]; exact g3 62 (by decide)) (by rw [u3, m4 75 (by decide), t3]; exact g3 75 (by decide)) (fun i hi => ?_)⟩
        · unfold fn_Judge_fitsTurn
          rw [y1, zp_bs, y3]
          dsimp only
          rw [zp_bs]
          dsimp only
          rw [if_neg (by decide), g1', zp_bs, t1, zp_bs]
        · rw [zp_bs, hB.2 0 (by decide), hTab.2.2.1, if_neg (fun z => z hE), hisP _ (hB.1 82 (by decide)) (hB.1 81 (by decide)), zp_bs, if_neg (by decide), m1, zp_bs, hl', zp_bs]
          dsimp only
          rw [u1', zp_bs]
        · rw [u2 4 (by decide), m2 4 (by decide) (by decide), t2 4 (by decide)]
          by_cases h : i < T + 1
          · rw [g4 i h, u4 i h]
          · rw [g5 i (by omega), u5 i (by omega), m2 73 (by decide) (by decide), f4 73 (by decide) (by decide)]
            exact hH.1 i hi
      · obtain ⟨y, y1, y2, y3, y4a, y4b⟩ := zp_up (f := fn_Judge_fitsTurn_l1 (54 + p)) (I := fun k t => ∃ x : zw_Ct, t = (nI k, x) ∧ x.1 = c1.1 ∧ ∀ j, j ≠ 12 → x.2 j = c1.2 j) (P := fun y => ∃ x : zw_Ct, y = .inl (0, x) ∧ x.1 = c1.1 ∧ ∀ j, j ≠ 12 → x.2 j = c1.2 j) k (by unfold zw_F; omega) (fun k t hk h => by
          obtain ⟨x, rfl, q1, q2⟩ := h
          obtain ⟨y, e1, e2, e3⟩ := fitstep x q1 k (by omega)
          rw [hfk k hk, if_neg (by decide)] at e1
          exact Or.inl ⟨_, e1, y, rfl, e2, fun j hj => (e3 j hj).trans (q2 j hj)⟩) (fun t h => by
          obtain ⟨x, rfl, q1, q2⟩ := h
          obtain ⟨y, e1, e2, e3⟩ := fitstep x q1 k hk
          rw [hbk, if_pos rfl] at e1
          exact ⟨.inl (0, y), e1, y, rfl, e2, fun j hj => (e3 j hj).trans (q2 j hj)⟩) 0 (0, c1) (Nat.zero_le _) ⟨c1, rfl, rfl, fun _ _ => rfl⟩
        have hA2 : zr_A c1 y2 := zr_A.eq y4a
        have hA29 : zr_A c1 (zw_wI y2 71 9 0) := hA2.wF (by decide)
        obtain ⟨d1, m1, m2, m3, m4, m5, m6⟩ := mtab y2 hA29.B
        have hl := zp_det (f := fn_M_take_l1 d1) (x := .inl (0, d1)) (fun k => nI k) k 0 (Nat.zero_le _) (by unfold zw_F; omega) (fun j _ hj => by rw [mstep d1 m5 m6 j (by omega), hfk j hj, if_neg (by decide)]) (by rw [mstep d1 m5 m6 k hk, hbk, if_pos rfl])
        have hl' : zw_whl (fn_M_take_l1 d1) zw_F 0 = some (.inl (0, d1)) := hl
        have hAd : zr_A c1 d1 := ⟨fun k k1 k2 => (m2 k k2 (fun e => k1 (by rw [e]; decide))).trans (by rw [y4a]), fun j hj => by rw [m3 j (Or.inl hj)]; exact hA29.2 j hj⟩
        refine ⟨0, y2, d1, ?_, ?_, zr_fin0 hR hRl hAd (by rw [m2 61 (by decide) (by decide), y4a]) (by rw [m3 8 (Or.inr rfl), zw_wI_at (by decide), y4a]) (by rw [m4 62 (by decide)]; exact y4b 62 (by decide)) (by rw [m4 75 (by decide)]; exact y4b 75 (by decide))⟩
        · unfold fn_Judge_fitsTurn
          rw [y1, zp_bs, y3]
          dsimp only
          rw [zp_bs]
          dsimp only
          rw [if_pos (by decide)]
        · rw [zp_bs, hA29.2 0 (by decide), hTab.2.2.1, if_neg (fun z => z hE), hisP _ (hA29.1 82 (by decide) (by decide)) (hA29.1 81 (by decide) (by decide)), zp_bs, if_neg (by decide), m1, zp_bs, hl', zp_bs]
    · refine ⟨0, c1, zw_wI c1 71 9 0, ?_, ?_, zr_thr hRel1⟩
      · rw [hTab.2.1.1, if_pos hE]
      · rw [zp_bs, (hA9.tab hTab).2.2.1, if_pos hE]
