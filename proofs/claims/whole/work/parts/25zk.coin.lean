/-! coin -/
theorem zt_chk2 : ∀ E, E < 5 → 2 ≤ E → ∀ T, T < 13 → 1 ≤ T → (zt_p E T 0 0 = 0 ∧ zt_p E T (zt_N E T - 1) 0 = T) := by decide +kernel
theorem zt_ends {E T : Nat} (h : zt_ET E T) : zt_p E T 0 0 = 0 ∧ zt_p E T (zt_N E T - 1) 0 = T := zt_chk2 E (by have := h.2.1; omega) h.1 T (by have := h.2.2.2; omega) h.2.2.1
/-- the greatest of those with b -/
def zj_mx (b : Nat → Bool) (f : Nat → Int) : Nat → Int
  | 0 => 0
  | i + 1 => if b i = true then (if zj_any b i = true then (if f i < zj_mx b f i then zj_mx b f i else f i) else f i) else zj_mx b f i
theorem zj_mx_s (b : Nat → Bool) (f : Nat → Int) (i : Nat) : zj_mx b f (i + 1) = if b i = true then (if zj_any b i = true then (if f i < zj_mx b f i then zj_mx b f i else f i) else f i) else zj_mx b f i := rfl
theorem zj_mx_b {b : Nat → Bool} {f : Nat → Int} {B : Int} (hB : 0 ≤ B) : ∀ n : Nat, (∀ i, i < n → -B ≤ f i ∧ f i ≤ B) → -B ≤ zj_mx b f n ∧ zj_mx b f n ≤ B
  | 0, _ => ⟨by show -B ≤ 0; omega, hB⟩
  | n + 1, h => by
    have ih := zj_mx_b (b := b) (f := f) hB n (fun i hi => h i (by omega))
    have := h n (by omega)
    rw [zj_mx_s]
    by_cases h1 : b n = true
    · rw [if_pos h1]
      by_cases h2 : zj_any b n = true
      · rw [if_pos h2]
        split
        · exact ih
        · exact this
      · rw [if_neg h2]; exact this
    · rw [if_neg h1]; exact ih
theorem zj_any_s (b : Nat → Bool) (n : Nat) : zj_any b (n + 1) = (zj_any b n || b n) := rfl
theorem zj_of2 (D L : Int) {k : Nat} (hk : k ≤ 20) : fn_Chooser_ofTwo (lI D) (lI L) (nI k) = lI ((40 - (k : Int)) * D + (k : Int) * L) := by
  have e : (40 : Int32) - nI k = nI (40 - k) := nI_sub (a := 40) (by omega)
  unfold fn_Chooser_ofTwo
  rw [e, nL (by omega), nL (by omega), lI_mul, lI_mul, lI_add]
  exact congrArg (fun z : Int => lI (z * D + (k : Int) * L)) (by omega)
theorem zj_tru (X Y : Int) (k : Int) : (40 - 2 * k) * X + k * (X + Y) = (40 - k) * X + k * Y := by
  rw [Int.sub_mul, Int.sub_mul, Int.mul_add, Int.mul_assoc]
  omega
theorem zj_tru' (X Y : Int) (k : Int) : (40 - 2 * k) * Y + k * (X + Y) = (40 - k) * Y + k * X := by
  rw [Int.sub_mul, Int.sub_mul, Int.mul_add, Int.mul_assoc]
  omega
theorem zj_wb {A B : Int} {k : Nat} (hk : k ≤ 20) (hA : -103079215104 ≤ A ∧ A ≤ 103079215104) (hB : -103079215104 ≤ B ∧ B ≤ 103079215104) : zb ((40 - (k : Int)) * A + (k : Int) * B) := by
  have h1 := Int.mul_le_mul_of_nonneg_left hA.1 (show (0 : Int) ≤ 40 - (k : Int) by omega)
  have h2 := Int.mul_le_mul_of_nonneg_left hA.2 (show (0 : Int) ≤ 40 - (k : Int) by omega)
  have h3 := Int.mul_le_mul_of_nonneg_left hB.1 (show (0 : Int) ≤ (k : Int) by omega)
  have h4 := Int.mul_le_mul_of_nonneg_left hB.2 (show (0 : Int) ≤ (k : Int) by omega)
  constructor <;> omega
theorem zo_coin : zq_coin zr_Rel := by
  intro n c hn hRel a l t o
  unfold fn_P_coin fn_M_coin
  rcases zo_pay hRel a with ⟨h1, h2⟩ | ⟨p, E, T, V, c1, hp, rfl, h1, hR, hRl, hV, hM, hlen, hisP⟩
  · refine ⟨-1, c, zw_wI c 71 9 0, ?_, ?_, zr_thr hRel⟩
    · rw [h1, zp_bs]
      dsimp only
      rw [if_pos (Or.inl rfl)]
    · rw [zp_bs, zr_asked0 h2, zp_bs, if_pos (by decide)]
  · have hTab := hRl.2.2.1
    have hT := zt_T hTab.1
    have hN : zt_N E T ≤ 455 := hT.2.2.2.2.2.1
    have hN2 : 2 ≤ zt_N E T := hT.2.2.2.2.1
    have hT12 := hTab.1.2.2.2
    have hRel1 : zr_Rel n c1 := ⟨hR, E, T, hRl⟩
    rw [h1, zp_bs]
    dsimp only
    by_cases hc : (((some (54 + p) : Option Nat) = none) ∨ (¬ (¬ (fn_P_isDecision c1 l t o) = 0)))
    · have hA9 : zr_A c1 (zw_wI c1 71 9 0) := zr_A.rf.wF (by decide)
      refine ⟨-1, c1, zw_wI c1 71 9 0, by rw [if_pos hc], ?_, zr_thr hRel1⟩
      rw [zp_bs, zr_asked hTab hA9 _ (hisP _ hA9), zp_bs, if_pos]
      rcases hc with h | h
      · cases h
      · exact h
    · have hdec : ¬ fn_P_isDecision c1 l t o = 0 := fun q => hc (Or.inr (fun z => z q))
      obtain ⟨t1, t2, ht1, ht2, et, eo⟩ := zr_decision hTab hdec
      have hl : ∃ lj, lj ≤ 12 ∧ l = nI lj := by
        unfold fn_P_isDecision at hdec
        by_cases hq : (((¬ (fn_P_within l 0 12) = 0) ∧ (¬ (fn_Sayings_has c1 t) = 0)) ∧ (¬ (fn_Sayings_has c1 o) = 0))
        · exact within_n (m := 12) rfl (by omega) (within_1 (a := l) (lo := 0) (hi := 12) hq.1.1)
        · exact absurd (by rw [if_neg hq]) hdec
      obtain ⟨lj, hlj, el⟩ := hl
      obtain ⟨b, hb⟩ : ∃ b : Nat → Bool, b = fun s => decide (lj ≤ zt_p E T s 0) := ⟨_, rfl⟩
      obtain ⟨nb, hnb⟩ : ∃ nb : Nat → Bool, nb = fun s => !(b s) := ⟨_, rfl⟩
      have bv : ∀ s, b s = decide (lj ≤ zt_p E T s 0) := fun s => by rw [hb]
      have nbv : ∀ s, nb s = !(b s) := fun s => by rw [hnb]
      have hfst : ∀ s, s < zt_N E T → (l ≤ nI (zt_p E T s 0) ↔ b s = true) := fun s hs => by
        have := zt_le hTab.1 hs (e := 0) (by omega)
        rw [el, nI_leI (by omega) (by omega), bv]
        exact ⟨fun q => decide_eq_true q, fun q => of_decide_eq_true q⟩
      obtain ⟨f, hf⟩ : ∃ f : Nat → Int, f = fun s => zs_w E (zt_p E T) V s t1 := ⟨_, rfl⟩
      have fb : ∀ s, -103079215104 ≤ f s ∧ f s ≤ 103079215104 := fun s => by rw [hf]; exact zs_w_bd hT ht1
      have zf : ∀ s, zb (f s) := fun s => by have := fb s; exact ⟨by omega, by omega⟩
      have mxb := fun (q : Nat → Bool) (i : Nat) => zj_mx_b (b := q) (f := f) (B := 103079215104) (by omega) i (fun s _ => fb s)
      have zmx : ∀ (q : Nat → Bool) (i : Nat), zb (zj_mx q f i) := fun q i => by have := mxb q i; exact ⟨by omega, by omega⟩
      -- the class's ways
      obtain ⟨c2, g1, g2, g3, g4, g5⟩ := zp_detC (f := fn_Chooser_findWays_l1 (54 + p) (nI t1) l) (fun i c => (if zj_any b i = true then 1 else 0, if zj_any nb i = true then 1 else 0, nI i, c)) (fun i x => x.1 = c1.1 ∧ (∀ k, k ≠ 68 → x.2 k = c1.2 k) ∧ (zj_any b i = true → x.2 68 3 = lI (zj_mx b f i)) ∧ (zj_any nb i = true → x.2 68 4 = lI (zj_mx nb f i))) (fun c => (if zj_any b (zt_N E T) = true then (1 : Int32) else 0, if zj_any nb (zt_N E T) = true then (1 : Int32) else 0, c)) (zt_N E T) 0 (Nat.zero_le _) (by unfold zw_F; omega) (fun i x _ hi ⟨q1, q2, q3, q4⟩ => by
        have hTx : zr_Tab E T x := (zr_A.eq q1).tab hTab
        have hVx : zr_V (54 + p) E (zt_N E T) V x := by unfold zr_V; rw [q1]; exact hV
        have ew : fn_Judge_worth x (54 + p) (nI i) (nI t1) = some (lI (f i)) := by rw [hf]; exact sp_worth hT hTx.2.1 hlen hVx hi ht1
        have hx := hfst i hi
        have an1 := zj_any_s b i
        have an2 := zj_any_s nb i
        have mx1 := zj_mx_s b f i
        have mx2 := zj_mx_s nb f i
        rw [nbv i] at an2 mx2
        cases hbi : b i with
        | true =>
          rw [hbi] at an1 an2 mx1 mx2
          rw [Bool.or_true] at an1
          rw [show (!true) = false from rfl, Bool.or_false] at an2
          rw [if_neg (by decide)] at mx2
          rw [if_pos rfl] at mx1
          refine ⟨zw_wL x 68 3 (lI (zj_mx b f (i + 1))), ?_, q1, fun k hk => by rw [zw_wL_ne hk]; exact q2 k hk, fun _ => zw_wL_eq, fun h => ?_⟩
          · unfold fn_Chooser_findWays_l1
            dsimp only
            rw [hTx.2.1.2.2.1, if_pos (nI_lt hi (by omega)), ew, zp_bs, sp_decidesFirst hTx hi, zp_bs, if_pos (hx.mpr hbi), if_pos (show ¬ (1 : Int32) = 0 by decide)]
            have ev : (if (¬ (if zj_any b i = true then (1 : Int32) else 0) = 0) then ((if lI (f i) < (x.2 68 3) then (x.2 68 3) else lI (f i)) : Int64) else lI (f i)) = lI (zj_mx b f (i + 1)) := by
              rw [mx1]
              by_cases h : zj_any b i = true
              · rw [if_pos h, if_pos (show ¬ (1 : Int32) = 0 by decide), q3 h, if_pos h]
                by_cases hq : f i < zj_mx b f i
                · rw [if_pos ((lI_lt (zf i) (zmx b i)).mpr hq), if_pos hq]
                · rw [if_neg (fun z => hq ((lI_lt (zf i) (zmx b i)).mp z)), if_neg hq]
              · rw [if_neg h, if_neg (show ¬ ¬ (0 : Int32) = 0 by decide), if_neg h]
            rw [ev, zp_bs, zp_bs, an1, an2, nI_1]
            rfl
          · rw [zw_wL_at (by decide), mx2]
            exact q4 (by rw [← an2]; exact h)
        | false =>
          rw [hbi] at an1 an2 mx1 mx2
          rw [Bool.or_false] at an1
          rw [show (!false) = true from rfl, Bool.or_true] at an2
          rw [if_neg (by decide)] at mx1
          rw [if_pos (show (!false) = true from rfl)] at mx2
          refine ⟨zw_wL x 68 4 (lI (zj_mx nb f (i + 1))), ?_, q1, fun k hk => by rw [zw_wL_ne hk]; exact q2 k hk, fun h => ?_, fun _ => zw_wL_eq⟩
          · unfold fn_Chooser_findWays_l1
            dsimp only
            rw [hTx.2.1.2.2.1, if_pos (nI_lt hi (by omega)), ew, zp_bs, sp_decidesFirst hTx hi, zp_bs, if_neg (show ¬ l ≤ nI (zt_p E T i 0) from fun q => by rw [hx.mp q] at hbi; cases hbi), if_neg (show ¬ ¬ (0 : Int32) = 0 by decide)]
            have ev : (if (¬ (if zj_any nb i = true then (1 : Int32) else 0) = 0) then ((if lI (f i) < (x.2 68 4) then (x.2 68 4) else lI (f i)) : Int64) else lI (f i)) = lI (zj_mx nb f (i + 1)) := by
              rw [mx2]
              by_cases h : zj_any nb i = true
              · rw [if_pos h, if_pos (show ¬ (1 : Int32) = 0 by decide), q4 h, if_pos h]
                by_cases hq : f i < zj_mx nb f i
                · rw [if_pos ((lI_lt (zf i) (zmx nb i)).mpr hq), if_pos hq]
                · rw [if_neg (fun z => hq ((lI_lt (zf i) (zmx nb i)).mp z)), if_neg hq]
              · rw [if_neg h, if_neg (show ¬ ¬ (0 : Int32) = 0 by decide), if_neg h]
            rw [ev, zp_bs, zp_bs, an1, an2, nI_1]
            rfl
          · rw [zw_wL_at (by decide), mx1]
            exact q3 (by rw [← an1]; exact h)) (fun x ⟨q1, q2, q3, q4⟩ => by
        unfold fn_Chooser_findWays_l1
        dsimp only
        rw [show x.1 1 2 = nI (zt_N E T) by rw [q1]; exact hTab.2.1.2.2.1, if_neg (nI_nlt (Nat.le_refl _) (by omega))]) c1 ⟨rfl, fun _ _ => rfl, fun h => absurd h (show ¬ false = true by decide), fun h => absurd h (show ¬ false = true by decide)⟩
      have g1' : zw_whl (fn_Chooser_findWays_l1 (54 + p) (nI t1) l) zw_F (0, 0, 0, c1) = some (if zj_any b (zt_N E T) = true then (1 : Int32) else 0, if zj_any nb (zt_N E T) = true then (1 : Int32) else 0, c2) := g1
      have hA2 : zr_A c1 c2 := zr_A.eq g2
      have hV2 : zr_V (54 + p) E (zt_N E T) V c2 := by unfold zr_V; rw [g2]; exact hV
      obtain ⟨c3, i1, i2, i3, -⟩ := sp_great hT (hA2.tab hTab).2.1 hlen hV2 ht2
      obtain ⟨sec, hsec⟩ : ∃ sec, sec = zs_w E (zt_p E T) V (zs_top (fun s => zs_w E (zt_p E T) V s t2) (zt_N E T)) t2 := ⟨_, rfl⟩
      have secb : -103079215104 ≤ sec ∧ sec ≤ 103079215104 := by rw [hsec]; exact zs_w_bd hT ht2
      rw [← hsec] at i1
      obtain ⟨c4, hc4⟩ : ∃ c4, c4 = zw_wL c3 68 5 (lI sec) := ⟨_, rfl⟩
      have c41 : c4.1 = c1.1 := by rw [hc4]; exact i2.trans g2
      have hA4 : zr_A c1 c4 := zr_A.eq c41
      have hT4 := hA4.tab hTab
      have m5 : c4.2 68 5 = lI sec := by rw [hc4, zw_wL_eq]
      have m3 : zj_any b (zt_N E T) = true → c4.2 68 3 = lI (zj_mx b f (zt_N E T)) := fun h => by rw [hc4, zw_wL_at (by decide), i3 68 (by decide)]; exact g4 h
      have m4 : zj_any nb (zt_N E T) = true → c4.2 68 4 = lI (zj_mx nb f (zt_N E T)) := fun h => by rw [hc4, zw_wL_at (by decide), i3 68 (by decide)]; exact g5 h
      have m62 : ∀ k, k ≠ 68 → k ≠ 12 → c4.2 k = c1.2 k := fun k k1 k2 => by rw [hc4, zw_wL_ne k1, i3 k k2]; exact g3 k k1
      obtain ⟨X, hX⟩ : ∃ X, X = zs_w E (zt_p E T) V t1 t1 := ⟨_, rfl⟩
      obtain ⟨Y, hY⟩ : ∃ Y, Y = zs_w E (zt_p E T) V t2 t2 := ⟨_, rfl⟩
      have Xb : -103079215104 ≤ X ∧ X ≤ 103079215104 := by rw [hX]; exact zs_w_bd hT ht1
      have Yb : -103079215104 ≤ Y ∧ Y ≤ 103079215104 := by rw [hY]; exact zs_w_bd hT ht2
      -- whether there are sayings of each way
      have hany1 : zj_any b (zt_N E T) = true ↔ lj ≤ T := by
        constructor
        · intro h
          rcases zj_fst b (zt_N E T) with hno | ⟨k, hk, hbk, _⟩
          · rw [zj_any_no _ hno] at h; cases h
          · rw [bv] at hbk
            have := of_decide_eq_true hbk
            have := zt_le hTab.1 hk (e := 0) (by omega)
            omega
        · intro h
          exact zj_any_yes (k := zt_N E T - 1) (by rw [bv, (zt_ends hTab.1).2]; exact decide_eq_true h) _ (by omega)
      have hany2 : zj_any nb (zt_N E T) = true ↔ 0 < lj := by
        constructor
        · intro h
          rcases zj_fst nb (zt_N E T) with hno | ⟨k, hk, hbk, _⟩
          · rw [zj_any_no _ hno] at h; cases h
          · rw [nbv, bv] at hbk
            rcases Nat.eq_zero_or_pos lj with q | q
            · rw [q, decide_eq_true (Nat.zero_le _)] at hbk; cases hbk
            · exact q
        · intro h
          exact zj_any_yes (k := 0) (by rw [nbv, bv, (zt_ends hTab.1).1, decide_eq_false (by omega)]; rfl) _ (by omega)
      obtain ⟨F, hF⟩ : ∃ F, F = zj_mx b f (zt_N E T) := ⟨_, rfl⟩
      obtain ⟨G, hG⟩ : ∃ G, G = zj_mx nb f (zt_N E T) := ⟨_, rfl⟩
      have Fb : -103079215104 ≤ F ∧ F ≤ 103079215104 := by rw [hF]; exact mxb b _
      have Gb : -103079215104 ≤ G ∧ G ≤ 103079215104 := by rw [hG]; exact mxb nb _
      rw [← hF] at m3
      rw [← hG] at m4
      obtain ⟨mo, hmo⟩ : ∃ mo : Nat → Int, mo = fun (k : Nat) => if ¬ zj_any nb (zt_N E T) = true then (40 - (k : Int)) * F + (k : Int) * sec else if ¬ zj_any b (zt_N E T) = true then (40 - (k : Int)) * sec + (k : Int) * G else if (40 - (k : Int)) * sec + (k : Int) * G < (40 - (k : Int)) * F + (k : Int) * sec then (40 - (k : Int)) * F + (k : Int) * sec else (40 - (k : Int)) * sec + (k : Int) * G := ⟨_, rfl⟩
      have mov : ∀ k : Nat, mo k = if ¬ zj_any nb (zt_N E T) = true then (40 - (k : Int)) * F + (k : Int) * sec else if ¬ zj_any b (zt_N E T) = true then (40 - (k : Int)) * sec + (k : Int) * G else if (40 - (k : Int)) * sec + (k : Int) * G < (40 - (k : Int)) * F + (k : Int) * sec then (40 - (k : Int)) * F + (k : Int) * sec else (40 - (k : Int)) * sec + (k : Int) * G := fun k => by rw [hmo]
      have zmo : ∀ k, k ≤ 20 → zb (mo k) := fun k hk => by
        have w1 := zj_wb hk Fb secb
        have w2 := zj_wb hk secb Gb
        rw [mov]
        split
        · exact w1
        · split
          · exact w2
          · split
            · exact w1
            · exact w2
      obtain ⟨tr, htr⟩ : ∃ tr : Nat → Int, tr = fun (k : Nat) => if b t1 = true then (40 - (k : Int)) * X + (k : Int) * Y else (40 - (k : Int)) * Y + (k : Int) * X := ⟨_, rfl⟩
      have trv : ∀ k : Nat, tr k = if b t1 = true then (40 - (k : Int)) * X + (k : Int) * Y else (40 - (k : Int)) * Y + (k : Int) * X := fun k => by rw [htr]
      have ztr : ∀ k, k ≤ 20 → zb (tr k) := fun k hk => by
        have w1 := zj_wb hk Xb Yb
        have w2 := zj_wb hk Yb Xb
        rw [trv]
        split
        · exact w1
        · exact w2
      -- the class's most of any
      have cmo : ∀ d : zw_Ct, d.1 1 1 = nI T → d.2 68 = c4.2 68 → ∀ k, k ≤ 20 → fn_Chooser_mostOfAny d l (nI k) = lI (mo k) := by
        intro d hd1 hd2 k hk
        have zw1 := zj_wb hk Fb secb
        have zw2 := zj_wb hk secb Gb
        unfold fn_Chooser_mostOfAny
        rw [hd1, hd2, m5, el, mov]
        by_cases q1 : T < lj
        · have a1 : ¬ zj_any b (zt_N E T) = true := fun z => by have := hany1.mp z; omega
          have a2 : zj_any nb (zt_N E T) = true := hany2.mpr (by omega)
          rw [if_pos (nI_lt q1 (by omega)), m4 a2, zj_of2 _ _ hk, if_neg (fun z => z a2), if_pos a1]
        · have a1 : zj_any b (zt_N E T) = true := hany1.mpr (by omega)
          rw [if_neg (nI_nlt (by omega) (by omega)), m3 a1, zj_of2 _ _ hk]
          by_cases q2 : lj = 0
          · have a2 : ¬ zj_any nb (zt_N E T) = true := fun z => by have := hany2.mp z; omega
            rw [if_pos (show nI lj = 0 by rw [q2]; rfl), if_pos a2]
          · have a2 : zj_any nb (zt_N E T) = true := hany2.mpr (by omega)
            rw [if_neg (nI_ne0 (by omega) (by omega)), m4 a2, zj_of2 _ _ hk, if_neg (show ¬ ¬ zj_any nb (zt_N E T) = true from fun z => z a2), if_neg (show ¬ ¬ zj_any b (zt_N E T) = true from fun z => z a1)]
            by_cases q3 : (40 - (k : Int)) * sec + (k : Int) * G < (40 - (k : Int)) * F + (k : Int) * sec
            · rw [if_pos ((lI_lt zw2 zw1).mpr q3), if_pos q3]
            · rw [if_neg (fun z => q3 ((lI_lt zw2 zw1).mp z)), if_neg q3]
      have ctr : ∀ k, k ≤ 20 → (if ¬ (if l ≤ nI (zt_p E T t1 0) then (1 : Int32) else 0) = 0 then fn_Chooser_ofTwo (lI X) (lI Y) (nI k) else fn_Chooser_ofTwo (lI Y) (lI X) (nI k)) = lI (tr k) := fun k hk => by
        rw [trv, zj_of2 _ _ hk, zj_of2 _ _ hk]
        by_cases q : b t1 = true
        · rw [if_pos ((hfst t1 ht1).mpr q), if_pos (show ¬ (1 : Int32) = 0 by decide), if_pos q]
        · rw [if_neg (fun z => q ((hfst t1 ht1).mp z)), if_neg (show ¬ ¬ (0 : Int32) = 0 by decide), if_neg q]
      have cstep : ∀ i, i < 21 → tr i < mo i → fn_Chooser_tellCoin_l1 (if l ≤ nI (zt_p E T t1 0) then (1 : Int32) else 0) (lI X) (lI Y) l (nI i, c4) = some (.inr (nI (i + 1), c4)) := fun i hi h => by
        unfold fn_Chooser_tellCoin_l1
        dsimp only
        rw [if_pos (show nI i ≤ (20 : Int32) from nI_le (b := 20) (by omega) (by omega)), ctr i (by omega), zp_bs, cmo c4 hT4.2.1.2.1 rfl i (by omega), if_neg (fun z => by have := (lI_le (zmo i (by omega)) (ztr i (by omega))).mp z; omega), nI_1]
      -- the Model's ways
      have mways : ∀ d1 : zw_Ct, zr_Tab E T d1 → zr_V 84 E (zt_N E T) V d1 → zw_whl (fn_M_coin_l1 d1 (nI t1) l) zw_F (0, 0, 0, 0, 0) = some (lI F, if zj_any b (zt_N E T) = true then 1 else 0, lI G, if zj_any nb (zt_N E T) = true then 1 else 0) := by
        intro d1 hTd hVd
        have h := zp_det (f := fn_M_coin_l1 d1 (nI t1) l) (x := (lI F, if zj_any b (zt_N E T) = true then 1 else 0, lI G, if zj_any nb (zt_N E T) = true then 1 else 0)) (fun i => (lI (zj_mx b f i), if zj_any b i = true then 1 else 0, lI (zj_mx nb f i), if zj_any nb i = true then 1 else 0, nI i)) (zt_N E T) 0 (Nat.zero_le _) (by unfold zw_F; omega) (fun i _ hi => by
          have ew : fn_M_worth d1 (nI i) (nI t1) = some (lI (f i)) := by rw [hf]; exact sp_Mworth hT hTd.2.2 hVd hi ht1
          have e0 : d1.1 72 (4 * i) = nI (zt_p E T i 0) := hTd.2.2.2.2.2 i hi 0 (by omega)
          have hx := hfst i hi
          have an1 := zj_any_s b i
          have an2 := zj_any_s nb i
          have mx1 := zj_mx_s b f i
          have mx2 := zj_mx_s nb f i
          rw [nbv i] at an2 mx2
          unfold fn_M_coin_l1
          dsimp only
          rw [hTd.2.2.2.2.1, if_pos (nI_lt hi (by omega)), ew, zp_bs, nI_4', zp_aI (by omega) (by omega), zp_bs, e0]
          cases hbi : b i with
          | true =>
            rw [hbi] at an1 an2 mx1 mx2
            rw [Bool.or_true] at an1
            rw [show (!true) = false from rfl, Bool.or_false] at an2
            rw [if_neg (by decide)] at mx2
            rw [if_pos rfl] at mx1
            have ev : (if (¬ (if zj_any b i = true then (1 : Int32) else 0) = 0) then ((if lI (f i) < lI (zj_mx b f i) then lI (zj_mx b f i) else lI (f i)) : Int64) else lI (f i)) = lI (zj_mx b f (i + 1)) := by
              rw [mx1]
              by_cases h : zj_any b i = true
              · rw [if_pos h, if_pos (show ¬ (1 : Int32) = 0 by decide), if_pos h]
                by_cases hq : f i < zj_mx b f i
                · rw [if_pos ((lI_lt (zf i) (zmx b i)).mpr hq), if_pos hq]
                · rw [if_neg (fun z => hq ((lI_lt (zf i) (zmx b i)).mp z)), if_neg hq]
              · rw [if_neg h, if_neg (show ¬ ¬ (0 : Int32) = 0 by decide), if_neg h]
            rw [if_pos (hx.mpr hbi), ev, zp_bs, zp_bs, an1, an2, mx2, nI_1]
            rfl
          | false =>
            rw [hbi] at an1 an2 mx1 mx2
            rw [Bool.or_false] at an1
            rw [show (!false) = true from rfl, Bool.or_true] at an2
            rw [if_neg (by decide)] at mx1
            rw [if_pos (show (!false) = true from rfl)] at mx2
            have ev : (if (¬ (if zj_any nb i = true then (1 : Int32) else 0) = 0) then ((if lI (f i) < lI (zj_mx nb f i) then lI (zj_mx nb f i) else lI (f i)) : Int64) else lI (f i)) = lI (zj_mx nb f (i + 1)) := by
              rw [mx2]
              by_cases h : zj_any nb i = true
              · rw [if_pos h, if_pos (show ¬ (1 : Int32) = 0 by decide), if_pos h]
                by_cases hq : f i < zj_mx nb f i
                · rw [if_pos ((lI_lt (zf i) (zmx nb i)).mpr hq), if_pos hq]
                · rw [if_neg (fun z => hq ((lI_lt (zf i) (zmx nb i)).mp z)), if_neg hq]
              · rw [if_neg h, if_neg (show ¬ ¬ (0 : Int32) = 0 by decide), if_neg h]
            rw [if_neg (show ¬ l ≤ nI (zt_p E T i 0) from fun q => by rw [hx.mp q] at hbi; cases hbi), ev, zp_bs, zp_bs, an1, an2, mx1, nI_1]
            rfl) (by
          unfold fn_M_coin_l1
          dsimp only
          rw [hTd.2.2.2.2.1, if_neg (nI_nlt (Nat.le_refl _) (by omega)), hF, hG])
        exact h
      have mmost : ∀ k : Nat, k ≤ 20 → (if (¬ (¬ (if zj_any nb (zt_N E T) = true then (1 : Int32) else 0) = 0)) then (lI ((40 - (k : Int)) * F + (k : Int) * sec) : Int64) else (if (¬ (¬ (if zj_any b (zt_N E T) = true then (1 : Int32) else 0) = 0)) then (lI ((40 - (k : Int)) * sec + (k : Int) * G) : Int64) else (if lI ((40 - (k : Int)) * sec + (k : Int) * G) < lI ((40 - (k : Int)) * F + (k : Int) * sec) then lI ((40 - (k : Int)) * F + (k : Int) * sec) else lI ((40 - (k : Int)) * sec + (k : Int) * G)))) = lI (mo k) := fun k hk => by
        have zw1 := zj_wb hk Fb secb
        have zw2 := zj_wb hk secb Gb
        rw [mov]
        by_cases q1 : zj_any nb (zt_N E T) = true
        · rw [if_pos q1, if_neg (show ¬ ¬ ¬ (1 : Int32) = 0 by decide), if_neg (show ¬ ¬ zj_any nb (zt_N E T) = true from fun z => z q1)]
          by_cases q2 : zj_any b (zt_N E T) = true
          · rw [if_pos q2, if_neg (show ¬ ¬ ¬ (1 : Int32) = 0 by decide), if_neg (show ¬ ¬ zj_any b (zt_N E T) = true from fun z => z q2)]
            by_cases q3 : (40 - (k : Int)) * sec + (k : Int) * G < (40 - (k : Int)) * F + (k : Int) * sec
            · rw [if_pos ((lI_lt zw2 zw1).mpr q3), if_pos q3]
            · rw [if_neg (fun z => q3 ((lI_lt zw2 zw1).mp z)), if_neg q3]
          · rw [if_neg q2, if_pos (show ¬ ¬ (0 : Int32) = 0 by decide), if_pos q2]
        · rw [if_neg q1, if_pos (show ¬ ¬ (0 : Int32) = 0 by decide), if_pos q1]
      have mtr : ∀ k : Nat, k ≤ 20 → (((40 - ((2 * nI k)).toInt64) * (if (¬ (if l ≤ nI (zt_p E T t1 0) then (1 : Int32) else 0) = 0) then (lI X : Int64) else lI Y)) + ((nI k).toInt64 * (lI X + lI Y))) = lI (tr k) := fun k hk => by
        have e2 : (2 : Int32) * nI k = nI (2 * k) := nI_mul 2 k
        rw [e2, nL (by omega), nL (by omega), show (40 : Int64) = lI 40 by rfl, lI_sub, lI_add, lI_mul, trv]
        have ec : ((2 * k : Nat) : Int) = 2 * (k : Int) := by omega
        rw [ec]
        by_cases q : b t1 = true
        · rw [if_pos ((hfst t1 ht1).mpr q), if_pos (show ¬ (1 : Int32) = 0 by decide), if_pos q, lI_mul, lI_add, zj_tru]
        · rw [if_neg (fun z => q ((hfst t1 ht1).mp z)), if_neg (show ¬ ¬ (0 : Int32) = 0 by decide), if_neg q, lI_mul, lI_add, zj_tru']
      obtain ⟨tp, htp⟩ : ∃ tp : Nat → Int64, tp = fun k => if k = 0 then 0 else lI (mo 0) := ⟨_, rfl⟩
      have tpv : ∀ k, tp k = if k = 0 then 0 else lI (mo 0) := fun k => by rw [htp]
      have mhead : ∀ (i : Nat) (d : zw_Ct) (x : Option (((Int32 × zw_Ct) ⊕ (Int64 × zw_Ct)) ⊕ (Int64 × Int32 × zw_Ct))), i ≤ 20 → (if lI (tr i) < lI (mo i) then some (.inr (tp (i + 1), nI (i + 1), d)) else ((some (zw_wI d 71 8 0)).bind fun c60 => (fn_M_tell c60 (lI (tr i))).bind fun c61 => (fn_M_tell c61 (tp (i + 1))).bind fun c62 => some (.inl (.inl (nI i, c62))))) = x → fn_M_coin_l2 (lI F) (lI sec) (lI G) (if zj_any nb (zt_N E T) = true then 1 else 0) (if zj_any b (zt_N E T) = true then 1 else 0) (if l ≤ nI (zt_p E T t1 0) then (1 : Int32) else 0) (lI X) (lI Y) (tp i, nI i, d) = x := by
        intro i d x hi hx
        have ea : ((40 - (nI i).toInt64) * lI F) + ((nI i).toInt64 * lI sec) = lI ((40 - (i : Int)) * F + (i : Int) * sec) := by
          rw [nL (by omega), show (40 : Int64) = lI 40 by rfl, lI_sub, lI_mul, lI_mul, lI_add]
        have eb : ((nI i).toInt64 * lI G) + ((40 - (nI i).toInt64) * lI sec) = lI ((40 - (i : Int)) * sec + (i : Int) * G) := by
          rw [nL (by omega), show (40 : Int64) = lI 40 by rfl, lI_sub, lI_mul, lI_mul, lI_add, Int.add_comm]
        have et : (if nI i = 0 then some (lI (mo i)) else some (tp i)) = some (tp (i + 1)) := by
          rw [tpv (i + 1), if_neg (show ¬ i + 1 = 0 from Nat.succ_ne_zero i)]
          by_cases q : i = 0
          · rw [if_pos (show nI i = 0 by rw [q]; rfl), q]
          · rw [if_neg (nI_ne0 (by omega) (by omega)), tpv i, if_neg q]
        unfold fn_M_coin_l2
        dsimp only
        rw [if_pos (show nI i ≤ (20 : Int32) from nI_le (b := 20) (by omega) (by omega)), ea, eb, zp_bs, zp_bs, mmost i hi, zp_bs, et, zp_bs, mtr i hi, zp_bs, nI_1]
        exact hx
      have decF : fn_Chooser_decidesFirst c4 (nI t1) l = some (if l ≤ nI (zt_p E T t1 0) then (1 : Int32) else 0) := sp_decidesFirst hT4 ht1
      have hV4 : zr_V (54 + p) E (zt_N E T) V c4 := by unfold zr_V; rw [c41]; exact hV
      have wX : fn_Judge_worth c4 (54 + p) (nI t1) (nI t1) = some (lI X) := by rw [hX]; exact sp_worth hT hT4.2.1 hlen hV4 ht1 ht1
      have wY : fn_Judge_worth c4 (54 + p) (nI t2) (nI t2) = some (lI Y) := by rw [hY]; exact sp_worth hT hT4.2.1 hlen hV4 ht2 ht2
      have ways : fn_Chooser_findWays c1 (54 + p) l (nI t1) (nI t2) = some c4 := by
        unfold fn_Chooser_findWays
        rw [g1', zp_bs]
        dsimp only
        rw [i1, zp_bs]
        dsimp only
        rw [zp_bs, hc4]
      rcases zj_fst (fun k => decide (mo k ≤ tr k)) 21 with hno | ⟨k, hk, hbk, hfk⟩
      · have hall : ∀ k, k < 21 → tr k < mo k := fun k hk => by have := of_decide_eq_false (hno k hk); omega
        have hw := zp_det (f := fn_Chooser_tellCoin_l1 (if l ≤ nI (zt_p E T t1 0) then (1 : Int32) else 0) (lI X) (lI Y) l) (x := (.inr c4 : (Int32 × zw_Ct) ⊕ zw_Ct)) (fun i => (nI i, c4)) 21 0 (Nat.zero_le _) (by unfold zw_F; omega) (fun i _ hi => cstep i hi (hall i hi)) (by
          unfold fn_Chooser_tellCoin_l1
          dsimp only
          rw [if_neg (show ¬ nI 21 ≤ (20 : Int32) by decide)])
        have hw' : zw_whl (fn_Chooser_tellCoin_l1 (if l ≤ nI (zt_p E T t1 0) then (1 : Int32) else 0) (lI X) (lI Y) l) zw_F (0, c4) = some (.inr c4) := hw
        have hA49 : zr_A c1 (zw_wI c4 71 9 0) := hA4.wF (by decide)
        obtain ⟨d1, d2, d3, d4, d5, d6, d7⟩ := zo_laidX hTab hM hA4
        have hTd := d4.tab hTab
        have e72 : d1.1 72 (4 * t1) = nI (zt_p E T t1 0) := hTd.2.2.2.2.2 t1 ht1 0 (by omega)
        have hm := zp_det (f := fn_M_coin_l2 (lI F) (lI sec) (lI G) (if zj_any nb (zt_N E T) = true then 1 else 0) (if zj_any b (zt_N E T) = true then 1 else 0) (if l ≤ nI (zt_p E T t1 0) then (1 : Int32) else 0) (lI X) (lI Y)) (x := (.inr (tp 21, d1) : (Int32 × zw_Ct) ⊕ (Int64 × zw_Ct))) (fun i => (tp i, nI i, d1)) 21 0 (Nat.zero_le _) (by unfold zw_F; omega) (fun i _ hi => mhead i d1 _ (by omega) (by rw [if_pos ((lI_lt (ztr i (by omega)) (zmo i (by omega))).mpr (hall i hi))])) (by
          unfold fn_M_coin_l2
          dsimp only
          rw [if_neg (show ¬ nI 21 ≤ (20 : Int32) by decide)])
        have tp0 : tp 0 = 0 := by rw [tpv, if_pos rfl]
        have hm' : zw_whl (fn_M_coin_l2 (lI F) (lI sec) (lI G) (if zj_any nb (zt_N E T) = true then 1 else 0) (if zj_any b (zt_N E T) = true then 1 else 0) (if l ≤ nI (zt_p E T t1 0) then (1 : Int32) else 0) (lI X) (lI Y)) zw_F (0, 0, d1) = some (.inr (tp 21, d1)) := by
          rw [← tp0]; exact hm
        refine ⟨-2, c4, d1, ?_, ?_, zr_fin0 hR hRl d4 ((d5 61 (by decide) (by decide)).trans (by rw [c41])) (d7.trans (by rw [c41])) (by rw [d6]; exact m62 62 (by decide) (by decide)) (by rw [d6]; exact m62 75 (by decide) (by decide))⟩
        · rw [if_neg hc, zp_bs]
          unfold fn_Chooser_tellCoin
          rw [et, eo, ways, zp_bs, wX, zp_bs, wY, zp_bs, decF, zp_bs, hw', zp_bs]
          rfl
        · rw [zp_bs, zr_asked hTab hA49 _ (hisP _ hA49), zp_bs, if_neg (fun q => q hdec), d2, zp_bs, et, eo, nI_4', zp_aI (show 4 * t1 < 1820 by omega) (by omega), zp_bs, e72, zp_bs, sp_Mworth hT hTd.2.2 d3 ht1 ht1, zp_bs, sp_Mworth hT hTd.2.2 d3 ht2 ht2, zp_bs, mways d1 hTd d3, zp_bs]
          dsimp only
          rw [sp_Mbest hT hTd.2.2 d3 ht2, zp_bs, ← hsec, ← hX, ← hY, hm', zp_bs]
      · have hk1 : mo k ≤ tr k := of_decide_eq_true hbk
        have hall : ∀ i, i < k → tr i < mo i := fun i hi => by have := of_decide_eq_false (hfk i hi); omega
        obtain ⟨c5, a1, a2, a3, a4⟩ := zr_C.clear2 hA4
        obtain ⟨c6, a5, a6, a7, a8⟩ := a2.add2 (by decide) (lI (tr k))
        obtain ⟨c7, a9, a10, -, -⟩ := a6.add2 (by simp) (lI (mo 0))
        have hw := zp_det (f := fn_Chooser_tellCoin_l1 (if l ≤ nI (zt_p E T t1 0) then (1 : Int32) else 0) (lI X) (lI Y) l) (x := (.inl (nI k, c7) : (Int32 × zw_Ct) ⊕ zw_Ct)) (fun i => (nI i, c4)) k 0 (Nat.zero_le _) (by unfold zw_F; omega) (fun i _ hi => cstep i (by omega) (hall i hi)) (by
          have e0 : fn_Chooser_mostOfAny c6 l 0 = lI (mo 0) := cmo c6 (a6.2.tab hTab).2.1.2.1 (by rw [a8 68 (by decide), a4]) 0 (by omega)
          unfold fn_Chooser_tellCoin_l1
          dsimp only
          rw [if_pos (show nI k ≤ (20 : Int32) from nI_le (b := 20) (by omega) (by omega)), ctr k (by omega), zp_bs, cmo c4 hT4.2.1.2.1 rfl k (by omega), if_pos ((lI_le (zmo k (by omega)) (ztr k (by omega))).mpr hk1), a1, zp_bs, a5, zp_bs, e0, a9, zp_bs])
        have hw' : zw_whl (fn_Chooser_tellCoin_l1 (if l ≤ nI (zt_p E T t1 0) then (1 : Int32) else 0) (lI X) (lI Y) l) zw_F (0, c4) = some (.inl (nI k, c7)) := hw
        have hA79 : zr_A c1 (zw_wI c7 71 9 0) := a10.2.wF (by decide)
        obtain ⟨d1, d2, d3, d4, d5, d6⟩ := zo_laid hTab hM a10.2
        have hTd := d4.tab hTab
        have hD := zr_D.start d4 d5 d6
        have e72 : d1.1 72 (4 * t1) = nI (zt_p E T t1 0) := hTd.2.2.2.2.2 t1 ht1 0 (by omega)
        obtain ⟨d8, f1, f2, -⟩ := hD.tell (by decide) (lI (tr k))
        obtain ⟨d9, f3, f4, -⟩ := f2.tell (by simp) (lI (mo 0))
        have tpk : tp (k + 1) = lI (mo 0) := by rw [tpv, if_neg (by omega)]
        have hm := zp_det (f := fn_M_coin_l2 (lI F) (lI sec) (lI G) (if zj_any nb (zt_N E T) = true then 1 else 0) (if zj_any b (zt_N E T) = true then 1 else 0) (if l ≤ nI (zt_p E T t1 0) then (1 : Int32) else 0) (lI X) (lI Y)) (x := (.inl (nI k, d9) : (Int32 × zw_Ct) ⊕ (Int64 × zw_Ct))) (fun i => (tp i, nI i, d1)) k 0 (Nat.zero_le _) (by unfold zw_F; omega) (fun i _ hi => mhead i d1 _ (by omega) (by rw [if_pos ((lI_lt (ztr i (by omega)) (zmo i (by omega))).mpr (hall i hi))])) (mhead k d1 _ (by omega) (by rw [if_neg (fun z => by have := (lI_lt (ztr k (by omega)) (zmo k (by omega))).mp z; omega), zp_bs, f1, zp_bs, tpk, f3, zp_bs]))
        have tp0 : tp 0 = 0 := by rw [tpv, if_pos rfl]
        have hm' : zw_whl (fn_M_coin_l2 (lI F) (lI sec) (lI G) (if zj_any nb (zt_N E T) = true then 1 else 0) (if zj_any b (zt_N E T) = true then 1 else 0) (if l ≤ nI (zt_p E T t1 0) then (1 : Int32) else 0) (lI X) (lI Y)) zw_F (0, 0, d1) = some (.inl (nI k, d9)) := by
          rw [← tp0]; exact hm
        refine ⟨nI k, c7, d9, ?_, ?_, f4.fin hRl (by simp) a10.1⟩
        · rw [if_neg hc, zp_bs]
          unfold fn_Chooser_tellCoin
          rw [et, eo, ways, zp_bs, wX, zp_bs, wY, zp_bs, decF, zp_bs, hw', zp_bs]
          rfl
        · rw [zp_bs, zr_asked hTab hA79 _ (hisP _ hA79), zp_bs, if_neg (fun q => q hdec), d2, zp_bs, et, eo, nI_4', zp_aI (show 4 * t1 < 1820 by omega) (by omega), zp_bs, e72, zp_bs, sp_Mworth hT hTd.2.2 d3 ht1 ht1, zp_bs, sp_Mworth hT hTd.2.2 d3 ht2 ht2, zp_bs, mways d1 hTd d3, zp_bs]
          dsimp only
          rw [sp_Mbest hT hTd.2.2 d3 ht2, zp_bs, ← hsec, ← hX, ← hY, hm', zp_bs]
