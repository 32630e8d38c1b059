/-! minds, bribe -/
def zj_md (E : Nat) (pt : Nat → Nat → Nat) (V : Nat → Nat → Int32) (w t s : Nat) : Int := zs_sum (fun e => (pt t e : Int) * (if (V s e).toInt < 0 then (w : Int) * (V s e).toInt else (V s e).toInt)) E
theorem zj_md_b {E T N t s w : Nat} {pt : Nat → Nat → Nat} {V : Nat → Nat → Int32} (hT : zr_T E T N pt) (ht : t < N) (hw : w ≤ 9) : zb (zj_md E pt V w t s) := by
  obtain ⟨-, hE, -, hT12, -, -, hp⟩ := hT
  have h := zs_sum_bd (f := fun e => (pt t e : Int) * (if (V s e).toInt < 0 then (w : Int) * (V s e).toInt else (V s e).toInt)) (B := 231928233984) (n := E) (fun e he => by
    have h1 := hp t ht e (by omega)
    have h2 := i_bd (V s e)
    have h5 : -19327352832 ≤ (if (V s e).toInt < 0 then (w : Int) * (V s e).toInt else (V s e).toInt) ∧ (if (V s e).toInt < 0 then (w : Int) * (V s e).toInt else (V s e).toInt) ≤ 19327352832 := by
      split
      · have q1 := Int.mul_le_mul_of_nonneg_left h2.1 (show (0 : Int) ≤ (w : Int) by omega)
        have q2 := Int.mul_le_mul_of_nonneg_left h2.2 (show (0 : Int) ≤ (w : Int) by omega)
        omega
      · omega
    generalize (if (V s e).toInt < 0 then (w : Int) * (V s e).toInt else (V s e).toInt) = z at h5 ⊢
    have h4 : (0 : Int) ≤ (pt t e : Int) := by omega
    have q1 := Int.mul_le_mul_of_nonneg_left h5.1 h4
    have q2 := Int.mul_le_mul_of_nonneg_left h5.2 h4
    constructor
    · show -231928233984 ≤ (pt t e : Int) * z
      omega
    · show (pt t e : Int) * z ≤ 231928233984
      omega)
  have hE4 : (E : Int) ≤ 4 := by omega
  unfold zj_md
  constructor <;> omega
theorem zj_md_ite (x : Int32) (w : Nat) (hw : w ≤ 9) : (if lI x.toInt < 0 then lI x.toInt * lI (w : Int) else lI x.toInt) = lI (if x.toInt < 0 then (w : Int) * x.toInt else x.toInt) ∧ (if lI x.toInt < 0 then lI (w : Int) * lI x.toInt else lI x.toInt) = lI (if x.toInt < 0 then (w : Int) * x.toInt else x.toInt) := by
  have h := i_bd x
  have z0 : zb 0 := ⟨by decide, by decide⟩
  by_cases hc : x.toInt < 0
  · have k : lI x.toInt < (0 : Int64) := (lI_lt (b := 0) ⟨by omega, by omega⟩ z0).mpr hc
    rw [if_pos k, if_pos k, if_pos hc, lI_mul, lI_mul, Int.mul_comm]
    exact ⟨rfl, rfl⟩
  · have k : ¬ lI x.toInt < (0 : Int64) := fun q => hc ((lI_lt (b := 0) ⟨by omega, by omega⟩ z0).mp q)
    rw [if_neg k, if_neg k, if_neg hc]
    exact ⟨rfl, rfl⟩
theorem sp_minded {E T N a s t w : Nat} {pt : Nat → Nat → Nat} {V : Nat → Nat → Int32} {c : zw_Ct} (hT : zr_T E T N pt) (hS : zr_S E T N pt c) (ha : zw_len SH 0 a = some 1820) (hV : zr_V a E N V c) (hs : s < N) (ht : t < N) (hw : w ≤ 9) : fn_Lures_minded c a (nI s) (nI t) (nI w) = some (lI (zj_md E pt V w t s)) := by
  have hN := hT.2.2.2.2.2.1
  have hE4 := hT.2.1
  have h12 := hT.2.2.2.1
  have h := zp_det (f := fn_Lures_minded_l1 c a (nI s) (nI t) (nI w)) (x := lI (zj_md E pt V w t s)) (fun i => (lI (zj_md i pt V w t s), nI i)) E 0 (Nat.zero_le _) (by unfold zw_F; omega) (fun i _ hi => by
    have hp := hT.2.2.2.2.2.2 t ht i (by omega)
    unfold fn_Lures_minded_l1
    dsimp only
    rw [hS.1, if_pos (nI_lt hi (by omega)), nI_at, zp_dI ha (by omega) (by omega), zp_bs, zp_bs, sp_partOf hT hS ht (by omega), zp_bs, zp_bs, hV s hs i hi, iL (V s i), nL (show w < 2 ^ 31 by omega), nL (show pt t i < 2 ^ 31 by omega), (zj_md_ite (V s i) w hw).1, lI_mul, lI_add, nI_1]
    rfl) (by
    unfold fn_Lures_minded_l1
    dsimp only
    rw [hS.1, if_neg (nI_nlt (Nat.le_refl _) (by omega))])
  have h' : zw_whl (fn_Lures_minded_l1 c a (nI s) (nI t) (nI w)) zw_F (0, 0) = some (lI (zj_md E pt V w t s)) := h
  unfold fn_Lures_minded
  rw [h', zp_bs]
theorem sp_minding {E T N a t w : Nat} {pt : Nat → Nat → Nat} {V : Nat → Nat → Int32} {c : zw_Ct} (hT : zr_T E T N pt) (hS : zr_S E T N pt c) (ha : zw_len SH 0 a = some 1820) (hV : zr_V a E N V c) (ht : t < N) (hw : w ≤ 9) : ∃ c2, zw_whl (fn_Lures_tellMinding_l1 a (nI t) (nI w)) zw_F (0, c) = some c2 ∧ c2.1 = c.1 ∧ zr_Y N (zj_md E pt V w t) c2 := by
  have hN := hT.2.2.2.2.2.1
  obtain ⟨c2, h1, h2, h3⟩ := zp_detC (f := fn_Lures_tellMinding_l1 a (nI t) (nI w)) (fun i c => (nI i, c)) (fun i c' => c'.1 = c.1 ∧ zr_Y i (zj_md E pt V w t) c') (fun c => c) N 0 (Nat.zero_le _) (by unfold zw_F; omega) (fun i c' _ hi ⟨e1, e2⟩ => by
    have hS' : zr_S E T N pt c' := by unfold zr_S; rw [e1]; exact hS
    have hV' : zr_V a E N V c' := by unfold zr_V; rw [e1]; exact hV
    refine ⟨zw_wL c' 12 i (lI (zj_md E pt V w t i)), ?_, e1, fun s hs => ?_⟩
    · unfold fn_Lures_tellMinding_l1
      dsimp only
      rw [hS'.2.2.1, if_pos (nI_lt hi (by omega)), sp_minded hT hS' ha hV' hi ht hw, zp_bs, zp_uL (by omega) (by omega), zp_bs, nI_1]
    · by_cases e : s = i
      · rw [e, zw_wL_eq]
      · rw [zw_wL_at e]; exact e2 s (by omega)) (fun c' ⟨e1, e2⟩ => by
    unfold fn_Lures_tellMinding_l1
    dsimp only
    rw [show c'.1 1 2 = nI N by rw [e1]; exact hS.2.2.1, if_neg (nI_nlt (Nat.le_refl _) (by omega))]) c ⟨rfl, fun s hs => absurd hs (Nat.not_lt_zero s)⟩
  exact ⟨c2, h1, h2, h3⟩
/-- the Model's state ahead of saying i -/
def zj_mi (f : Nat → Int) (t i : Nat) : Int32 × Int64 × Int32 × Int32 := if i = 0 then (-1, 0, 0, 0) else (nI (zs_top f i), lI (f (zs_top f i)), nI (zs_cnt (fun s => decide (f s = f (zs_top f i))) i), if t < i ∧ f t = f (zs_top f i) then 1 else 0)
theorem sp_Mminds {E T N t w : Nat} {pt : Nat → Nat → Nat} {V : Nat → Nat → Int32} {d : zw_Ct} (hT : zr_T E T N pt) (hM : zr_M E T N pt d) (hV : zr_V 84 E N V d) (ht : t < N) (hw : w ≤ 9) : zw_whl (fn_M_minds_l1 d (nI t) (nI w)) zw_F (-1, 0, 0, 0, 0) = some (zj_mi (zj_md E pt V w t) t N) := by
  have hN := hT.2.2.2.2.2.1
  have hE4 := hT.2.1
  have h12 := hT.2.2.2.1
  have inner : ∀ s, s < N → zw_whl (fn_M_minds_l2 d (nI s) (nI t) (nI w)) zw_F (0, 0) = some (lI (zj_md E pt V w t s)) := fun s hs => by
    have h := zp_det (f := fn_M_minds_l2 d (nI s) (nI t) (nI w)) (x := lI (zj_md E pt V w t s)) (fun i => (lI (zj_md i pt V w t s), nI i)) E 0 (Nat.zero_le _) (by unfold zw_F; omega) (fun i _ hi => by
      have hp := hT.2.2.2.2.2.2 t ht i (by omega)
      unfold fn_M_minds_l2
      dsimp only
      rw [hM.1, if_pos (nI_lt hi (by omega)), nI_at', zp_aI (by omega) (by omega), zp_bs, zp_bs, nI_at', zp_aI (by omega) (by omega), zp_bs, zp_bs, hV s hs i hi, hM.2.2.2 t ht i (by omega), iL (V s i), nL (show w < 2 ^ 31 by omega), nL (show pt t i < 2 ^ 31 by omega), (zj_md_ite (V s i) w hw).2, lI_mul, lI_add, nI_1]
      rfl) (by
      unfold fn_M_minds_l2
      dsimp only
      rw [hM.1, if_neg (nI_nlt (Nat.le_refl _) (by omega))])
    exact h
  obtain ⟨f, hf⟩ : ∃ f : Nat → Int, f = zj_md E pt V w t := ⟨_, rfl⟩
  have zf : ∀ s, zb (f s) := fun s => by rw [hf]; exact zj_md_b hT ht hw
  rw [← hf]
  have h := zp_det (f := fn_M_minds_l1 d (nI t) (nI w)) (x := zj_mi f t N) (fun i => ((zj_mi f t i).1, (zj_mi f t i).2.1, (zj_mi f t i).2.2.1, (zj_mi f t i).2.2.2, nI i)) N 0 (Nat.zero_le _) (by unfold zw_F; omega) (fun i _ hi => by
    have hn1 : zj_mi f t (i + 1) = (nI (zs_top f (i + 1)), lI (f (zs_top f (i + 1))), nI (zs_cnt (fun s => decide (f s = f (zs_top f (i + 1)))) (i + 1)), if t < i + 1 ∧ f t = f (zs_top f (i + 1)) then 1 else 0) := if_neg (Nat.succ_ne_zero i)
    have hcs : ∀ z, zs_cnt (fun s => decide (f s = z)) (i + 1) = zs_cnt (fun s => decide (f s = z)) i + if decide (f i = z) = true then 1 else 0 := fun _ => rfl
    unfold fn_M_minds_l1
    dsimp only
    rw [hM.2.2.1, if_pos (nI_lt hi (by omega)), inner i hi, ← hf, zp_bs, nI_1, hn1]
    dsimp only
    by_cases h0 : i = 0 ∨ f (zs_top f i) < f i
    · -- a new greatest one
      have htop : zs_top f (i + 1) = i := by
        rw [zs_top_s]
        rcases h0 with h0 | h0
        · subst h0
          show (if f 0 < f 0 then 0 else 0) = 0
          split <;> rfl
        · rw [if_pos h0]
      have hc0 : zs_cnt (fun s => decide (f s = f i)) i = 0 := by
        rcases h0 with h0 | h0
        · subst h0; rfl
        · have : ∀ j, j < i → (decide (f j = f i)) = false := fun j hj => decide_eq_false (fun q => by have := zs_top_max f hj; omega)
          have z : ∀ n, n ≤ i → zs_cnt (fun s => decide (f s = f i)) n = 0 := by
            intro n
            induction n with
            | zero => intro _; rfl
            | succ n ih =>
              intro hn
              show zs_cnt (fun s => decide (f s = f i)) n + (if decide (f n = f i) = true then 1 else 0) = 0
              rw [ih (by omega), this n (by omega)]
              rfl
          exact z i (Nat.le_refl _)
      have hcond : ((zj_mi f t i).1 = -1 ∨ (zj_mi f t i).2.1 < lI (f i)) := by
        rcases h0 with h0 | h0
        · subst h0; exact Or.inl rfl
        · by_cases hi0 : i = 0
          · subst hi0; exact Or.inl rfl
          · have : zj_mi f t i = _ := if_neg hi0
            rw [this]
            exact Or.inr ((lI_lt (zf _) (zf _)).mpr h0)
      rw [if_pos hcond, zp_bs]
      dsimp only
      rw [if_neg (fun q => by have := (lI_lt (zf _) (zf _)).mp q; omega), zp_bs, htop, hcs, hc0, if_pos (decide_eq_true rfl)]
      have et : (if ((¬ (0 : Int32) = 0) ∨ (nI i = nI t)) then (1 : Int32) else 0) = if t < i + 1 ∧ f t = f i then 1 else 0 := by
        by_cases e : i = t
        · rw [if_pos (Or.inr (by rw [e])), if_pos ⟨by omega, by rw [e]⟩]
        · rw [if_neg (fun q => q.elim (fun z => z rfl) (fun z => e ((nI_eq (by omega) (by omega)).mp z))), if_neg]
          rintro ⟨q1, q2⟩
          rcases h0 with h0 | h0
          · omega
          · have := zs_top_max f (show t < i by omega); omega
      rw [et]
      rfl
    · have hi0 : ¬ i = 0 := fun q => h0 (Or.inl q)
      have hle : f i ≤ f (zs_top f i) := by
        rcases Int.lt_or_le (f (zs_top f i)) (f i) with q | q
        · exact absurd (Or.inr q) h0
        · exact q
      have htop : zs_top f (i + 1) = zs_top f i := by rw [zs_top_s, if_neg (by omega)]
      have hmi : zj_mi f t i = (nI (zs_top f i), lI (f (zs_top f i)), nI (zs_cnt (fun s => decide (f s = f (zs_top f i))) i), if t < i ∧ f t = f (zs_top f i) then 1 else 0) := if_neg hi0
      have hk := zs_top_lt f (n := i) (by omega)
      rw [hmi, htop, hcs]
      dsimp only
      rw [if_neg (fun q => q.elim (fun z => nI_nm1 (by omega) z) (fun z => by have := (lI_lt (zf _) (zf _)).mp z; omega)), zp_bs]
      dsimp only
      by_cases he : f i = f (zs_top f i)
      · rw [if_neg (fun q => by have := (lI_lt (zf _) (zf _)).mp q; omega), zp_bs, if_pos (decide_eq_true he), nI_1]
        have et : (if ((¬ (if t < i ∧ f t = f (zs_top f i) then (1 : Int32) else 0) = 0) ∨ (nI i = nI t)) then (1 : Int32) else 0) = if t < i + 1 ∧ f t = f (zs_top f i) then 1 else 0 := by
          by_cases e : i = t
          · rw [if_pos (Or.inr (by rw [e])), if_pos ⟨by omega, by rw [← e]; exact he⟩]
          · by_cases q : t < i ∧ f t = f (zs_top f i)
            · rw [if_pos q, if_pos (Or.inl (by decide)), if_pos ⟨by omega, q.2⟩]
            · rw [if_neg q, if_neg (fun z => z.elim (fun y => y rfl) (fun y => e ((nI_eq (by omega) (by omega)).mp y))), if_neg (fun z => q ⟨by omega, z.2⟩)]
        rw [et]
      · rw [if_pos ((lI_lt (zf _) (zf _)).mpr (by omega)), if_neg (fun q => he (of_decide_eq_true q))]
        have et : (if t < i ∧ f t = f (zs_top f i) then (1 : Int32) else 0) = if t < i + 1 ∧ f t = f (zs_top f i) then 1 else 0 := by
          by_cases q : t < i ∧ f t = f (zs_top f i)
          · rw [if_pos q, if_pos ⟨by omega, q.2⟩]
          · rw [if_neg q, if_neg (fun z => by
              by_cases e : t = i
              · exact he (by have z2 := z.2; rw [e] at z2; exact z2)
              · exact q ⟨by omega, z.2⟩)]
        rw [et]
        rfl) (by
    unfold fn_M_minds_l1
    dsimp only
    rw [hM.2.2.1, if_neg (nI_nlt (Nat.le_refl _) (by omega))])
  exact h
theorem zo_minds : zq_minds zr_Rel := by
  intro n c hn hRel a t w
  unfold fn_P_minds fn_M_minds
  have ww : fn_M_in w.toInt64 1 9 = fn_P_within w 1 9 := in_within w 1 9
  rw [ww]
  rcases zo_pay hRel a with ⟨h1, h2⟩ | ⟨p, E, T, V, c1, hp, rfl, h1, hR, hRl, hV, hM, hlen, hisP⟩
  · refine ⟨-1, c, zw_wI c 71 9 0, ?_, ?_, zr_thr hRel⟩
    · rw [h1, zp_bs]
      dsimp only
      rw [if_pos (Or.inl (Or.inl rfl))]
    · rw [zp_bs, h2, zp_bs, if_pos (Or.inl (Or.inl (by decide)))]
  · have hTab := hRl.2.2.1
    have hT := zt_T hTab.1
    have hN : zt_N E T ≤ 455 := hT.2.2.2.2.2.1
    have hN2 : 2 ≤ zt_N E T := hT.2.2.2.2.1
    have hRel1 : zr_Rel n c1 := ⟨hR, E, T, hRl⟩
    rw [h1, zp_bs]
    dsimp only
    by_cases hc : ((((some (54 + p) : Option Nat) = none) ∨ (¬ (¬ (fn_Sayings_has c1 t) = 0))) ∨ (¬ (¬ (fn_P_within w 1 9) = 0)))
    · have hA9 : zr_A c1 (zw_wI c1 71 9 0) := zr_A.rf.wF (by decide)
      refine ⟨-1, c1, zw_wI c1 71 9 0, by rw [if_pos hc], ?_, zr_thr hRel1⟩
      rw [zp_bs, hisP _ hA9, zp_bs, zr_isSaying (hA9.tab hTab), ← zr_has hTab, if_pos]
      rcases hc with (h | h) | h
      · cases h
      · exact Or.inl (Or.inr h)
      · exact Or.inr h
    · obtain ⟨tj, htj, rfl⟩ := has_n (zt_N31 hTab.1) (s := t) (fun q => hc (Or.inl (Or.inr (fun z => z (by rw [zr_has hTab]; exact q)))))
      have hw19 := within_1 (a := w) (lo := 1) (hi := 9) (fun q => hc (Or.inr (fun z => z q)))
      obtain ⟨wj, hwj, rfl⟩ := within_n (a := w) (m := 9) (hi := 9) rfl (by omega) ⟨by
        have h1 := Int32.le_iff_toInt_le.mp hw19.1
        have e1 : (1 : Int32).toInt = 1 := by rfl
        have e0 : (0 : Int32).toInt = 0 := by rfl
        rw [Int32.le_iff_toInt_le, e0]
        rw [e1] at h1
        omega, hw19.2⟩
      obtain ⟨f, hf⟩ : ∃ f : Nat → Int, f = zj_md E (zt_p E T) V wj tj := ⟨_, rfl⟩
      have zf : ∀ s, s < zt_N E T → zb (f s) := fun s _ => by rw [hf]; exact zj_md_b hT htj hwj
      obtain ⟨k, hk⟩ : ∃ k, k = zs_top f (zt_N E T) := ⟨_, rfl⟩
      have hkN : k < zt_N E T := by rw [hk]; exact zs_top_lt _ (by omega)
      obtain ⟨c2, g1, g2, g3⟩ := sp_minding hT hTab.2.1 hlen hV htj hwj
      rw [← hf] at g3
      have hA2 : zr_A c1 c2 := zr_A.eq g2
      have htop : fn_Tally_top c2 = some (nI k) := by
        unfold fn_Tally_top
        rw [sp_top (by omega) hN (hA2.tab hTab).2.1.2.2.1 g3 zf, zp_bs, hk]
      have hb := zs_w_bd (V := V) hT (s := k) htj
      have hT12 := hTab.1.2.2.2
      have hT1 := hTab.1.2.2.1
      obtain ⟨q, r, hq1, hq2⟩ := sp_frac (u := zs_w E (zt_p E T) V k tj) (by omega) (by omega) (m := T) hT1 (by omega)
      obtain ⟨cn, hcn⟩ : ∃ cn, cn = zs_cnt (fun s => decide (f s = f k)) (zt_N E T) := ⟨_, rfl⟩
      obtain ⟨c3, a1, a2, b0⟩ := zr_C.clear hA2
      have hY3 : zr_Y (zt_N E T) f c3 := by unfold zr_Y; rw [b0]; exact g3
      have hcnt : fn_Tally_howMany c3 (lI (f k)) = some (nI cn) := by rw [sp_howMany hN (a2.2.tab hTab).2.1.2.2.1 hY3 zf (zf k hkN), hcn]
      obtain ⟨c4, a3, a4, b1⟩ := a2.add (by decide) (nI cn).toInt64
      have hY4 : zr_Y (zt_N E T) f c4 := by unfold zr_Y; rw [b1]; exact hY3
      obtain ⟨c5, a5, a6, b2⟩ := a4.add (by simp) (if lI (f tj) = lI (f k) then (1 : Int64) else 0)
      obtain ⟨c6, a7, a8, a9, -⟩ := hq1 _ c5 a6.1 (by simp)
      have hA6 : zr_A c1 c6 := a6.2.tr (zr_A.of61 a9)
      have hA69 : zr_A c1 (zw_wI c6 71 9 0) := hA6.wF (by decide)
      obtain ⟨d1, d2, d3, d4, d5, d6⟩ := zo_laid hTab hM hA6
      have hD := zr_D.start d4 d5 d6
      have hm := sp_Mminds hT (d4.tab hTab).2.2 d3 htj hwj
      have hmi : zj_mi f tj (zt_N E T) = (nI k, lI (f k), nI cn, if tj < zt_N E T ∧ f tj = f k then 1 else 0) := by
        rw [hcn, hk]
        exact if_neg (by omega)
      rw [← hf, hmi] at hm
      obtain ⟨e1, f1, f2, f20⟩ := hD.tell (by decide) (nI cn).toInt64
      obtain ⟨e2, f3, f4, f40⟩ := f2.tell (by simp) (if lI (f tj) = lI (f k) then (1 : Int64) else 0)
      obtain ⟨e3, f5, f6, f7, f8, f9⟩ := hq2 _ e2 f4.1 (by simp)
      have hV84 : zr_V 84 E (zt_N E T) V e2 := fun s hs e he => by rw [f40 84 (by decide), f20 84 (by decide), zw_wI_ne (by decide)]; exact d3 s hs e he
      have hTe := f4.2.1.tab hTab
      have hDe : zr_D ((([] ++ [(nI cn).toInt64]) ++ [if lI (f tj) = lI (f k) then (1 : Int64) else 0]) ++ [q] ++ [r]) c1 c6 e3 := by
        refine ⟨f6, f4.2.1.tr (zr_A.of71 f7 (fun j hj => f8 j (fun e => hj (by rw [e]; decide)))), (f7 61 (by decide)).trans ?_, (f9 62 (by decide)).trans f4.2.2.2⟩
        exact f4.2.2.1
      refine ⟨nI k, c6, e3, ?_, ?_, hDe.fin hRl (by simp) a8⟩
      · rw [if_neg hc, zp_bs]
        unfold fn_Lures_tellMinding
        rw [g1, zp_bs, htop, zp_bs, a1, zp_bs, zp_aL (by omega) (by omega), zp_bs, hY3 k hkN, hcnt, zp_bs, a3, zp_bs, zp_aL (by omega) (by omega), zp_bs, zp_aL (by omega) (by omega), zp_bs, hY4 k hkN, hY4 tj htj, a5, zp_bs, sp_worth hT (a6.2.tab hTab).2.1 hlen (a6.2.V hp hV) hkN htj, zp_bs, (a6.2.tab hTab).2.1.2.1, nL (by omega), a7, zp_bs, zp_bs]
      · have ei : (if ¬ (if tj < zt_N E T ∧ f tj = f k then (1 : Int32) else 0) = 0 then (1 : Int64) else 0) = if lI (f tj) = lI (f k) then (1 : Int64) else 0 := by
          by_cases h : f tj = f k
          · rw [if_pos (show tj < zt_N E T ∧ f tj = f k from ⟨htj, h⟩), if_pos (by decide), if_pos (by rw [h])]
          · rw [if_neg (show ¬ (tj < zt_N E T ∧ f tj = f k) from fun q => h q.2), if_neg (fun q => q rfl), if_neg (fun q => h ((lI_eq (zf tj htj) (zf k hkN)).mp q))]
        rw [zp_bs, hisP _ hA69, zp_bs, zr_isSaying (hA69.tab hTab), ← zr_has hTab, if_neg (by
          rintro ((h | h) | h)
          · exact h (by decide)
          · exact hc (Or.inl (Or.inr h))
          · exact hc (Or.inr h)), d2, zp_bs, hm, zp_bs]
        dsimp only
        rw [zp_bs, f1, zp_bs, ei, f3, zp_bs, sp_Mworth hT hTe.2.2 hV84 hkN htj, zp_bs, hTe.2.2.2.1, nL (by omega), f5, zp_bs]
