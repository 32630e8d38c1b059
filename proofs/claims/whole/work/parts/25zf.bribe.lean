/-! bribe -/
def zj_gv (E T : Nat) (e : Nat) (l : Int32) (g : Nat) (s : Nat) : Int := if l ≤ nI (zt_p E T s e) then (g : Int) * (T : Int) else 0
theorem zj_gv_b {E T e g s : Nat} {l : Int32} (hT : T ≤ 12) (hg : g ≤ 9999) : 0 ≤ zj_gv E T e l g s ∧ zj_gv E T e l g s ≤ 119988 := by
  unfold zj_gv
  have h1 := Int.mul_le_mul_of_nonneg_left (show (T : Int) ≤ 12 by omega) (show (0 : Int) ≤ (g : Int) by omega)
  have h2 := Int.mul_le_mul_of_nonneg_left (show (0 : Int) ≤ T by omega) (show (0 : Int) ≤ (g : Int) by omega)
  split <;> omega
def zj_fr (mo du : Nat → Int) : Nat → Int
  | 0 => 1
  | s + 1 => if 0 < mo s ∧ 0 < du s then (if (du s + mo s - 1) / mo s < zj_fr mo du s then zj_fr mo du s else (du s + mo s - 1) / mo s) else zj_fr mo du s
def zj_to (mo du : Nat → Int) : Nat → Int
  | 0 => 9999
  | s + 1 => if 0 < du s ∧ mo s ≤ 0 then 0 else if mo s < 0 then (if (-du s) / (-mo s) < zj_to mo du s then (-du s) / (-mo s) else zj_to mo du s) else zj_to mo du s
theorem zj_fr_s (mo du : Nat → Int) (s : Nat) : zj_fr mo du (s + 1) = if 0 < mo s ∧ 0 < du s then (if (du s + mo s - 1) / mo s < zj_fr mo du s then zj_fr mo du s else (du s + mo s - 1) / mo s) else zj_fr mo du s := rfl
theorem zj_to_s (mo du : Nat → Int) (s : Nat) : zj_to mo du (s + 1) = if 0 < du s ∧ mo s ≤ 0 then 0 else if mo s < 0 then (if (-du s) / (-mo s) < zj_to mo du s then (-du s) / (-mo s) else zj_to mo du s) else zj_to mo du s := rfl
theorem zj_fr_b {mo du : Nat → Int} : ∀ n : Nat, (∀ s, s < n → mo s ≤ 1000000000000 ∧ du s ≤ 1000000) → 1 ≤ zj_fr mo du n ∧ zj_fr mo du n ≤ 2000000000000
  | 0, _ => ⟨Int.le_refl _, by show (1 : Int) ≤ 2000000000000; omega⟩
  | n + 1, h => by
    have ih := zj_fr_b (mo := mo) (du := du) n (fun s hs => h s (by omega))
    have hn := h n (by omega)
    rw [zj_fr_s]
    by_cases hc : 0 < mo n ∧ 0 < du n
    · have h2 := Int.ediv_le_self (mo n) (show 0 ≤ du n + mo n - 1 by omega)
      rw [if_pos hc]
      split <;> omega
    · rw [if_neg hc]; exact ih
theorem zj_to_b {mo du : Nat → Int} : ∀ n : Nat, 0 ≤ zj_to mo du n ∧ zj_to mo du n ≤ 9999
  | 0 => ⟨by show (0 : Int) ≤ 9999; omega, Int.le_refl _⟩
  | n + 1 => by
    have ih := zj_to_b (mo := mo) (du := du) n
    rw [zj_to_s]
    by_cases hc : 0 < du n ∧ mo n ≤ 0
    · rw [if_pos hc]; omega
    · rw [if_neg hc]
      by_cases hd : mo n < 0
      · rw [if_pos hd]
        have h0 : 0 ≤ (-du n) / (-mo n) := Int.ediv_nonneg (by omega) (by omega)
        split <;> omega
      · rw [if_neg hd]; exact ih
theorem zj_to_0 {mo du : Nat → Int} {k : Nat} (h : 0 < du k ∧ mo k ≤ 0) : ∀ n : Nat, k < n → zj_to mo du n = 0
  | n + 1, hk => by
    rw [zj_to_s]
    by_cases e : k = n
    · rw [← e, if_pos h]
    · have ih := zj_to_0 h n (by omega)
      by_cases hc : 0 < du n ∧ mo n ≤ 0
      · rw [if_pos hc]
      · rw [if_neg hc, ih]
        by_cases hd : mo n < 0
        · rw [if_pos hd]
          have h0 : 0 ≤ (-du n) / (-mo n) := Int.ediv_nonneg (by omega) (by omega)
          rw [if_neg (by omega)]
        · rw [if_neg hd]
/-- both below 0 -/
theorem lI_divn {a b : Int} (ha : a ≤ 0) (ha2 : -1000000000000 ≤ a) (hb : b < 0) (hb2 : -1000000000000 ≤ b) : lI a / lI b = lI ((-a) / (-b)) := by
  have h0 : 0 ≤ (-a) / (-b) := Int.ediv_nonneg (by omega) (by omega)
  have h1 : (-a) / (-b) ≤ -a := Int.ediv_le_self (-b) (by omega)
  apply Int64.toInt_inj.mp
  rw [Int64.toInt_div, lI_toInt ⟨by omega, by omega⟩, lI_toInt ⟨by omega, by omega⟩, lI_toInt ⟨by omega, by omega⟩, ← Int.neg_tdiv_neg, Int.tdiv_eq_ediv_of_nonneg (by omega)]
  exact Int.bmod_eq_of_le (by omega) (by omega)
theorem sp_cut {a b : Int} (hb : zb b) (h : b ≠ 0) : fn_P_cut (lI a) (lI b) = some (lI a / lI b) := by
  unfold fn_P_cut zw_dvL
  rw [if_neg (lI_ne0 hb h), if_neg (lI_ne0 hb h), zp_bs, zp_bs]
theorem sp_dvL {a b : Int} (hb : zb b) (h : b ≠ 0) : zw_dvL (lI a) (lI b) = some (lI a / lI b) := by
  unfold zw_dvL
  rw [if_neg (lI_ne0 hb h)]
theorem sp_bribeFor {E T e g s : Nat} {l : Int32} {c : zw_Ct} (hTab : zr_Tab E T c) (hs : s < zt_N E T) (he : e < E) (h4 : c.1 63 4 = nI e) (h5 : c.1 63 5 = l) (h6 : c.1 63 6 = nI g) (hg : g ≤ 9999) : fn_Lures_bribeFor c (nI s) = some (lI (zj_gv E T e l g s)) := by
  have hT := zt_T hTab.1
  have hE4 := hTab.1.2.1
  have hT12 := hTab.1.2.2.2
  unfold fn_Lures_bribeFor zj_gv
  rw [h4, h5, h6, sp_partOf hT hTab.2.1 hs (by omega), zp_bs, zp_bs, hTab.2.1.2.1, nL (by omega), nL (by omega), lI_mul]
  by_cases hc : l ≤ nI (zt_p E T s e)
  · rw [if_pos hc, if_pos (by decide), if_pos hc]
  · rw [if_neg hc, if_neg (fun q => q rfl), if_neg hc]
    rfl
theorem sp_withGift {E T e g s t k : Nat} {l : Int32} {V : Nat → Nat → Int32} {d : zw_Ct} (hTab : zr_Tab E T d) (hV : zr_V 84 E (zt_N E T) V d) (hs : s < zt_N E T) (ht : t < zt_N E T) (he : e < E) (hg : g ≤ 9999) : fn_M_withGift d (lI (k : Int)) (nI s) (nI t) (nI e) l (nI g) = some (lI ((k : Int) * zs_w E (zt_p E T) V s t + zj_gv E T e l g s)) := by
  have hT := zt_T hTab.1
  have hE4 := hTab.1.2.1
  have hT12 := hTab.1.2.2.2
  have hN : zt_N E T ≤ 455 := hT.2.2.2.2.2.1
  unfold fn_M_withGift zj_gv
  rw [sp_Mworth hT hTab.2.2 hV hs ht, zp_bs, nI_at', zp_aI (by omega) (by omega), zp_bs, hTab.2.2.2.2.2 s hs e (by omega), hTab.2.2.2.1, nL (by omega), nL (by omega), lI_mul, lI_mul]
  by_cases hc : l ≤ nI (zt_p E T s e)
  · rw [if_pos hc, if_pos hc, lI_add, Int.mul_comm (T : Int)]
  · rw [if_neg hc, if_neg hc, show (0 : Int64) = lI 0 by rfl, lI_add]
theorem zo_bribe : zq_bribe zr_Rel := by
  intro n c hn hRel a t e l g
  unfold fn_P_bribe fn_M_bribe
  have w1 : fn_M_in l.toInt64 0 12 = fn_P_within l 0 12 := in_within l 0 12
  have w2 : fn_M_in g.toInt64 0 9999 = fn_P_within g 0 9999 := in_within g 0 9999
  rw [w1, w2]
  rcases zo_pay hRel a with ⟨h1, h2⟩ | ⟨p, E, T, V, c1, hp, rfl, h1, hR, hRl, hV, hM, hlen, hisP⟩
  · refine ⟨-1, c, zw_wI c 71 9 0, ?_, ?_, zr_thr hRel⟩
    · rw [h1, zp_bs]
      dsimp only
      rw [if_pos (Or.inl (Or.inl rfl))]
    · rw [zp_bs, h2, zp_bs, if_pos (Or.inl (Or.inl (Or.inl (Or.inl (by decide)))))]
  · have hTab := hRl.2.2.1
    have hT := zt_T hTab.1
    have hN : zt_N E T ≤ 455 := hT.2.2.2.2.2.1
    have hN2 : 2 ≤ zt_N E T := hT.2.2.2.2.1
    have hE4 := hTab.1.2.1
    have hT12 := hTab.1.2.2.2
    have hRel1 : zr_Rel n c1 := ⟨hR, E, T, hRl⟩
    rw [h1, zp_bs]
    dsimp only
    have hA9 : zr_A c1 (zw_wI c1 71 9 0) := zr_A.rf.wF (by decide)
    by_cases hc : ((((some (54 + p) : Option Nat) = none) ∨ (¬ (¬ (fn_Sayings_has c1 t) = 0))) ∨ (¬ (¬ (fn_Sayings_hasEvent c1 e) = 0)))
    · refine ⟨-1, c1, zw_wI c1 71 9 0, by rw [if_pos hc], ?_, zr_thr hRel1⟩
      rw [zp_bs, hisP _ hA9, zp_bs, zr_isSaying (hA9.tab hTab), zr_isEvent (hA9.tab hTab), ← zr_has hTab, ← zr_hasE hTab, if_pos]
      rcases hc with (h | h) | h
      · cases h
      · exact Or.inl (Or.inl (Or.inl (Or.inr h)))
      · exact Or.inl (Or.inl (Or.inr h))
    rw [if_neg hc]
    by_cases hc2 : ((¬ (¬ (fn_P_within l 0 12) = 0)) ∨ (¬ (¬ (fn_P_within g 0 9999) = 0)))
    · refine ⟨-1, c1, zw_wI c1 71 9 0, by rw [if_pos hc2], ?_, zr_thr hRel1⟩
      rw [zp_bs, hisP _ hA9, zp_bs, if_pos]
      rcases hc2 with h | h
      · exact Or.inl (Or.inr h)
      · exact Or.inr h
    obtain ⟨tj, htj, rfl⟩ := has_n (zt_N31 hTab.1) (s := t) (fun q => hc (Or.inl (Or.inr (fun z => z (by rw [zr_has hTab]; exact q)))))
    obtain ⟨ej, hej, rfl⟩ := has_n (N := E) (by omega) (s := e) (fun q => hc (Or.inr (fun z => z (by rw [zr_hasE hTab]; exact q))))
    obtain ⟨gj, hgj, rfl⟩ := within_n (m := 9999) rfl (by omega) (within_1 (a := g) (lo := 0) (hi := 9999) (fun q => hc2 (Or.inr (fun z => z q))))
    rw [if_neg hc2]
    obtain ⟨b, hb⟩ : ∃ b : Nat → Int, b = zj_gv E T ej l gj := ⟨_, rfl⟩
    have bb : ∀ s, 0 ≤ b s ∧ b s ≤ 119988 := fun s => by rw [hb]; exact zj_gv_b hT12 hgj
    obtain ⟨wo, hwo⟩ : ∃ wo : Nat → Int, wo = fun s => zs_w E (zt_p E T) V s tj := ⟨_, rfl⟩
    have wb : ∀ s, -103079215104 ≤ wo s ∧ wo s ≤ 103079215104 := fun s => by rw [hwo]; exact zs_w_bd hT htj
    obtain ⟨mo, hmo⟩ : ∃ mo : Nat → Int, mo = fun s => wo tj - wo s := ⟨_, rfl⟩
    obtain ⟨du, hdu⟩ : ∃ du : Nat → Int, du = fun s => b s - b tj := ⟨_, rfl⟩
    have mov : ∀ s, mo s = wo tj - wo s := fun s => by rw [hmo]
    have duv : ∀ s, du s = b s - b tj := fun s => by rw [hdu]
    have mob : ∀ s, -206158430208 ≤ mo s ∧ mo s ≤ 206158430208 := fun s => by have := wb s; have := wb tj; rw [mov]; omega
    have dub : ∀ s, -119988 ≤ du s ∧ du s ≤ 119988 := fun s => by have := bb s; have := bb tj; rw [duv]; omega
    have frb : ∀ i, 1 ≤ zj_fr mo du i ∧ zj_fr mo du i ≤ 2000000000000 := fun i => zj_fr_b i (fun s _ => by have := mob s; have := dub s; omega)
    have tob : ∀ i, 0 ≤ zj_to mo du i ∧ zj_to mo du i ≤ 9999 := fun i => zj_to_b i
    obtain ⟨f, hf⟩ : ∃ f : Nat → Int, f = fun s => wo s + b s := ⟨_, rfl⟩
    have fv : ∀ s, f s = wo s + b s := fun s => by rw [hf]
    have zf : ∀ s, zb (f s) := fun s => by have := wb s; have := bb s; rw [fv]; exact ⟨by omega, by omega⟩
    -- the class's offer and cleared row
    obtain ⟨co, hco⟩ : ∃ co, co = zw_wI (zw_wI (zw_wI c1 63 4 (nI ej)) 63 5 l) 63 6 (nI gj) := ⟨_, rfl⟩
    have hoff : fn_Lures_offer c1 (nI ej) l (nI gj) = some co := by rw [hco]; rfl
    have hAo : zr_A c1 co := by rw [hco]; exact ((zr_A.rf.wI (by decide) (by decide)).wI (by decide) (by decide)).wI (by decide) (by decide)
    have o4 : co.1 63 4 = nI ej := by rw [hco, zw_wI_at (by decide), zw_wI_at (by decide), zw_wI_eq]
    have o5 : co.1 63 5 = l := by rw [hco, zw_wI_at (by decide), zw_wI_eq]
    have o6 : co.1 63 6 = nI gj := by rw [hco, zw_wI_eq]
    have hcl : fn_Row_clear co = some (zw_wI co 61 1 0) := rfl
    obtain ⟨cr, hcr⟩ : ∃ cr, cr = zw_wI co 61 1 0 := ⟨_, rfl⟩
    rw [← hcr] at hcl
    have hAr : zr_A c1 cr := by rw [hcr]; exact hAo.wI (by decide) (by decide)
    have hCr : zr_C [] c1 cr := ⟨by rw [hcr]; exact ⟨zw_wI_eq, fun i hi => by simp at hi⟩, hAr⟩
    have r63 : cr.1 63 = co.1 63 := by rw [hcr]; exact zw_wI_ne (by decide)
    have hbr : ∀ d : zw_Ct, zr_A c1 d → d.1 63 = co.1 63 → ∀ s, s < zt_N E T → fn_Lures_bribeFor d (nI s) = some (lI (b s)) := fun d hA h63 s hs => by
      rw [hb]; exact sp_bribeFor (hA.tab hTab) hs hej (by rw [h63]; exact o4) (by rw [h63]; exact o5) (by rw [h63]; exact o6) hgj
    have hwc : ∀ d : zw_Ct, zr_A c1 d → ∀ s, s < zt_N E T → fn_Judge_worth d (54 + p) (nI s) (nI tj) = some (lI (wo s)) := fun d hA s hs => by
      rw [hwo]; exact sp_worth hT (hA.tab hTab).2.1 hlen (hA.V hp hV) hs htj
    have hSr := (hAr.tab hTab).2.1.2.2.1
    -- the class's step of the times, where it does not end
    have step : ∀ i, i < zt_N E T → ¬ (mo i = 0 ∧ 0 < du i) → fn_Lures_timesAgainstBribe_l1 cr (54 + p) (nI tj) (lI (wo tj)) (lI (zj_fr mo du i), lI (zj_to mo du i), nI i) = some (.inr (lI (zj_fr mo du (i + 1)), lI (zj_to mo du (i + 1)), nI (i + 1))) := by
      intro i hi hno
      have m1 := mob i
      have d1 := dub i
      have f1 := frb i
      have t1 := tob i
      have zm : zb (mo i) := ⟨by omega, by omega⟩
      have zd : zb (du i) := ⟨by omega, by omega⟩
      unfold fn_Lures_timesAgainstBribe_l1
      dsimp only
      rw [hSr, if_pos (nI_lt hi (by omega)), hwc cr hAr i hi, zp_bs, zp_bs, hbr cr hAr r63 i hi, zp_bs, hbr cr hAr r63 tj htj, zp_bs, zp_bs, lI_sub, lI_sub, ← mov, ← duv, if_neg (fun q => hno ⟨(lI_0I zm).mp q.1, (lI_pos zd).mp q.2⟩)]
      have eF : (if ((0 < lI (mo i)) ∧ (0 < lI (du i))) then ((fn_P_cut ((lI (du i) + lI (mo i)) - 1) (lI (mo i))).bind fun r24 => (some ((if r24 < lI (zj_fr mo du i) then lI (zj_fr mo du i) else r24) : Int64)).bind fun fewest25 => some (fewest25 : Int64)) else (some (lI (zj_fr mo du i)))) = some (lI (zj_fr mo du (i + 1))) := by
        rw [zj_fr_s]
        by_cases h : 0 < mo i ∧ 0 < du i
        · have h2 := Int.ediv_le_self (mo i) (show 0 ≤ du i + mo i - 1 by omega)
          have h3 : 0 ≤ (du i + mo i - 1) / mo i := Int.ediv_nonneg (by omega) (by omega)
          rw [if_pos ⟨(lI_pos zm).mpr h.1, (lI_pos zd).mpr h.2⟩, if_pos h, lI_add, show (1 : Int64) = lI 1 by rfl, lI_sub, sp_cut zm (by omega), zp_bs, zp_bs, lI_div (by omega) (by omega) h.1 (by omega)]
          by_cases hq : (du i + mo i - 1) / mo i < zj_fr mo du i
          · rw [if_pos ((lI_lt ⟨by omega, by omega⟩ ⟨by omega, by omega⟩).mpr hq), if_pos hq]
          · rw [if_neg (fun z => hq ((lI_lt ⟨by omega, by omega⟩ ⟨by omega, by omega⟩).mp z)), if_neg hq]
        · rw [if_neg (fun q => h ⟨(lI_pos zm).mp q.1, (lI_pos zd).mp q.2⟩), if_neg h]
      rw [eF, zp_bs]
      have eT : (if (lI (mo i) < 0) then ((if (0 < lI (du i)) then (some (0 : Int64)) else ((fn_P_cut (lI (du i)) (lI (mo i))).bind fun r32 => some (r32 : Int64))).bind fun v29 => (some ((if v29 < lI (zj_to mo du i) then v29 else lI (zj_to mo du i)) : Int64)).bind fun most33 => some (most33 : Int64)) else (some (lI (zj_to mo du i)))) = some (lI (zj_to mo du (i + 1))) := by
        rw [zj_to_s]
        by_cases hm : mo i < 0
        · rw [if_pos ((lI_negI zm).mpr hm)]
          by_cases hd : 0 < du i
          · rw [if_pos ((lI_pos zd).mpr hd), zp_bs, zp_bs, if_pos (show 0 < du i ∧ mo i ≤ 0 from ⟨hd, by omega⟩)]
            by_cases hq : 0 < zj_to mo du i
            · rw [if_pos ((lI_pos ⟨by omega, by omega⟩).mpr hq)]; rfl
            · rw [if_neg (fun z => hq ((lI_pos ⟨by omega, by omega⟩).mp z))]
              exact congrArg (fun z => some (lI z)) (by omega)
          · have h2 := Int.ediv_le_self (-mo i) (show 0 ≤ -du i by omega)
            have h3 : 0 ≤ (-du i) / (-mo i) := Int.ediv_nonneg (by omega) (by omega)
            rw [if_neg (fun z => hd ((lI_pos zd).mp z)), sp_cut zm (by omega), zp_bs, zp_bs, zp_bs, lI_divn (by omega) (by omega) hm (by omega), if_neg (show ¬ (0 < du i ∧ mo i ≤ 0) from fun q => hd q.1), if_pos hm]
            by_cases hq : (-du i) / (-mo i) < zj_to mo du i
            · rw [if_pos ((lI_lt ⟨by omega, by omega⟩ ⟨by omega, by omega⟩).mpr hq), if_pos hq]
            · rw [if_neg (fun z => hq ((lI_lt ⟨by omega, by omega⟩ ⟨by omega, by omega⟩).mp z)), if_neg hq]
        · rw [if_neg (fun z => hm ((lI_negI zm).mp z)), if_neg (fun q => hno ⟨by omega, q.1⟩), if_neg hm]
      rw [eT, zp_bs, nI_1]
    obtain ⟨u, hu⟩ : ∃ u : Int32, u = if zj_to mo du (zt_N E T) < zj_fr mo du (zt_N E T) then -1 else (lI (zj_fr mo du (zt_N E T))).toInt32 := ⟨_, rfl⟩
    have hul : u.toInt64 = if zj_fr mo du (zt_N E T) ≤ zj_to mo du (zt_N E T) then lI (zj_fr mo du (zt_N E T)) else -1 := by
      rw [hu]
      have t1 := tob (zt_N E T)
      have f1 := frb (zt_N E T)
      by_cases h : zj_to mo du (zt_N E T) < zj_fr mo du (zt_N E T)
      · rw [if_pos h, if_neg (by omega)]; rfl
      · rw [if_neg h, if_pos (by omega), lI_i32 (by omega) (by omega)]
    have cls : fn_Lures_timesAgainstBribe cr (54 + p) (nI tj) = some u := by
      unfold fn_Lures_timesAgainstBribe
      rw [hwc cr hAr tj htj, zp_bs]
      rcases zj_fst (fun s => decide (mo s = 0 ∧ 0 < du s)) (zt_N E T) with hnb | ⟨k, hk, hbk, hfk⟩
      · have h := zp_det (f := fn_Lures_timesAgainstBribe_l1 cr (54 + p) (nI tj) (lI (wo tj))) (x := .inr (lI (zj_fr mo du (zt_N E T)), lI (zj_to mo du (zt_N E T)))) (fun i => (lI (zj_fr mo du i), lI (zj_to mo du i), nI i)) (zt_N E T) 0 (Nat.zero_le _) (by unfold zw_F; omega) (fun i _ hi => step i hi (of_decide_eq_false (hnb i hi))) (by
          unfold fn_Lures_timesAgainstBribe_l1
          dsimp only
          rw [hSr, if_neg (nI_nlt (Nat.le_refl _) (by omega))])
        have h' : zw_whl (fn_Lures_timesAgainstBribe_l1 cr (54 + p) (nI tj) (lI (wo tj))) zw_F (1, 9999, 0) = some (.inr (lI (zj_fr mo du (zt_N E T)), lI (zj_to mo du (zt_N E T)))) := h
        rw [h', zp_bs, hu]
        dsimp only
        have t1 := tob (zt_N E T)
        have f1 := frb (zt_N E T)
        by_cases hq : zj_to mo du (zt_N E T) < zj_fr mo du (zt_N E T)
        · rw [if_pos ((lI_lt ⟨by omega, by omega⟩ ⟨by omega, by omega⟩).mpr hq), if_pos hq]
        · rw [if_neg (fun z => hq ((lI_lt ⟨by omega, by omega⟩ ⟨by omega, by omega⟩).mp z)), if_neg hq]
      · have hm := of_decide_eq_true hbk
        have hd := mob k
        have hd2 := dub k
        have h := zp_det (f := fn_Lures_timesAgainstBribe_l1 cr (54 + p) (nI tj) (lI (wo tj))) (x := .inl (-1)) (fun i => (lI (zj_fr mo du i), lI (zj_to mo du i), nI i)) k 0 (Nat.zero_le _) (by unfold zw_F; omega) (fun i _ hi => step i (by omega) (of_decide_eq_false (hfk i hi))) (by
          unfold fn_Lures_timesAgainstBribe_l1
          dsimp only
          rw [hSr, if_pos (nI_lt hk (by omega)), hwc cr hAr k hk, zp_bs, zp_bs, hbr cr hAr r63 k hk, zp_bs, hbr cr hAr r63 tj htj, zp_bs, zp_bs, lI_sub, lI_sub, ← mov, ← duv, if_pos ⟨(lI_0I ⟨by omega, by omega⟩).mpr hm.1, (lI_pos ⟨by omega, by omega⟩).mpr hm.2⟩])
        have h' : zw_whl (fn_Lures_timesAgainstBribe_l1 cr (54 + p) (nI tj) (lI (wo tj))) zw_F (1, 9999, 0) = some (.inl (-1)) := h
        have t1 := zj_to_0 (mo := mo) (du := du) (k := k) ⟨hm.2, by omega⟩ (zt_N E T) hk
        have f1 := frb (zt_N E T)
        rw [h', zp_bs, hu, if_pos (by omega)]
    obtain ⟨c4, a3, a4, -⟩ := hCr.add (by decide) u.toInt64
    have r63' : c4.1 63 = co.1 63 := by
      obtain ⟨c4', b1, b2, b3, b4⟩ := sp_add hCr.1 (by decide) u.toInt64
      have : c4 = c4' := Option.some.inj (a3.symm.trans b1)
      rw [this, b3 63 (by decide), r63]
    -- the best one with the bribe
    obtain ⟨c5, g1, g2, g3⟩ := zp_detC (f := fn_Lures_bestBribed_l1 (54 + p) (nI tj)) (fun i c => (nI i, c)) (fun i c' => (c'.1 = c4.1 ∧ c'.2 62 = c4.2 62) ∧ zr_Y i f c') (fun c => c) (zt_N E T) 0 (Nat.zero_le _) (by unfold zw_F; omega) (fun i c' _ hi ⟨⟨e1, e2⟩, e3⟩ => by
      have hA' : zr_A c1 c' := a4.2.tr (zr_A.eq e1)
      refine ⟨zw_wL c' 12 i (lI (f i)), ?_, ⟨e1, (zw_wL_ne (by decide)).trans e2⟩, fun s hs => ?_⟩
      · unfold fn_Lures_bestBribed_l1
        dsimp only
        rw [(hA'.tab hTab).2.1.2.2.1, if_pos (nI_lt hi (by omega)), hwc c' hA' i hi, zp_bs, hbr c' hA' (by rw [e1]; exact r63') i hi, zp_bs, zp_uL (by omega) (by omega), zp_bs, lI_add, ← fv, nI_1]
      · by_cases e : s = i
        · rw [e, zw_wL_eq]
        · rw [zw_wL_at e]; exact e3 s (by omega)) (fun c' ⟨⟨e1, e2⟩, e3⟩ => by
      unfold fn_Lures_bestBribed_l1
      dsimp only
      rw [((a4.2.tr (zr_A.eq e1)).tab hTab).2.1.2.2.1, if_neg (nI_nlt (Nat.le_refl _) (by omega))]) c4 ⟨⟨rfl, rfl⟩, fun s hs => absurd hs (Nat.not_lt_zero s)⟩
    have g1' : zw_whl (fn_Lures_bestBribed_l1 (54 + p) (nI tj)) zw_F (0, c4) = some c5 := g1
    have hA5 : zr_A c1 c5 := a4.2.tr (zr_A.eq g2.1)
    have hw5 : zr_Rw ([] ++ [u.toInt64]) c5 := a4.1.fr (by rw [g2.1]) g2.2
    have htop : fn_Tally_top c5 = some (nI (zs_top f (zt_N E T))) := by
      unfold fn_Tally_top
      rw [sp_top (by omega) hN (hA5.tab hTab).2.1.2.2.1 g3 (fun s _ => zf s), zp_bs]
    -- the Model
    have hA59 : zr_A c1 (zw_wI c5 71 9 0) := hA5.wF (by decide)
    obtain ⟨d1, d2, d3, d4, d5, d6⟩ := zo_laid hTab hM hA5
    have hD := zr_D.start d4 d5 d6
    have hTD := d4.tab hTab
    have hSd := hTD.2.2.2.2.1
    have hg1 : ∀ s, s < zt_N E T → fn_M_withGift d1 1 (nI s) (nI tj) (nI ej) l (nI gj) = some (lI (f s)) := fun s hs => by
      have h := sp_withGift (k := 1) (l := l) (g := gj) hTD d3 hs htj hej hgj
      have h' : fn_M_withGift d1 1 (nI s) (nI tj) (nI ej) l (nI gj) = some (lI (((1 : Nat) : Int) * zs_w E (zt_p E T) V s tj + zj_gv E T ej l gj s)) := h
      rw [h', fv, hwo, hb]
      exact congrArg (fun z => some (lI z)) (by dsimp only; omega)
    have hg0 : ∀ s, s < zt_N E T → fn_M_withGift d1 0 (nI s) (nI tj) (nI ej) l (nI gj) = some (lI (b s)) := fun s hs => by
      have h := sp_withGift (k := 0) (l := l) (g := gj) hTD d3 hs htj hej hgj
      have h' : fn_M_withGift d1 0 (nI s) (nI tj) (nI ej) l (nI gj) = some (lI (((0 : Nat) : Int) * zs_w E (zt_p E T) V s tj + zj_gv E T ej l gj s)) := h
      rw [h', hb]
      exact congrArg (fun z => some (lI z)) (by rw [show ((0 : Nat) : Int) = 0 by rfl, Int.zero_mul, Int.zero_add])
    have hwm : ∀ s, s < zt_N E T → fn_M_worth d1 (nI s) (nI tj) = some (lI (wo s)) := fun s hs => by
      rw [hwo]; exact sp_Mworth hT hTD.2.2 d3 hs htj
    have hm1 := zp_det (f := fn_M_bribe_l1 d1 (nI tj) (nI ej) l (nI gj)) (x := nI (zs_top f (zt_N E T))) (fun i => (nI (zs_top f i), nI i)) (zt_N E T) 1 (by omega) (by unfold zw_F; omega) (fun i h0 hi => by
      have hk := zs_top_lt f (n := i) (by omega)
      unfold fn_M_bribe_l1
      dsimp only
      rw [hSd, if_pos (nI_lt hi (by omega)), hg1 i hi, zp_bs, hg1 _ (show zs_top f i < zt_N E T by omega), zp_bs, zs_top_s, nI_1]
      by_cases hq : f (zs_top f i) < f i
      · rw [if_pos ((lI_lt (zf _) (zf _)).mpr hq), zp_bs, if_pos hq]
      · rw [if_neg (fun z => hq ((lI_lt (zf _) (zf _)).mp z)), zp_bs, if_neg hq]) (by
      unfold fn_M_bribe_l1
      dsimp only
      rw [hSd, if_neg (nI_nlt (Nat.le_refl _) (by omega))])
    have hm1' : zw_whl (fn_M_bribe_l1 d1 (nI tj) (nI ej) l (nI gj)) zw_F (0, 1) = some (nI (zs_top f (zt_N E T))) := by
      have e0 : (nI (zs_top f 1), nI 1) = ((0 : Int32), (1 : Int32)) := by rw [zs_top_1]; rfl
      rw [← e0]
      exact hm1
    have hm2 := zp_det (f := fn_M_bribe_l2 d1 (nI tj) (nI ej) l (nI gj)) (x := (lI (zj_to mo du (zt_N E T)), lI (zj_fr mo du (zt_N E T)))) (fun i => (lI (zj_to mo du i), lI (zj_fr mo du i), nI i)) (zt_N E T) 0 (by omega) (by unfold zw_F; omega) (fun i h0 hi => by
      have m1 := mob i
      have d1' := dub i
      have f1 := frb i
      have t1 := tob i
      have zm : zb (mo i) := ⟨by omega, by omega⟩
      have zd : zb (du i) := ⟨by omega, by omega⟩
      unfold fn_M_bribe_l2
      dsimp only
      rw [hSd, if_pos (nI_lt hi (by omega)), hwm tj htj, zp_bs, hwm i hi, zp_bs, zp_bs, hg0 i hi, zp_bs, hg0 tj htj, zp_bs, zp_bs, lI_sub, lI_sub, ← mov, ← duv]
      have e1 : (if ((lI (mo i) = 0) ∧ (0 < lI (du i))) then (some (0 : Int64)) else (some (lI (zj_to mo du i)))) = some (lI (if mo i = 0 ∧ 0 < du i then 0 else zj_to mo du i)) := by
        by_cases h : mo i = 0 ∧ 0 < du i
        · rw [if_pos ⟨(lI_0I zm).mpr h.1, (lI_pos zd).mpr h.2⟩, if_pos h]; rfl
        · rw [if_neg (fun q => h ⟨(lI_0I zm).mp q.1, (lI_pos zd).mp q.2⟩), if_neg h]
      have e2 : (if ((0 < lI (mo i)) ∧ (0 < lI (du i))) then ((zw_dvL ((lI (du i) + lI (mo i)) - 1) (lI (mo i))).bind fun d48 => (some ((if d48 < lI (zj_fr mo du i) then lI (zj_fr mo du i) else d48) : Int64)).bind fun from49 => some (from49 : Int64)) else (some (lI (zj_fr mo du i)))) = some (lI (zj_fr mo du (i + 1))) := by
        rw [zj_fr_s]
        by_cases h : 0 < mo i ∧ 0 < du i
        · have h2 := Int.ediv_le_self (mo i) (show 0 ≤ du i + mo i - 1 by omega)
          have h3 : 0 ≤ (du i + mo i - 1) / mo i := Int.ediv_nonneg (by omega) (by omega)
          rw [if_pos ⟨(lI_pos zm).mpr h.1, (lI_pos zd).mpr h.2⟩, if_pos h, lI_add, show (1 : Int64) = lI 1 by rfl, lI_sub, sp_dvL zm (by omega), zp_bs, zp_bs, lI_div (by omega) (by omega) h.1 (by omega)]
          by_cases hq : (du i + mo i - 1) / mo i < zj_fr mo du i
          · rw [if_pos ((lI_lt ⟨by omega, by omega⟩ ⟨by omega, by omega⟩).mpr hq), if_pos hq]
          · rw [if_neg (fun z => hq ((lI_lt ⟨by omega, by omega⟩ ⟨by omega, by omega⟩).mp z)), if_neg hq]
        · rw [if_neg (fun q => h ⟨(lI_pos zm).mp q.1, (lI_pos zd).mp q.2⟩), if_neg h]
      rw [e1, zp_bs, e2, zp_bs, nI_1, zj_to_s]
      by_cases hd : 0 < du i
      · by_cases hm : mo i < 0
        · rw [if_pos ⟨(lI_negI zm).mpr hm, (lI_pos zd).mpr hd⟩, zp_bs, if_neg (fun q => by have := (lI_le0 zd).mp q.2; omega), zp_bs, if_pos ⟨hd, by omega⟩]
          rfl
        · rw [if_neg (fun q => hm ((lI_negI zm).mp q.1)), zp_bs, if_neg (fun q => hm ((lI_negI zm).mp q.1)), zp_bs]
          by_cases h0 : mo i = 0
          · rw [if_pos ⟨h0, hd⟩, if_pos ⟨hd, by omega⟩]
          · rw [if_neg (fun q => h0 q.1), if_neg (fun q => by omega), if_neg hm]
      · rw [if_neg (fun q : mo i = 0 ∧ 0 < du i => hd q.2), if_neg (fun q => hd ((lI_pos zd).mp q.2)), zp_bs, if_neg (fun q : 0 < du i ∧ mo i ≤ 0 => hd q.1)]
        by_cases hm : mo i < 0
        · have h2 := Int.ediv_le_self (-mo i) (show 0 ≤ -du i by omega)
          have h3 : 0 ≤ (-du i) / (-mo i) := Int.ediv_nonneg (by omega) (by omega)
          rw [if_pos ⟨(lI_negI zm).mpr hm, (lI_le0 zd).mpr (by omega)⟩, lI_neg, lI_neg, sp_dvL ⟨by omega, by omega⟩ (by omega), zp_bs, zp_bs, zp_bs, lI_div (by omega) (by omega) (by omega) (by omega), if_pos hm]
          by_cases hq : (-du i) / (-mo i) < zj_to mo du i
          · rw [if_pos ((lI_lt ⟨by omega, by omega⟩ ⟨by omega, by omega⟩).mpr hq), if_pos hq]
          · rw [if_neg (fun z => hq ((lI_lt ⟨by omega, by omega⟩ ⟨by omega, by omega⟩).mp z)), if_neg hq]
        · rw [if_neg (fun q => hm ((lI_negI zm).mp q.1)), zp_bs, if_neg hm]) (by
      unfold fn_M_bribe_l2
      dsimp only
      rw [hSd, if_neg (nI_nlt (Nat.le_refl _) (by omega))])
    have hm2' : zw_whl (fn_M_bribe_l2 d1 (nI tj) (nI ej) l (nI gj)) zw_F (9999, 1, 0) = some (lI (zj_to mo du (zt_N E T)), lI (zj_fr mo du (zt_N E T))) := hm2
    obtain ⟨e1, f1, f2, -⟩ := hD.tell (by decide) u.toInt64
    refine ⟨nI (zs_top f (zt_N E T)), c5, e1, ?_, ?_, f2.fin hRl (by simp) hw5⟩
    · rw [hoff, zp_bs, hcl, zp_bs, zp_bs, cls, zp_bs, a3, zp_bs]
      unfold fn_Lures_bestBribed
      rw [g1', zp_bs, htop, zp_bs, zp_bs]
    · rw [zp_bs, hisP _ hA59, zp_bs, zr_isSaying (hA59.tab hTab), zr_isEvent (hA59.tab hTab), ← zr_has hTab, ← zr_hasE hTab, if_neg (by
        rintro ((((h | h) | h) | h) | h)
        · exact h (by decide)
        · exact hc (Or.inl (Or.inr h))
        · exact hc (Or.inr h)
        · exact hc2 (Or.inl h)
        · exact hc2 (Or.inr h)), d2, zp_bs, hm1', zp_bs, hm2', zp_bs]
      dsimp only
      have t1 := tob (zt_N E T)
      have f1' := frb (zt_N E T)
      have eu : (if (lI (zj_fr mo du (zt_N E T)) ≤ lI (zj_to mo du (zt_N E T))) then lI (zj_fr mo du (zt_N E T)) else -1) = u.toInt64 := by
        rw [hul]
        by_cases hq : zj_fr mo du (zt_N E T) ≤ zj_to mo du (zt_N E T)
        · rw [if_pos ((lI_le ⟨by omega, by omega⟩ ⟨by omega, by omega⟩).mpr hq), if_pos hq]
        · rw [if_neg (fun z => hq ((lI_le ⟨by omega, by omega⟩ ⟨by omega, by omega⟩).mp z)), if_neg hq]
      rw [eu, zp_bs, f1, zp_bs]
