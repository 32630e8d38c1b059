/-! says -/
theorem zt_chk3 : ∀ E, E < 5 → 2 ≤ E → ∀ T, T < 13 → 1 ≤ T → ∀ r, r < E → (zt E T).any (fun q => decide (zt_q q r = T)) = true := by decide +kernel
theorem zt_all {E T r : Nat} (h : zt_ET E T) (hr : r < E) : ∃ k, k < zt_N E T ∧ zt_p E T k r = T ∧ ∀ j, j < k → ¬ zt_p E T j r = T := by
  have hany := zt_chk3 E (by have := h.2.1; omega) h.1 T (by have := h.2.2.2; omega) h.2.2.1 r hr
  obtain ⟨q, hq, hqr⟩ := List.any_eq_true.mp hany
  obtain ⟨i, hi, ei⟩ := List.getElem_of_mem hq
  have hv : zt_p E T i r = T := by
    unfold zt_p
    rw [List.getD_eq_getElem?_getD, List.getElem?_eq_getElem hi, ei]
    exact of_decide_eq_true hqr
  rcases zj_fst (fun s => decide (zt_p E T s r = T)) (zt_N E T) with hno | ⟨k, hk, hbk, hfk⟩
  · exact absurd hv (of_decide_eq_false (hno i hi))
  · exact ⟨k, hk, of_decide_eq_true hbk, fun j hj => of_decide_eq_false (hfk j hj)⟩
theorem sp_numberOf {E T k : Nat} {a b d e : Int32} {c : zw_Ct} (hTab : zr_Tab E T c) (hk : k < zt_N E T) (h1 : nI (zt_p E T k 0) = a ∧ nI (zt_p E T k 1) = b ∧ nI (zt_p E T k 2) = d ∧ nI (zt_p E T k 3) = e) (h2 : ∀ j, j < k → ¬ (nI (zt_p E T j 0) = a ∧ nI (zt_p E T j 1) = b ∧ nI (zt_p E T j 2) = d ∧ nI (zt_p E T j 3) = e)) : fn_Sayings_numberOf c a b d e = some (nI k) := by
  have hN : zt_N E T ≤ 455 := (zt_ok hTab.1).2.1
  have f1 : ∀ i, i < zt_N E T → fn_Sayings_numberOf_l1 c a b d e (nI i) = if nI (zt_p E T i 0) = a ∧ nI (zt_p E T i 1) = b ∧ nI (zt_p E T i 2) = d ∧ nI (zt_p E T i 3) = e then some (.inl (.inl (nI i))) else some (.inr (nI (i + 1))) := fun i hi => by
    have hc : ∀ k, k < 4 → c.1 2 (4 * i + k) = nI (zt_p E T i k) := fun k hk => hTab.2.1.2.2.2 i hi k hk
    have e1 : nI (4 * i) + 1 = nI (4 * i + 1) := nI_add _ 1
    have e2 : nI (4 * i) + 2 = nI (4 * i + 2) := nI_add _ 2
    have e3 : nI (4 * i) + 3 = nI (4 * i + 3) := nI_add _ 3
    unfold fn_Sayings_numberOf_l1
    rw [hTab.2.1.2.2.1, if_pos (nI_lt hi (by omega)), nI_4, zp_bs, e1, e2, e3, zp_aI (by omega) (by omega), zp_bs, zp_aI (by omega) (by omega), zp_aI (by omega) (by omega), zp_aI (by omega) (by omega), zp_bs, zp_bs, zp_bs, show c.1 2 (4 * i) = nI (zt_p E T i 0) from hc 0 (by omega), hc 1 (by omega), hc 2 (by omega), hc 3 (by omega), nI_1]
    by_cases h0 : nI (zt_p E T i 0) = a
    · by_cases h1 : nI (zt_p E T i 1) = b
      · by_cases h2 : nI (zt_p E T i 2) = d
        · by_cases h3 : nI (zt_p E T i 3) = e
          · rw [if_pos h0, if_pos h1, if_pos h2, if_pos ⟨h0, h1, h2, h3⟩, zp_bs, if_pos (decide_eq_true h3)]
          · rw [if_pos h0, if_pos h1, if_pos h2, if_neg (fun q => h3 q.2.2.2), zp_bs, if_neg (fun q => h3 (of_decide_eq_true q))]
        · rw [if_pos h0, if_pos h1, if_neg h2, if_neg (fun q => h2 q.2.2.1), zp_bs, if_neg (by decide)]
      · rw [if_pos h0, if_neg h1, if_neg (fun q => h1 q.2.1), zp_bs, if_neg (by decide)]
    · rw [if_neg h0, if_neg (fun q => h0 q.1), zp_bs, if_neg (by decide)]
  have h := zp_det (f := fn_Sayings_numberOf_l1 c a b d e) (x := .inl (nI k)) (fun i => nI i) k 0 (Nat.zero_le _) (by unfold zw_F; omega) (fun i _ hi => by rw [f1 i (by omega), if_neg (h2 i hi)]) (by rw [f1 k hk, if_pos h1])
  have h' : zw_whl (fn_Sayings_numberOf_l1 c a b d e) zw_F 0 = some (.inl (nI k)) := h
  unfold fn_Sayings_numberOf
  rw [h', zp_bs]
/-- the saying that puts all steps on event r -/
def zj_to2 (E T r : Nat) : Nat := zs_top (fun s => (zt_p E T s r : Int)) (zt_N E T)
theorem zj_to2_p {E T r : Nat} (h : zt_ET E T) (hr : r < E) : zj_to2 E T r < zt_N E T ∧ zt_p E T (zj_to2 E T r) r = T ∧ ∀ j, j < zj_to2 E T r → ¬ zt_p E T j r = T := by
  have hE4 := h.2.1
  obtain ⟨k, h1, h2, h3⟩ := zt_all h hr
  have e : zj_to2 E T r = k := zs_top_eq _ h1 (fun i hi => by have := zt_le h hi (e := r) (by omega); omega) (fun i hi => by
    have := zt_le h (show i < zt_N E T by omega) (e := r) (by omega)
    have := h3 i hi
    omega)
  rw [e]
  exact ⟨h1, h2, h3⟩
theorem sp_allTo {E T r : Nat} {c : zw_Ct} (hTab : zr_Tab E T c) (hr : r < E) : fn_Sayings_allTo c (nI r) = some (nI (zj_to2 E T r)) := by
  have hE4 := hTab.1.2.1
  have hT12 := hTab.1.2.2.2
  have hT1 := hTab.1.2.2.1
  obtain ⟨h1, h2, h3⟩ := zj_to2_p hTab.1 hr
  have hs := (zt_sum hTab.1 h1).1
  unfold fn_Sayings_allTo
  have ev : ∀ e, e < 4 → (if nI r = nI e then c.1 1 1 else 0) = nI (if r = e then T else 0) := fun e he => by
    rw [hTab.2.1.2.1]
    by_cases q : r = e
    · rw [if_pos (by rw [q]), if_pos q]
    · rw [if_neg (fun z => q ((nI_eq (by omega) (by omega)).mp z)), if_neg q]
      rfl
  have e0 : (if nI r = 0 then c.1 1 1 else 0) = nI (if r = 0 then T else 0) := ev 0 (by omega)
  have e1 : (if nI r = 1 then c.1 1 1 else 0) = nI (if r = 1 then T else 0) := ev 1 (by omega)
  have e2 : (if nI r = 2 then c.1 1 1 else 0) = nI (if r = 2 then T else 0) := ev 2 (by omega)
  have e3 : (if nI r = 3 then c.1 1 1 else 0) = nI (if r = 3 then T else 0) := ev 3 (by omega)
  rw [e0, e1, e2, e3, sp_numberOf (k := zj_to2 E T r) hTab h1 ?_ ?_, zp_bs]
  · rcases (show r = 0 ∨ r = 1 ∨ r = 2 ∨ r = 3 by omega) with rfl | rfl | rfl | rfl
    · exact ⟨congrArg nI (by rw [if_pos rfl]; omega), congrArg nI (by rw [if_neg (by decide)]; omega), congrArg nI (by rw [if_neg (by decide)]; omega), congrArg nI (by rw [if_neg (by decide)]; omega)⟩
    · exact ⟨congrArg nI (by rw [if_neg (by decide)]; omega), congrArg nI (by rw [if_pos rfl]; omega), congrArg nI (by rw [if_neg (by decide)]; omega), congrArg nI (by rw [if_neg (by decide)]; omega)⟩
    · exact ⟨congrArg nI (by rw [if_neg (by decide)]; omega), congrArg nI (by rw [if_neg (by decide)]; omega), congrArg nI (by rw [if_pos rfl]; omega), congrArg nI (by rw [if_neg (by decide)]; omega)⟩
    · exact ⟨congrArg nI (by rw [if_neg (by decide)]; omega), congrArg nI (by rw [if_neg (by decide)]; omega), congrArg nI (by rw [if_neg (by decide)]; omega), congrArg nI (by rw [if_pos rfl]; omega)⟩
  · intro j hj hq
    have hb : ∀ e, e < 4 → zt_p E T j e ≤ T := fun e he => zt_le hTab.1 (show j < zt_N E T by omega) he
    refine h3 j hj ?_
    rcases (show r = 0 ∨ r = 1 ∨ r = 2 ∨ r = 3 by omega) with rfl | rfl | rfl | rfl
    · have := hq.1; rw [if_pos rfl] at this; exact (nI_eq (by have := hb 0 (by omega); omega) (by omega)).mp this
    · have := hq.2.1; rw [if_pos rfl] at this; exact (nI_eq (by have := hb 1 (by omega); omega) (by omega)).mp this
    · have := hq.2.2.1; rw [if_pos rfl] at this; exact (nI_eq (by have := hb 2 (by omega); omega) (by omega)).mp this
    · have := hq.2.2.2; rw [if_pos rfl] at this; exact (nI_eq (by have := hb 3 (by omega); omega) (by omega)).mp this
theorem sp_MallTo {E T r : Nat} {d : zw_Ct} (hTab : zr_Tab E T d) (hr : r < E) : fn_M_allTo d (nI r) = some (nI (zj_to2 E T r)) := by
  have hN : zt_N E T ≤ 455 := (zt_ok hTab.1).2.1
  have hE4 := hTab.1.2.1
  have hT12 := hTab.1.2.2.2
  obtain ⟨h1, h2, h3⟩ := zj_to2_p hTab.1 hr
  have h := zp_det (f := fn_M_allTo_l1 d (nI r)) (x := nI (zj_to2 E T r)) (fun i => nI i) (zj_to2 E T r) 0 (Nat.zero_le _) (by unfold zw_F; omega) (fun i _ hi => by
    have hb := zt_le hTab.1 (show i < zt_N E T by omega) (e := r) (by omega)
    have := h3 i hi
    unfold fn_M_allTo_l1
    rw [nI_at', zp_aI (by omega) (by omega), zp_bs, hTab.2.2.2.2.2 i (by omega) r (by omega), hTab.2.2.2.1, if_pos (nI_lt (by omega) (by omega)), nI_1]) (by
    unfold fn_M_allTo_l1
    rw [nI_at', zp_aI (by omega) (by omega), zp_bs, hTab.2.2.2.2.2 _ h1 r (by omega), hTab.2.2.2.1, h2, if_neg (nI_nlt (Nat.le_refl _) (by omega))])
  have h' : zw_whl (fn_M_allTo_l1 d (nI r)) zw_F 0 = some (nI (zj_to2 E T r)) := h
  unfold fn_M_allTo
  rw [h', zp_bs]
def zj_cum (E T s n : Nat) : Nat := zs_sumN (fun e => zt_p E T s e) n
theorem zj_cum_E {E T s : Nat} (h : zt_ET E T) (hs : s < zt_N E T) : zj_cum E T s E = T := by
  obtain ⟨h1, h2⟩ := zt_sum h hs
  have h4 : zj_cum E T s 4 = T := by
    show 0 + zt_p E T s 0 + zt_p E T s 1 + zt_p E T s 2 + zt_p E T s 3 = T
    omega
  have hE := h.1
  have hE4 := h.2.1
  rcases (show E = 2 ∨ E = 3 ∨ E = 4 by omega) with e | e | e
  · have a := h2 2 (by omega) (by omega)
    have b := h2 3 (by omega) (by omega)
    have : zj_cum E T s E = 0 + zt_p E T s 0 + zt_p E T s 1 := by rw [e]; rfl
    rw [this]
    omega
  · have b := h2 3 (by omega) (by omega)
    have : zj_cum E T s E = 0 + zt_p E T s 0 + zt_p E T s 1 + zt_p E T s 2 := by rw [e]; rfl
    rw [this]
    omega
  · rw [e] at h4 ⊢; exact h4
/-- where the cumulated parts first reach the half -/
theorem zj_half {E T s : Nat} (h : zt_ET E T) (hs : s < zt_N E T) : ∃ k, k < E ∧ T ≤ 2 * zj_cum E T s (k + 1) ∧ ∀ j, j < k → ¬ T ≤ 2 * zj_cum E T s (j + 1) := by
  have hE := h.1
  rcases zj_fst (fun e => decide (T ≤ 2 * zj_cum E T s (e + 1))) E with hno | ⟨k, hk, hbk, hfk⟩
  · have := of_decide_eq_false (hno (E - 1) (by omega))
    rw [show E - 1 + 1 = E by omega, zj_cum_E h hs] at this
    omega
  · exact ⟨k, hk, of_decide_eq_true hbk, fun j hj => of_decide_eq_false (hfk j hj)⟩
theorem zj_cum_s (E T s n : Nat) : zj_cum E T s (n + 1) = zj_cum E T s n + zt_p E T s n := rfl
theorem zj_cum_b {E T s : Nat} (h : zt_ET E T) (hs : s < zt_N E T) : ∀ n : Nat, n ≤ 4 → zj_cum E T s n ≤ 12 * n
  | 0, _ => Nat.zero_le _
  | n + 1, hn => by
    have ih := zj_cum_b h hs n (by omega)
    have := zt_le h hs (e := n) (by omega)
    have := h.2.2.2
    rw [zj_cum_s]
    omega
theorem zo_says : zq_says zr_Rel := by
  intro n c hn hRel a s
  unfold fn_P_says fn_M_says
  rcases zo_pay hRel a with ⟨h1, h2⟩ | ⟨p, E, T, V, c1, hp, rfl, h1, hR, hRl, hV, hM, hlen, hisP⟩
  · refine ⟨-1, c, zw_wI c 71 9 0, ?_, ?_, zr_thr hRel⟩
    · rw [h1, zp_bs]
      dsimp only
      rw [if_pos (Or.inl rfl)]
    · rw [zp_bs, h2, zp_bs, if_pos (Or.inl (by decide))]
  · have hTab := hRl.2.2.1
    have hT := zt_T hTab.1
    have hN : zt_N E T ≤ 455 := hT.2.2.2.2.2.1
    have hE2 := hTab.1.1
    have hE4 := hTab.1.2.1
    have hT12 := hTab.1.2.2.2
    have hRel1 : zr_Rel n c1 := ⟨hR, E, T, hRl⟩
    rw [h1, zp_bs]
    dsimp only
    by_cases hc : (((some (54 + p) : Option Nat) = none) ∨ (¬ (¬ (fn_Sayings_has c1 s) = 0)))
    · have hA9 : zr_A c1 (zw_wI c1 71 9 0) := zr_A.rf.wF (by decide)
      refine ⟨-1, c1, zw_wI c1 71 9 0, by rw [if_pos hc], ?_, zr_thr hRel1⟩
      rw [zp_bs, hisP _ hA9, zp_bs, zr_isSaying (hA9.tab hTab), ← zr_has hTab, if_pos]
      rcases hc with h | h
      · cases h
      · exact Or.inr h
    · obtain ⟨sj, hsj, rfl⟩ := has_n (zt_N31 hTab.1) (s := s) (fun q => hc (Or.inr (fun z => z (by rw [zr_has hTab]; exact q))))
      obtain ⟨k, hk, hk1, hk2⟩ := zj_half hTab.1 hsj
      have cb := fun m => zj_cum_b hTab.1 hsj m
      obtain ⟨f, hf⟩ : ∃ f : Nat → Int, f = fun r => zs_w E (zt_p E T) V (zj_to2 E T r) sj := ⟨_, rfl⟩
      have zf : ∀ r, zb (f r) := fun r => by rw [hf]; exact zs_w_zb hT hsj
      obtain ⟨c2, a1, a2, -⟩ := zr_C.clear (c1 := c1) (c3 := c1) zr_A.rf
      have hT2 := a2.2.tab hTab
      have lm : fn_Sayings_leastMiddle c2 (nI sj) = some (nI k) := by
        have h := zp_det (f := fn_Sayings_leastMiddle_l1 c2 (nI sj)) (x := .inl (nI k)) (fun i => (nI (zj_cum E T sj i), nI i)) k 0 (Nat.zero_le _) (by unfold zw_F; omega) (fun i _ hi => by
          have b1 := cb (i + 1) (by omega)
          have := hk2 i hi
          have e2 : (2 : Int32) * nI (zj_cum E T sj (i + 1)) = nI (2 * zj_cum E T sj (i + 1)) := nI_mul 2 _
          unfold fn_Sayings_leastMiddle_l1
          dsimp only
          rw [hT2.2.1.1, if_pos (nI_lt (show i < E by omega) (by omega)), sp_partOf hT hT2.2.1 hsj (by omega), zp_bs, zp_bs, nI_add, ← zj_cum_s, e2, hT2.2.1.2.1, if_neg (fun z => this ((nI_leI (by omega) (by omega)).mp z)), nI_1]) (by
          have b1 := cb (k + 1) (by omega)
          have e2 : (2 : Int32) * nI (zj_cum E T sj (k + 1)) = nI (2 * zj_cum E T sj (k + 1)) := nI_mul 2 _
          unfold fn_Sayings_leastMiddle_l1
          dsimp only
          rw [hT2.2.1.1, if_pos (nI_lt hk (by omega)), sp_partOf hT hT2.2.1 hsj (by omega), zp_bs, zp_bs, nI_add, ← zj_cum_s, e2, hT2.2.1.2.1, if_pos (nI_le hk1 (by omega))])
        have h' : zw_whl (fn_Sayings_leastMiddle_l1 c2 (nI sj)) zw_F (0, 0) = some (.inl (nI k)) := h
        unfold fn_Sayings_leastMiddle
        rw [h', zp_bs]
      obtain ⟨c3, a3, a4, -⟩ := a2.add (by decide) (nI k).toInt64
      have hT3 := a4.2.tab hTab
      have md : fn_Sayings_mode c3 (nI sj) = some (nI (zj_md2 E (zt_p E T) sj)) := sp_mode hT hT3.2.1 hsj
      obtain ⟨c4, a5, a6, -⟩ := a4.add (by simp) (nI (zj_md2 E (zt_p E T) sj)).toInt64
      have hT4 := a6.2.tab hTab
      have hV4 := a6.2.V hp hV
      have wc : ∀ r, r < E → fn_Judge_worth c4 (54 + p) (nI (zj_to2 E T r)) (nI sj) = some (lI (f r)) := fun r hr => by
        rw [hf]; exact sp_worth hT hT4.2.1 hlen hV4 (zj_to2_p hTab.1 hr).1 hsj
      have bn : fn_Chooser_bestNumber c4 (54 + p) (nI sj) = some (nI (zs_top f E)) := by
        have h := zp_det (f := fn_Chooser_bestNumber_l1 c4 (54 + p) (nI sj)) (x := (nI (zs_top f E), lI (f (zs_top f E)))) (fun i => (nI (zs_top f i), lI (f (zs_top f i)), nI i)) E 1 (by omega) (by unfold zw_F; omega) (fun i h0 hi => by
          unfold fn_Chooser_bestNumber_l1
          dsimp only
          rw [hT4.2.1.1, if_pos (nI_lt hi (by omega)), sp_allTo hT4 hi, zp_bs, wc i hi, zp_bs, zs_top_s, nI_1]
          by_cases q : f (zs_top f i) < f i
          · rw [if_pos ((lI_lt (zf _) (zf _)).mpr q), zp_bs, if_pos q]
          · rw [if_neg (fun z => q ((lI_lt (zf _) (zf _)).mp z)), zp_bs, if_neg q]) (by
          unfold fn_Chooser_bestNumber_l1
          dsimp only
          rw [hT4.2.1.1, if_neg (nI_nlt (Nat.le_refl _) (by omega))])
        have h' : zw_whl (fn_Chooser_bestNumber_l1 c4 (54 + p) (nI sj)) zw_F (0, lI (f 0), 1) = some (nI (zs_top f E), lI (f (zs_top f E))) := by
          have e0 : (nI (zs_top f 1), lI (f (zs_top f 1)), nI 1) = ((0 : Int32), lI (f 0), (1 : Int32)) := by rw [zs_top_1]; rfl
          rw [← e0]
          exact h
        have e0 : fn_Sayings_allTo c4 0 = some (nI (zj_to2 E T 0)) := sp_allTo (r := 0) hT4 (by omega)
        unfold fn_Chooser_bestNumber
        rw [e0, zp_bs, wc 0 (by omega), zp_bs, h', zp_bs]
      have hA49 : zr_A c1 (zw_wI c4 71 9 0) := a6.2.wF (by decide)
      obtain ⟨d1, d2, d3, d4, d5, d6⟩ := zo_laid hTab hM a6.2
      have hTd := d4.tab hTab
      have hD := zr_D.start d4 d5 d6
      have wm : ∀ r, r < E → fn_M_worth d1 (nI (zj_to2 E T r)) (nI sj) = some (lI (f r)) := fun r hr => by
        rw [hf]; exact sp_Mworth hT hTd.2.2 d3 (zj_to2_p hTab.1 hr).1 hsj
      have hm1 := zp_det (f := fn_M_says_l1 d1 (nI sj)) (x := (nI (zs_top f E), lI (f (zs_top f E)))) (fun i => (if i = 0 then -1 else nI (zs_top f i), if i = 0 then 0 else lI (f (zs_top f i)), nI i)) E 0 (by omega) (by unfold zw_F; omega) (fun i h0 hi => by
        unfold fn_M_says_l1
        dsimp only
        rw [hTd.2.2.1, if_pos (nI_lt hi (by omega)), sp_MallTo hTd hi, zp_bs, wm i hi, zp_bs, if_neg (show ¬ i + 1 = 0 by omega), if_neg (show ¬ i + 1 = 0 by omega), nI_1]
        by_cases q0 : i = 0
        · subst q0
          rw [if_pos rfl, if_neg (fun z => z.1 rfl), zs_top_1]
        · have hk := zs_top_lt f (n := i) (by omega)
          rw [if_neg q0, if_neg q0, zs_top_s]
          by_cases q : f (zs_top f i) < f i
          · rw [if_neg (fun z => by have := (lI_le (zf _) (zf _)).mp z.2; omega), if_pos q]
          · rw [if_pos ⟨nI_nm1 (by omega), (lI_le (zf _) (zf _)).mpr (by omega)⟩, if_neg q]) (by
        unfold fn_M_says_l1
        dsimp only
        rw [hTd.2.2.1, if_neg (nI_nlt (Nat.le_refl _) (by omega)), if_neg (by omega), if_neg (by omega)])
      have hm1' : zw_whl (fn_M_says_l1 d1 (nI sj)) zw_F (-1, 0, 0) = some (nI (zs_top f E), lI (f (zs_top f E))) := hm1
      have hm2 := zp_det (f := fn_M_says_l2 d1 (nI sj)) (x := (nI k, nI (zj_cum E T sj (k + 1)))) (fun i => (nI i, nI (zj_cum E T sj (i + 1)))) k 0 (by omega) (by unfold zw_F; omega) (fun i h0 hi => by
        have b1 := cb (i + 1) (by omega)
        have := hk2 i hi
        have e2 : (2 : Int32) * nI (zj_cum E T sj (i + 1)) = nI (2 * zj_cum E T sj (i + 1)) := nI_mul 2 _
        unfold fn_M_says_l2
        dsimp only
        rw [e2, hTd.2.2.2.1, if_pos (nI_lt (by omega) (by omega)), nI_1, nI_at', zp_aI (by omega) (by omega), zp_bs, zp_bs, hTd.2.2.2.2.2 sj hsj (i + 1) (by omega), nI_add, ← zj_cum_s]) (by
        have b1 := cb (k + 1) (by omega)
        have e2 : (2 : Int32) * nI (zj_cum E T sj (k + 1)) = nI (2 * zj_cum E T sj (k + 1)) := nI_mul 2 _
        unfold fn_M_says_l2
        dsimp only
        rw [e2, hTd.2.2.2.1, if_neg (nI_nlt (by omega) (by omega))])
      have e72 : d1.1 72 (4 * sj) = nI (zj_cum E T sj 1) := by
        have h := hTd.2.2.2.2.2 sj hsj 0 (by omega)
        have e : zj_cum E T sj 1 = zt_p E T sj 0 := Nat.zero_add _
        rw [e]; exact h
      have hm2' : zw_whl (fn_M_says_l2 d1 (nI sj)) zw_F (0, nI (zj_cum E T sj 1)) = some (nI k, nI (zj_cum E T sj (k + 1))) := hm2
      obtain ⟨d7, f1, f2, -⟩ := hD.tell (by decide) (nI k).toInt64
      obtain ⟨d8, f3, f4, -⟩ := f2.tell (by simp) (nI (zj_md2 E (zt_p E T) sj)).toInt64
      refine ⟨nI (zs_top f E), c4, d8, ?_, ?_, f4.fin hRl (by simp) a6.1⟩
      · rw [if_neg hc, a1, zp_bs, lm, zp_bs, a3, zp_bs, md, zp_bs, a5, zp_bs, zp_bs, bn, zp_bs]
      · rw [zp_bs, hisP _ hA49, zp_bs, if_neg (by
          rw [zr_isSaying (hA49.tab hTab), ← zr_has hTab]
          rintro (h | h)
          · exact h (by decide)
          · exact hc (Or.inr h)), d2, zp_bs, hm1', zp_bs]
        dsimp only
        rw [nI_4', zp_aI (by omega) (by omega), zp_bs, e72, hm2', zp_bs]
        dsimp only
        rw [zp_bs, f1, zp_bs, sp_Mmode hT (f2.2.1.tab hTab).2.2 hsj, zp_bs, f3, zp_bs]
