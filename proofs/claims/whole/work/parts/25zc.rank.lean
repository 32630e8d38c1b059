/-! rank: whoever has just k ahead is one and no other -/
theorem zs_cnt_mono {p q : Nat → Bool} (h : ∀ i, p i = true → q i = true) : ∀ n : Nat, zs_cnt p n ≤ zs_cnt q n
  | 0 => Nat.le_refl _
  | n + 1 => by
    have ih := zs_cnt_mono h n
    show (zs_cnt p n + if p n = true then 1 else 0) ≤ zs_cnt q n + if q n = true then 1 else 0
    by_cases hp : p n = true
    · rw [if_pos hp, if_pos (h n hp)]; omega
    · rw [if_neg hp]; split <;> omega
theorem zs_cnt_lt {p q : Nat → Bool} {x : Nat} (h : ∀ i, p i = true → q i = true) (hp : p x = false) (hq : q x = true) : ∀ n : Nat, x < n → zs_cnt p n < zs_cnt q n
  | n + 1, hx => by
    show (zs_cnt p n + if p n = true then 1 else 0) < zs_cnt q n + if q n = true then 1 else 0
    by_cases e : x = n
    · have := zs_cnt_mono h n
      rw [← e, if_neg (by rw [hp]; decide), if_pos hq]
      rw [← e] at this
      omega
    · have ih := zs_cnt_lt h hp hq n (by omega)
      by_cases hp2 : p n = true
      · rw [if_pos hp2, if_pos (h n hp2)]; omega
      · rw [if_neg hp2]; split <;> omega
theorem zs_cnt_all : ∀ n : Nat, zs_cnt (fun _ => true) n = n
  | 0 => rfl
  | n + 1 => by
    show (zs_cnt (fun _ => true) n + if true = true then 1 else 0) = n + 1
    rw [zs_cnt_all n, if_pos rfl]
theorem zj_pig : ∀ (n : Nat) (f : Nat → Nat), (∀ i, i < n → f i < n) → (∀ i j, i < n → j < n → f i = f j → i = j) → ∀ k, k < n → ∃ i, i < n ∧ f i = k
  | 0, _, _, _, k, hk => absurd hk (Nat.not_lt_zero k)
  | n + 1, f, hb, hi, k, hk => by
    have ih := zj_pig n (fun i => if f i = n then f n else f i) (fun i hin => by
      show (if f i = n then f n else f i) < n
      have h1 := hb i (by omega)
      have h2 := hb n (by omega)
      by_cases e : f i = n
      · rw [if_pos e]
        by_cases e2 : f n = n
        · exact absurd (hi i n (by omega) (by omega) (by rw [e, e2])) (by omega)
        · omega
      · rw [if_neg e]; omega) (fun i j hin hjn he => by
      have he' : (if f i = n then f n else f i) = (if f j = n then f n else f j) := he
      by_cases e1 : f i = n
      · by_cases e2 : f j = n
        · exact hi i j (by omega) (by omega) (by rw [e1, e2])
        · rw [if_pos e1, if_neg e2] at he'
          exact absurd (hi n j (by omega) (by omega) he') (by omega)
      · by_cases e2 : f j = n
        · rw [if_neg e1, if_pos e2] at he'
          exact absurd (hi i n (by omega) (by omega) he') (by omega)
        · rw [if_neg e1, if_neg e2] at he'
          exact hi i j (by omega) (by omega) he')
    by_cases e : k = f n
    · exact ⟨n, by omega, e.symm⟩
    · by_cases e2 : k = n
      · have h2 := hb n (by omega)
        obtain ⟨i, h3, h4⟩ := ih (f n) (by omega)
        have h4' : (if f i = n then f n else f i) = f n := h4
        by_cases e3 : f i = n
        · exact ⟨i, by omega, by rw [e3, e2]⟩
        · rw [if_neg e3] at h4'
          exact absurd (hi i n (by omega) (by omega) h4') (by omega)
      · obtain ⟨i, h3, h4⟩ := ih k (by omega)
        have h4' : (if f i = n then f n else f i) = k := h4
        by_cases e3 : f i = n
        · rw [if_pos e3] at h4'
          exact absurd h4'.symm e
        · rw [if_neg e3] at h4'
          exact ⟨i, by omega, h4'⟩
def zj_bf (f : Nat → Int) (s o : Nat) : Bool := decide (f s < f o ∨ (f o = f s ∧ o < s))
def zj_ah (f : Nat → Int) (N s : Nat) : Nat := zs_cnt (zj_bf f s) N
theorem zj_ah_lt {f : Nat → Int} {N s : Nat} (hs : s < N) : zj_ah f N s < N := by
  have h := zs_cnt_lt (p := zj_bf f s) (q := fun _ => true) (x := s) (fun _ _ => rfl) (decide_eq_false (by omega)) rfl N hs
  rw [zs_cnt_all] at h
  exact h
theorem zj_ah_l {f : Nat → Int} {N s o : Nat} (ho : o < N) (h : f s < f o ∨ (f o = f s ∧ o < s)) : zj_ah f N o < zj_ah f N s := by
  refine zs_cnt_lt (p := zj_bf f o) (q := zj_bf f s) (x := o) (fun i hi => ?_) (decide_eq_false (by omega)) (decide_eq_true h) N ho
  have := of_decide_eq_true hi
  exact decide_eq_true (by omega)
theorem zj_ah_inj {f : Nat → Int} {N s o : Nat} (hs : s < N) (ho : o < N) (h : zj_ah f N s = zj_ah f N o) : s = o := by
  by_cases e : s = o
  · exact e
  · by_cases h1 : f s < f o ∨ (f o = f s ∧ o < s)
    · have := zj_ah_l (N := N) ho h1; omega
    · have := zj_ah_l (f := f) (N := N) (s := o) (o := s) hs (by omega); omega
theorem sp_ahead {N s : Nat} {f : Nat → Int} {c : zw_Ct} (hN : N ≤ 455) (hS : c.1 1 2 = nI N) (hY : zr_Y N f c) (hb : ∀ s, s < N → zb (f s)) (hs : s < N) : fn_Tally_numberAhead c (nI s) = some (nI (zj_ah f N s)) := by
  have h := zp_det (f := fn_Tally_numberAhead_l1 c (nI s)) (x := nI (zj_ah f N s)) (fun i => (nI (zs_cnt (zj_bf f s) i), nI i)) N 0 (Nat.zero_le _) (by unfold zw_F; omega) (fun i _ hi => by
      have e : zs_cnt (zj_bf f s) (i + 1) = zs_cnt (zj_bf f s) i + if zj_bf f s i = true then 1 else 0 := rfl
      unfold fn_Tally_numberAhead_l1
      dsimp only
      rw [hS, if_pos (nI_lt hi (by omega)), zp_aL (by omega) (by omega), zp_aL (by omega) (by omega), zp_bs, zp_bs, hY i hi, hY s hs, zp_bs, zp_bs]
      by_cases h1 : f s < f i
      · rw [if_pos ((lI_lt (hb s hs) (hb i hi)).mpr h1), zp_bs, if_pos rfl, zp_bs, if_pos (by decide), zp_bs, nI_1, nI_1, e, if_pos (show zj_bf f s i = true from decide_eq_true (Or.inl h1))]
      · rw [if_neg (fun q => h1 ((lI_lt (hb s hs) (hb i hi)).mp q)), zp_bs]
        by_cases h2 : f i = f s ∧ i < s
        · have k : lI (f i) = lI (f s) ∧ nI i < nI s := ⟨by rw [h2.1], nI_lt h2.2 (by omega)⟩
          rw [if_pos (decide_eq_true k), zp_bs, if_pos (by decide), zp_bs, nI_1, nI_1, e, if_pos (show zj_bf f s i = true from decide_eq_true (Or.inr h2))]
        · have k : ¬ (lI (f i) = lI (f s) ∧ nI i < nI s) := fun q => h2 ⟨(lI_eq (hb i hi) (hb s hs)).mp q.1, (nI_ltI (by omega) (by omega)).mp q.2⟩
          rw [if_neg (fun q => k (of_decide_eq_true q)), zp_bs, if_neg (by decide), zp_bs, Int32.add_zero, nI_1, e, if_neg (show ¬ zj_bf f s i = true from fun q => by have := of_decide_eq_true q; omega)]
          rfl) (by
      unfold fn_Tally_numberAhead_l1
      dsimp only
      rw [hS, if_neg (nI_nlt (Nat.le_refl _) (by omega))]
      rfl)
  have h' : zw_whl (fn_Tally_numberAhead_l1 c (nI s)) zw_F (0, 0) = some (nI (zj_ah f N s)) := h
  unfold fn_Tally_numberAhead
  rw [h', zp_bs]
theorem sp_Mahead {E T N t s : Nat} {pt : Nat → Nat → Nat} {V : Nat → Nat → Int32} {d : zw_Ct} (hT : zr_T E T N pt) (hM : zr_M E T N pt d) (hV : zr_V 84 E N V d) (ht : t < N) (hs : s < N) : zw_whl (fn_M_rank_l2 d (nI t) (nI s)) zw_F (0, 0) = some (nI (zj_ah (fun s => zs_w E pt V s t) N s)) := by
  have hN := hT.2.2.2.2.2.1
  obtain ⟨f, hf⟩ : ∃ f : Nat → Int, f = fun s => zs_w E pt V s t := ⟨_, rfl⟩
  have ew : ∀ i, i < N → fn_M_worth d (nI i) (nI t) = some (lI (f i)) := fun i hi => by rw [hf]; exact sp_Mworth hT hM hV hi ht
  have hb : ∀ i, i < N → zb (f i) := fun i hi => by rw [hf]; exact zs_w_zb hT ht
  rw [← hf]
  have h := zp_det (f := fn_M_rank_l2 d (nI t) (nI s)) (x := nI (zj_ah f N s)) (fun i => (nI (zs_cnt (zj_bf f s) i), nI i)) N 0 (Nat.zero_le _) (by unfold zw_F; omega) (fun i _ hi => by
      have e : zs_cnt (zj_bf f s) (i + 1) = zs_cnt (zj_bf f s) i + if zj_bf f s i = true then 1 else 0 := rfl
      unfold fn_M_rank_l2
      dsimp only
      rw [hM.2.2.1, if_pos (nI_lt hi (by omega)), ew i hi, ew s hs, zp_bs, zp_bs, zp_bs, zp_bs]
      by_cases h1 : f s < f i
      · rw [if_pos ((lI_lt (hb s hs) (hb i hi)).mpr h1), zp_bs, if_pos rfl, zp_bs, zp_bs, nI_1, nI_1, e, if_pos (show zj_bf f s i = true from decide_eq_true (Or.inl h1))]
      · rw [if_neg (fun q => h1 ((lI_lt (hb s hs) (hb i hi)).mp q))]
        by_cases h3 : i < s
        · rw [if_pos (nI_lt h3 (by omega)), zp_bs]
          by_cases h2 : f i = f s
          · rw [if_pos (decide_eq_true (congrArg lI h2)), zp_bs, zp_bs, nI_1, nI_1, e, if_pos (show zj_bf f s i = true from decide_eq_true (Or.inr ⟨h2, h3⟩))]
          · rw [if_neg (fun q => h2 ((lI_eq (hb i hi) (hb s hs)).mp (of_decide_eq_true q))), zp_bs, zp_bs, Int32.add_zero, nI_1, e, if_neg (show ¬ zj_bf f s i = true from fun q => by have := of_decide_eq_true q; omega)]
            rfl
        · rw [if_neg (fun q => h3 ((nI_ltI (by omega) (by omega)).mp q)), zp_bs, if_neg (by decide), zp_bs, zp_bs, Int32.add_zero, nI_1, e, if_neg (show ¬ zj_bf f s i = true from fun q => by have := of_decide_eq_true q; omega)]
          rfl) (by
      unfold fn_M_rank_l2
      dsimp only
      rw [hM.2.2.1, if_neg (nI_nlt (Nat.le_refl _) (by omega))]
      rfl)
  exact h
theorem zo_rank : zq_rank zr_Rel := by
  intro n c hn hRel a t k
  unfold fn_P_rank fn_M_rank
  rcases zo_pay hRel a with ⟨h1, h2⟩ | ⟨p, E, T, V, c1, hp, rfl, h1, hR, hRl, hV, hM, hlen, hisP⟩
  · refine ⟨-1, c, zw_wI c 71 9 0, ?_, ?_, zr_thr hRel⟩
    · rw [h1, zp_bs]
      dsimp only
      rw [if_pos (Or.inl (Or.inl rfl))]
    · rw [zp_bs, h2, zp_bs, if_pos (Or.inl (Or.inl (by decide)))]
  · have hTab := hRl.2.2.1
    have hT := zt_T hTab.1
    have hN : zt_N E T ≤ 455 := hT.2.2.2.2.2.1
    have hRel1 : zr_Rel n c1 := ⟨hR, E, T, hRl⟩
    rw [h1, zp_bs]
    dsimp only
    by_cases hc : ((((some (54 + p) : Option Nat) = none) ∨ (¬ (¬ (fn_Sayings_has c1 t) = 0))) ∨ (k < 0))
    · have hA9 : zr_A c1 (zw_wI c1 71 9 0) := zr_A.rf.wF (by decide)
      refine ⟨-1, c1, zw_wI c1 71 9 0, by rw [if_pos hc], ?_, zr_thr hRel1⟩
      rw [zp_bs, hisP _ hA9, zp_bs, zr_isSaying (hA9.tab hTab), ← zr_has hTab, if_pos]
      rcases hc with (h | h) | h
      · cases h
      · exact Or.inl (Or.inr h)
      · exact Or.inr h
    · obtain ⟨tj, htj, rfl⟩ := has_n (zt_N31 hTab.1) (s := t) (fun q => hc (Or.inl (Or.inr (fun z => z (by rw [zr_has hTab]; exact q)))))
      obtain ⟨kk, hkk, rfl⟩ := nI_of (x := k) (fun q => hc (Or.inr q))
      obtain ⟨f, hf⟩ : ∃ f : Nat → Int, f = fun s => zs_w E (zt_p E T) V s tj := ⟨_, rfl⟩
      have hb : ∀ s, s < zt_N E T → zb (f s) := fun s _ => by rw [hf]; exact zs_w_zb hT htj
      rw [if_neg hc, hTab.2.1.2.2.1]
      by_cases hkN : kk < zt_N E T
      · obtain ⟨s0, hs0, es0⟩ := zj_pig (zt_N E T) (zj_ah f (zt_N E T)) (fun i hi => zj_ah_lt hi) (fun i j hi hj h => zj_ah_inj hi hj h) kk hkN
        have huniq : ∀ j, j < zt_N E T → j ≠ s0 → ¬ nI (zj_ah f (zt_N E T) j) = nI kk := fun j hj hne q => by
          have hl := zj_ah_lt (f := f) hj
          have := (nI_eq (by omega) (by omega)).mp q
          exact hne (zj_ah_inj hj hs0 (by rw [this, es0]))
        obtain ⟨c2, g1, g2, g3, g4⟩ := sp_tally hT hTab.2.1 hlen hV htj
        rw [← hf] at g4
        have hS2 : c2.1 1 2 = nI (zt_N E T) := by rw [g2]; exact hTab.2.1.2.2.1
        have hA2 : zr_A c1 c2 := zr_A.eq g2
        have hw := zp_det (f := fn_Judge_tellRanked_l1 c2 (nI kk)) (x := nI s0) (fun i => (if s0 < i then nI s0 else 0, nI i)) (zt_N E T) 0 (Nat.zero_le _) (by unfold zw_F; omega) (fun i _ hi => by
          unfold fn_Judge_tellRanked_l1
          dsimp only
          rw [hS2, if_pos (nI_lt hi (by omega)), sp_ahead hN hS2 g4 hb hi, zp_bs]
          by_cases e : i = s0
          · subst e
            rw [es0, if_pos rfl, zp_bs, if_pos (Nat.lt_succ_self _), nI_1]
          · rw [if_neg (huniq i hi e), zp_bs, nI_1]
            by_cases e2 : s0 < i
            · rw [if_pos e2, if_pos (by omega)]
            · rw [if_neg e2, if_neg (by omega)]) (by
          unfold fn_Judge_tellRanked_l1
          dsimp only
          rw [hS2, if_neg (nI_nlt (Nat.le_refl _) (by omega)), if_pos hs0])
        have hw' : zw_whl (fn_Judge_tellRanked_l1 c2 (nI kk)) zw_F (0, 0) = some (nI s0) := hw
        obtain ⟨c3, a1, a2, a0⟩ := zr_C.clear hA2
        obtain ⟨c4, a3, a4, -⟩ := a2.add (by decide) (lI (f s0))
        have hx : c3.2 12 s0 = lI (f s0) := by rw [a0]; exact g4 s0 hs0
        have hA49 : zr_A c1 (zw_wI c4 71 9 0) := a4.2.wF (by decide)
        obtain ⟨d1, d2, d3, d4, d5, d6⟩ := zo_laid hTab hM a4.2
        have hD := zr_D.start d4 d5 d6
        have hTD := d4.tab hTab
        obtain ⟨e1, f1, f2, -⟩ := hD.tell (by decide) (lI (f s0))
        have hV84 : zr_V 84 E (zt_N E T) V (zw_wI d1 71 8 0) := fun s hs e he => by rw [zw_wI_ne (by decide)]; exact d3 s hs e he
        have hm := zp_det (f := fn_M_rank_l1 (nI tj) (nI kk)) (x := .inl (nI s0, e1)) (fun i => (nI i, d1)) s0 0 (Nat.zero_le _) (by unfold zw_F; omega) (fun i _ hi => by
          unfold fn_M_rank_l1
          dsimp only
          rw [hTD.2.2.2.2.1, if_pos (nI_lt (show i < zt_N E T by omega) (by omega)), sp_Mahead hT hTD.2.2 d3 htj (show i < zt_N E T by omega), ← hf, zp_bs, if_pos (huniq i (by omega) (by omega)), nI_1]) (by
          have ew : fn_M_worth (zw_wI d1 71 8 0) (nI s0) (nI tj) = some (lI (f s0)) := by rw [hf]; exact sp_Mworth hT (hD.2.1.tab hTab).2.2 hV84 hs0 htj
          unfold fn_M_rank_l1
          dsimp only
          rw [hTD.2.2.2.2.1, if_pos (nI_lt hs0 (by omega)), sp_Mahead hT hTD.2.2 d3 htj hs0, ← hf, zp_bs, es0, if_neg (fun q => q rfl), zp_bs, ew, zp_bs, f1, zp_bs])
        have hm' : zw_whl (fn_M_rank_l1 (nI tj) (nI kk)) zw_F (0, d1) = some (.inl (nI s0, e1)) := hm
        refine ⟨nI s0, c4, e1, ?_, ?_, f2.fin hRl (by simp) a4.1⟩
        · rw [if_neg (nI_ge hkN (by omega)), zp_bs]
          unfold fn_Judge_tellRanked
          rw [g1, zp_bs, hw', zp_bs, a1, zp_bs, zp_aL (by omega) (by omega), zp_bs, hx, a3, zp_bs, zp_bs]
        · rw [zp_bs, hisP _ hA49, zp_bs, zr_isSaying (hA49.tab hTab), ← zr_has hTab, if_neg (by
            rintro ((h | h) | h)
            · exact h (by decide)
            · exact hc (Or.inl (Or.inr h))
            · exact hc (Or.inr h)), d2, zp_bs, hm', zp_bs]
      · obtain ⟨d1, d2, d3, d4, d5, d6, d7⟩ := zo_laidX hTab hM (zr_A.rf (c := c1))
        have hA9 : zr_A c1 (zw_wI c1 71 9 0) := zr_A.rf.wF (by decide)
        have hTD := d4.tab hTab
        have hm := zp_det (f := fn_M_rank_l1 (nI tj) (nI kk)) (x := .inr d1) (fun i => (nI i, d1)) (zt_N E T) 0 (Nat.zero_le _) (by unfold zw_F; omega) (fun i _ hi => by
          have hl := zj_ah_lt (f := f) hi
          unfold fn_M_rank_l1
          dsimp only
          rw [hTD.2.2.2.2.1, if_pos (nI_lt hi (by omega)), sp_Mahead hT hTD.2.2 d3 htj hi, ← hf, zp_bs, if_pos (fun q => by have := (nI_eq (by omega) (by omega)).mp q; omega), nI_1]) (by
          unfold fn_M_rank_l1
          dsimp only
          rw [hTD.2.2.2.2.1, if_neg (nI_nlt (Nat.le_refl _) (by omega))])
        have hm' : zw_whl (fn_M_rank_l1 (nI tj) (nI kk)) zw_F (0, d1) = some (.inr d1) := hm
        refine ⟨-2, c1, d1, ?_, ?_, zr_fin0 hR hRl d4 (d5 61 (by decide) (by decide)) d7 (by rw [d6]) (by rw [d6])⟩
        · rw [if_pos (nI_le (by omega) hkk)]
        · rw [zp_bs, hisP _ hA9, zp_bs, zr_isSaying (hA9.tab hTab), ← zr_has hTab, if_neg (by
            rintro ((h | h) | h)
            · exact h (by decide)
            · exact hc (Or.inl (Or.inr h))
            · exact hc (Or.inr h)), d2, zp_bs, hm', zp_bs]
