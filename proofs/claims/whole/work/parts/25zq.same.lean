/-! same, alike -/
def zj_of (V W : Nat → Nat → Int32) (a : Int32) (e s : Nat) : Int64 := (a.toInt64 * (V s e).toInt64) - (W s e).toInt64
def zj_tb (V W : Nat → Nat → Int32) (a : Int32) (e s : Nat) : Bool := decide (¬ zj_of V W a e s = zj_of V W a e 0)
def zj_tn (V W : Nat → Nat → Int32) (N : Nat) (a : Int32) (e : Nat) : Bool := zj_any (zj_tb V W a e) N
def zj_tt (V W : Nat → Nat → Int32) (E N : Nat) (a : Int32) : Bool := !(zj_any (zj_tn V W N a) E)
theorem sp_differs {E T N x y : Nat} {a : Int32} {pt : Nat → Nat → Nat} {V W : Nat → Nat → Int32} {c : zw_Ct} (hT : zr_T E T N pt) (hS : zr_S E T N pt c) (hx : zw_len SH 0 x = some 1820) (hy : zw_len SH 0 y = some 1820) (hV : zr_V x E N V c) (hW : zr_V y E N W c) : fn_Judge_differsByEventAlone c x a y = some (if zj_tt V W E N a = true then 1 else 0) := by
  have hN := hT.2.2.2.2.2.1
  have hN2 := hT.2.2.2.2.1
  have hE4 := hT.2.1
  have v0 : ∀ e, e < E → c.1 x e = V 0 e := fun e he => by
    have := hV 0 (by omega) e he
    rw [Nat.mul_zero, Nat.zero_add] at this
    exact this
  have w0 : ∀ e, e < E → c.1 y e = W 0 e := fun e he => by
    have := hW 0 (by omega) e he
    rw [Nat.mul_zero, Nat.zero_add] at this
    exact this
  have tb0 : ∀ e, zj_tb V W a e 0 = false := fun e => decide_eq_false (fun q => q rfl)
  have istep : ∀ e, e < E → ∀ s, s < N → fn_Judge_differsByEventAlone_l2 c (nI e) x y a (zj_of V W a e 0) (nI s) = if zj_tb V W a e s = true then some (.inl (.inl 0)) else some (.inr (nI (s + 1))) := fun e he s hs => by
    unfold fn_Judge_differsByEventAlone_l2
    rw [hS.2.2.1, if_pos (nI_lt hs (by omega)), zp_bs, nI_at, zp_dI hx (by omega) (by omega), zp_bs, zp_dI hy (by omega) (by omega), zp_bs, hV s hs e he, hW s hs e he, nI_1]
    by_cases h : ¬ zj_of V W a e s = zj_of V W a e 0
    · rw [if_pos (show zj_tb V W a e s = true from decide_eq_true h)]
      exact if_pos h
    · rw [if_neg (show ¬ zj_tb V W a e s = true from fun q => h (of_decide_eq_true q))]
      exact if_neg h
  have inner : ∀ e, e < E → zw_whl (fn_Judge_differsByEventAlone_l2 c (nI e) x y a (zj_of V W a e 0)) zw_F 1 = some (if zj_tn V W N a e = true then .inl 0 else .inr ()) := fun e he => by
    unfold zj_tn
    rcases zj_fst (zj_tb V W a e) N with hn | ⟨k, hk, hbk, hfk⟩
    · have h := zp_det (f := fn_Judge_differsByEventAlone_l2 c (nI e) x y a (zj_of V W a e 0)) (x := .inr ()) (fun i => nI i) N 1 (by omega) (by unfold zw_F; omega) (fun i _ hi => by rw [istep e he i hi, hn i hi, if_neg (by decide)]) (by
        unfold fn_Judge_differsByEventAlone_l2
        rw [hS.2.2.1, if_neg (nI_nlt (Nat.le_refl _) (by omega))])
      have h' : zw_whl (fn_Judge_differsByEventAlone_l2 c (nI e) x y a (zj_of V W a e 0)) zw_F 1 = some (.inr ()) := h
      rw [h', zj_any_no N hn]
      rfl
    · have hk1 : 1 ≤ k := by
        rcases Nat.eq_zero_or_pos k with q | q
        · rw [q, tb0] at hbk; cases hbk
        · exact q
      have h := zp_det (f := fn_Judge_differsByEventAlone_l2 c (nI e) x y a (zj_of V W a e 0)) (x := .inl 0) (fun i => nI i) k 1 hk1 (by unfold zw_F; omega) (fun i _ hi => by rw [istep e he i (by omega), hfk i hi, if_neg (by decide)]) (by rw [istep e he k hk, hbk, if_pos rfl])
      have h' : zw_whl (fn_Judge_differsByEventAlone_l2 c (nI e) x y a (zj_of V W a e 0)) zw_F 1 = some (.inl 0) := h
      rw [h', zj_any_yes hbk N hk]
      rfl
  have ostep : ∀ e, e < E → fn_Judge_differsByEventAlone_l1 c x y a (nI e) = if zj_tn V W N a e = true then some (.inl (.inl 0)) else some (.inr (nI (e + 1))) := fun e he => by
    unfold fn_Judge_differsByEventAlone_l1
    rw [hS.1, if_pos (nI_lt he (by omega)), zp_dI hx (by omega) (by omega), zp_bs, zp_dI hy (by omega) (by omega), zp_bs, zp_bs, v0 e he, w0 e he]
    have hi := inner e he
    unfold zj_of at hi
    rw [hi, zp_bs, nI_1]
    cases zj_tn V W N a e <;> rfl
  unfold fn_Judge_differsByEventAlone zj_tt
  rcases zj_fst (zj_tn V W N a) E with hn | ⟨k, hk, hbk, hfk⟩
  · have h := zp_det (f := fn_Judge_differsByEventAlone_l1 c x y a) (x := .inr ()) (fun i => nI i) E 0 (Nat.zero_le _) (by unfold zw_F; omega) (fun i _ hi => by rw [ostep i hi, hn i hi, if_neg (by decide)]) (by
      unfold fn_Judge_differsByEventAlone_l1
      rw [hS.1, if_neg (nI_nlt (Nat.le_refl _) (by omega))])
    have h' : zw_whl (fn_Judge_differsByEventAlone_l1 c x y a) zw_F 0 = some (.inr ()) := h
    rw [h', zp_bs, zj_any_no E hn]
    rfl
  · have h := zp_det (f := fn_Judge_differsByEventAlone_l1 c x y a) (x := .inl 0) (fun i => nI i) k 0 (Nat.zero_le _) (by unfold zw_F; omega) (fun i _ hi => by rw [ostep i (by omega), hfk i hi, if_neg (by decide)]) (by rw [ostep k hk, hbk, if_pos rfl])
    have h' : zw_whl (fn_Judge_differsByEventAlone_l1 c x y a) zw_F 0 = some (.inl 0) := h
    rw [h', zp_bs, zj_any_yes hbk E hk]
    rfl
theorem sp_isTimes {E T N : Nat} {a : Int32} {pt : Nat → Nat → Nat} {V W : Nat → Nat → Int32} {c : zw_Ct} (hT : zr_T E T N pt) (hM : zr_M E T N pt c) (hV : zr_V 84 E N V c) (hW : zr_V 85 E N W c) : fn_M_isTimes c a = some (if zj_tt V W E N a = true then 1 else 0) := by
  have hN := hT.2.2.2.2.2.1
  have hN2 := hT.2.2.2.2.1
  have hE4 := hT.2.1
  have v0 : ∀ e, e < E → c.1 84 e = V 0 e := fun e he => by
    have := hV 0 (by omega) e he
    rw [Nat.mul_zero, Nat.zero_add] at this
    exact this
  have w0 : ∀ e, e < E → c.1 85 e = W 0 e := fun e he => by
    have := hW 0 (by omega) e he
    rw [Nat.mul_zero, Nat.zero_add] at this
    exact this
  have tb0 : ∀ e, zj_tb V W a e 0 = false := fun e => decide_eq_false (fun q => q rfl)
  have istep : ∀ e, e < E → ∀ s, s < N → fn_M_isTimes_l2 c (nI e) a (zj_of V W a e 0) (nI s) = if zj_tb V W a e s = true then some (.inl (.inl 0)) else some (.inr (nI (s + 1))) := fun e he s hs => by
    unfold fn_M_isTimes_l2
    rw [hM.2.2.1, if_pos (nI_lt hs (by omega)), nI_at', zp_aI (by omega) (by omega), zp_bs, zp_aI (by omega) (by omega), zp_bs, hV s hs e he, hW s hs e he, nI_1]
    by_cases h : ¬ zj_of V W a e s = zj_of V W a e 0
    · rw [if_pos (show zj_tb V W a e s = true from decide_eq_true h)]
      exact if_pos h
    · rw [if_neg (show ¬ zj_tb V W a e s = true from fun q => h (of_decide_eq_true q))]
      exact if_neg h
  have inner : ∀ e, e < E → zw_whl (fn_M_isTimes_l2 c (nI e) a (zj_of V W a e 0)) zw_F 1 = some (if zj_tn V W N a e = true then .inl 0 else .inr ()) := fun e he => by
    unfold zj_tn
    rcases zj_fst (zj_tb V W a e) N with hn | ⟨k, hk, hbk, hfk⟩
    · have h := zp_det (f := fn_M_isTimes_l2 c (nI e) a (zj_of V W a e 0)) (x := .inr ()) (fun i => nI i) N 1 (by omega) (by unfold zw_F; omega) (fun i _ hi => by rw [istep e he i hi, hn i hi, if_neg (by decide)]) (by
        unfold fn_M_isTimes_l2
        rw [hM.2.2.1, if_neg (nI_nlt (Nat.le_refl _) (by omega))])
      have h' : zw_whl (fn_M_isTimes_l2 c (nI e) a (zj_of V W a e 0)) zw_F 1 = some (.inr ()) := h
      rw [h', zj_any_no N hn]
      rfl
    · have hk1 : 1 ≤ k := by
        rcases Nat.eq_zero_or_pos k with q | q
        · rw [q, tb0] at hbk; cases hbk
        · exact q
      have h := zp_det (f := fn_M_isTimes_l2 c (nI e) a (zj_of V W a e 0)) (x := .inl 0) (fun i => nI i) k 1 hk1 (by unfold zw_F; omega) (fun i _ hi => by rw [istep e he i (by omega), hfk i hi, if_neg (by decide)]) (by rw [istep e he k hk, hbk, if_pos rfl])
      have h' : zw_whl (fn_M_isTimes_l2 c (nI e) a (zj_of V W a e 0)) zw_F 1 = some (.inl 0) := h
      rw [h', zj_any_yes hbk N hk]
      rfl
  have ostep : ∀ e, e < E → fn_M_isTimes_l1 c a (nI e) = if zj_tn V W N a e = true then some (.inl (.inl 0)) else some (.inr (nI (e + 1))) := fun e he => by
    unfold fn_M_isTimes_l1
    rw [hM.1, if_pos (nI_lt he (by omega)), zp_aI (by omega) (by omega), zp_bs, zp_aI (by omega) (by omega), zp_bs, zp_bs, v0 e he, w0 e he]
    have hi := inner e he
    unfold zj_of at hi
    rw [hi, zp_bs, nI_1]
    cases zj_tn V W N a e <;> rfl
  unfold fn_M_isTimes zj_tt
  rcases zj_fst (zj_tn V W N a) E with hn | ⟨k, hk, hbk, hfk⟩
  · have h := zp_det (f := fn_M_isTimes_l1 c a) (x := .inr ()) (fun i => nI i) E 0 (Nat.zero_le _) (by unfold zw_F; omega) (fun i _ hi => by rw [ostep i hi, hn i hi, if_neg (by decide)]) (by
      unfold fn_M_isTimes_l1
      rw [hM.1, if_neg (nI_nlt (Nat.le_refl _) (by omega))])
    have h' : zw_whl (fn_M_isTimes_l1 c a) zw_F 0 = some (.inr ()) := h
    rw [h', zp_bs, zj_any_no E hn]
    rfl
  · have h := zp_det (f := fn_M_isTimes_l1 c a) (x := .inl 0) (fun i => nI i) k 0 (Nat.zero_le _) (by unfold zw_F; omega) (fun i _ hi => by rw [ostep i (by omega), hfk i hi, if_neg (by decide)]) (by rw [ostep k hk, hbk, if_pos rfl])
    have h' : zw_whl (fn_M_isTimes_l1 c a) zw_F 0 = some (.inl 0) := h
    rw [h', zp_bs, zj_any_yes hbk E hk]
    rfl
theorem zo_same : zq_same zr_Rel := by
  intro n c hn hRel a b
  unfold fn_P_same fn_M_same
  rcases zo_pays hRel a b with ⟨r, r', c1, c2, e1, e2, e3, e4, e5⟩ | ⟨p, q, E, T, c1, c2, hp, hq, rfl, rfl, e1, e2, hR, hRl, hV, hW, hisP⟩
  · refine ⟨-1, c2, zw_wI c2 71 9 0, ?_, ?_, zr_thr e4⟩
    · rw [e1, zp_bs]
      dsimp only
      rw [e2, zp_bs]
      dsimp only
      rw [if_pos e3]
    · rw [zp_bs]
      rcases e5 with h | ⟨h, h'⟩
      · rw [h, zp_bs, if_pos (by decide)]
      · rw [h, zp_bs, if_neg (by decide), h', zp_bs, if_pos (by decide)]
  · have hTab := hRl.2.2.1
    have hT := zt_T hTab.1
    have hA9 : zr_A c2 (zw_wI c2 71 9 0) := zr_A.rf.wF (by decide)
    obtain ⟨i1, i2⟩ := hisP _ hA9
    obtain ⟨d, a1, a2, a3, a4, a5, a6⟩ := sp_layBoth hTab.1 hTab.2.2 hV hW hA9.B
    have hAd : zr_A c2 d := ⟨fun k k1 k2 => (a4 k k2 (fun e => k1 (by rw [e]; decide)) (fun e => k1 (by rw [e]; decide))).trans (hA9.1 k k1 k2), fun j hj => (a5 j (Or.inl hj)).trans (hA9.2 j hj)⟩
    refine ⟨if zj_tt (fun s e => c2.1 (54 + p) (4 * s + e)) (fun s e => c2.1 (54 + q) (4 * s + e)) E (zt_N E T) 1 = true then 1 else 0, c2, d, ?_, ?_, zr_fin0 hR hRl hAd ((a4 61 (by decide) (by decide) (by decide)).trans (zw_wI_ne (by decide))) ((a5 8 (Or.inr rfl)).trans (zw_wI_at (by decide))) (by rw [a6]; rfl) (by rw [a6]; rfl)⟩
    · rw [e1, zp_bs]
      dsimp only
      rw [e2, zp_bs]
      dsimp only
      rw [if_neg (show ¬ (((some (54 + p) : Option Nat) = none) ∨ ((some (54 + q) : Option Nat) = none)) by rintro (h | h) <;> cases h), zp_bs, zp_bs, sp_differs hT hTab.2.1 (zo_len hp) (zo_len hq) (fun s _ e _ => rfl) (fun s _ e _ => rfl), zp_bs]
      cases zj_tt (fun s e => c2.1 (54 + p) (4 * s + e)) (fun s e => c2.1 (54 + q) (4 * s + e)) E (zt_N E T) 1 <;> rfl
    · rw [zp_bs, i1, zp_bs, if_neg (by decide), i2, zp_bs, if_neg (by decide), a1, zp_bs, sp_isTimes hT (hAd.tab hTab).2.2 a2 a3, zp_bs]
      cases zj_tt (fun s e => c2.1 (54 + p) (4 * s + e)) (fun s e => c2.1 (54 + q) (4 * s + e)) E (zt_N E T) 1 <;> rfl
theorem zo_alike : zq_alike zr_Rel := by
  intro n c hn hRel a b
  unfold fn_P_alike fn_M_alike
  rcases zo_pays hRel a b with ⟨r, r', c1, c2, e1, e2, e3, e4, e5⟩ | ⟨p, q, E, T, c1, c2, hp, hq, rfl, rfl, e1, e2, hR, hRl, hV, hW, hisP⟩
  · refine ⟨-1, c2, zw_wI c2 71 9 0, ?_, ?_, zr_thr e4⟩
    · rw [e1, zp_bs]
      dsimp only
      rw [e2, zp_bs]
      dsimp only
      rw [if_pos e3]
    · rw [zp_bs]
      rcases e5 with h | ⟨h, h'⟩
      · rw [h, zp_bs, if_pos (by decide)]
      · rw [h, zp_bs, if_neg (by decide), h', zp_bs, if_pos (by decide)]
  · have hTab := hRl.2.2.1
    have hT := zt_T hTab.1
    obtain ⟨V, hVd⟩ : ∃ V : Nat → Nat → Int32, V = fun s e => c2.1 (54 + p) (4 * s + e) := ⟨_, rfl⟩
    obtain ⟨W, hWd⟩ : ∃ W : Nat → Nat → Int32, W = fun s e => c2.1 (54 + q) (4 * s + e) := ⟨_, rfl⟩
    have hVr : zr_V (54 + p) E (zt_N E T) V c2 := fun s _ e _ => by rw [hVd]
    have hWr : zr_V (54 + q) E (zt_N E T) W c2 := fun s _ e _ => by rw [hWd]
    rw [← hVd] at hV
    rw [← hWd] at hW
    -- the Model's two tables behind any contents
    have lay : ∀ c3, zr_A c2 c3 → ∃ d, fn_M_layBoth (zw_wI c3 71 9 0) (nI p) (nI q) = some d ∧ zr_V 84 E (zt_N E T) V d ∧ zr_V 85 E (zt_N E T) W d ∧ zr_D [] c2 c3 (zw_wI d 71 8 0) := fun c3 hA3 => by
      have hA39 : zr_A c2 (zw_wI c3 71 9 0) := hA3.wF (by decide)
      obtain ⟨d, a1, a2, a3, a4, a5, a6⟩ := sp_layBoth hTab.1 hTab.2.2 hV hW hA39.B
      have hAd : zr_A c2 d := ⟨fun k k1 k2 => (a4 k k2 (fun e => k1 (by rw [e]; decide)) (fun e => k1 (by rw [e]; decide))).trans (hA39.1 k k1 k2), fun j hj => (a5 j (Or.inl hj)).trans (hA39.2 j hj)⟩
      exact ⟨d, a1, a2, a3, zr_D.start hAd ((a4 61 (by decide) (by decide) (by decide)).trans (zw_wI_ne (by decide))) a6⟩
    obtain ⟨c3, b1, b2, -⟩ := zr_C.clear (c1 := c2) (c3 := c2) zr_A.rf
    have cstep : ∀ i : Nat, i ≤ 20 → fn_Judge_differsByEventAlone c3 (54 + p) (nI i) (54 + q) = some (if zj_tt V W E (zt_N E T) (nI i) = true then 1 else 0) := fun i _ => sp_differs hT (b2.2.tab hTab).2.1 (zo_len hp) (zo_len hq) (b2.2.V hp hVr) (b2.2.V hq hWr)
    have cond : ¬ (((some (54 + p) : Option Nat) = none) ∨ ((some (54 + q) : Option Nat) = none)) := by rintro (h | h) <;> cases h
    rcases zj_fst (fun i => decide (1 ≤ i) && zj_tt V W E (zt_N E T) (nI i)) 21 with hn | ⟨k, hk, hbk, hfk⟩
    · have hno : ∀ i, 1 ≤ i → i < 21 → zj_tt V W E (zt_N E T) (nI i) = false := fun i h1 hi => by
        have := hn i hi
        rw [decide_eq_true h1, Bool.true_and] at this
        exact this
      have hA39 : zr_A c2 (zw_wI c3 71 9 0) := b2.2.wF (by decide)
      obtain ⟨i1, i2⟩ := hisP _ hA39
      obtain ⟨d, a1, a2, a3, hD⟩ := lay c3 b2.2
      have hTd := hD.2.1.tab hTab
      have hw := zp_det (f := fn_Judge_tellFactor_l1 (54 + p) (54 + q)) (x := .inr c3) (fun i => (nI i, c3)) 21 1 (by omega) (by unfold zw_F; omega) (fun i h1 hi => by
        unfold fn_Judge_tellFactor_l1
        dsimp only
        rw [if_pos (show nI i ≤ (20 : Int32) from nI_le (b := 20) (by omega) (by omega)), cstep i (by omega), zp_bs, hno i h1 hi, if_neg (show ¬ ¬ (if false = true then (1 : Int32) else 0) = 0 by decide), nI_1]) (by
        unfold fn_Judge_tellFactor_l1
        dsimp only
        rw [if_neg (show ¬ nI 21 ≤ (20 : Int32) by decide)])
      have hw' : zw_whl (fn_Judge_tellFactor_l1 (54 + p) (54 + q)) zw_F (1, c3) = some (.inr c3) := hw
      have hm := zp_det (f := fn_M_alike_l1) (x := .inr (zw_wI d 71 8 0)) (fun i => (nI i, zw_wI d 71 8 0)) 21 1 (by omega) (by unfold zw_F; omega) (fun i h1 hi => by
        unfold fn_M_alike_l1
        dsimp only
        rw [if_pos (show nI i ≤ (20 : Int32) from nI_le (b := 20) (by omega) (by omega)), sp_isTimes hT hTd.2.2 (V := V) (W := W) (fun s hs e he => by rw [zw_wI_ne (by decide)]; exact a2 s hs e he) (fun s hs e he => by rw [zw_wI_ne (by decide)]; exact a3 s hs e he), zp_bs, hno i h1 hi, if_pos (show ¬ ¬ (if false = true then (1 : Int32) else 0) = 0 by decide), nI_1]) (by
        unfold fn_M_alike_l1
        dsimp only
        rw [if_neg (show ¬ nI 21 ≤ (20 : Int32) by decide)])
      have hm' : zw_whl fn_M_alike_l1 zw_F (1, zw_wI d 71 8 0) = some (.inr (zw_wI d 71 8 0)) := hm
      refine ⟨0, c3, zw_wI d 71 8 0, ?_, ?_, hD.fin hRl (by simp) b2.1⟩
      · rw [e1, zp_bs]
        dsimp only
        rw [e2, zp_bs]
        dsimp only
        rw [if_neg cond, zp_bs, zp_bs]
        unfold fn_Judge_tellFactor
        rw [b1, zp_bs, hw', zp_bs]
        rfl
      · rw [zp_bs, i1, zp_bs, if_neg (by decide), i2, zp_bs, if_neg (by decide), a1, zp_bs, zp_bs, hm', zp_bs]
    · have hk1 : 1 ≤ k ∧ zj_tt V W E (zt_N E T) (nI k) = true := by
        by_cases h : 1 ≤ k
        · rw [decide_eq_true h, Bool.true_and] at hbk
          exact ⟨h, hbk⟩
        · rw [decide_eq_false h, Bool.false_and] at hbk
          cases hbk
      have hno : ∀ i, 1 ≤ i → i < k → zj_tt V W E (zt_N E T) (nI i) = false := fun i h1 hi => by
        have := hfk i hi
        rw [decide_eq_true h1, Bool.true_and] at this
        exact this
      obtain ⟨c4, b3, b4, -⟩ := b2.add (by decide) (nI k).toInt64
      have hA49 : zr_A c2 (zw_wI c4 71 9 0) := b4.2.wF (by decide)
      obtain ⟨i1, i2⟩ := hisP _ hA49
      obtain ⟨d, a1, a2, a3, hD⟩ := lay c4 b4.2
      have hTd := hD.2.1.tab hTab
      obtain ⟨d2, f1, f2, -⟩ := hD.tell (by decide) (nI k).toInt64
      have hw := zp_det (f := fn_Judge_tellFactor_l1 (54 + p) (54 + q)) (x := .inl (1, c4)) (fun i => (nI i, c3)) k 1 hk1.1 (by unfold zw_F; omega) (fun i h1 hi => by
        unfold fn_Judge_tellFactor_l1
        dsimp only
        rw [if_pos (show nI i ≤ (20 : Int32) from nI_le (b := 20) (by omega) (by omega)), cstep i (by omega), zp_bs, hno i h1 hi, if_neg (show ¬ ¬ (if false = true then (1 : Int32) else 0) = 0 by decide), nI_1]) (by
        unfold fn_Judge_tellFactor_l1
        dsimp only
        rw [if_pos (show nI k ≤ (20 : Int32) from nI_le (b := 20) (by omega) (by omega)), cstep k (by omega), zp_bs, hk1.2, if_pos (show ¬ (if true = true then (1 : Int32) else 0) = 0 by decide), b3, zp_bs])
      have hw' : zw_whl (fn_Judge_tellFactor_l1 (54 + p) (54 + q)) zw_F (1, c3) = some (.inl (1, c4)) := hw
      have hm := zp_det (f := fn_M_alike_l1) (x := .inl (1, d2)) (fun i => (nI i, zw_wI d 71 8 0)) k 1 hk1.1 (by unfold zw_F; omega) (fun i h1 hi => by
        unfold fn_M_alike_l1
        dsimp only
        rw [if_pos (show nI i ≤ (20 : Int32) from nI_le (b := 20) (by omega) (by omega)), sp_isTimes hT hTd.2.2 (V := V) (W := W) (fun s hs e he => by rw [zw_wI_ne (by decide)]; exact a2 s hs e he) (fun s hs e he => by rw [zw_wI_ne (by decide)]; exact a3 s hs e he), zp_bs, hno i h1 hi, if_pos (show ¬ ¬ (if false = true then (1 : Int32) else 0) = 0 by decide), nI_1]) (by
        unfold fn_M_alike_l1
        dsimp only
        rw [if_pos (show nI k ≤ (20 : Int32) from nI_le (b := 20) (by omega) (by omega)), sp_isTimes hT hTd.2.2 (V := V) (W := W) (fun s hs e he => by rw [zw_wI_ne (by decide)]; exact a2 s hs e he) (fun s hs e he => by rw [zw_wI_ne (by decide)]; exact a3 s hs e he), zp_bs, hk1.2, if_neg (show ¬ ¬ ¬ (if true = true then (1 : Int32) else 0) = 0 by decide), f1, zp_bs])
      have hm' : zw_whl fn_M_alike_l1 zw_F (1, zw_wI d 71 8 0) = some (.inl (1, d2)) := hm
      refine ⟨1, c4, d2, ?_, ?_, f2.fin hRl (by simp) b4.1⟩
      · rw [e1, zp_bs]
        dsimp only
        rw [e2, zp_bs]
        dsimp only
        rw [if_neg cond, zp_bs, zp_bs]
        unfold fn_Judge_tellFactor
        rw [b1, zp_bs, hw', zp_bs]
        rfl
      · rw [zp_bs, i1, zp_bs, if_neg (by decide), i2, zp_bs, if_neg (by decide), a1, zp_bs, zp_bs, hm', zp_bs]
