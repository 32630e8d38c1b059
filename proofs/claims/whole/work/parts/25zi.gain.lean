/-! gain, peers -/
def zj_gn (E N : Nat) (V : Nat → Nat → Int32) (a b : Nat) : Bool := zj_any (fun s => decide (0 < zj_min (zj_more V a b s) E)) N
theorem sp_canGain {E T N v a b : Nat} {pt : Nat → Nat → Nat} {V : Nat → Nat → Int32} {c : zw_Ct} (hT : zr_T E T N pt) (hS : zr_S E T N pt c) (hv : zw_len SH 0 v = some 1820) (hV : zr_V v E N V c) (ha : a < N) (hb : b < N) : fn_Contest_canGain c v (nI a) (nI b) = some (if zj_gn E N V a b = true then 1 else 0) := by
  have hN := hT.2.2.2.2.2.1
  unfold fn_Contest_canGain zj_gn
  rcases zj_fst (fun s => decide (0 < zj_min (zj_more V a b s) E)) N with hn | ⟨k, hk, hbk, hfk⟩
  · have h := zp_det (f := fn_Contest_canGain_l1 c v (nI a) (nI b)) (x := .inr ()) (fun i => nI i) N 0 (Nat.zero_le _) (by unfold zw_F; omega) (fun i _ hi => by
      have h0 := of_decide_eq_false (hn i hi)
      unfold fn_Contest_canGain_l1
      rw [hS.2.2.1, if_pos (nI_lt hi (by omega)), sp_leastMore hT hS hv hV ha hb hi, zp_bs, if_neg (fun q => h0 ((lI_pos (zj_least_z V a b i E)).mp q)), nI_1]) (by
      unfold fn_Contest_canGain_l1
      rw [hS.2.2.1, if_neg (nI_nlt (Nat.le_refl _) (by omega))])
    have h' : zw_whl (fn_Contest_canGain_l1 c v (nI a) (nI b)) zw_F 0 = some (.inr ()) := h
    rw [h', zp_bs, zj_any_no N hn]
    rfl
  · have h0 := of_decide_eq_true hbk
    have h := zp_det (f := fn_Contest_canGain_l1 c v (nI a) (nI b)) (x := .inl 1) (fun i => nI i) k 0 (Nat.zero_le _) (by unfold zw_F; omega) (fun i _ hi => by
      have h0 := of_decide_eq_false (hfk i hi)
      unfold fn_Contest_canGain_l1
      rw [hS.2.2.1, if_pos (nI_lt (show i < N by omega) (by omega)), sp_leastMore hT hS hv hV ha hb (show i < N by omega), zp_bs, if_neg (fun q => h0 ((lI_pos (zj_least_z V a b i E)).mp q)), nI_1]) (by
      unfold fn_Contest_canGain_l1
      rw [hS.2.2.1, if_pos (nI_lt hk (by omega)), sp_leastMore hT hS hv hV ha hb hk, zp_bs, if_pos ((lI_pos (zj_least_z V a b k E)).mpr h0)])
    have h' : zw_whl (fn_Contest_canGain_l1 c v (nI a) (nI b)) zw_F 0 = some (.inl 1) := h
    rw [h', zp_bs, zj_any_yes hbk N hk]
    rfl
theorem sp_McanGain {E T N a b : Nat} {pt : Nat → Nat → Nat} {V : Nat → Nat → Int32} {d : zw_Ct} (hT : zr_T E T N pt) (hM : zr_M E T N pt d) (hV : zr_V 84 E N V d) (ha : a < N) (hb : b < N) : zw_whl (fn_M_gain_l3 d (nI a) (nI b)) zw_F (0, 0) = some (if zj_gn E N V a b = true then 1 else 0) := by
  have hN := hT.2.2.2.2.2.1
  unfold zj_gn
  rcases zj_fst (fun s => decide (0 < zj_min (zj_more V a b s) E)) N with hn | ⟨k, hk, hbk, hfk⟩
  · have h := zp_det (f := fn_M_gain_l3 d (nI a) (nI b)) (x := 0) (fun i => (0, nI i)) N 0 (Nat.zero_le _) (by unfold zw_F; omega) (fun i _ hi => by
      have h0 := of_decide_eq_false (hn i hi)
      unfold fn_M_gain_l3
      dsimp only
      rw [hM.2.2.1, if_pos ⟨nI_lt hi (by omega), fun q => q rfl⟩, sp_Mmore hT hM hV ha hb hi, zp_bs, if_neg (fun q => h0 ((lI_pos (zj_least_z V a b i E)).mp q)), zp_bs, nI_1]) (by
      unfold fn_M_gain_l3
      dsimp only
      rw [hM.2.2.1, if_neg (fun q => nI_nlt (Nat.le_refl _) (by omega) q.1)])
    rw [zj_any_no N hn]
    exact h
  · have h0 := of_decide_eq_true hbk
    have h := zp_det (f := fn_M_gain_l3 d (nI a) (nI b)) (x := 1) (fun i => (if i ≤ k then 0 else 1, nI i)) (k + 1) 0 (Nat.zero_le _) (by unfold zw_F; omega) (fun i _ hi => by
      unfold fn_M_gain_l3
      dsimp only
      rw [if_pos (show i ≤ k by omega), hM.2.2.1, if_pos ⟨nI_lt (show i < N by omega) (by omega), fun q => q rfl⟩, sp_Mmore hT hM hV ha hb (show i < N by omega), zp_bs, nI_1]
      by_cases e : i = k
      · rw [e, if_pos ((lI_pos (zj_least_z V a b k E)).mpr h0), zp_bs, if_neg (show ¬ k + 1 ≤ k by omega)]
      · have h0 := of_decide_eq_false (hfk i (by omega))
        rw [if_neg (fun q => h0 ((lI_pos (zj_least_z V a b i E)).mp q)), zp_bs, if_pos (show i + 1 ≤ k by omega)]) (by
      unfold fn_M_gain_l3
      dsimp only
      rw [if_neg (show ¬ k + 1 ≤ k by omega), if_neg (fun q => q.2 (by decide))])
    rw [zj_any_yes hbk N hk]
    exact h
def zj_gi (g : Nat → Nat → Bool) (a : Nat) (r : Nat × List Int64) : Nat → Nat × List Int64
  | 0 => r
  | b + 1 => if a < b ∧ g a b = true then ((zj_gi g a r b).1 + 1, if (zj_gi g a r b).1 = 0 then ((zj_gi g a r b).2 ++ [(nI a).toInt64]) ++ [(nI b).toInt64] else (zj_gi g a r b).2) else zj_gi g a r b
theorem zj_gi_s (g : Nat → Nat → Bool) (a : Nat) (r : Nat × List Int64) (b : Nat) : zj_gi g a r (b + 1) = if a < b ∧ g a b = true then ((zj_gi g a r b).1 + 1, if (zj_gi g a r b).1 = 0 then ((zj_gi g a r b).2 ++ [(nI a).toInt64]) ++ [(nI b).toInt64] else (zj_gi g a r b).2) else zj_gi g a r b := rfl
theorem zj_gi_0 (g : Nat → Nat → Bool) (a : Nat) (r : Nat × List Int64) : ∀ b : Nat, b ≤ a + 1 → zj_gi g a r b = r
  | 0, _ => rfl
  | b + 1, h => by rw [zj_gi_s, if_neg (fun q => by omega), zj_gi_0 g a r b (by omega)]
def zj_gw (r : Nat × List Int64) (B : Nat) : Prop := r.1 ≤ B ∧ (r.1 = 0 → r.2 = []) ∧ r.2.length ≤ 2
theorem zj_gi_p {g : Nat → Nat → Bool} {a B : Nat} {r : Nat × List Int64} (h : zj_gw r B) : ∀ b : Nat, zj_gw (zj_gi g a r b) (B + b)
  | 0 => h
  | b + 1 => by
    obtain ⟨h1, h2, h3⟩ := zj_gi_p (g := g) (a := a) h b
    rw [zj_gi_s]
    by_cases hc : a < b ∧ g a b = true
    · rw [if_pos hc]
      refine ⟨by dsimp only; omega, fun q => by dsimp only at q; omega, ?_⟩
      dsimp only
      by_cases h0 : (zj_gi g a r b).1 = 0
      · rw [if_pos h0, h2 h0]; simp
      · rw [if_neg h0]; exact h3
    · rw [if_neg hc]
      exact ⟨by omega, h2, h3⟩
def zj_go (g : Nat → Nat → Bool) (N : Nat) : Nat → Nat × List Int64
  | 0 => (0, [])
  | a + 1 => zj_gi g a (zj_go g N a) N
theorem zj_go_p {g : Nat → Nat → Bool} {N : Nat} : ∀ a : Nat, zj_gw (zj_go g N a) (a * N)
  | 0 => ⟨Nat.zero_le _, fun _ => rfl, Nat.zero_le _⟩
  | a + 1 => by
    have h := zj_gi_p (g := g) (a := a) (zj_go_p (g := g) (N := N) a) N
    rw [Nat.add_mul, Nat.one_mul]
    exact h
theorem zo_gain : zq_gain zr_Rel := by
  intro n c hn hRel a
  unfold fn_P_gain fn_M_gain
  rcases zo_pay hRel a with ⟨h1, h2⟩ | ⟨p, E, T, V, c1, hp, rfl, h1, hR, hRl, hV, hM, hlen, hisP⟩
  · refine ⟨-1, c, zw_wI c 71 9 0, ?_, ?_, zr_thr hRel⟩
    · rw [h1, zp_bs]
      dsimp only
      rw [if_pos rfl]
    · rw [zp_bs, h2, zp_bs, if_pos (by decide)]
  · have hTab := hRl.2.2.1
    have hT := zt_T hTab.1
    have hN : zt_N E T ≤ 455 := hT.2.2.2.2.2.1
    have hRel1 : zr_Rel n c1 := ⟨hR, E, T, hRl⟩
    rw [h1, zp_bs]
    dsimp only
    have hA9 : zr_A c1 (zw_wI c1 71 9 0) := zr_A.rf.wF (by decide)
    rw [if_neg (show ¬ (some (54 + p) : Option Nat) = none by intro q; cases q)]
    by_cases hc : (91 : Int32) < c1.1 1 2
    · refine ⟨-3, c1, zw_wI c1 71 9 0, by rw [if_pos hc], ?_, zr_thr hRel1⟩
      rw [zp_bs, hisP _ hA9, zp_bs, if_neg (by decide), (hA9.tab hTab).2.2.2.2.1, ← hTab.2.1.2.2.1, if_pos hc]
    · have hc' : ¬ (91 : Int32) < nI (zt_N E T) := by rw [← hTab.2.1.2.2.1]; exact hc
      obtain ⟨g, hg⟩ : ∃ g : Nat → Nat → Bool, g = zj_gn E (zt_N E T) V := ⟨_, rfl⟩
      have gob : ∀ a, a ≤ zt_N E T → (zj_go g (zt_N E T) a).1 ≤ 207025 := fun a ha => by
        have h := (zj_go_p (g := g) (N := zt_N E T) a).1
        have : a * zt_N E T ≤ 455 * 455 := Nat.mul_le_mul (by omega) hN
        omega
      have gib : ∀ a b, a < zt_N E T → b ≤ zt_N E T → zj_gw (zj_gi g a (zj_go g (zt_N E T) a) b) 207480 := fun a b ha hb => by
        obtain ⟨q1, q2, q3⟩ := zj_gi_p (g := g) (a := a) (zj_go_p (g := g) (N := zt_N E T) a) b
        have : a * zt_N E T ≤ 455 * 455 := Nat.mul_le_mul (by omega) hN
        exact ⟨by omega, q2, q3⟩
      obtain ⟨c2, a1, a2, -⟩ := zr_C.clear (c1 := c1) (c3 := c1) zr_A.rf
      obtain ⟨c3, b1, b2⟩ := zp_detC (f := fn_Contest_tellGainingPairs_l1 (54 + p)) (fun i c => (nI (zj_go g (zt_N E T) i).1, nI i, c)) (fun i c' => zr_C (zj_go g (zt_N E T) i).2 c1 c') (fun c => (nI (zj_go g (zt_N E T) (zt_N E T)).1, c)) (zt_N E T) 0 (Nat.zero_le _) (by unfold zw_F; omega) (fun i x _ hi q => by
        obtain ⟨y, e1, e2⟩ := zp_detC (f := fn_Contest_tellGainingPairs_l2 (54 + p) (nI i)) (fun j c => (nI (zj_gi g i (zj_go g (zt_N E T) i) j).1, nI j, c)) (fun j c' => zr_C (zj_gi g i (zj_go g (zt_N E T) i) j).2 c1 c') (fun c => (nI (zj_gi g i (zj_go g (zt_N E T) i) (zt_N E T)).1, c)) (zt_N E T) (i + 1) (by omega) (by unfold zw_F; omega) (fun j z hj0 hj q => by
          obtain ⟨w1, w2, w3⟩ := gib i j hi (by omega)
          have hTz := q.2.tab hTab
          have hcg := sp_canGain hT hTz.2.1 hlen (q.2.V hp hV) hi hj
          rw [← hg] at hcg
          by_cases hgg : g i j = true
          · have hs := zj_gi_s g i (zj_go g (zt_N E T) i) j
            rw [if_pos ⟨by omega, hgg⟩] at hs
            by_cases h0 : (zj_gi g i (zj_go g (zt_N E T) i) j).1 = 0
            · rw [if_pos h0] at hs
              obtain ⟨z1, u1, u2, -⟩ := q.add (by omega) (nI i).toInt64
              obtain ⟨z2, u3, u4, -⟩ := u2.add (by rw [List.length_append]; simp only [List.length_cons, List.length_nil]; omega) (nI j).toInt64
              refine ⟨z2, ?_, by rw [hs]; exact u4⟩
              unfold fn_Contest_tellGainingPairs_l2
              dsimp only
              rw [hTz.2.1.2.2.1, if_pos (nI_lt hj (by omega)), hcg, zp_bs, hgg, if_pos (show ¬ (if true = true then (1 : Int32) else 0) = 0 by decide), if_pos (show nI (zj_gi g i (zj_go g (zt_N E T) i) j).1 = 0 by rw [h0]; rfl), u1, zp_bs, u3, zp_bs, zp_bs, zp_bs, hs, nI_1]
              dsimp only
              rw [nI_1]
            · rw [if_neg h0] at hs
              refine ⟨z, ?_, by rw [hs]; exact q⟩
              unfold fn_Contest_tellGainingPairs_l2
              dsimp only
              rw [hTz.2.1.2.2.1, if_pos (nI_lt hj (by omega)), hcg, zp_bs, hgg, if_pos (show ¬ (if true = true then (1 : Int32) else 0) = 0 by decide), if_neg (nI_ne0 (by omega) (by omega)), zp_bs, zp_bs, hs, nI_1]
              dsimp only
              rw [nI_1]
          · have hs := zj_gi_s g i (zj_go g (zt_N E T) i) j
            rw [if_neg (fun q => hgg q.2)] at hs
            have hgf : g i j = false := by cases hq : g i j with
              | true => exact absurd hq hgg
              | false => rfl
            refine ⟨z, ?_, by rw [hs]; exact q⟩
            unfold fn_Contest_tellGainingPairs_l2
            dsimp only
            rw [hTz.2.1.2.2.1, if_pos (nI_lt hj (by omega)), hcg, zp_bs, hgf, if_neg (show ¬ ¬ (if false = true then (1 : Int32) else 0) = 0 by decide), zp_bs, hs, nI_1]) (fun z q => by
          unfold fn_Contest_tellGainingPairs_l2
          dsimp only
          rw [(q.2.tab hTab).2.1.2.2.1, if_neg (nI_nlt (Nat.le_refl _) (by omega))]) x (by rw [zj_gi_0 g i _ (i + 1) (Nat.le_refl _)]; exact q)
        have e1' : zw_whl (fn_Contest_tellGainingPairs_l2 (54 + p) (nI i)) zw_F (nI (zj_gi g i (zj_go g (zt_N E T) i) (i + 1)).1, nI (i + 1), x) = some (nI (zj_gi g i (zj_go g (zt_N E T) i) (zt_N E T)).1, y) := e1
        rw [zj_gi_0 g i _ (i + 1) (Nat.le_refl _)] at e1'
        refine ⟨y, ?_, e2⟩
        unfold fn_Contest_tellGainingPairs_l1
        dsimp only
        rw [(q.2.tab hTab).2.1.2.2.1, if_pos (nI_lt hi (by omega)), zp_bs, nI_1, e1', zp_bs]
        rfl) (fun x q => by
        unfold fn_Contest_tellGainingPairs_l1
        dsimp only
        rw [(q.2.tab hTab).2.1.2.2.1, if_neg (nI_nlt (Nat.le_refl _) (by omega))]) c2 a2
      have b1' : zw_whl (fn_Contest_tellGainingPairs_l1 (54 + p)) zw_F (0, 0, c2) = some (nI (zj_go g (zt_N E T) (zt_N E T)).1, c3) := b1
      have hA39 : zr_A c1 (zw_wI c3 71 9 0) := b2.2.wF (by decide)
      obtain ⟨d1, d2, d3, d4, d5, d6⟩ := zo_laid hTab hM b2.2
      have hD := zr_D.start d4 d5 d6
      obtain ⟨d7, f1, f2, f3⟩ := zp_detC (f := fn_M_gain_l1) (fun i c => (nI (zj_go g (zt_N E T) i).1, nI i, c)) (fun i c' => zr_D (zj_go g (zt_N E T) i).2 c1 c3 c' ∧ zr_V 84 E (zt_N E T) V c') (fun c => (nI (zj_go g (zt_N E T) (zt_N E T)).1, c)) (zt_N E T) 0 (Nat.zero_le _) (by unfold zw_F; omega) (fun i x _ hi ⟨q, qv⟩ => by
        obtain ⟨y, e1, e2⟩ := zp_detC (f := fn_M_gain_l2 (nI i)) (fun j c => (nI (zj_gi g i (zj_go g (zt_N E T) i) j).1, nI j, c)) (fun j c' => zr_D (zj_gi g i (zj_go g (zt_N E T) i) j).2 c1 c3 c' ∧ zr_V 84 E (zt_N E T) V c') (fun c => (nI (zj_gi g i (zj_go g (zt_N E T) i) (zt_N E T)).1, c)) (zt_N E T) (i + 1) (by omega) (by unfold zw_F; omega) (fun j z hj0 hj ⟨q, qv⟩ => by
          obtain ⟨w1, w2, w3⟩ := gib i j hi (by omega)
          have hTz := q.2.1.tab hTab
          have hcg := sp_McanGain hT hTz.2.2 qv hi hj
          rw [← hg] at hcg
          by_cases hgg : g i j = true
          · have hs := zj_gi_s g i (zj_go g (zt_N E T) i) j
            rw [if_pos ⟨by omega, hgg⟩] at hs
            by_cases h0 : (zj_gi g i (zj_go g (zt_N E T) i) j).1 = 0
            · rw [if_pos h0] at hs
              obtain ⟨z1, u1, u2, u20⟩ := q.tell (by omega) (nI i).toInt64
              obtain ⟨z2, u3, u4, u40⟩ := u2.tell (by rw [List.length_append]; simp only [List.length_cons, List.length_nil]; omega) (nI j).toInt64
              refine ⟨z2, ?_, by rw [hs]; exact u4, fun s hs e he => by rw [u40 84 (by decide), u20 84 (by decide)]; exact qv s hs e he⟩
              unfold fn_M_gain_l2
              dsimp only
              rw [hTz.2.2.2.2.1, if_pos (nI_lt hj (by omega)), hcg, zp_bs, hgg, if_neg (show ¬ ¬ ¬ (if true = true then (1 : Int32) else 0) = 0 by decide), if_pos (show nI (zj_gi g i (zj_go g (zt_N E T) i) j).1 = 0 by rw [h0]; rfl), u1, zp_bs, u3, zp_bs, zp_bs, hs, nI_1]
              dsimp only
              rw [nI_1]
            · rw [if_neg h0] at hs
              refine ⟨z, ?_, by rw [hs]; exact q, qv⟩
              unfold fn_M_gain_l2
              dsimp only
              rw [hTz.2.2.2.2.1, if_pos (nI_lt hj (by omega)), hcg, zp_bs, hgg, if_neg (show ¬ ¬ ¬ (if true = true then (1 : Int32) else 0) = 0 by decide), if_neg (nI_ne0 (by omega) (by omega)), zp_bs, hs, nI_1]
              dsimp only
              rw [nI_1]
          · have hs := zj_gi_s g i (zj_go g (zt_N E T) i) j
            rw [if_neg (fun q => hgg q.2)] at hs
            have hgf : g i j = false := by cases hq : g i j with
              | true => exact absurd hq hgg
              | false => rfl
            refine ⟨z, ?_, by rw [hs]; exact q, qv⟩
            unfold fn_M_gain_l2
            dsimp only
            rw [hTz.2.2.2.2.1, if_pos (nI_lt hj (by omega)), hcg, zp_bs, hgf, if_pos (show ¬ ¬ (if false = true then (1 : Int32) else 0) = 0 by decide), hs, nI_1]) (fun z ⟨q, qv⟩ => by
          unfold fn_M_gain_l2
          dsimp only
          rw [(q.2.1.tab hTab).2.2.2.2.1, if_neg (nI_nlt (Nat.le_refl _) (by omega))]) x (by rw [zj_gi_0 g i _ (i + 1) (Nat.le_refl _)]; exact ⟨q, qv⟩)
        have e1' : zw_whl (fn_M_gain_l2 (nI i)) zw_F (nI (zj_gi g i (zj_go g (zt_N E T) i) (i + 1)).1, nI (i + 1), x) = some (nI (zj_gi g i (zj_go g (zt_N E T) i) (zt_N E T)).1, y) := e1
        rw [zj_gi_0 g i _ (i + 1) (Nat.le_refl _)] at e1'
        refine ⟨y, ?_, e2⟩
        unfold fn_M_gain_l1
        dsimp only
        rw [(q.2.1.tab hTab).2.2.2.2.1, if_pos (nI_lt hi (by omega)), zp_bs, nI_1, e1', zp_bs]
        rfl) (fun x ⟨q, qv⟩ => by
        unfold fn_M_gain_l1
        dsimp only
        rw [(q.2.1.tab hTab).2.2.2.2.1, if_neg (nI_nlt (Nat.le_refl _) (by omega))]) (zw_wI d1 71 8 0) ⟨hD, fun s hs e he => by rw [zw_wI_ne (by decide)]; exact d3 s hs e he⟩
      have f1' : zw_whl fn_M_gain_l1 zw_F (0, 0, zw_wI d1 71 8 0) = some (nI (zj_go g (zt_N E T) (zt_N E T)).1, d7) := f1
      have hlen2 := (zj_go_p (g := g) (N := zt_N E T) (zt_N E T)).2.2
      refine ⟨nI (zj_go g (zt_N E T) (zt_N E T)).1, c3, d7, ?_, ?_, f2.fin hRl (by omega) b2.1⟩
      · rw [if_neg hc, zp_bs]
        unfold fn_Contest_tellGainingPairs
        rw [a1, zp_bs, b1', zp_bs, zp_bs]
      · rw [zp_bs, hisP _ hA39, zp_bs, if_neg (by decide), (hA39.tab hTab).2.2.2.2.1, if_neg hc', d2, zp_bs, zp_bs, f1', zp_bs]
