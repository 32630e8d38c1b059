/-! boast, rest -/
theorem zr_C.clear2 {c1 c3 : zw_Ct} (hA : zr_A c1 c3) : ∃ c2, fn_Row_clear c3 = some c2 ∧ zr_C [] c1 c2 ∧ (∀ k, k ≠ 61 → c2.1 k = c3.1 k) ∧ c2.2 = c3.2 := by
  obtain ⟨c2, a1, a2, a3, a4⟩ := sp_clear c3
  exact ⟨c2, a1, ⟨a2, hA.tr (zr_A.of61 a3)⟩, a3, a4⟩
theorem zr_C.add2 {l : List Int64} {c1 c3 : zw_Ct} (h : zr_C l c1 c3) (hl : l.length < 16) (z : Int64) : ∃ c4, fn_Row_add c3 z = some c4 ∧ zr_C (l ++ [z]) c1 c4 ∧ (∀ k, k ≠ 61 → c4.1 k = c3.1 k) ∧ ∀ k, k ≠ 62 → c4.2 k = c3.2 k := by
  obtain ⟨c4, b1, b2, b3, b4⟩ := sp_add h.1 hl z
  exact ⟨c4, b1, ⟨b2, h.2.tr (zr_A.of61 b3)⟩, b3, b4⟩
theorem zj_K1.mk {E T P : Nat} {pe sd : Nat → Nat} {c1 c : zw_Ct} (hTab : zr_Tab E T c1) (hA : zr_A c1 c) (h32 : c1.1 3 2 = nI P) (h5 : ∀ i, i < P → c1.1 5 i = nI (pe i)) (h66 : ∀ i, i < P → c.1 66 i = nI (sd i)) : zj_K1 E T P pe sd c := ⟨(hA.tab hTab).2.1, by rw [hA.1 3 (by decide) (by decide)]; exact h32, fun i hi => by rw [hA.1 5 (by decide) (by decide)]; exact h5 i hi, h66⟩
theorem zj_K2.mk {E T P : Nat} {pe sd : Nat → Nat} {c1 c : zw_Ct} (hTab : zr_Tab E T c1) (hA : zr_A c1 c) (h26 : c1.1 71 26 = nI P) (h89 : ∀ i, i < P → c1.1 89 i = nI (pe i)) (h90 : ∀ i, i < P → c.1 90 i = nI (sd i)) : zj_K2 E T P pe sd c := ⟨(hA.tab hTab).2.2, by rw [hA.2 26 (by decide)]; exact h26, fun i hi => by rw [hA.1 89 (by decide) (by decide)]; exact h89 i hi, h90⟩
def zj_an (pz : Nat → Nat) (k : Nat) : Nat → Nat
  | 0 => k
  | n + 1 => if pz (zj_an pz k n) < pz n then n else zj_an pz k n
theorem zj_an_s (pz : Nat → Nat) (k n : Nat) : zj_an pz k (n + 1) = if pz (zj_an pz k n) < pz n then n else zj_an pz k n := rfl
theorem zj_an_lt {pz : Nat → Nat} {k N : Nat} (hk : k < N) : ∀ n : Nat, n ≤ N → zj_an pz k n < N
  | 0, _ => hk
  | n + 1, h => by
    have := zj_an_lt (pz := pz) hk n (by omega)
    rw [zj_an_s]
    split <;> omega
theorem sp_answer {E T P a who : Nat} {pe sd : Nat → Nat} {V : Nat → Nat → Int32} {c : zw_Ct} (hET : zt_ET E T) (hP : P ≤ 6) (hK : zj_K1 E T P pe sd c) (ha : zw_len SH 0 a = some 1820) (hV : zr_V a E (zt_N E T) V c) (hsd : ∀ i, i < P → sd i < zt_N E T) (hpe : ∀ i, i < P → pe i < zt_N E T) (hw : who < P) : fn_Contest_answer c a (nI who) = some (nI (zj_an (zj_pz E (zt_p E T) V P pe sd who) (sd who) (zt_N E T))) := by
  have hN : zt_N E T ≤ 455 := (zt_ok hET).2.1
  have hb : ∀ s, zj_pz E (zt_p E T) V P pe sd who s ≤ 2880 := fun s => zj_pz_b hET (hpe who hw) E (Nat.le_refl _)
  have h := zp_det (f := fn_Contest_answer_l1 c a (nI who)) (x := (nI (zj_an (zj_pz E (zt_p E T) V P pe sd who) (sd who) (zt_N E T)), nI (zj_pz E (zt_p E T) V P pe sd who (zj_an (zj_pz E (zt_p E T) V P pe sd who) (sd who) (zt_N E T))))) (fun i => (nI (zj_an (zj_pz E (zt_p E T) V P pe sd who) (sd who) i), nI (zj_pz E (zt_p E T) V P pe sd who (zj_an (zj_pz E (zt_p E T) V P pe sd who) (sd who) i)), nI i)) (zt_N E T) 0 (Nat.zero_le _) (by unfold zw_F; omega) (fun i _ hi => by
    have b1 := hb i
    have b2 := hb (zj_an (zj_pz E (zt_p E T) V P pe sd who) (sd who) i)
    unfold fn_Contest_answer_l1
    dsimp only
    rw [hK.1.2.2.1, if_pos (nI_lt hi (by omega)), sp_prizeIf hET hP hK ha hV hsd hpe hw hi, zp_bs, zj_an_s, nI_1]
    by_cases hq : zj_pz E (zt_p E T) V P pe sd who (zj_an (zj_pz E (zt_p E T) V P pe sd who) (sd who) i) < zj_pz E (zt_p E T) V P pe sd who i
    · rw [if_pos (nI_lt hq (by omega)), zp_bs, if_pos hq]
    · rw [if_neg (nI_nlt (by omega) (by omega)), zp_bs, if_neg hq]) (by
    unfold fn_Contest_answer_l1
    dsimp only
    rw [hK.1.2.2.1, if_neg (nI_nlt (Nat.le_refl _) (by omega))])
  have h' : zw_whl (fn_Contest_answer_l1 c a (nI who)) zw_F (nI (sd who), nI (zj_pz E (zt_p E T) V P pe sd who (sd who)), 0) = _ := h
  unfold fn_Contest_answer
  rw [zp_aI (by omega) (by omega), zp_bs, hK.2.2.2 who hw, sp_prizeIf hET hP hK ha hV hsd hpe hw (hsd who hw), zp_bs, h', zp_bs]
theorem sp_MbestFor {E T P who k : Nat} {pe sd : Nat → Nat} {V : Nat → Nat → Int32} {d : zw_Ct} (hET : zt_ET E T) (hP : P ≤ 6) (hK : zj_K2 E T P pe sd d) (hV : zr_V 84 E (zt_N E T) V d) (hsd : ∀ i, i < P → sd i < zt_N E T) (hpe : ∀ i, i < P → pe i < zt_N E T) (hw : who < P) (hk : k < zt_N E T) : fn_M_bestFor d (nI who) (nI k) = some (nI (zj_an (zj_pz E (zt_p E T) V P pe sd who) k (zt_N E T))) := by
  have hN : zt_N E T ≤ 455 := (zt_ok hET).2.1
  have hb : ∀ s, zj_pz E (zt_p E T) V P pe sd who s ≤ 2880 := fun s => zj_pz_b hET (hpe who hw) E (Nat.le_refl _)
  have h := zp_det (f := fn_M_bestFor_l1 d (nI who)) (x := (lI ((zj_pz E (zt_p E T) V P pe sd who (zj_an (zj_pz E (zt_p E T) V P pe sd who) k (zt_N E T)) : Nat) : Int), nI (zj_an (zj_pz E (zt_p E T) V P pe sd who) k (zt_N E T)))) (fun i => (lI ((zj_pz E (zt_p E T) V P pe sd who (zj_an (zj_pz E (zt_p E T) V P pe sd who) k i) : Nat) : Int), nI (zj_an (zj_pz E (zt_p E T) V P pe sd who) k i), nI i)) (zt_N E T) 0 (Nat.zero_le _) (by unfold zw_F; omega) (fun i _ hi => by
    have b1 := hb i
    have b2 := hb (zj_an (zj_pz E (zt_p E T) V P pe sd who) k i)
    unfold fn_M_bestFor_l1
    dsimp only
    rw [hK.1.2.2.1, if_pos (nI_lt hi (by omega)), sp_MprizeOf hET hP hK hV hsd hpe hw hi, zp_bs, zj_an_s, nI_1]
    by_cases hq : zj_pz E (zt_p E T) V P pe sd who (zj_an (zj_pz E (zt_p E T) V P pe sd who) k i) < zj_pz E (zt_p E T) V P pe sd who i
    · rw [if_neg (fun z => by have := (lI_le ⟨by omega, by omega⟩ ⟨by omega, by omega⟩).mp z; omega), if_pos hq]
    · rw [if_pos ((lI_le ⟨by omega, by omega⟩ ⟨by omega, by omega⟩).mpr (by omega)), if_neg hq]) (by
    unfold fn_M_bestFor_l1
    dsimp only
    rw [hK.1.2.2.1, if_neg (nI_nlt (Nat.le_refl _) (by omega))])
  have h' : zw_whl (fn_M_bestFor_l1 d (nI who)) zw_F (lI ((zj_pz E (zt_p E T) V P pe sd who k : Nat) : Int), nI k, 0) = _ := h
  unfold fn_M_bestFor
  rw [sp_MprizeOf hET hP hK hV hsd hpe hw hk, zp_bs, h', zp_bs]
def zj_ab (z : Int32) : Int32 := if 0 ≤ z then z else 0 - z
theorem sp_distance {E T a b : Nat} {c : zw_Ct} (hTab : zr_Tab E T c) (ha : a < zt_N E T) (hb : b < zt_N E T) : fn_Sayings_distance c (nI a) (nI b) = some (zs_sumI (fun e => zj_ab (nI (zt_p E T a e) - nI (zt_p E T b e))) E / 2) := by
  have hT := zt_T hTab.1
  have hE4 := hTab.1.2.1
  have h := zp_det (f := fn_Sayings_distance_l1 c (nI a) (nI b)) (x := zs_sumI (fun e => zj_ab (nI (zt_p E T a e) - nI (zt_p E T b e))) E) (fun i => (zs_sumI (fun e => zj_ab (nI (zt_p E T a e) - nI (zt_p E T b e))) i, nI i)) E 0 (Nat.zero_le _) (by unfold zw_F; omega) (fun i _ hi => by
    unfold fn_Sayings_distance_l1
    dsimp only
    rw [hTab.2.1.1, if_pos (nI_lt hi (by omega)), sp_partOf hT hTab.2.1 ha (by omega), zp_bs, sp_partOf hT hTab.2.1 hb (by omega), zp_bs, zp_bs, nI_1]
    rfl) (by
    unfold fn_Sayings_distance_l1
    dsimp only
    rw [hTab.2.1.1, if_neg (nI_nlt (Nat.le_refl _) (by omega))])
  have h' : zw_whl (fn_Sayings_distance_l1 c (nI a) (nI b)) zw_F (0, 0) = _ := h
  unfold fn_Sayings_distance
  rw [h', zp_bs]
theorem sp_Mdistance {E T P a who : Nat} {pe sd : Nat → Nat} {d : zw_Ct} (hET : zt_ET E T) (hP : P ≤ 6) (hK : zj_K2 E T P pe sd d) (ha : a < zt_N E T) (hw : who < P) (hb : pe who < zt_N E T) : zw_whl (fn_M_boast_l1 d (nI a) (nI who)) zw_F (0, 0) = some (zs_sumI (fun e => zj_ab (nI (zt_p E T a e) - nI (zt_p E T (pe who) e))) E) := by
  have hN : zt_N E T ≤ 455 := (zt_ok hET).2.1
  have hE4 := hET.2.1
  have h := zp_det (f := fn_M_boast_l1 d (nI a) (nI who)) (x := zs_sumI (fun e => zj_ab (nI (zt_p E T a e) - nI (zt_p E T (pe who) e))) E) (fun i => (zs_sumI (fun e => zj_ab (nI (zt_p E T a e) - nI (zt_p E T (pe who) e))) i, nI i)) E 0 (Nat.zero_le _) (by unfold zw_F; omega) (fun i _ hi => by
    unfold fn_M_boast_l1
    dsimp only
    rw [hK.1.1, if_pos (nI_lt hi (by omega)), nI_at', zp_aI (by omega) (by omega), zp_bs, zp_aI (show who < 6 by omega) (by omega), zp_bs, hK.2.2.1 who hw, nI_at', zp_aI (by omega) (by omega), zp_bs, zp_bs, hK.1.2.2.2 a ha i (by omega), hK.1.2.2.2 _ hb i (by omega), nI_1]
    rfl) (by
    unfold fn_M_boast_l1
    dsimp only
    rw [hK.1.1, if_neg (nI_nlt (Nat.le_refl _) (by omega))])
  exact h
theorem zo_boast : zq_boast zr_Rel := by
  intro n c hn hRel a w
  unfold fn_P_boast fn_M_boast
  rcases zo_pay hRel a with ⟨h1, h2⟩ | ⟨p, E, T, V, c1, hp, rfl, h1, hR, hRl, hV, hM, hlen, hisP⟩
  · refine ⟨-1, c, zw_wI c 71 9 0, ?_, ?_, zr_thr hRel⟩
    · rw [h1, zp_bs]
      dsimp only
      rw [if_pos (Or.inl rfl)]
    · rw [zp_bs, h2, zp_bs, if_pos (Or.inl (by decide))]
  · have hTab := hRl.2.2.1
    have hET := hTab.1
    have hN : zt_N E T ≤ 455 := (zt_ok hET).2.1
    have hRel1 : zr_Rel n c1 := ⟨hR, E, T, hRl⟩
    obtain ⟨P, hP, h32, h26, hpp⟩ := zj_people hTab hRl.2.2.2.2.1
    have isOne : ∀ d : zw_Ct, zr_A c1 d → ∀ x, fn_M_isOne d x = fn_Held_hasPerson 3 c1 x := fun d hA x => by rw [zr_isOne (P := P) (by rw [hA.2 26 (by decide)]; exact h26) (by omega), zr_hasP h32]
    rw [h1, zp_bs]
    dsimp only
    by_cases hc : (((some (54 + p) : Option Nat) = none) ∨ (¬ (¬ (fn_Held_hasPerson 3 c1 w) = 0)))
    · have hA9 : zr_A c1 (zw_wI c1 71 9 0) := zr_A.rf.wF (by decide)
      refine ⟨-1, c1, zw_wI c1 71 9 0, by rw [if_pos hc], ?_, zr_thr hRel1⟩
      rw [zp_bs, hisP _ hA9, zp_bs, isOne _ hA9, if_pos]
      rcases hc with h | h
      · cases h
      · exact Or.inr h
    · obtain ⟨wj, hwj, rfl⟩ := has_n (N := P) (by omega) (s := w) (fun q => hc (Or.inr (fun z => z (by rw [zr_hasP h32]; exact q))))
      have hpe : ∀ i, i < P → zj_pe c1 i < zt_N E T := fun i hi => (hpp i hi).2.2
      have h5 : ∀ i, i < P → c1.1 5 i = nI (zj_pe c1 i) := fun i hi => (hpp i hi).1
      have h89 : ∀ i, i < P → c1.1 89 i = nI (zj_pe c1 i) := fun i hi => (hpp i hi).2.1
      obtain ⟨k, hk⟩ : ∃ k, k = zj_an (zj_pz E (zt_p E T) V P (zj_pe c1) (zj_pe c1) wj) (zj_pe c1 wj) (zt_N E T) := ⟨_, rfl⟩
      have hkN : k < zt_N E T := by rw [hk]; exact zj_an_lt (hpe wj hwj) _ (Nat.le_refl _)
      have hb : ∀ s, zj_pz E (zt_p E T) V P (zj_pe c1) (zj_pe c1) wj s ≤ 2880 := fun s => zj_pz_b hET (hpe wj hwj) E (Nat.le_refl _)
      obtain ⟨c2, a1, a2, a3, a4, a5⟩ := sp_truths hTab hP h32 h5
      obtain ⟨c3, b1, b2, b3, b4⟩ := zr_C.clear2 a2
      have K3 : zj_K1 E T P (zj_pe c1) (zj_pe c1) c3 := zj_K1.mk hTab b2.2 h32 h5 (fun i hi => by rw [b3 66 (by decide)]; exact a5.2.2.2 i hi)
      obtain ⟨c4, e1, e2, e3, -⟩ := b2.add2 (by decide) (nI (zj_pz E (zt_p E T) V P (zj_pe c1) (zj_pe c1) wj k)).toInt64
      have K4 : zj_K1 E T P (zj_pe c1) (zj_pe c1) c4 := zj_K1.mk hTab e2.2 h32 h5 (fun i hi => by rw [e3 66 (by decide)]; exact K3.2.2.2 i hi)
      obtain ⟨c5, e4, e5, -, -⟩ := e2.add2 (by simp) (nI (zj_pz E (zt_p E T) V P (zj_pe c1) (zj_pe c1) wj (zj_pe c1 wj))).toInt64
      obtain ⟨c6, e6, e7, -, -⟩ := e5.add2 (by simp) (zs_sumI (fun e => zj_ab (nI (zt_p E T k e) - nI (zt_p E T (zj_pe c1 wj) e))) E / 2).toInt64
      have hA69 : zr_A c1 (zw_wI c6 71 9 0) := e7.2.wF (by decide)
      obtain ⟨d1, d2, d3, d4, d5, d6, d7⟩ := zo_laidX hTab hM e7.2
      obtain ⟨d8, g1, g2, g3, g4, g5, g6, g7⟩ := sp_Mtruths hTab d4 hP h26 h89 d3
      have hD := zr_D.start (c1 := c1) (c3 := c6) g2 (g4.trans (d5 61 (by decide) (by decide))) (g3.trans d6)
      have K8 : zj_K2 E T P (zj_pe c1) (zj_pe c1) (zw_wI d8 71 8 0) := zj_K2.mk hTab hD.2.1 h26 h89 (fun i hi => by rw [zw_wI_ne (by decide)]; exact g7.2.2.2 i hi)
      have V8 : zr_V 84 E (zt_N E T) V (zw_wI d8 71 8 0) := fun s hs e he => by rw [zw_wI_ne (by decide)]; exact g6 s hs e he
      obtain ⟨d9, i1, i2, i3⟩ := hD.tell (by decide) (nI (zj_pz E (zt_p E T) V P (zj_pe c1) (zj_pe c1) wj k)).toInt64
      have K9 : zj_K2 E T P (zj_pe c1) (zj_pe c1) d9 := zj_K2.mk hTab i2.2.1 h26 h89 (fun i hi => by rw [i3 90 (by decide)]; exact K8.2.2.2 i hi)
      have V9 : zr_V 84 E (zt_N E T) V d9 := fun s hs e he => by rw [i3 84 (by decide)]; exact V8 s hs e he
      obtain ⟨d10, i4, i5, -⟩ := i2.tell (by simp) (nI (zj_pz E (zt_p E T) V P (zj_pe c1) (zj_pe c1) wj (zj_pe c1 wj))).toInt64
      obtain ⟨d11, i6, i7, -⟩ := i5.tell (by simp) (zs_sumI (fun e => zj_ab (nI (zt_p E T k e) - nI (zt_p E T (zj_pe c1 wj) e))) E / 2).toInt64
      have n1 := hb k
      have n2 := hb (zj_pe c1 wj)
      refine ⟨nI k, c6, d11, ?_, ?_, i7.fin hRl (by simp) e7.1⟩
      · rw [if_neg hc, zp_bs]
        unfold fn_Contest_tellBoast
        rw [a1, zp_bs, zp_aI (by omega) (by omega), zp_bs, a5.2.2.2 wj hwj, sp_answer hET hP a5 hlen (a2.V hp hV) hpe hpe hwj, ← hk, zp_bs, b1, zp_bs, sp_prizeIf hET hP K3 hlen (b2.2.V hp hV) hpe hpe hwj hkN, zp_bs, e1, zp_bs, sp_prizeIf hET hP K4 hlen (e2.2.V hp hV) hpe hpe hwj (hpe wj hwj), zp_bs, e4, zp_bs, sp_distance (e5.2.tab hTab) hkN (hpe wj hwj), zp_bs, e6, zp_bs, zp_bs]
      · rw [zp_bs, hisP _ hA69, zp_bs, isOne _ hA69, if_neg (by
          rintro (h | h)
          · exact h (by decide)
          · exact hc (Or.inr h)), d2, zp_bs, g1, zp_bs, zp_aI (show wj < 6 by omega) (by omega), zp_bs, g7.2.2.1 wj hwj, sp_MbestFor hET hP g7 g6 hpe hpe hwj (hpe wj hwj), ← hk, zp_bs, sp_Mdistance hET hP g7 hkN hwj (hpe wj hwj), zp_bs, zp_bs, sp_MprizeOf hET hP K8 V8 hpe hpe hwj hkN, zp_bs, ← nL (by omega), i1, zp_bs, zp_aI (show wj < 6 by omega) (by omega), zp_bs, K9.2.2.1 wj hwj, sp_MprizeOf hET hP K9 V9 hpe hpe hwj (hpe wj hwj), zp_bs, ← nL (by omega), i4, zp_bs, i6, zp_bs]
def zj_rs (A : (Nat → Nat) → Nat → Nat) (sd : Nat → Nat) : Nat → Nat → Nat
  | 0 => sd
  | i + 1 => fun j => if j = i then A (zj_rs A sd i) i else zj_rs A sd i j
def zj_rc (A : (Nat → Nat) → Nat → Nat) (sd : Nat → Nat) : Nat → Bool
  | 0 => false
  | i + 1 => zj_rc A sd i || decide (A (zj_rs A sd i) i ≠ zj_rs A sd i i)
def zj_rr (A : (Nat → Nat) → Nat → Nat) (P : Nat) (sd : Nat → Nat) : Nat → Nat → Nat
  | 0 => sd
  | r + 1 => zj_rs A (zj_rr A P sd r) P
theorem zj_rs_lt {A : (Nat → Nat) → Nat → Nat} {sd : Nat → Nat} {P N : Nat} (hA : ∀ sd : Nat → Nat, (∀ i, i < P → sd i < N) → ∀ i, i < P → A sd i < N) (h : ∀ i, i < P → sd i < N) : ∀ n : Nat, n ≤ P → ∀ i, i < P → zj_rs A sd n i < N
  | 0, _ => h
  | n + 1, hn => fun i hi => by
    show (if i = n then A (zj_rs A sd n) n else zj_rs A sd n i) < N
    have ih := zj_rs_lt hA h n (by omega)
    by_cases e : i = n
    · rw [if_pos e]; exact hA _ ih n (by omega)
    · rw [if_neg e]; exact ih i hi
theorem zj_rr_lt {A : (Nat → Nat) → Nat → Nat} {sd : Nat → Nat} {P N : Nat} (hA : ∀ sd : Nat → Nat, (∀ i, i < P → sd i < N) → ∀ i, i < P → A sd i < N) (h : ∀ i, i < P → sd i < N) : ∀ r : Nat, ∀ i, i < P → zj_rr A P sd r i < N
  | 0 => h
  | r + 1 => zj_rs_lt hA (zj_rr_lt hA h r) P (Nat.le_refl _)
def zj_rl (sd : Nat → Nat) : Nat → List Int64
  | 0 => []
  | i + 1 => zj_rl sd i ++ [(nI (sd i)).toInt64]
theorem zj_rl_l (sd : Nat → Nat) : ∀ i : Nat, (zj_rl sd i).length = i
  | 0 => rfl
  | i + 1 => by
    show (zj_rl sd i ++ [(nI (sd i)).toInt64]).length = i + 1
    rw [List.length_append, zj_rl_l sd i]
    rfl
theorem zj_or (b q : Bool) : ((if b = true then (1 : Int32) else 0) ||| (if q = true then (1 : Int32) else 0)) = if (b || q) = true then 1 else 0 := by
  cases b <;> cases q <;> decide
theorem zo_rest : zq_rest zr_Rel := by
  intro n c hn hRel a
  unfold fn_P_rest fn_M_rest
  rcases zo_pay hRel a with ⟨h1, h2⟩ | ⟨p, E, T, V, c1, hp, rfl, h1, hR, hRl, hV, hM, hlen, hisP⟩
  · refine ⟨-1, c, zw_wI c 71 9 0, ?_, ?_, zr_thr hRel⟩
    · rw [h1, zp_bs]
      dsimp only
      rw [if_pos (Or.inl rfl)]
    · rw [zp_bs, h2, zp_bs, if_pos (Or.inl (by decide))]
  · have hTab := hRl.2.2.1
    have hET := hTab.1
    have hN : zt_N E T ≤ 455 := (zt_ok hET).2.1
    have hRel1 : zr_Rel n c1 := ⟨hR, E, T, hRl⟩
    obtain ⟨P, hP, h32, h26, hpp⟩ := zj_people hTab hRl.2.2.2.2.1
    rw [h1, zp_bs]
    dsimp only
    by_cases hc : (((some (54 + p) : Option Nat) = none) ∨ ((c1.1 3 2) = 0))
    · have hA9 : zr_A c1 (zw_wI c1 71 9 0) := zr_A.rf.wF (by decide)
      refine ⟨-1, c1, zw_wI c1 71 9 0, by rw [if_pos hc], ?_, zr_thr hRel1⟩
      rw [zp_bs, hisP _ hA9, zp_bs, if_pos]
      rcases hc with h | h
      · cases h
      · exact Or.inr (by rw [zw_wI_at (by decide), h26, ← h32]; exact h)
    · have hP0 : ¬ nI P = 0 := fun q => hc (Or.inr (by rw [h32]; exact q))
      have hpe : ∀ i, i < P → zj_pe c1 i < zt_N E T := fun i hi => (hpp i hi).2.2
      have h5 : ∀ i, i < P → c1.1 5 i = nI (zj_pe c1 i) := fun i hi => (hpp i hi).1
      have h89 : ∀ i, i < P → c1.1 89 i = nI (zj_pe c1 i) := fun i hi => (hpp i hi).2.1
      obtain ⟨A, hAd⟩ : ∃ A : (Nat → Nat) → Nat → Nat, A = fun sd i => zj_an (zj_pz E (zt_p E T) V P (zj_pe c1) sd i) (sd i) (zt_N E T) := ⟨_, rfl⟩
      have hAv : ∀ sd i, A sd i = zj_an (zj_pz E (zt_p E T) V P (zj_pe c1) sd i) (sd i) (zt_N E T) := fun sd i => by rw [hAd]
      have hAl : ∀ sd : Nat → Nat, (∀ i, i < P → sd i < zt_N E T) → ∀ i, i < P → A sd i < zt_N E T := fun sd h i hi => by rw [hAv]; exact zj_an_lt (h i hi) _ (Nat.le_refl _)
      have hrr : ∀ r i, i < P → zj_rr A P (zj_pe c1) r i < zt_N E T := fun r => zj_rr_lt hAl hpe r
      -- one round of the class
      have cround : ∀ (sd : Nat → Nat) (x : zw_Ct), (∀ i, i < P → sd i < zt_N E T) → zr_A c1 x → (∀ i, i < P → x.1 66 i = nI (sd i)) → ∃ y, fn_Contest_roundChanges x (54 + p) = some (if zj_rc A sd P = true then 1 else 0, y) ∧ (∀ k, k ≠ 66 → y.1 k = x.1 k) ∧ y.2 = x.2 ∧ ∀ i, i < P → y.1 66 i = nI (zj_rs A sd P i) := by
        intro sd x hsd hAx h66
        have fr : ∀ z : zw_Ct, (∀ k, k ≠ 66 → z.1 k = x.1 k) → zr_A c1 z := fun z hz => hAx.tr ⟨fun k k1 _ => hz k (fun e => k1 (by rw [e]; decide)), fun j _ => by rw [hz 71 (by decide)]⟩
        obtain ⟨y, g1, g2, g3, g4⟩ := zp_detC (f := fn_Contest_roundChanges_l1 (54 + p)) (fun i c => (if zj_rc A sd i = true then 1 else 0, nI i, c)) (fun i z => (∀ k, k ≠ 66 → z.1 k = x.1 k) ∧ z.2 = x.2 ∧ ∀ j, j < P → z.1 66 j = nI (zj_rs A sd i j)) (fun c => (if zj_rc A sd P = true then 1 else 0, c)) P 0 (Nat.zero_le _) (by unfold zw_F; omega) (fun i z _ hi ⟨q1, q2, q3⟩ => by
          have hAz := fr z q1
          have hKz : zj_K1 E T P (zj_pe c1) (zj_rs A sd i) z := zj_K1.mk hTab hAz h32 h5 q3
          have hlt := zj_rs_lt hAl hsd i (by omega)
          have hAlt := hAl _ hlt i hi
          refine ⟨zw_wI z 66 i (nI (A (zj_rs A sd i) i)), ?_, fun k hk => by rw [zw_wI_ne hk]; exact q1 k hk, q2, fun j hj => ?_⟩
          · have hrc : zj_rc A sd (i + 1) = (zj_rc A sd i || decide (A (zj_rs A sd i) i ≠ zj_rs A sd i i)) := rfl
            have hli := hlt i hi
            unfold fn_Contest_roundChanges_l1
            dsimp only
            rw [hKz.2.1, if_pos (nI_lt hi (by omega)), sp_answer hET hP hKz hlen (hAz.V hp hV) hlt hpe hi, ← hAv, zp_bs, zp_aI (by omega) (by omega), zp_bs, zp_bs, q3 i hi, zp_uI (by omega) (by omega), zp_bs, nI_1, hrc, ← zj_or]
            have e : (if ¬ nI (A (zj_rs A sd i) i) = nI (zj_rs A sd i i) then (1 : Int32) else 0) = if decide (A (zj_rs A sd i) i ≠ zj_rs A sd i i) = true then 1 else 0 := by
              by_cases h : A (zj_rs A sd i) i = zj_rs A sd i i
              · rw [if_neg (fun q => q (by rw [h])), if_neg (show ¬ decide (A (zj_rs A sd i) i ≠ zj_rs A sd i i) = true from fun q => absurd h (of_decide_eq_true q))]
              · rw [if_pos (fun q => h ((nI_eq (by omega) (by omega)).mp q)), if_pos (decide_eq_true h)]
            rw [e]
          · show (zw_wI z 66 i (nI (A (zj_rs A sd i) i))).1 66 j = nI (if j = i then A (zj_rs A sd i) i else zj_rs A sd i j)
            by_cases e : j = i
            · rw [e, zw_wI_eq, if_pos rfl]
            · rw [zw_wI_at e, if_neg e]; exact q3 j hj) (fun z ⟨q1, q2, q3⟩ => by
          unfold fn_Contest_roundChanges_l1
          dsimp only
          rw [(fr z q1).1 3 (by decide) (by decide), h32, if_neg (nI_nlt (Nat.le_refl _) (by omega))]) x ⟨fun _ _ => rfl, rfl, h66⟩
        have g1' : zw_whl (fn_Contest_roundChanges_l1 (54 + p)) zw_F (0, 0, x) = some (if zj_rc A sd P = true then 1 else 0, y) := g1
        refine ⟨y, ?_, g2, g3, g4⟩
        unfold fn_Contest_roundChanges
        rw [g1', zp_bs]
        dsimp only
        have : zw_bz (if zj_rc A sd P = true then 1 else 0) = some (if zj_rc A sd P = true then 1 else 0) := by cases zj_rc A sd P <;> rfl
        rw [this, zp_bs]
      have mround : ∀ (sd : Nat → Nat) (x : zw_Ct), (∀ i, i < P → sd i < zt_N E T) → zr_A c1 x → zr_V 84 E (zt_N E T) V x → (∀ i, i < P → x.1 90 i = nI (sd i)) → ∃ y, zw_whl fn_M_rest_l2 zw_F (0, 0, x) = some (if zj_rc A sd P = true then 1 else 0, y) ∧ (∀ k, k ≠ 90 → y.1 k = x.1 k) ∧ y.2 = x.2 ∧ ∀ i, i < P → y.1 90 i = nI (zj_rs A sd P i) := by
        intro sd x hsd hAx hVx h90
        have fr : ∀ z : zw_Ct, (∀ k, k ≠ 90 → z.1 k = x.1 k) → zr_A c1 z := fun z hz => hAx.tr ⟨fun k k1 _ => hz k (fun e => k1 (by rw [e]; decide)), fun j _ => by rw [hz 71 (by decide)]⟩
        obtain ⟨y, g1, g2, g3, g4⟩ := zp_detC (f := fn_M_rest_l2) (fun i c => (if zj_rc A sd i = true then 1 else 0, nI i, c)) (fun i z => (∀ k, k ≠ 90 → z.1 k = x.1 k) ∧ z.2 = x.2 ∧ ∀ j, j < P → z.1 90 j = nI (zj_rs A sd i j)) (fun c => (if zj_rc A sd P = true then 1 else 0, c)) P 0 (Nat.zero_le _) (by unfold zw_F; omega) (fun i z _ hi ⟨q1, q2, q3⟩ => by
          have hAz := fr z q1
          have hKz : zj_K2 E T P (zj_pe c1) (zj_rs A sd i) z := zj_K2.mk hTab hAz h26 h89 q3
          have hlt := zj_rs_lt hAl hsd i (by omega)
          have hAlt := hAl _ hlt i hi
          have hVz : zr_V 84 E (zt_N E T) V z := fun s hs e he => by rw [q1 84 (by decide)]; exact hVx s hs e he
          refine ⟨zw_wI z 90 i (nI (A (zj_rs A sd i) i)), ?_, fun k hk => by rw [zw_wI_ne hk]; exact q1 k hk, q2, fun j hj => ?_⟩
          · have hrc : zj_rc A sd (i + 1) = (zj_rc A sd i || decide (A (zj_rs A sd i) i ≠ zj_rs A sd i i)) := rfl
            have hli := hlt i hi
            unfold fn_M_rest_l2
            dsimp only
            rw [hKz.2.1, if_pos (nI_lt hi (by omega)), zp_aI (by omega) (by omega), zp_bs, q3 i hi, sp_MbestFor hET hP hKz hVz hlt hpe hi hli, ← hAv, zp_bs, zp_bs, hrc]
            have e : (if ¬ (if zj_rc A sd i = true then (1 : Int32) else 0) = 0 then some true else some (decide (¬ nI (A (zj_rs A sd i) i) = nI (zj_rs A sd i i)))) = some (zj_rc A sd i || decide (A (zj_rs A sd i) i ≠ zj_rs A sd i i)) := by
              cases zj_rc A sd i with
              | true => rw [if_pos (by decide), Bool.true_or]
              | false =>
                rw [if_neg (by decide), Bool.false_or]
                by_cases h : A (zj_rs A sd i) i = zj_rs A sd i i
                · rw [decide_eq_false (fun q => q (by rw [h])), decide_eq_false (fun q => q h)]
                · rw [decide_eq_true (show ¬ nI (A (zj_rs A sd i) i) = nI (zj_rs A sd i i) from fun q => h ((nI_eq (by omega) (by omega)).mp q)), decide_eq_true h]
            rw [e, zp_bs, zp_bs, zp_uI (by omega) (by omega), zp_bs, nI_1]
          · show (zw_wI z 90 i (nI (A (zj_rs A sd i) i))).1 90 j = nI (if j = i then A (zj_rs A sd i) i else zj_rs A sd i j)
            by_cases e : j = i
            · rw [e, zw_wI_eq, if_pos rfl]
            · rw [zw_wI_at e, if_neg e]; exact q3 j hj) (fun z ⟨q1, q2, q3⟩ => by
          unfold fn_M_rest_l2
          dsimp only
          rw [(fr z q1).2 26 (by decide), h26, if_neg (nI_nlt (Nat.le_refl _) (by omega))]) x ⟨fun _ _ => rfl, rfl, h90⟩
        exact ⟨y, g1, g2, g3, g4⟩
      obtain ⟨c2, a1, a2, a3, a4, a5⟩ := sp_truths hTab hP h32 h5
      have c2f : ∀ k, k ≠ 66 → c2.1 k = c1.1 k := fun k hk => by
        obtain ⟨c2', z1, z2, -⟩ := sp_cp (n0 := 6) (n1 := 6) (n := 6) (a0 := 5) (a1 := 66) (c := c1) (Nat.le_refl _) (Nat.le_refl _) (by omega)
        have z1' : zw_cp 6 6 c1 5 0 66 0 6 = some c2' := z1
        have e : c2 = c2' := by
          unfold fn_Contest_allSayTheTruth at a1
          rw [z1', zp_bs] at a1
          exact (Option.some.inj a1).symm
        rw [e]; exact z2 k hk
      have frc : ∀ z : zw_Ct, (∀ k, k ≠ 66 → z.1 k = c1.1 k) → zr_A c1 z := fun z hz => ⟨fun k k1 _ => hz k (fun e => k1 (by rw [e]; decide)), fun j _ => by rw [hz 71 (by decide)]⟩
      rcases zj_fst (fun r => !(zj_rc A (zj_rr A P (zj_pe c1) r) P)) 20 with hall | ⟨r, hr, hbr, hfr⟩
      · -- no round rests
        have hch : ∀ j, j < 20 → zj_rc A (zj_rr A P (zj_pe c1) j) P = true := fun j hj => by have := hall j hj; revert this; cases zj_rc A (zj_rr A P (zj_pe c1) j) P <;> decide
        obtain ⟨c3, g1, g2, g3, g4⟩ := zp_detC (f := fn_Contest_tellRest_l1 (54 + p)) (fun i c => (nI i, c)) (fun i z => (∀ k, k ≠ 66 → z.1 k = c1.1 k) ∧ z.2 = c1.2 ∧ ∀ j, j < P → z.1 66 j = nI (zj_rr A P (zj_pe c1) i j)) (fun c => .inr c) 20 0 (Nat.zero_le _) (by unfold zw_F; omega) (fun i z _ hi ⟨q1, q2, q3⟩ => by
          obtain ⟨y, w1, w2, w3, w4⟩ := cround _ z (hrr i) (frc z q1) q3
          refine ⟨y, ?_, fun k hk => (w2 k hk).trans (q1 k hk), w3.trans q2, w4⟩
          unfold fn_Contest_tellRest_l1
          dsimp only
          rw [if_pos (show nI i < (20 : Int32) from nI_lt (b := 20) hi (by omega)), w1, zp_bs]
          dsimp only
          rw [hch i hi, if_neg (fun q => q (by decide)), nI_1]) (fun z ⟨q1, q2, q3⟩ => by
          unfold fn_Contest_tellRest_l1
          dsimp only
          rw [if_neg (show ¬ nI 20 < (20 : Int32) by decide)]) c2 ⟨c2f, a3, a5.2.2.2⟩
        have g1' : zw_whl (fn_Contest_tellRest_l1 (54 + p)) zw_F (0, c2) = some (.inr c3) := g1
        have hA3 := frc c3 g2
        have hA39 : zr_A c1 (zw_wI c3 71 9 0) := hA3.wF (by decide)
        obtain ⟨d1, d2, d3, d4, d5, d6, d7⟩ := zo_laidX hTab hM hA3
        obtain ⟨d8, i1, i2, i3, i4, i5, i6, i7⟩ := sp_Mtruths hTab d4 hP h26 h89 d3
        have frd : ∀ z : zw_Ct, (∀ k, k ≠ 90 → z.1 k = d8.1 k) → zr_A c1 z := fun z hz => i2.tr ⟨fun k k1 _ => hz k (fun e => k1 (by rw [e]; decide)), fun j _ => by rw [hz 71 (by decide)]⟩
        obtain ⟨d9, m1, m2, m3, m4⟩ := zp_detC (f := fn_M_rest_l1) (fun i c => (nI i, c)) (fun i z => (∀ k, k ≠ 90 → z.1 k = d8.1 k) ∧ z.2 = d8.2 ∧ ∀ j, j < P → z.1 90 j = nI (zj_rr A P (zj_pe c1) i j)) (fun c => .inr c) 20 0 (Nat.zero_le _) (by unfold zw_F; omega) (fun i z _ hi ⟨q1, q2, q3⟩ => by
          obtain ⟨y, w1, w2, w3, w4⟩ := mround _ z (hrr i) (frd z q1) (fun s hs e he => by rw [q1 84 (by decide)]; exact i6 s hs e he) q3
          refine ⟨y, ?_, fun k hk => (w2 k hk).trans (q1 k hk), w3.trans q2, w4⟩
          unfold fn_M_rest_l1
          dsimp only
          rw [if_pos (show nI i < (20 : Int32) from nI_lt (b := 20) hi (by omega)), w1, zp_bs]
          dsimp only
          rw [hch i hi, if_pos (show ¬ (if true = true then (1 : Int32) else 0) = 0 by decide), nI_1]) (fun z ⟨q1, q2, q3⟩ => by
          unfold fn_M_rest_l1
          dsimp only
          rw [if_neg (show ¬ nI 20 < (20 : Int32) by decide)]) d8 ⟨fun _ _ => rfl, rfl, i7.2.2.2⟩
        have m1' : zw_whl fn_M_rest_l1 zw_F (0, d8) = some (.inr d9) := m1
        refine ⟨-2, c3, d9, ?_, ?_, zr_fin0 hR hRl (frd d9 m2) ?_ ?_ ?_ ?_⟩
        · rw [if_neg hc, zp_bs]
          unfold fn_Contest_tellRest
          rw [a1, zp_bs, g1', zp_bs]
          rfl
        · rw [zp_bs, hisP _ hA39, zp_bs, if_neg (by
            rintro (h | h)
            · exact h (by decide)
            · exact hP0 (by rw [← h, hA39.2 26 (by decide)]; exact h26.symm)), d2, zp_bs, i1, zp_bs, m1', zp_bs]
        · rw [m2 61 (by decide), i4, d5 61 (by decide) (by decide), g2 61 (by decide)]
        · rw [m2 71 (by decide), i5, d7, g2 71 (by decide)]
        · rw [m3, i3, d6, g3]
        · rw [m3, i3, d6, g3]
      · have hch : ∀ j, j < r → zj_rc A (zj_rr A P (zj_pe c1) j) P = true := fun j hj => by have := hfr j hj; revert this; cases zj_rc A (zj_rr A P (zj_pe c1) j) P <;> decide
        have hno : zj_rc A (zj_rr A P (zj_pe c1) r) P = false := by revert hbr; cases zj_rc A (zj_rr A P (zj_pe c1) r) P <;> decide
        obtain ⟨fs, hfs⟩ : ∃ fs, fs = zj_rr A P (zj_pe c1) (r + 1) := ⟨_, rfl⟩
        have hfsl : ∀ i, i < P → fs i < zt_N E T := by rw [hfs]; exact hrr (r + 1)
        obtain ⟨y, y1, y2, y3⟩ := zp_up (f := fn_Contest_tellRest_l1 (54 + p)) (I := fun i t => ∃ z : zw_Ct, t = (nI i, z) ∧ (∀ k, k ≠ 66 → z.1 k = c1.1 k) ∧ z.2 = c1.2 ∧ ∀ j, j < P → z.1 66 j = nI (zj_rr A P (zj_pe c1) i j)) (P := fun y => ∃ w : zw_Ct, y = .inl (nI r, w) ∧ zr_C (zj_rl fs P) c1 w) r (by unfold zw_F; omega) (fun i t hi h => by
          obtain ⟨z, rfl, q1, q2, q3⟩ := h
          obtain ⟨y, w1, w2, w3, w4⟩ := cround _ z (hrr i) (frc z q1) q3
          refine Or.inl ⟨(nI (i + 1), y), ?_, y, rfl, fun k hk => (w2 k hk).trans (q1 k hk), w3.trans q2, w4⟩
          unfold fn_Contest_tellRest_l1
          dsimp only
          rw [if_pos (show nI i < (20 : Int32) from nI_lt (b := 20) (by omega) (by omega)), w1, zp_bs]
          dsimp only
          rw [hch i hi, if_neg (fun q => q (by decide)), nI_1]) (fun t h => by
          obtain ⟨z, rfl, q1, q2, q3⟩ := h
          obtain ⟨y, w1, w2, w3, w4⟩ := cround _ z (hrr r) (frc z q1) q3
          have hAy : zr_A c1 y := frc y (fun k hk => (w2 k hk).trans (q1 k hk))
          obtain ⟨x0, b1, b2, b3, b4⟩ := zr_C.clear2 hAy
          obtain ⟨x1, e1, e2, e3⟩ := zp_detC (f := fn_Contest_tellRest_l2) (fun i c => (nI i, c)) (fun i z => zr_C (zj_rl fs i) c1 z ∧ ∀ j, j < P → z.1 66 j = nI (fs j)) (fun c => c) P 0 (Nat.zero_le _) (by unfold zw_F; omega) (fun i z _ hi ⟨q1, q2⟩ => by
            obtain ⟨z2, u1, u2, u3, -⟩ := q1.add2 (by rw [zj_rl_l]; omega) (nI (fs i)).toInt64
            refine ⟨z2, ?_, u2, fun j hj => by rw [u3 66 (by decide)]; exact q2 j hj⟩
            unfold fn_Contest_tellRest_l2
            dsimp only
            rw [q1.2.1 3 (by decide) (by decide), h32, if_pos (nI_lt hi (by omega)), zp_aI (by omega) (by omega), zp_bs, q2 i hi, u1, zp_bs, nI_1]) (fun z ⟨q1, q2⟩ => by
            unfold fn_Contest_tellRest_l2
            dsimp only
            rw [q1.2.1 3 (by decide) (by decide), h32, if_neg (nI_nlt (Nat.le_refl _) (by omega))]) x0 ⟨b2, fun j hj => by rw [b3 66 (by decide), hfs]; exact w4 j hj⟩
          have e1' : zw_whl fn_Contest_tellRest_l2 zw_F (0, x0) = some x1 := e1
          refine ⟨.inl (nI r, x1), ?_, x1, rfl, e2⟩
          unfold fn_Contest_tellRest_l1
          dsimp only
          rw [if_pos (show nI r < (20 : Int32) from nI_lt (b := 20) (by omega) (by omega)), w1, zp_bs]
          dsimp only
          rw [hno, if_pos (show ¬ ¬ (if false = true then (1 : Int32) else 0) = 0 by decide), b1, zp_bs, e1', zp_bs]) 0 (0, c2) (Nat.zero_le _) ⟨c2, rfl, c2f, a3, a5.2.2.2⟩
        have y4 := y3.1
        have y5 := y3.2
        have hA39 : zr_A c1 (zw_wI y2 71 9 0) := y5.2.wF (by decide)
        obtain ⟨d1, d2, d3, d4, d5, d6, d7⟩ := zo_laidX hTab hM y5.2
        obtain ⟨d8, i1, i2, i3, i4, i5, i6, i7⟩ := sp_Mtruths hTab d4 hP h26 h89 d3
        have frd : ∀ z : zw_Ct, (∀ k, k ≠ 90 → z.1 k = d8.1 k) → zr_A c1 z := fun z hz => i2.tr ⟨fun k k1 _ => hz k (fun e => k1 (by rw [e]; decide)), fun j _ => by rw [hz 71 (by decide)]⟩
        obtain ⟨m, m1, m2, m3, m4⟩ := zp_up (f := fn_M_rest_l1) (I := fun i t => ∃ z : zw_Ct, t = (nI i, z) ∧ (∀ k, k ≠ 90 → z.1 k = d8.1 k) ∧ z.2 = d8.2 ∧ ∀ j, j < P → z.1 90 j = nI (zj_rr A P (zj_pe c1) i j)) (P := fun y => ∃ w : zw_Ct, y = .inl (nI r, w) ∧ zr_D (zj_rl fs P) c1 y2 w) r (by unfold zw_F; omega) (fun i t hi h => by
          obtain ⟨z, rfl, q1, q2, q3⟩ := h
          obtain ⟨y, w1, w2, w3, w4⟩ := mround _ z (hrr i) (frd z q1) (fun s hs e he => by rw [q1 84 (by decide)]; exact i6 s hs e he) q3
          refine Or.inl ⟨(nI (i + 1), y), ?_, y, rfl, fun k hk => (w2 k hk).trans (q1 k hk), w3.trans q2, w4⟩
          unfold fn_M_rest_l1
          dsimp only
          rw [if_pos (show nI i < (20 : Int32) from nI_lt (b := 20) (by omega) (by omega)), w1, zp_bs]
          dsimp only
          rw [hch i hi, if_pos (show ¬ (if true = true then (1 : Int32) else 0) = 0 by decide), nI_1]) (fun t h => by
          obtain ⟨z, rfl, q1, q2, q3⟩ := h
          obtain ⟨y, w1, w2, w3, w4⟩ := mround _ z (hrr r) (frd z q1) (fun s hs e he => by rw [q1 84 (by decide)]; exact i6 s hs e he) q3
          have hAy : zr_A c1 y := frd y (fun k hk => (w2 k hk).trans (q1 k hk))
          have hD := zr_D.start (c1 := c1) (c3 := y2) hAy (by rw [w2 61 (by decide), q1 61 (by decide), i4, d5 61 (by decide) (by decide)]) (by rw [w3, q2, i3, d6])
          obtain ⟨x1, e1, e2, e3⟩ := zp_detC (f := fn_M_rest_l3) (fun i c => (nI i, c)) (fun i z => zr_D (zj_rl fs i) c1 y2 z ∧ ∀ j, j < P → z.1 90 j = nI (fs j)) (fun c => c) P 0 (Nat.zero_le _) (by unfold zw_F; omega) (fun i z _ hi ⟨q1, q2⟩ => by
            obtain ⟨z2, u1, u2, u3⟩ := q1.tell (by rw [zj_rl_l]; omega) (nI (fs i)).toInt64
            refine ⟨z2, ?_, u2, fun j hj => by rw [u3 90 (by decide)]; exact q2 j hj⟩
            unfold fn_M_rest_l3
            dsimp only
            rw [q1.2.1.2 26 (by decide), h26, if_pos (nI_lt hi (by omega)), zp_aI (by omega) (by omega), zp_bs, q2 i hi, u1, zp_bs, nI_1]) (fun z ⟨q1, q2⟩ => by
            unfold fn_M_rest_l3
            dsimp only
            rw [q1.2.1.2 26 (by decide), h26, if_neg (nI_nlt (Nat.le_refl _) (by omega))]) (zw_wI y 71 8 0) ⟨hD, fun j hj => by rw [zw_wI_ne (by decide), hfs]; exact w4 j hj⟩
          have e1' : zw_whl fn_M_rest_l3 zw_F (0, zw_wI y 71 8 0) = some x1 := e1
          refine ⟨.inl (nI r, x1), ?_, x1, rfl, e2⟩
          unfold fn_M_rest_l1
          dsimp only
          rw [if_pos (show nI r < (20 : Int32) from nI_lt (b := 20) (by omega) (by omega)), w1, zp_bs]
          dsimp only
          rw [hno, if_neg (show ¬ ¬ (if false = true then (1 : Int32) else 0) = 0 by decide), zp_bs, e1', zp_bs]) 0 (0, d8) (Nat.zero_le _) ⟨d8, rfl, fun _ _ => rfl, rfl, i7.2.2.2⟩
        refine ⟨nI r, y2, m2, ?_, ?_, m4.fin hRl (by rw [zj_rl_l]; omega) y5.1⟩
        · rw [if_neg hc, zp_bs]
          unfold fn_Contest_tellRest
          rw [a1, zp_bs, y1, zp_bs, y4]
          rfl
        · rw [zp_bs, hisP _ hA39, zp_bs, if_neg (by
            rintro (h | h)
            · exact h (by decide)
            · exact hP0 (by rw [← h, hA39.2 26 (by decide)]; exact h26.symm)), d2, zp_bs, i1, zp_bs, m1, zp_bs, m3]
