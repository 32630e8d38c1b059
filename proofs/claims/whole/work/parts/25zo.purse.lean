/-! look, purse: the calls -/
theorem zl_lights {E T : Nat} {c : zw_Ct} (hTab : zr_Tab E T c) (l : Int32) : fn_Lures_areLights c l = some (if 0 ≤ l ∧ l < nI (10 ^ E) then (1 : Int32) else 0) := by
  have hE4 := hTab.1.2.1
  have h := zp_det (f := fn_Lures_areLights_l1 c) (x := nI (10 ^ E)) (fun i => (nI (10 ^ i), nI i)) E 0 (Nat.zero_le _) (by unfold zw_F; omega) (fun i _ hi => by
    have e : nI (10 ^ i) * 10 = nI (10 ^ (i + 1)) := nI_mul (10 ^ i) 10
    unfold fn_Lures_areLights_l1
    dsimp only
    rw [hTab.2.1.1, if_pos (nI_lt hi (by omega)), zp_bs, e, nI_1]) (by
    unfold fn_Lures_areLights_l1
    dsimp only
    rw [hTab.2.1.1, if_neg (nI_nlt (Nat.le_refl _) (by omega))])
  have h' : zw_whl (fn_Lures_areLights_l1 c) zw_F (1, 0) = some (nI (10 ^ E)) := h
  unfold fn_Lures_areLights
  rw [h', zp_bs]
theorem zl_pow {E : Nat} (hE : E ≤ 4) : 10 ^ E ≤ 10000 := by
  rcases (show E = 0 ∨ E = 1 ∨ E = 2 ∨ E = 3 ∨ E = 4 by omega) with rfl | rfl | rfl | rfl | rfl <;> decide
theorem zl_Mlights {E T : Nat} {d : zw_Ct} (hTab : zr_Tab E T d) (l k : Int32) : fn_M_areLights d l k = some (if (¬ (if 0 ≤ l ∧ l < nI (10 ^ E) then (1 : Int32) else 0) = 0) ∧ ¬ fn_P_within k 0 9999 = 0 then (1 : Int32) else 0) := by
  have hE4 := hTab.1.2.1
  have hp := zl_pow hE4
  have h := zp_det (f := fn_M_tens_l1 (nI E)) (x := nI (10 ^ E)) (fun i => (nI (10 ^ i), nI i)) E 0 (Nat.zero_le _) (by unfold zw_F; omega) (fun i _ hi => by
    have e : nI (10 ^ i) * 10 = nI (10 ^ (i + 1)) := nI_mul (10 ^ i) 10
    unfold fn_M_tens_l1
    dsimp only
    rw [if_pos (nI_lt hi (by omega)), zp_bs, e, nI_1]) (by
    unfold fn_M_tens_l1
    dsimp only
    rw [if_neg (nI_nlt (Nat.le_refl _) (by omega))])
  have h' : zw_whl (fn_M_tens_l1 (nI E)) zw_F (1, 0) = some (nI (10 ^ E)) := h
  have w : fn_M_in k.toInt64 0 9999 = fn_P_within k 0 9999 := in_within k 0 9999
  unfold fn_M_areLights fn_M_tens
  rw [hTab.2.2.1, h', zp_bs, zp_bs, in_has (by omega) l, w]
theorem zl_look {E T : Nat} {c1 : zw_Ct} (hTab : zr_Tab E T c1) (t l k : Int32) : (fn_P_isLook c1 t l k = some 0 ∧ ∀ d, zr_A c1 d → (¬ ¬ fn_M_isSaying d t = 0) ∨ fn_M_areLights d l k = some 0) ∨ (∃ tj Lj kj : Nat, tj < zt_N E T ∧ Lj < 10000 ∧ kj ≤ 9999 ∧ t = nI tj ∧ l = nI Lj ∧ k = nI kj ∧ fn_P_isLook c1 t l k = some 1 ∧ ∀ d, zr_A c1 d → ¬ (¬ ¬ fn_M_isSaying d t = 0) ∧ fn_M_areLights d l k = some 1) := by
  have hE4 := hTab.1.2.1
  have hp := zl_pow hE4
  have hsay : ∀ d, zr_A c1 d → fn_M_isSaying d t = fn_Sayings_has c1 t := fun d hA => by rw [zr_isSaying (hA.tab hTab), ← zr_has hTab]
  unfold fn_P_isLook
  by_cases h1 : fn_Sayings_has c1 t = 0
  · refine Or.inl ⟨by rw [if_neg (fun q => q h1), zp_bs, if_neg (by decide)], fun d hA => Or.inl (by rw [hsay d hA]; exact fun q => q h1)⟩
  · rw [if_pos h1]
    by_cases h2 : fn_P_within k 0 9999 = 0
    · refine Or.inl ⟨by rw [if_neg (fun q => q h2), zp_bs, if_neg (by decide)], fun d hA => Or.inr ?_⟩
      rw [zl_Mlights (hA.tab hTab), if_neg (fun q => q.2 h2)]
    · rw [if_pos h2, zl_lights hTab, zp_bs, zp_bs]
      by_cases h3 : 0 ≤ l ∧ l < nI (10 ^ E)
      · obtain ⟨tj, ht, et⟩ := has_n (zt_N31 hTab.1) (s := t) (by rw [← zr_has hTab]; exact h1)
        obtain ⟨Lj, hL, eL⟩ := has_n (N := 10 ^ E) (by omega) (s := l) (by rw [if_pos h3]; decide)
        obtain ⟨kj, hk, ek⟩ := within_n (m := 9999) rfl (by omega) (within_1 (a := k) (lo := 0) (hi := 9999) h2)
        refine Or.inr ⟨tj, Lj, kj, ht, by omega, hk, et, eL, ek, by rw [if_pos h3]; rfl, fun d hA => ⟨by rw [hsay d hA]; exact fun q => q h1, ?_⟩⟩
        rw [zl_Mlights (hA.tab hTab), if_pos h3, if_pos ⟨by decide, h2⟩]
      · refine Or.inl ⟨by rw [if_neg h3]; rfl, fun d hA => Or.inr ?_⟩
        rw [zl_Mlights (hA.tab hTab), if_neg h3, if_neg (fun q => q.1 rfl)]
theorem zo_look : zq_look zr_Rel := by
  intro n c hn hRel a t l k
  unfold fn_P_look fn_M_look
  rcases zo_pay hRel a with ⟨h1, h2⟩ | ⟨p, E, T, V, c1, hp, rfl, h1, hR, hRl, hV, hM, hlen, hisP⟩
  · refine ⟨-1, c, zw_wI c 71 9 0, ?_, ?_, zr_thr hRel⟩
    · rw [h1, zp_bs]
      dsimp only
      rw [if_pos rfl]
    · rw [zp_bs, h2, zp_bs, if_pos (by decide)]
  · have hTab := hRl.2.2.1
    have hT := zt_T hTab.1
    have hT1 := hTab.1.2.2.1
    have hT12 := hTab.1.2.2.2
    have hRel1 : zr_Rel n c1 := ⟨hR, E, T, hRl⟩
    rw [h1, zp_bs]
    dsimp only
    rw [if_neg (show ¬ (some (54 + p) : Option Nat) = none by intro q; cases q)]
    have hA9 : zr_A c1 (zw_wI c1 71 9 0) := zr_A.rf.wF (by decide)
    rcases zl_look hTab t l k with ⟨g1, g2⟩ | ⟨tj, Lj, kj, htj, hLj, hkj, rfl, rfl, rfl, g1, g2⟩
    · refine ⟨-1, c1, zw_wI c1 71 9 0, by rw [g1, zp_bs, if_pos (by decide)], ?_, zr_thr hRel1⟩
      rw [zp_bs, hisP _ hA9, zp_bs, if_neg (by decide)]
      by_cases hs : ¬ ¬ fn_M_isSaying (zw_wI c1 71 9 0) t = 0
      · rw [if_pos hs]
      · rw [if_neg hs]
        rcases g2 _ hA9 with h | h
        · exact absurd h hs
        · rw [h, zp_bs, if_pos (by decide)]
    · obtain ⟨mo, hmo⟩ : ∃ mo, mo = zj_ga E (zt_N E T) (zt_p E T) V tj Lj := ⟨_, rfl⟩
      have m0 : 0 ≤ mo := by rw [hmo]; exact zj_ga_0 hT htj
      have mb : mo ≤ 4000000000000 := by rw [hmo]; exact zj_ga_b hT htj
      obtain ⟨c2, a1, a2, a3⟩ := sp_gain (L := Lj) hTab hlen (by omega) hV htj hLj
      rw [← hmo] at a1
      have hA2 : zr_A c1 c2 := ⟨fun j k1 _ => a2 j (fun e => k1 (by rw [e]; decide)), fun j _ => by rw [a2 71 (by decide)]⟩
      obtain ⟨c3, b1, b2, -⟩ := zr_C.clear hA2
      obtain ⟨c4, b3, b4, -⟩ := b2.add (by decide) (lI mo)
      have ht4 := sp_times (ct := kj) (b4.2.tab hTab).2.1.2.1 hT1 hT12 hkj m0 mb
      obtain ⟨ti, hti⟩ : ∃ ti, ti = zj_ti mo ((kj : Int) * (T : Int) * 10) := ⟨_, rfl⟩
      rw [← hti] at ht4
      obtain ⟨c5, b5, b6, -⟩ := b4.add (by simp) ti.toInt64
      have hA59 : zr_A c1 (zw_wI c5 71 9 0) := b6.2.wF (by decide)
      obtain ⟨d2, e1, e2, e3, e4, e5⟩ := sp_Mlook (L := Lj) hTab hM hA59 htj hLj
      rw [← hmo] at e1
      have hD := zr_D.start (c1 := c1) (c3 := c5) e2 (e3.trans (zw_wI_ne (by decide))) e5
      obtain ⟨d3, f1, f2, -⟩ := hD.tell (by decide) (lI mo)
      have htm := sp_Mtimes (ct := kj) (f2.2.1.tab hTab).2.2.2.1 hT1 hT12 hkj m0 mb
      rw [← hti] at htm
      obtain ⟨d4, f3, f4, -⟩ := f2.tell (by simp) ti.toInt64
      refine ⟨0, c5, d4, ?_, ?_, f4.fin hRl (by simp) b6.1⟩
      · rw [g1, zp_bs, if_neg (by decide), zp_bs, a1, zp_bs]
        dsimp only
        rw [b1, zp_bs, b3, zp_bs, ht4, zp_bs, b5, zp_bs]
      · obtain ⟨s1, s2⟩ := g2 _ hA59
        rw [zp_bs, hisP _ hA59, zp_bs, if_neg (by decide), if_neg s1, s2, zp_bs, if_neg (by decide), e1, zp_bs]
        dsimp only
        rw [zp_bs, f1, zp_bs, htm, zp_bs, f3, zp_bs]
/-! purse -/
def zj_pu (tv : Nat → Int32) : Nat → Option (Nat × Int32)
  | 0 => none
  | i + 1 => if tv i = -1 then zj_pu tv i else match zj_pu tv i with
    | none => some (i, tv i)
    | some q => if tv i < q.2 then some (i, tv i) else some q
theorem zj_pu_s (tv : Nat → Int32) (i : Nat) : zj_pu tv (i + 1) = if tv i = -1 then zj_pu tv i else match zj_pu tv i with
    | none => some (i, tv i)
    | some q => if tv i < q.2 then some (i, tv i) else some q := rfl
theorem zj_pu_congr {tv tv' : Nat → Int32} : ∀ i : Nat, (∀ q, q < i → tv q = tv' q) → zj_pu tv i = zj_pu tv' i
  | 0, _ => rfl
  | i + 1, h => by rw [zj_pu_s, zj_pu_s, zj_pu_congr i (fun q hq => h q (by omega)), h i (by omega)]
theorem zj_pu_b {tv : Nat → Int32} : ∀ (i : Nat) (q : Nat × Int32), zj_pu tv i = some q → q.1 < i
  | 0, _, h => by cases h
  | i + 1, q, h => by
    rw [zj_pu_s] at h
    by_cases h0 : tv i = -1
    · rw [if_pos h0] at h
      have := zj_pu_b i q h
      omega
    · rw [if_neg h0] at h
      cases hq : zj_pu tv i with
      | none =>
        rw [hq] at h
        dsimp only at h
        rw [← Option.some.inj h]
        exact Nat.lt_succ_self i
      | some q' =>
        rw [hq] at h
        dsimp only at h
        have := zj_pu_b i q' hq
        by_cases h1 : tv i < q'.2
        · rw [if_pos h1] at h
          rw [← Option.some.inj h]
          exact Nat.lt_succ_self i
        · rw [if_neg h1] at h
          rw [← Option.some.inj h]
          omega
def zj_u1 (o : Option (Nat × Int32)) : Int32 := match o with
  | none => -2
  | some q => nI q.1
def zj_u2 (x : Int32) (o : Option (Nat × Int32)) : Int32 := match o with
  | none => x
  | some q => q.2
def zj_tv (E T t L : Nat) (due : Int) (kind : Nat → Int32) (x : zw_Ct) (q : Nat) : Int32 := if kind q = 0 then -1 else zj_ti (zj_ga E (zt_N E T) (zt_p E T) (fun s e => x.1 (54 + q) (4 * s + e)) t L) due
theorem zo_purse : zq_purse zr_Rel := by
  intro n c hn hRel t l k
  have hRel0 := hRel
  obtain ⟨hR, E, T, hRl⟩ := hRel
  have hTab := hRl.2.2.1
  have hT := zt_T hTab.1
  have hT1 := hTab.1.2.2.1
  have hT12 := hTab.1.2.2.2
  have hA9 : zr_A c (zw_wI c 71 9 0) := zr_A.rf.wF (by decide)
  unfold fn_P_purse fn_M_purse
  rcases zl_look hTab t l k with ⟨g1, g2⟩ | ⟨tj, Lj, kj, htj, hLj, hkj, rfl, rfl, rfl, g1, g2⟩
  · refine ⟨-1, c, zw_wI c 71 9 0, by rw [g1, zp_bs, if_pos (by decide)], ?_, zr_thr hRel0⟩
    rw [zp_bs]
    by_cases hs : ¬ ¬ fn_M_isSaying (zw_wI c 71 9 0) t = 0
    · rw [if_pos hs]
    · rw [if_neg hs]
      rcases g2 _ hA9 with h | h
      · exact absurd h hs
      · rw [h, zp_bs, if_pos (by decide)]
  · obtain ⟨due, hdue⟩ : ∃ due : Int, due = (kj : Int) * (T : Int) * 10 := ⟨_, rfl⟩
    have hdue0 : 0 ≤ due := by
      have := Int.mul_le_mul_of_nonneg_left (show (0 : Int) ≤ T by omega) (show (0 : Int) ≤ (kj : Int) by omega)
      rw [hdue]
      omega
    have tvb : ∀ x q, zj_tv E T tj Lj due (c.1 46) x q = -1 ∨ ∃ m : Nat, m ≤ 9999 ∧ zj_tv E T tj Lj due (c.1 46) x q = nI m := fun x q => by
      unfold zj_tv
      by_cases h : c.1 46 q = 0
      · rw [if_pos h]; exact Or.inl rfl
      · rw [if_neg h]; exact zj_ti_b _ _ hdue0
    obtain ⟨y, y1, c4, y2, hR4, hRl4, k4, f4⟩ := zp_up (f := fn_P_purse_l1 (nI tj) (nI Lj) (nI kj)) (I := fun i s => ∃ x : zw_Ct, s = (zj_u1 (zj_pu (zj_tv E T tj Lj due (c.1 46) x) i), zj_u2 10000 (zj_pu (zj_tv E T tj Lj due (c.1 46) x) i), nI i, x) ∧ zr_R x ∧ zr_Rl n E T x ∧ x.1 46 = c.1 46 ∧ ∀ q, q < i → ¬ c.1 46 q = 0 → x.1 58 q = 1) (P := fun y => ∃ x : zw_Ct, y = (zj_u1 (zj_pu (zj_tv E T tj Lj due (c.1 46) x) 4), zj_u2 10000 (zj_pu (zj_tv E T tj Lj due (c.1 46) x) 4), x) ∧ zr_R x ∧ zr_Rl n E T x ∧ x.1 46 = c.1 46 ∧ ∀ q, q < 4 → ¬ c.1 46 q = 0 → x.1 58 q = 1) 4 (by unfold zw_F; omega) (fun i s hi h => by
      obtain ⟨x, rfl, q1, q2, q3, q4⟩ := h
      left
      by_cases hk : c.1 46 i = 0
      · have ht : zj_tv E T tj Lj due (c.1 46) x i = -1 := if_pos hk
        refine ⟨(zj_u1 (zj_pu (zj_tv E T tj Lj due (c.1 46) x) (i + 1)), zj_u2 10000 (zj_pu (zj_tv E T tj Lj due (c.1 46) x) (i + 1)), nI (i + 1), x), ?_, x, rfl, q1, q2, q3, fun q hq hkq => ?_⟩
        · unfold fn_P_purse_l1
          dsimp only
          rw [if_pos (show nI i < (4 : Int32) from nI_lt (b := 4) hi (by omega)), sp_nopay (fun p hp e => by rw [q3, ← (nI_eq (by omega) (by omega)).mp e]; exact hk), zp_bs]
          dsimp only
          rw [if_neg (fun z => z rfl), zp_bs, zj_pu_s, if_pos ht, nI_1]
        · by_cases e : q = i
          · rw [e] at hkq; exact absurd hk hkq
          · exact q4 q (by omega) hkq
      · obtain ⟨V, x1, e1, e2, e3, e4, e5, e6, e7, e8, e9⟩ := sp_payX q2 hi (by rw [q3]; exact hk)
        have hTab1 := e5.2.2.1
        obtain ⟨x2, i1, i2, i3⟩ := sp_gain (L := Lj) (V := fun s e => x1.1 (54 + i) (4 * s + e)) hTab1 (zo_len hi) (by omega) (fun s _ e _ => rfl) htj hLj
        have hA2 : zr_A x1 x2 := ⟨fun j k1 _ => i2 j (fun e => k1 (by rw [e]; decide)), fun j _ => by rw [i2 71 (by decide)]⟩
        have hT2 := hA2.tab hTab1
        have tme := sp_times (ct := kj) hT2.2.1.2.1 hT1 hT12 hkj (zj_ga_0 (V := fun s e => x1.1 (54 + i) (4 * s + e)) (L := Lj) hT htj) (zj_ga_b (V := fun s e => x1.1 (54 + i) (4 * s + e)) (L := Lj) hT htj)
        rw [← hdue] at tme
        have ti : zj_tv E T tj Lj due (c.1 46) x2 i = zj_ti (zj_ga E (zt_N E T) (zt_p E T) (fun s e => x1.1 (54 + i) (4 * s + e)) tj Lj) due := by
          unfold zj_tv
          rw [if_neg hk, i2 (54 + i) (by omega)]
        rw [← ti] at tme
        have tq : ∀ q, q < i → zj_tv E T tj Lj due (c.1 46) x q = zj_tv E T tj Lj due (c.1 46) x2 q := fun q hq => by
          unfold zj_tv
          rw [i2 (54 + q) (by omega), e3 (54 + q) (by omega) (by omega) (by omega) (by omega)]
        have hpu := zj_pu_congr i tq
        have r61 : x2.1 61 = x.1 61 := by rw [i2 61 (by decide), e3 61 (by decide) (by decide) (by decide) (by omega)]
        have r71 : x2.1 71 = x.1 71 := by rw [i2 71 (by decide), e3 71 (by decide) (by decide) (by decide) (by omega)]
        refine ⟨(zj_u1 (zj_pu (zj_tv E T tj Lj due (c.1 46) x2) (i + 1)), zj_u2 10000 (zj_pu (zj_tv E T tj Lj due (c.1 46) x2) (i + 1)), nI (i + 1), x2), ?_, x2, rfl, q1.fr (by rw [r61]) (by rw [r71]) (by rw [i3 62 (by decide), e4]) (by rw [i3 75 (by decide), e4]), e5.fr hA2, ?_, fun q hq hkq => ?_⟩
        · unfold fn_P_purse_l1
          dsimp only
          rw [if_pos (show nI i < (4 : Int32) from nI_lt (b := 4) hi (by omega)), e1, zp_bs]
          dsimp only
          rw [if_pos (show ¬ (some (54 + i) : Option Nat) = none by intro q; cases q), zp_bs, i1, zp_bs]
          dsimp only
          rw [tme, zp_bs, hpu, zj_pu_s, nI_1]
          obtain ⟨tv, htv⟩ : ∃ tv, tv = zj_tv E T tj Lj due (c.1 46) x2 i := ⟨_, rfl⟩
          have hb := tvb x2 i
          rw [← htv] at hb ⊢
          by_cases h0 : tv = -1
          · rw [if_pos h0, if_neg (fun z => z.1 h0), zp_bs, zp_bs]
          · obtain ⟨m, hm, em⟩ := hb.resolve_left h0
            rw [if_neg h0]
            cases hq : zj_pu (zj_tv E T tj Lj due (c.1 46) x2) i with
            | none =>
              dsimp only
              have : tv < zj_u2 10000 none := by rw [em]; exact nI_lt (b := 10000) (by omega) (by omega)
              rw [if_pos ⟨h0, this⟩, zp_bs, zp_bs]
              rfl
            | some q' =>
              dsimp only
              have hu : zj_u2 10000 (some q') = q'.2 := rfl
              rw [hu]
              by_cases h1 : tv < q'.2
              · rw [if_pos ⟨h0, h1⟩, zp_bs, zp_bs, if_pos h1]
                rfl
              · rw [if_neg (fun z => h1 z.2), zp_bs, zp_bs, if_neg h1]
                rfl
        · rw [i2 46 (by decide), e3 46 (by decide) (by decide) (by decide) (by omega)]; exact q3
        · rw [i2 58 (by decide)]
          by_cases e : q = i
          · rw [e]; exact e8
          · rw [e9 q e]; exact q4 q (by omega) hkq) (fun s h => by
      obtain ⟨x, rfl, q1, q2, q3, q4⟩ := h
      refine ⟨_, ?_, x, rfl, q1, q2, q3, q4⟩
      unfold fn_P_purse_l1
      dsimp only
      rw [if_neg (show ¬ nI 4 < (4 : Int32) by decide)]) 0 (-2, 10000, 0, c) (Nat.zero_le _) ⟨c, rfl, hR, hRl, rfl, fun q hq => absurd hq (Nat.not_lt_zero q)⟩
    have hTab4 := hRl4.2.2.1
    obtain ⟨tv, htv⟩ : ∃ tv, tv = zj_tv E T tj Lj due (c.1 46) c4 := ⟨_, rfl⟩
    have hb : ∀ q, tv q = -1 ∨ ∃ m : Nat, m ≤ 9999 ∧ tv q = nI m := fun q => by rw [htv]; exact tvb c4 q
    rw [← htv] at y2
    -- the Model's loop behind any contents
    have mloop : ∀ d0, zr_A c4 d0 → ∃ d1, zw_whl (fn_M_purse_l1 (nI tj) (nI Lj) (nI kj)) zw_F (-2, 0, 0, d0) = some (zj_u1 (zj_pu tv 4), zj_u2 0 (zj_pu tv 4), d1) ∧ zr_A c4 d1 ∧ d1.1 61 = d0.1 61 ∧ d1.1 71 8 = d0.1 71 8 ∧ d1.2 = d0.2 := by
      intro d0 hA0
      obtain ⟨d1, m1, m2⟩ := zp_detC (f := fn_M_purse_l1 (nI tj) (nI Lj) (nI kj)) (fun i x => (zj_u1 (zj_pu tv i), zj_u2 0 (zj_pu tv i), nI i, x)) (fun i x => zr_A c4 x ∧ x.1 61 = d0.1 61 ∧ x.1 71 8 = d0.1 71 8 ∧ x.2 = d0.2) (fun x => (zj_u1 (zj_pu tv 4), zj_u2 0 (zj_pu tv 4), x)) 4 0 (Nat.zero_le _) (by unfold zw_F; omega) (fun i x _ hi ⟨q1, q2, q3, q4⟩ => by
        rcases sp_isPay hRl4 q1 (nI i) with ⟨⟨p, hp, ep, hk⟩, h1⟩ | ⟨h0, h1⟩
        · have epi : i = p := (nI_eq (by omega) (by omega)).mp ep
          subst epi
          have hk' : ¬ c.1 46 i = 0 := by rw [← k4]; exact hk
          obtain ⟨-, hM⟩ := sp_fresh hRl4 hi hk (f4 i hi hk')
          obtain ⟨x2, e1, e2, e3, e4, e5⟩ := sp_Mlook (L := Lj) hTab4 hM q1 htj hLj
          have tme := sp_Mtimes (ct := kj) (e2.tab hTab4).2.2.2.1 hT1 hT12 hkj (zj_ga_0 (V := fun s e => c4.1 (54 + i) (4 * s + e)) (L := Lj) hT htj) (zj_ga_b (V := fun s e => c4.1 (54 + i) (4 * s + e)) (L := Lj) hT htj)
          rw [← hdue] at tme
          have ti : tv i = zj_ti (zj_ga E (zt_N E T) (zt_p E T) (fun s e => c4.1 (54 + i) (4 * s + e)) tj Lj) due := by
            rw [htv]
            exact if_neg hk'
          rw [← ti] at tme
          refine ⟨x2, ?_, e2, e3.trans q2, e4.trans q3, e5.trans q4⟩
          unfold fn_M_purse_l1
          dsimp only
          rw [if_pos (show nI i < (4 : Int32) from nI_lt (b := 4) hi (by omega)), h1, zp_bs, if_pos (by decide), e1, zp_bs]
          dsimp only
          rw [tme, zp_bs, zp_bs, zj_pu_s, nI_1]
          dsimp only
          by_cases h0 : tv i = -1
          · rw [if_pos (Or.inl h0), if_pos h0]
          · obtain ⟨m, hm, em⟩ := (hb i).resolve_left h0
            rw [if_neg h0]
            cases hq : zj_pu tv i with
            | none =>
              dsimp only
              rw [if_neg (fun z => z.elim h0 (fun w => absurd w.1 (show ¬ (0 : Int32) ≤ zj_u1 none by decide)))]
              rfl
            | some q' =>
              dsimp only
              have hu : zj_u2 0 (some q') = q'.2 := rfl
              have hu1 : zj_u1 (some q') = nI q'.1 := rfl
              have hql := zj_pu_b i q' hq
              rw [hu, hu1]
              by_cases h1 : tv i < q'.2
              · rw [if_neg (fun z => z.elim h0 (fun w => by have w2 := w.2; rw [Int32.le_iff_toInt_le] at w2; rw [Int32.lt_iff_toInt_lt] at h1; omega)), if_pos h1]
                rfl
              · rw [if_pos (Or.inr ⟨nI_pos' (by omega), by rw [Int32.le_iff_toInt_le]; rw [Int32.lt_iff_toInt_lt] at h1; omega⟩), if_neg h1]
                rfl
        · have hk : c.1 46 i = 0 := by rw [← k4]; exact h0 i hi rfl
          have ht : tv i = -1 := by rw [htv]; exact if_pos hk
          refine ⟨x, ?_, q1, q2, q3, q4⟩
          unfold fn_M_purse_l1
          dsimp only
          rw [if_pos (show nI i < (4 : Int32) from nI_lt (b := 4) hi (by omega)), h1, zp_bs, if_neg (fun z => z rfl), zp_bs]
          dsimp only
          rw [if_pos (Or.inl rfl), zj_pu_s, if_pos ht, nI_1]) (fun x _ => by
        unfold fn_M_purse_l1
        dsimp only
        rw [if_neg (show ¬ nI 4 < (4 : Int32) by decide)]) d0 ⟨hA0, rfl, rfl, rfl⟩
      exact ⟨d1, m1, m2⟩
    have sayl : ∀ d, zr_A c4 d → ¬ (¬ ¬ fn_M_isSaying d (nI tj) = 0) ∧ fn_M_areLights d (nI Lj) (nI kj) = some 1 := fun d hA => by
      have hTd := hA.tab hTab4
      obtain ⟨s1, s2⟩ := g2 _ hA9
      rw [zr_isSaying (hA9.tab hTab)] at s1
      rw [zl_Mlights (hA9.tab hTab)] at s2
      rw [zr_isSaying hTd, zl_Mlights hTd]
      exact ⟨s1, s2⟩
    cases hq : zj_pu tv 4 with
    | none =>
      rw [hq] at y2 mloop
      have hA49 : zr_A c4 (zw_wI c4 71 9 0) := zr_A.rf.wF (by decide)
      obtain ⟨d1, m1, m2, m3, m4, m5⟩ := mloop _ hA49
      obtain ⟨s1, s2⟩ := sayl _ hA49
      refine ⟨-2, c4, d1, ?_, ?_, zr_fin0 hR4 hRl4 m2 (m3.trans (zw_wI_ne (by decide))) (m4.trans (zw_wI_at (by decide))) (by rw [m5]; rfl) (by rw [m5]; rfl)⟩
      · rw [g1, zp_bs, if_neg (by decide), y1, zp_bs, y2]
        dsimp only
        rw [if_neg (show ¬ ¬ zj_u1 none = -2 from fun z => z rfl), zp_bs]
        rfl
      · rw [zp_bs, if_neg s1, s2, zp_bs, if_neg (by decide), m1, zp_bs]
        dsimp only
        rw [if_pos (show zj_u1 none < 0 by decide)]
    | some q =>
      rw [hq] at y2 mloop
      have hql := zj_pu_b 4 q hq
      have hu1 : zj_u1 (some q) = nI q.1 := rfl
      have hu2 : zj_u2 10000 (some q) = q.2 := rfl
      have hu3 : zj_u2 0 (some q) = q.2 := rfl
      obtain ⟨c5, a1, a2, -⟩ := zr_C.clear (c1 := c4) (c3 := c4) zr_A.rf
      obtain ⟨c6, a3, a4, -⟩ := a2.add (by decide) q.2.toInt64
      have hA69 : zr_A c4 (zw_wI c6 71 9 0) := a4.2.wF (by decide)
      obtain ⟨d1, m1, m2, m3, m4, m5⟩ := mloop _ hA69
      obtain ⟨s1, s2⟩ := sayl _ hA69
      have hD := zr_D.start (c1 := c4) (c3 := c6) m2 (m3.trans (zw_wI_ne (by decide))) m5
      obtain ⟨d2, b1, b2, -⟩ := hD.tell (by decide) q.2.toInt64
      refine ⟨nI q.1, c6, d2, ?_, ?_, b2.fin hRl4 (by simp) a4.1⟩
      · rw [g1, zp_bs, if_neg (by decide), y1, zp_bs, y2]
        dsimp only
        rw [hu1, hu2, if_pos (nI_nm2 (by omega)), a1, zp_bs, a3, zp_bs, zp_bs]
      · rw [zp_bs, if_neg s1, s2, zp_bs, if_neg (by decide), m1, zp_bs]
        dsimp only
        rw [hu1, hu3, if_neg (nI_pos (by omega)), zp_bs, b1, zp_bs]
