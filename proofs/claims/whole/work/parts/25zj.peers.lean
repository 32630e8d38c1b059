/-! peers -/
def zj_tp (N : Nat) (V : Nat → Nat → Int32) (e : Nat) : Int32 := V (zs_top (fun s => (V s e).toInt) N) e
def zj_md2 (E : Nat) (pt : Nat → Nat → Nat) (s : Nat) : Nat := zs_top (fun e => (pt s e : Int)) E
def zj_re (E N : Nat) (pt : Nat → Nat → Nat) (V : Nat → Nat → Int32) (a b : Nat) : Bool := decide (V a (zj_md2 E pt b) = zj_tp N V (zj_md2 E pt b) ∧ V b (zj_md2 E pt a) = zj_tp N V (zj_md2 E pt a))
theorem sp_Mmode {E T N s : Nat} {pt : Nat → Nat → Nat} {d : zw_Ct} (hT : zr_T E T N pt) (hM : zr_M E T N pt d) (hs : s < N) : fn_M_mode d (nI s) = some (nI (zj_md2 E pt s)) := by
  have hN := hT.2.2.2.2.2.1
  have hE4 := hT.2.1
  have hE2 := hT.1
  have h12 := hT.2.2.2.1
  have h := zp_det (f := fn_M_mode_l1 d (nI s)) (x := nI (zj_md2 E pt s)) (fun i => (nI (zs_top (fun e => (pt s e : Int)) i), nI i)) E 1 (by omega) (by unfold zw_F; omega) (fun i h0 hi => by
    have hk := zs_top_lt (fun e => (pt s e : Int)) (n := i) (by omega)
    have b1 := hT.2.2.2.2.2.2 s hs i (by omega)
    have b2 := hT.2.2.2.2.2.2 s hs (zs_top (fun e => (pt s e : Int)) i) (by omega)
    unfold fn_M_mode_l1
    dsimp only
    rw [hM.1, if_pos (nI_lt hi (by omega)), nI_at', zp_aI (by omega) (by omega), zp_bs, nI_at', zp_aI (by omega) (by omega), zp_bs, hM.2.2.2 s hs i (by omega), hM.2.2.2 s hs _ (show zs_top (fun e => (pt s e : Int)) i < 4 by omega), zs_top_s, nI_1]
    by_cases hq : ((pt s (zs_top (fun e => (pt s e : Int)) i) : Nat) : Int) < ((pt s i : Nat) : Int)
    · rw [if_pos (nI_lt (by omega) (by omega)), zp_bs, if_pos hq]
    · rw [if_neg (nI_nlt (by omega) (by omega)), zp_bs, if_neg hq]) (by
    unfold fn_M_mode_l1
    dsimp only
    rw [hM.1, if_neg (nI_nlt (Nat.le_refl _) (by omega))]
    rfl)
  have h' : zw_whl (fn_M_mode_l1 d (nI s)) zw_F (0, 1) = some (nI (zj_md2 E pt s)) := by
    have e0 : (nI (zs_top (fun e => (pt s e : Int)) 1), nI 1) = ((0 : Int32), (1 : Int32)) := by rw [zs_top_1]; rfl
    rw [← e0]
    exact h
  unfold fn_M_mode
  rw [h', zp_bs]
theorem sp_findTops {E T N a : Nat} {pt : Nat → Nat → Nat} {V : Nat → Nat → Int32} {c : zw_Ct} (hT : zr_T E T N pt) (hS : zr_S E T N pt c) (ha : zw_len SH 0 a = some 1820) (ha67 : a ≠ 67) (hV : zr_V a E N V c) : ∃ c2, fn_Contest_findTops c a = some c2 ∧ (∀ k, k ≠ 67 → c2.1 k = c.1 k) ∧ c2.2 = c.2 ∧ ∀ e, e < E → c2.1 67 e = zj_tp N V e := by
  have hN := hT.2.2.2.2.2.1
  have hN2 := hT.2.2.2.2.1
  have hE4 := hT.2.1
  obtain ⟨c2, h1, h2, h3, h4⟩ := zp_detC (f := fn_Contest_findTops_l1 a) (fun i c => (nI i, c)) (fun i x => (∀ k, k ≠ 67 → x.1 k = c.1 k) ∧ x.2 = c.2 ∧ ∀ e, e < i → x.1 67 e = zj_tp N V e) (fun c => c) E 0 (Nat.zero_le _) (by unfold zw_F; omega) (fun i x _ hi ⟨q1, q2, q3⟩ => by
    have hSx : zr_S E T N pt x := by unfold zr_S; rw [q1 1 (by decide), q1 2 (by decide)]; exact hS
    have hVx : zr_V a E N V x := fun s hs e he => by rw [q1 a ha67]; exact hV s hs e he
    have e00 : x.1 a i = V 0 i := by
      have := hVx 0 (by omega) i hi
      rw [Nat.mul_zero, Nat.zero_add] at this
      exact this
    obtain ⟨y, e1, e2, e3, e4, e5⟩ := zp_detC (f := fn_Contest_findTops_l2 (nI i) a) (fun j c => (nI j, c)) (fun j z => (∀ k, k ≠ 67 → z.1 k = c.1 k) ∧ z.2 = c.2 ∧ (∀ e, e < i → z.1 67 e = zj_tp N V e) ∧ z.1 67 i = V (zs_top (fun s => (V s i).toInt) j) i) (fun c => c) N 1 (by omega) (by unfold zw_F; omega) (fun j z h0 hj ⟨w1, w2, w3, w4⟩ => by
      have hSz : zr_S E T N pt z := by unfold zr_S; rw [w1 1 (by decide), w1 2 (by decide)]; exact hS
      have hVz : zr_V a E N V z := fun s hs e he => by rw [w1 a ha67]; exact hV s hs e he
      refine ⟨zw_wI z 67 i (V (zs_top (fun s => (V s i).toInt) (j + 1)) i), ?_, fun k hk => by rw [zw_wI_ne hk]; exact w1 k hk, w2, fun e he => by rw [zw_wI_at (by omega)]; exact w3 e he, zw_wI_eq⟩
      unfold fn_Contest_findTops_l2
      dsimp only
      rw [hSz.2.2.1, if_pos (nI_lt hj (by omega)), zp_aI (by omega) (by omega), zp_bs, w4, nI_at, zp_dI ha (by omega) (by omega), zp_bs, hVz j hj i hi, zs_top_s, nI_1]
      by_cases hq : (V (zs_top (fun s => (V s i).toInt) j) i).toInt < (V j i).toInt
      · rw [if_pos (Int32.lt_iff_toInt_lt.mpr hq), zp_uI (by omega) (by omega), zp_bs, if_pos hq]
      · rw [if_neg (fun z => hq (Int32.lt_iff_toInt_lt.mp z)), zp_uI (by omega) (by omega), zp_bs, if_neg hq]) (fun z ⟨w1, w2, w3, w4⟩ => by
      have hSz : zr_S E T N pt z := by unfold zr_S; rw [w1 1 (by decide), w1 2 (by decide)]; exact hS
      unfold fn_Contest_findTops_l2
      dsimp only
      rw [hSz.2.2.1, if_neg (nI_nlt (Nat.le_refl _) (by omega))]) (zw_wI x 67 i (V 0 i)) ⟨fun k hk => by rw [zw_wI_ne hk]; exact q1 k hk, q2, fun e he => by rw [zw_wI_at (by omega)]; exact q3 e he, by rw [zw_wI_eq, zs_top_1]⟩
    have e1' : zw_whl (fn_Contest_findTops_l2 (nI i) a) zw_F (1, zw_wI x 67 i (V 0 i)) = some y := e1
    refine ⟨y, ?_, e2, e3, fun e he => ?_⟩
    · unfold fn_Contest_findTops_l1
      dsimp only
      rw [hSx.1, if_pos (nI_lt hi (by omega)), zp_dI ha (by omega) (by omega), zp_bs, e00, zp_uI (by omega) (by omega), zp_bs, e1', zp_bs, nI_1]
    · by_cases q : e = i
      · rw [q]; exact e5
      · exact e4 e (by omega)) (fun x ⟨q1, q2, q3⟩ => by
    have hSx : zr_S E T N pt x := by unfold zr_S; rw [q1 1 (by decide), q1 2 (by decide)]; exact hS
    unfold fn_Contest_findTops_l1
    dsimp only
    rw [hSx.1, if_neg (nI_nlt (Nat.le_refl _) (by omega))]) c ⟨fun _ _ => rfl, rfl, fun e he => absurd he (Nat.not_lt_zero e)⟩
  have h1' : zw_whl (fn_Contest_findTops_l1 a) zw_F (0, c) = some c2 := h1
  refine ⟨c2, ?_, h2, h3, h4⟩
  unfold fn_Contest_findTops
  rw [h1', zp_bs]
theorem jL_inj {x y : Int32} : x.toInt64 = y.toInt64 ↔ x = y := by
  have h1 := i_bd x
  have h2 := i_bd y
  rw [iL, iL, lI_eq ⟨by omega, by omega⟩ ⟨by omega, by omega⟩]
  exact Int32.toInt_inj
theorem jL_lt {x y : Int32} : x.toInt64 < y.toInt64 ↔ x.toInt < y.toInt := by
  have h1 := i_bd x
  have h2 := i_bd y
  rw [iL, iL, lI_lt ⟨by omega, by omega⟩ ⟨by omega, by omega⟩]
theorem sp_Mtops {E T N : Nat} {pt : Nat → Nat → Nat} {V : Nat → Nat → Int32} {d : zw_Ct} (hT : zr_T E T N pt) (hM : zr_M E T N pt d) (hV : zr_V 84 E N V d) : ∃ d2, zw_whl fn_M_peers_l1 zw_F (0, d) = some d2 ∧ d2.1 = d.1 ∧ (∀ k, k ≠ 91 → d2.2 k = d.2 k) ∧ ∀ e, e < E → d2.2 91 e = (zj_tp N V e).toInt64 := by
  have hN := hT.2.2.2.2.2.1
  have hN2 := hT.2.2.2.2.1
  have hE4 := hT.2.1
  obtain ⟨d2, h1, h2, h3, h4⟩ := zp_detC (f := fn_M_peers_l1) (fun i c => (nI i, c)) (fun i x => x.1 = d.1 ∧ (∀ k, k ≠ 91 → x.2 k = d.2 k) ∧ ∀ e, e < i → x.2 91 e = (zj_tp N V e).toInt64) (fun c => c) E 0 (Nat.zero_le _) (by unfold zw_F; omega) (fun i x _ hi ⟨q1, q2, q3⟩ => by
    have hMx : zr_M E T N pt x := by unfold zr_M; rw [q1]; exact hM
    have hVx : zr_V 84 E N V x := by unfold zr_V; rw [q1]; exact hV
    have e00 : x.1 84 i = V 0 i := by
      have := hVx 0 (by omega) i hi
      rw [Nat.mul_zero, Nat.zero_add] at this
      exact this
    obtain ⟨y, e1, e2, e3, e4, e5⟩ := zp_detC (f := fn_M_peers_l2 (nI i)) (fun j c => (nI j, c)) (fun j z => z.1 = d.1 ∧ (∀ k, k ≠ 91 → z.2 k = d.2 k) ∧ (∀ e, e < i → z.2 91 e = (zj_tp N V e).toInt64) ∧ z.2 91 i = (V (zs_top (fun s => (V s i).toInt) j) i).toInt64) (fun c => c) N 1 (by omega) (by unfold zw_F; omega) (fun j z h0 hj ⟨w1, w2, w3, w4⟩ => by
      have hMz : zr_M E T N pt z := by unfold zr_M; rw [w1]; exact hM
      have hVz : zr_V 84 E N V z := by unfold zr_V; rw [w1]; exact hV
      refine ⟨zw_wL z 91 i (V (zs_top (fun s => (V s i).toInt) (j + 1)) i).toInt64, ?_, w1, fun k hk => by rw [zw_wL_ne hk]; exact w2 k hk, fun e he => by rw [zw_wL_at (by omega)]; exact w3 e he, zw_wL_eq⟩
      unfold fn_M_peers_l2
      dsimp only
      rw [hMz.2.2.1, if_pos (nI_lt hj (by omega)), zp_aL (by omega) (by omega), zp_bs, w4, nI_at', zp_aI (by omega) (by omega), zp_bs, hVz j hj i hi, zs_top_s, nI_1]
      by_cases hq : (V (zs_top (fun s => (V s i).toInt) j) i).toInt < (V j i).toInt
      · rw [if_neg (fun z => by have := jL_lt.mp z; omega), zp_uL (by omega) (by omega), zp_bs, if_pos hq]
      · by_cases hq2 : (V j i).toInt < (V (zs_top (fun s => (V s i).toInt) j) i).toInt
        · rw [if_pos (jL_lt.mpr hq2), zp_uL (by omega) (by omega), zp_bs, if_neg hq]
        · have : V j i = V (zs_top (fun s => (V s i).toInt) j) i := Int32.toInt_inj.mp (by omega)
          rw [if_neg (fun z => hq2 (jL_lt.mp z)), zp_uL (by omega) (by omega), zp_bs, if_neg hq, this]) (fun z ⟨w1, w2, w3, w4⟩ => by
      unfold fn_M_peers_l2
      dsimp only
      rw [show z.1 71 2 = nI N by rw [w1]; exact hM.2.2.1, if_neg (nI_nlt (Nat.le_refl _) (by omega))]) (zw_wL x 91 i (V 0 i).toInt64) ⟨q1, fun k hk => by rw [zw_wL_ne hk]; exact q2 k hk, fun e he => by rw [zw_wL_at (by omega)]; exact q3 e he, by rw [zw_wL_eq, zs_top_1]⟩
    have e1' : zw_whl (fn_M_peers_l2 (nI i)) zw_F (1, zw_wL x 91 i (V 0 i).toInt64) = some y := e1
    refine ⟨y, ?_, e2, e3, fun e he => ?_⟩
    · unfold fn_M_peers_l1
      dsimp only
      rw [hMx.1, if_pos (nI_lt hi (by omega)), zp_aI (by omega) (by omega), zp_bs, e00, zp_uL (by omega) (by omega), zp_bs, e1', zp_bs, nI_1]
    · by_cases q : e = i
      · rw [q]; exact e5
      · exact e4 e (by omega)) (fun x ⟨q1, q2, q3⟩ => by
    unfold fn_M_peers_l1
    dsimp only
    rw [show x.1 71 0 = nI E by rw [q1]; exact hM.1, if_neg (nI_nlt (Nat.le_refl _) (by omega))]) d ⟨rfl, fun _ _ => rfl, fun e he => absurd he (Nat.not_lt_zero e)⟩
  exact ⟨d2, h1, h2, h3, h4⟩
theorem zj_md2_lt {E T N s : Nat} {pt : Nat → Nat → Nat} (hT : zr_T E T N pt) : zj_md2 E pt s < E := zs_top_lt _ (by have := hT.1; omega)
theorem sp_rests {E T N v a b : Nat} {pt : Nat → Nat → Nat} {V : Nat → Nat → Int32} {c : zw_Ct} (hT : zr_T E T N pt) (hS : zr_S E T N pt c) (hv : zw_len SH 0 v = some 1820) (hV : zr_V v E N V c) (h67 : ∀ e, e < E → c.1 67 e = zj_tp N V e) (ha : a < N) (hb : b < N) : fn_Contest_rests c v (nI a) (nI b) = some (if zj_re E N pt V a b = true then 1 else 0) := by
  have hN := hT.2.2.2.2.2.1
  have hE4 := hT.2.1
  have ma := zj_md2_lt (s := a) hT
  have mb := zj_md2_lt (s := b) hT
  have ea : fn_Sayings_mode c (nI a) = some (nI (zj_md2 E pt a)) := sp_mode hT hS ha
  have eb : fn_Sayings_mode c (nI b) = some (nI (zj_md2 E pt b)) := sp_mode hT hS hb
  unfold fn_Contest_rests
  rw [eb, zp_bs, ea, zp_bs, nI_at, zp_dI hv (by omega) (by omega), zp_bs, zp_aI (by omega) (by omega), zp_bs, hV a ha _ mb, h67 _ mb]
  unfold zj_re
  by_cases h1 : V a (zj_md2 E pt b) = zj_tp N V (zj_md2 E pt b)
  · rw [if_pos h1, nI_at, zp_dI hv (by omega) (by omega), zp_bs, zp_aI (by omega) (by omega), zp_bs, hV b hb _ ma, h67 _ ma, zp_bs]
    by_cases h2 : V b (zj_md2 E pt a) = zj_tp N V (zj_md2 E pt a)
    · rw [if_pos (decide_eq_true h2), if_pos (decide_eq_true ⟨h1, h2⟩)]
    · rw [if_neg (fun q => h2 (of_decide_eq_true q)), if_neg (fun q => h2 (of_decide_eq_true q).2)]
  · rw [if_neg h1, zp_bs, if_neg (by decide), if_neg (fun q => h1 (of_decide_eq_true q).1)]
def zj_ps (g : Nat → Nat → Bool) (a : Nat) (q : Int32 × Int32 × Nat × Nat) : Nat → Int32 × Int32 × Nat × Nat
  | 0 => q
  | b + 1 => if g a b = true then (if (zj_ps g a q b).2.2.1 = 0 then nI a else (zj_ps g a q b).1, if (zj_ps g a q b).2.2.1 = 0 then nI b else (zj_ps g a q b).2.1, (zj_ps g a q b).2.2.1 + 1, (zj_ps g a q b).2.2.2 + if a = b then 1 else 0) else zj_ps g a q b
theorem zj_ps_s (g : Nat → Nat → Bool) (a : Nat) (q : Int32 × Int32 × Nat × Nat) (b : Nat) : zj_ps g a q (b + 1) = if g a b = true then (if (zj_ps g a q b).2.2.1 = 0 then nI a else (zj_ps g a q b).1, if (zj_ps g a q b).2.2.1 = 0 then nI b else (zj_ps g a q b).2.1, (zj_ps g a q b).2.2.1 + 1, (zj_ps g a q b).2.2.2 + if a = b then 1 else 0) else zj_ps g a q b := rfl
theorem zj_ps_b {g : Nat → Nat → Bool} {a B : Nat} {q : Int32 × Int32 × Nat × Nat} (h : q.2.2.1 ≤ B) : ∀ b : Nat, (zj_ps g a q b).2.2.1 ≤ B + b
  | 0 => h
  | b + 1 => by
    have ih := zj_ps_b (g := g) (a := a) h b
    rw [zj_ps_s]
    split
    · dsimp only; omega
    · omega
def zj_po (g : Nat → Nat → Bool) (N : Nat) : Nat → Int32 × Int32 × Nat × Nat
  | 0 => (-1, -1, 0, 0)
  | a + 1 => zj_ps g a (zj_po g N a) N
theorem zj_po_b {g : Nat → Nat → Bool} {N : Nat} : ∀ a : Nat, (zj_po g N a).2.2.1 ≤ a * N
  | 0 => Nat.zero_le _
  | a + 1 => by
    have h := zj_ps_b (g := g) (a := a) (zj_po_b (g := g) (N := N) a) N
    rw [Nat.add_mul, Nat.one_mul]
    exact h
def zj_tl (g : Nat → Nat → Bool) (x y a b : Nat) : Int32 := if g x y = true ∧ (x < a ∨ (x = a ∧ y < b)) then 1 else 0
theorem zj_ite1 (b : Bool) : (if ¬ (if b = true then (1 : Int32) else 0) = 0 then (1 : Int64) else 0) = if b = true then 1 else 0 := by cases b <;> rfl
theorem zo_peers : zq_peers zr_Rel := by
  intro n c hn hRel a x y
  unfold fn_P_peers fn_M_peers
  rcases zo_pay hRel a with ⟨h1, h2⟩ | ⟨p, E, T, V, c1, hp, rfl, h1, hR, hRl, hV, hM, hlen, hisP⟩
  · refine ⟨-1, c, zw_wI c 71 9 0, ?_, ?_, zr_thr hRel⟩
    · rw [h1, zp_bs]
      dsimp only
      rw [if_pos (Or.inl (Or.inl rfl))]
    · rw [zp_bs, h2, zp_bs, if_pos (Or.inl (Or.inl (by decide)))]
  · have hTab := hRl.2.2.1
    have hT := zt_T hTab.1
    have hN : zt_N E T ≤ 455 := hT.2.2.2.2.2.1
    have hE4 := hTab.1.2.1
    have hRel1 : zr_Rel n c1 := ⟨hR, E, T, hRl⟩
    rw [h1, zp_bs]
    dsimp only
    have hA9 : zr_A c1 (zw_wI c1 71 9 0) := zr_A.rf.wF (by decide)
    by_cases hc : ((((some (54 + p) : Option Nat) = none) ∨ (¬ (¬ (fn_Sayings_has c1 x) = 0))) ∨ (¬ (¬ (fn_Sayings_has c1 y) = 0)))
    · refine ⟨-1, c1, zw_wI c1 71 9 0, by rw [if_pos hc], ?_, zr_thr hRel1⟩
      rw [zp_bs, hisP _ hA9, zp_bs, zr_isSaying (hA9.tab hTab), zr_isSaying (hA9.tab hTab), ← zr_has hTab, ← zr_has hTab, if_pos]
      rcases hc with (h | h) | h
      · cases h
      · exact Or.inl (Or.inr h)
      · exact Or.inr h
    have mod0 : ∀ d : zw_Ct, zr_A c1 d → ¬ (((¬ (¬ (1 : Int32) = 0)) ∨ (¬ (¬ (fn_M_isSaying d x) = 0))) ∨ (¬ (¬ (fn_M_isSaying d y) = 0))) := fun d hA => by
      rw [zr_isSaying (hA.tab hTab), zr_isSaying (hA.tab hTab), ← zr_has hTab, ← zr_has hTab]
      rintro ((h | h) | h)
      · exact h (by decide)
      · exact hc (Or.inl (Or.inr h))
      · exact hc (Or.inr h)
    rw [if_neg hc]
    by_cases h91 : (91 : Int32) < c1.1 1 2
    · refine ⟨-3, c1, zw_wI c1 71 9 0, by rw [if_pos h91], ?_, zr_thr hRel1⟩
      rw [zp_bs, hisP _ hA9, zp_bs, if_neg (mod0 _ hA9), (hA9.tab hTab).2.2.2.2.1, ← hTab.2.1.2.2.1, if_pos h91]
    have h91' : ¬ (91 : Int32) < nI (zt_N E T) := by rw [← hTab.2.1.2.2.1]; exact h91
    have hcx : ¬ fn_Sayings_has c1 x = 0 := fun q => hc (Or.inl (Or.inr (fun z => z q)))
    have hcy : ¬ fn_Sayings_has c1 y = 0 := fun q => hc (Or.inr (fun z => z q))
    obtain ⟨xj, hxj, ex⟩ := has_n (zt_N31 hTab.1) (s := x) (by rw [← zr_has hTab]; exact hcx)
    obtain ⟨yj, hyj, ey⟩ := has_n (zt_N31 hTab.1) (s := y) (by rw [← zr_has hTab]; exact hcy)
    obtain ⟨g, hg⟩ : ∃ g : Nat → Nat → Bool, g = zj_re E (zt_N E T) (zt_p E T) V := ⟨_, rfl⟩
    have pob : ∀ a, a ≤ zt_N E T → (zj_po g (zt_N E T) a).2.2.1 ≤ 207025 := fun a ha => by
      have h := zj_po_b (g := g) (N := zt_N E T) a
      have : a * zt_N E T ≤ 455 * 455 := Nat.mul_le_mul (by omega) hN
      omega
    have psb : ∀ a b, a ≤ zt_N E T → b ≤ zt_N E T → (zj_ps g a (zj_po g (zt_N E T) a) b).2.2.1 ≤ 207480 := fun a b ha hb => by
      have h := zj_ps_b (g := g) (a := a) (pob a ha) b
      omega
    obtain ⟨c2, g1, g2, g3, g4⟩ := sp_findTops hT hTab.2.1 hlen (by omega) hV
    have hA2 : zr_A c1 c2 := ⟨fun k k1 _ => g2 k (fun e => k1 (by rw [e]; decide)), fun j _ => by rw [g2 71 (by decide)]⟩
    have hT2 := hA2.tab hTab
    have hr2 : ∀ a b, a < zt_N E T → b < zt_N E T → fn_Contest_rests c2 (54 + p) (nI a) (nI b) = some (if g a b = true then 1 else 0) := fun a b ha hb => by
      rw [hg]; exact sp_rests hT hT2.2.1 hlen (hA2.V hp hV) g4 ha hb
    have inner : ∀ i, i < zt_N E T → zw_whl (fn_Contest_tellPeers_l2 c2 (54 + p) (nI i)) zw_F ((zj_po g (zt_N E T) i).1, (zj_po g (zt_N E T) i).2.1, nI (zj_po g (zt_N E T) i).2.2.1, nI (zj_po g (zt_N E T) i).2.2.2, 0) = some ((zj_po g (zt_N E T) (i + 1)).1, (zj_po g (zt_N E T) (i + 1)).2.1, nI (zj_po g (zt_N E T) (i + 1)).2.2.1, nI (zj_po g (zt_N E T) (i + 1)).2.2.2) := fun i hi => by
      have h := zp_det (f := fn_Contest_tellPeers_l2 c2 (54 + p) (nI i)) (x := ((zj_po g (zt_N E T) (i + 1)).1, (zj_po g (zt_N E T) (i + 1)).2.1, nI (zj_po g (zt_N E T) (i + 1)).2.2.1, nI (zj_po g (zt_N E T) (i + 1)).2.2.2)) (fun j => ((zj_ps g i (zj_po g (zt_N E T) i) j).1, (zj_ps g i (zj_po g (zt_N E T) i) j).2.1, nI (zj_ps g i (zj_po g (zt_N E T) i) j).2.2.1, nI (zj_ps g i (zj_po g (zt_N E T) i) j).2.2.2, nI j)) (zt_N E T) 0 (Nat.zero_le _) (by unfold zw_F; omega) (fun j _ hj => by
        have hb := psb i j (by omega) (by omega)
        unfold fn_Contest_tellPeers_l2
        dsimp only
        rw [hT2.2.1.2.2.1, if_pos (nI_lt hj (by omega)), hr2 i j hi hj, zp_bs, zj_ps_s]
        cases hgg : g i j with
        | false =>
          rw [if_neg (show ¬ ¬ (if false = true then (1 : Int32) else 0) = 0 by decide), zp_bs, if_neg (show ¬ false = true by decide), nI_1]
        | true =>
          rw [if_pos (show ¬ (if true = true then (1 : Int32) else 0) = 0 by decide), zp_bs, zp_bs, zp_bs, zp_bs, if_pos (show true = true from rfl)]
          dsimp only
          have e0 : (nI (zj_ps g i (zj_po g (zt_N E T) i) j).2.2.1 = 0) ↔ ((zj_ps g i (zj_po g (zt_N E T) i) j).2.2.1 = 0) := nI_eq (b := 0) (by omega) (by omega)
          have e1 : nI (zj_ps g i (zj_po g (zt_N E T) i) j).2.2.2 + (if nI i = nI j then (1 : Int32) else 0) = nI ((zj_ps g i (zj_po g (zt_N E T) i) j).2.2.2 + if i = j then 1 else 0) := by
            by_cases q : i = j
            · rw [if_pos (by rw [q]), if_pos q, nI_1]
            · rw [if_neg (fun z => q ((nI_eq (by omega) (by omega)).mp z)), if_neg q, Int32.add_zero]
              rfl
          rw [e1, nI_1, nI_1]
          by_cases q : (zj_ps g i (zj_po g (zt_N E T) i) j).2.2.1 = 0
          · rw [if_pos (e0.mpr q), if_pos (e0.mpr q), if_pos q, if_pos q]
          · rw [if_neg (fun z => q (e0.mp z)), if_neg (fun z => q (e0.mp z)), if_neg q, if_neg q]) (by
        unfold fn_Contest_tellPeers_l2
        dsimp only
        rw [hT2.2.1.2.2.1, if_neg (nI_nlt (Nat.le_refl _) (by omega))]
        rfl)
      exact h
    have hcl := zp_det (f := fn_Contest_tellPeers_l1 c2 (54 + p)) (x := ((zj_po g (zt_N E T) (zt_N E T)).1, (zj_po g (zt_N E T) (zt_N E T)).2.1, nI (zj_po g (zt_N E T) (zt_N E T)).2.2.1, nI (zj_po g (zt_N E T) (zt_N E T)).2.2.2)) (fun i => ((zj_po g (zt_N E T) i).1, (zj_po g (zt_N E T) i).2.1, nI (zj_po g (zt_N E T) i).2.2.1, nI (zj_po g (zt_N E T) i).2.2.2, nI i)) (zt_N E T) 0 (Nat.zero_le _) (by unfold zw_F; omega) (fun i _ hi => by
      unfold fn_Contest_tellPeers_l1
      dsimp only
      rw [hT2.2.1.2.2.1, if_pos (nI_lt hi (by omega)), inner i hi, zp_bs, nI_1]) (by
      unfold fn_Contest_tellPeers_l1
      dsimp only
      rw [hT2.2.1.2.2.1, if_neg (nI_nlt (Nat.le_refl _) (by omega))])
    have hcl' : zw_whl (fn_Contest_tellPeers_l1 c2 (54 + p)) zw_F (-1, -1, 0, 0, 0) = _ := hcl
    obtain ⟨r, hr⟩ : ∃ r, r = zj_po g (zt_N E T) (zt_N E T) := ⟨_, rfl⟩
    rw [← hr] at hcl'
    obtain ⟨c3, b1, b2, b3, b4⟩ := zr_C.clear2 hA2
    obtain ⟨c4, e1, e2, e3, -⟩ := b2.add2 (by decide) r.1.toInt64
    obtain ⟨c5, e4, e5, e6, -⟩ := e2.add2 (by simp) r.2.1.toInt64
    obtain ⟨c6, e7, e8, e9, -⟩ := e5.add2 (by simp) (nI r.2.2.2).toInt64
    have hr6 : fn_Contest_rests c6 (54 + p) x y = some (if g xj yj = true then 1 else 0) := by
      rw [hg, ex, ey]
      exact sp_rests hT (e8.2.tab hTab).2.1 hlen (e8.2.V hp hV) (fun e he => by rw [e9 67 (by decide), e6 67 (by decide), e3 67 (by decide), b3 67 (by decide)]; exact g4 e he) hxj hyj
    obtain ⟨c7, i1, i2, -, -⟩ := e8.add2 (by simp) (if g xj yj = true then (1 : Int64) else 0)
    have hA79 : zr_A c1 (zw_wI c7 71 9 0) := i2.2.wF (by decide)
    obtain ⟨d1, d2, d3, d4, d5, d6⟩ := zo_laid hTab hM i2.2
    obtain ⟨d7, m1, m2, m3, m4⟩ := sp_Mtops hT (d4.tab hTab).2.2 d3
    have hA7 : zr_A c1 d7 := d4.tr (zr_A.eq m2)
    have hT7 := hA7.tab hTab
    have hV7 : zr_V 84 E (zt_N E T) V d7 := by unfold zr_V; rw [m2]; exact d3
    have hD : zr_D [] c1 c7 (zw_wI d7 71 8 0) := ⟨sp_clearM d7, hA7.wF (by decide), by rw [zw_wI_ne (by decide), m2]; exact d5, by rw [← d6]; exact m3 62 (by decide)⟩
    have minner : ∀ i, i < zt_N E T → zw_whl (fn_M_peers_l4 d7 (nI i) x y) zw_F ((zj_po g (zt_N E T) i).1, (zj_po g (zt_N E T) i).2.1, nI (zj_po g (zt_N E T) i).2.2.1, nI (zj_po g (zt_N E T) i).2.2.2, zj_tl g xj yj i 0, 0) = some ((zj_po g (zt_N E T) (i + 1)).1, (zj_po g (zt_N E T) (i + 1)).2.1, nI (zj_po g (zt_N E T) (i + 1)).2.2.1, nI (zj_po g (zt_N E T) (i + 1)).2.2.2, zj_tl g xj yj (i + 1) 0) := fun i hi => by
      have h := zp_det (f := fn_M_peers_l4 d7 (nI i) x y) (x := ((zj_po g (zt_N E T) (i + 1)).1, (zj_po g (zt_N E T) (i + 1)).2.1, nI (zj_po g (zt_N E T) (i + 1)).2.2.1, nI (zj_po g (zt_N E T) (i + 1)).2.2.2, zj_tl g xj yj (i + 1) 0)) (fun j => ((zj_ps g i (zj_po g (zt_N E T) i) j).1, (zj_ps g i (zj_po g (zt_N E T) i) j).2.1, nI (zj_ps g i (zj_po g (zt_N E T) i) j).2.2.1, nI (zj_ps g i (zj_po g (zt_N E T) i) j).2.2.2, zj_tl g xj yj i j, nI j)) (zt_N E T) 0 (Nat.zero_le _) (by unfold zw_F; omega) (fun j _ hj => by
        have hb := psb i j (by omega) (by omega)
        have mi := zj_md2_lt (s := i) hT
        have mj := zj_md2_lt (s := j) hT
        have hgv : g i j = decide (V i (zj_md2 E (zt_p E T) j) = zj_tp (zt_N E T) V (zj_md2 E (zt_p E T) j) ∧ V j (zj_md2 E (zt_p E T) i) = zj_tp (zt_N E T) V (zj_md2 E (zt_p E T) i)) := by rw [hg]; rfl
        have tl0 : g i j = false → zj_tl g xj yj i j = zj_tl g xj yj i (j + 1) := fun q => by
          unfold zj_tl
          by_cases z : g xj yj = true ∧ (xj < i ∨ (xj = i ∧ yj < j))
          · rw [if_pos z, if_pos ⟨z.1, by omega⟩]
          · rw [if_neg z, if_neg]
            rintro ⟨z1, z2⟩
            by_cases z3 : xj = i ∧ yj = j
            · rw [z3.1, z3.2, q] at z1; exact absurd z1 (by decide)
            · exact z ⟨z1, by omega⟩
        unfold fn_M_peers_l4
        dsimp only
        rw [hT7.2.2.2.2.1, if_pos (nI_lt hj (by omega)), sp_Mmode hT hT7.2.2 hj, zp_bs, nI_at', zp_aI (by omega) (by omega), zp_bs, zp_bs, zp_aL (by omega) (by omega), zp_bs, hV7 i hi _ mj, m4 _ mj, nI_1, zj_ps_s]
        by_cases q1 : V i (zj_md2 E (zt_p E T) j) = zj_tp (zt_N E T) V (zj_md2 E (zt_p E T) j)
        · rw [if_neg (fun z => z (by rw [q1])), sp_Mmode hT hT7.2.2 hi, zp_bs, nI_at', zp_aI (by omega) (by omega), zp_bs, zp_bs, zp_aL (by omega) (by omega), zp_bs, hV7 j hj _ mi, m4 _ mi]
          by_cases q2 : V j (zj_md2 E (zt_p E T) i) = zj_tp (zt_N E T) V (zj_md2 E (zt_p E T) i)
          · have hgt : g i j = true := by rw [hgv]; exact decide_eq_true ⟨q1, q2⟩
            have e0 : (nI (zj_ps g i (zj_po g (zt_N E T) i) j).2.2.1 = 0) ↔ ((zj_ps g i (zj_po g (zt_N E T) i) j).2.2.1 = 0) := nI_eq (b := 0) (by omega) (by omega)
            have e1 : nI (zj_ps g i (zj_po g (zt_N E T) i) j).2.2.2 + (if nI i = nI j then (1 : Int32) else 0) = nI ((zj_ps g i (zj_po g (zt_N E T) i) j).2.2.2 + if i = j then 1 else 0) := by
              by_cases q : i = j
              · rw [if_pos (by rw [q]), if_pos q, nI_1]
              · rw [if_neg (fun z => q ((nI_eq (by omega) (by omega)).mp z)), if_neg q, Int32.add_zero]
                rfl
            have e2 : (if ((¬ zj_tl g xj yj i j = 0) ∨ ((nI i = x) ∧ (nI j = y))) then (1 : Int32) else 0) = zj_tl g xj yj i (j + 1) := by
              rw [ex, ey]
              unfold zj_tl
              by_cases z : g xj yj = true ∧ (xj < i ∨ (xj = i ∧ yj < j))
              · rw [if_pos z, if_pos (Or.inl (by decide)), if_pos ⟨z.1, by omega⟩]
              · rw [if_neg z]
                by_cases z3 : xj = i ∧ yj = j
                · rw [if_pos (Or.inr ⟨by rw [z3.1], by rw [z3.2]⟩), if_pos ⟨by rw [z3.1, z3.2]; exact hgt, by omega⟩]
                · rw [if_neg (fun w => w.elim (fun w => w rfl) (fun w => z3 ⟨((nI_eq (by omega) (by omega)).mp w.1).symm, ((nI_eq (by omega) (by omega)).mp w.2).symm⟩)), if_neg (fun w => z ⟨w.1, by omega⟩)]
            rw [if_neg (fun z => z (by rw [q2])), hgt, if_pos (show true = true from rfl), e1, e2]
            by_cases q : (zj_ps g i (zj_po g (zt_N E T) i) j).2.2.1 = 0
            · rw [if_pos (e0.mpr q), zp_bs, zp_bs, zp_bs, if_pos q, if_pos q, nI_1]
            · rw [if_neg (fun z => q (e0.mp z)), zp_bs, zp_bs, zp_bs, if_neg q, if_neg q, nI_1]
          · have hgf : g i j = false := by rw [hgv]; exact decide_eq_false (fun z => q2 z.2)
            rw [if_pos (fun z => q2 (jL_inj.mp z)), hgf, if_neg (show ¬ false = true by decide), tl0 hgf]
        · have hgf : g i j = false := by rw [hgv]; exact decide_eq_false (fun z => q1 z.1)
          rw [if_pos (fun z => q1 (jL_inj.mp z)), hgf, if_neg (show ¬ false = true by decide), tl0 hgf]) (by
        have tle : zj_tl g xj yj i (zt_N E T) = zj_tl g xj yj (i + 1) 0 := by
          unfold zj_tl
          by_cases z : g xj yj = true ∧ (xj < i ∨ (xj = i ∧ yj < zt_N E T))
          · rw [if_pos z, if_pos ⟨z.1, by omega⟩]
          · rw [if_neg z, if_neg (fun w => z ⟨w.1, by omega⟩)]
        unfold fn_M_peers_l4
        dsimp only
        rw [hT7.2.2.2.2.1, if_neg (nI_nlt (Nat.le_refl _) (by omega)), tle]
        rfl)
      exact h
    have hml := zp_det (f := fn_M_peers_l3 d7 x y) (x := ((zj_po g (zt_N E T) (zt_N E T)).1, (zj_po g (zt_N E T) (zt_N E T)).2.1, nI (zj_po g (zt_N E T) (zt_N E T)).2.2.1, nI (zj_po g (zt_N E T) (zt_N E T)).2.2.2, zj_tl g xj yj (zt_N E T) 0)) (fun i => ((zj_po g (zt_N E T) i).1, (zj_po g (zt_N E T) i).2.1, nI (zj_po g (zt_N E T) i).2.2.1, nI (zj_po g (zt_N E T) i).2.2.2, zj_tl g xj yj i 0, nI i)) (zt_N E T) 0 (Nat.zero_le _) (by unfold zw_F; omega) (fun i _ hi => by
      unfold fn_M_peers_l3
      dsimp only
      rw [hT7.2.2.2.2.1, if_pos (nI_lt hi (by omega)), minner i hi, zp_bs, nI_1]) (by
      unfold fn_M_peers_l3
      dsimp only
      rw [hT7.2.2.2.2.1, if_neg (nI_nlt (Nat.le_refl _) (by omega))])
    have tl00 : zj_tl g xj yj 0 0 = 0 := if_neg (fun w => by omega)
    have hml' : zw_whl (fn_M_peers_l3 d7 x y) zw_F (-1, -1, 0, 0, 0, 0) = some ((zj_po g (zt_N E T) (zt_N E T)).1, (zj_po g (zt_N E T) (zt_N E T)).2.1, nI (zj_po g (zt_N E T) (zt_N E T)).2.2.1, nI (zj_po g (zt_N E T) (zt_N E T)).2.2.2, zj_tl g xj yj (zt_N E T) 0) := by
      rw [show ((-1 : Int32), (-1 : Int32), (0 : Int32), (0 : Int32), (0 : Int32), (0 : Int32)) = ((zj_po g (zt_N E T) 0).1, (zj_po g (zt_N E T) 0).2.1, nI (zj_po g (zt_N E T) 0).2.2.1, nI (zj_po g (zt_N E T) 0).2.2.2, zj_tl g xj yj 0 0, nI 0) by rw [tl00]; rfl]
      exact hml
    have tlN : zj_tl g xj yj (zt_N E T) 0 = if g xj yj = true then 1 else 0 := by
      unfold zj_tl
      by_cases z : g xj yj = true
      · rw [if_pos ⟨z, by omega⟩, if_pos z]
      · rw [if_neg (fun w => z w.1), if_neg z]
    rw [← hr, tlN] at hml'
    obtain ⟨d8, f1, f2, -⟩ := hD.tell (by decide) r.1.toInt64
    obtain ⟨d9, f3, f4, -⟩ := f2.tell (by simp) r.2.1.toInt64
    obtain ⟨d10, f5, f6, -⟩ := f4.tell (by simp) (nI r.2.2.2).toInt64
    obtain ⟨d11, f7, f8, -⟩ := f6.tell (by simp) (if g xj yj = true then (1 : Int64) else 0)
    refine ⟨nI r.2.2.1, c7, d11, ?_, ?_, f8.fin hRl (by simp) i2.1⟩
    · rw [if_neg h91, zp_bs]
      unfold fn_Contest_tellPeers
      rw [g1, zp_bs, hcl', zp_bs]
      dsimp only
      rw [b1, zp_bs, e1, zp_bs, e4, zp_bs, e7, zp_bs, hr6, zp_bs, zj_ite1, i1, zp_bs, zp_bs]
    · rw [zp_bs, hisP _ hA79, zp_bs, if_neg (mod0 _ hA79), (hA79.tab hTab).2.2.2.2.1, if_neg h91', d2, zp_bs, m1, zp_bs, hml', zp_bs]
      dsimp only
      rw [zp_bs, f1, zp_bs, f3, zp_bs, f5, zp_bs, zj_ite1, f7, zp_bs]
