/-! could, bends, best: folds over the thoughts -/
def zj_could (b : Nat → Bool) : Nat → Int32 × Int32 × Nat
  | 0 => (-1, -1, 0)
  | t + 1 => if b t = true then (if (zj_could b t).2.2 = 0 then nI t else (zj_could b t).1, nI t, (zj_could b t).2.2 + 1) else zj_could b t
theorem zj_could_1 {b : Nat → Bool} {t : Nat} (h : b t = true) : zj_could b (t + 1) = (if (zj_could b t).2.2 = 0 then nI t else (zj_could b t).1, nI t, (zj_could b t).2.2 + 1) := by
  show (if b t = true then _ else _) = _
  rw [if_pos h]
theorem zj_could_0 {b : Nat → Bool} {t : Nat} (h : ¬ b t = true) : zj_could b (t + 1) = zj_could b t := by
  show (if b t = true then _ else _) = _
  rw [if_neg h]
theorem zj_could_m (b : Nat → Bool) : ∀ t, t < 2 ^ 31 → (zj_could b t).2.2 ≤ t ∧ ((zj_could b t).1 = -1 ↔ (zj_could b t).2.2 = 0)
  | 0, _ => ⟨Nat.le_refl _, fun _ => rfl, fun _ => rfl⟩
  | t + 1, ht => by
    obtain ⟨h1, h2⟩ := zj_could_m b t (by omega)
    by_cases h : b t = true
    · rw [zj_could_1 h]
      refine ⟨by dsimp only; omega, fun q => ?_, fun q => by dsimp only at q; omega⟩
      dsimp only at q
      by_cases h3 : (zj_could b t).2.2 = 0
      · rw [if_pos h3] at q; exact absurd q (nI_nm1 (by omega))
      · rw [if_neg h3] at q; exact absurd (h2.mp q) h3
    · rw [zj_could_0 h]
      exact ⟨by omega, h2⟩
def zj_b (E N : Nat) (pt : Nat → Nat → Nat) (V : Nat → Nat → Int32) (s t : Nat) : Bool := decide (zs_w E pt V s t = zs_w E pt V (zs_top (fun s => zs_w E pt V s t) N) t)
theorem sp_could {E T N a s : Nat} {pt : Nat → Nat → Nat} {V : Nat → Nat → Int32} {c : zw_Ct} (hT : zr_T E T N pt) (hS : zr_S E T N pt c) (ha : zw_len SH 0 a = some 1820) (hV : zr_V a E N V c) (hs : s < N) : ∃ c2, zw_whl (fn_Judge_tellThoughtsFor_l1 a (nI s)) zw_F (-1, -1, 0, 0, c) = some ((zj_could (zj_b E N pt V s) N).1, (zj_could (zj_b E N pt V s) N).2.1, nI (zj_could (zj_b E N pt V s) N).2.2, c2) ∧ c2.1 = c.1 ∧ (∀ k, k ≠ 12 → c2.2 k = c.2 k) := by
  have hN := hT.2.2.2.2.2.1
  have hN2 := hT.2.2.2.2.1
  obtain ⟨x, h1, h2, h3, h4⟩ := zp_up (f := fn_Judge_tellThoughtsFor_l1 a (nI s)) (I := fun i t => ∃ c', t = ((zj_could (zj_b E N pt V s) i).1, (zj_could (zj_b E N pt V s) i).2.1, nI (zj_could (zj_b E N pt V s) i).2.2, nI i, c') ∧ c'.1 = c.1 ∧ (∀ k, k ≠ 12 → c'.2 k = c.2 k)) (P := fun x => x = ((zj_could (zj_b E N pt V s) N).1, (zj_could (zj_b E N pt V s) N).2.1, nI (zj_could (zj_b E N pt V s) N).2.2, x.2.2.2) ∧ x.2.2.2.1 = c.1 ∧ (∀ k, k ≠ 12 → x.2.2.2.2 k = c.2 k)) N (by unfold zw_F; omega) (fun i t hi h => by
      obtain ⟨c', rfl, e1, e2⟩ := h
      have hS' : zr_S E T N pt c' := by unfold zr_S; rw [e1]; exact hS
      have hV' : zr_V a E N V c' := by unfold zr_V; rw [e1]; exact hV
      obtain ⟨c2, g1, g2, g3, g4⟩ := sp_tally hT hS' ha hV' hi
      refine Or.inl ⟨((zj_could (zj_b E N pt V s) (i + 1)).1, (zj_could (zj_b E N pt V s) (i + 1)).2.1, nI (zj_could (zj_b E N pt V s) (i + 1)).2.2, nI (i + 1), c2), ?_, c2, rfl, g2.trans e1, fun k hk => (g3 k hk).trans (e2 k hk)⟩
      unfold fn_Judge_tellThoughtsFor_l1
      dsimp only
      rw [hS'.2.2.1, if_pos (nI_lt hi (by omega)), g1, zp_bs, zp_aL (by omega) (by omega), zp_bs, sp_greatest (by omega) hN (by rw [g2]; exact hS'.2.2.1) g4 (fun s hs => zs_w_zb hT hi), zp_bs, g4 s hs]
      obtain ⟨m1, m2⟩ := zj_could_m (zj_b E N pt V s) i (by omega)
      by_cases hc : zs_w E pt V s i = zs_w E pt V (zs_top (fun s => zs_w E pt V s i) N) i
      · rw [zj_could_1 (show zj_b E N pt V s i = true from decide_eq_true hc), if_pos (congrArg lI hc), zp_bs, zp_bs]
        dsimp only
        rw [nI_1, nI_1]
        by_cases h3 : (zj_could (zj_b E N pt V s) i).2.2 = 0
        · rw [if_pos (m2.mpr h3), if_pos h3]
        · rw [if_neg (fun q => h3 (m2.mp q)), if_neg h3]
      · rw [zj_could_0 (show ¬ zj_b E N pt V s i = true from fun q => hc (of_decide_eq_true q)), if_neg (fun q => hc ((lI_eq (zs_w_zb hT hi) (zs_w_zb hT hi)).mp q)), zp_bs]
        dsimp only
        rw [nI_1]) (fun t h => by
      obtain ⟨c', rfl, e1, e2⟩ := h
      refine ⟨((zj_could (zj_b E N pt V s) N).1, (zj_could (zj_b E N pt V s) N).2.1, nI (zj_could (zj_b E N pt V s) N).2.2, c'), ?_, rfl, e1, e2⟩
      unfold fn_Judge_tellThoughtsFor_l1
      dsimp only
      rw [show c'.1 1 2 = nI N by rw [e1]; exact hS.2.2.1, if_neg (nI_nlt (Nat.le_refl _) (by omega))]) 0 (-1, -1, 0, 0, c) (Nat.zero_le _) ⟨c, rfl, rfl, fun _ _ => rfl⟩
  exact ⟨x.2.2.2, by rw [h1, ← h2], h3, h4⟩
theorem sp_Mcould {E T N s : Nat} {pt : Nat → Nat → Nat} {V : Nat → Nat → Int32} {d : zw_Ct} (hT : zr_T E T N pt) (hM : zr_M E T N pt d) (hV : zr_V 84 E N V d) (hs : s < N) : zw_whl (fn_M_could_l1 d (nI s)) zw_F (-1, -1, 0, 0) = some ((zj_could (zj_b E N pt V s) N).1, (zj_could (zj_b E N pt V s) N).2.1, nI (zj_could (zj_b E N pt V s) N).2.2) := by
  have hN := hT.2.2.2.2.2.1
  have hN2 := hT.2.2.2.2.1
  obtain ⟨x, h1, h2⟩ := zp_up (f := fn_M_could_l1 d (nI s)) (I := fun i t => t = ((zj_could (zj_b E N pt V s) i).1, (zj_could (zj_b E N pt V s) i).2.1, nI (zj_could (zj_b E N pt V s) i).2.2, nI i)) (P := fun x => x = ((zj_could (zj_b E N pt V s) N).1, (zj_could (zj_b E N pt V s) N).2.1, nI (zj_could (zj_b E N pt V s) N).2.2)) N (by unfold zw_F; omega) (fun i t hi h => by
      subst h
      refine Or.inl ⟨((zj_could (zj_b E N pt V s) (i + 1)).1, (zj_could (zj_b E N pt V s) (i + 1)).2.1, nI (zj_could (zj_b E N pt V s) (i + 1)).2.2, nI (i + 1)), ?_, rfl⟩
      unfold fn_M_could_l1
      dsimp only
      rw [hM.2.2.1, if_pos (nI_lt hi (by omega)), sp_Mworth hT hM hV hs hi, zp_bs, sp_Mbest hT hM hV hi, zp_bs]
      obtain ⟨m1, m2⟩ := zj_could_m (zj_b E N pt V s) i (by omega)
      have hmax := zs_top_max (fun s => zs_w E pt V s i) hs
      by_cases hc : zs_w E pt V s i = zs_w E pt V (zs_top (fun s => zs_w E pt V s i) N) i
      · rw [zj_could_1 (show zj_b E N pt V s i = true from decide_eq_true hc), if_neg (fun q => by have := (lI_lt (zs_w_zb hT hi) (zs_w_zb hT hi)).mp q; omega), zp_bs, nI_1, nI_1]
        dsimp only
        by_cases h3 : (zj_could (zj_b E N pt V s) i).2.2 = 0
        · rw [if_pos (show nI (zj_could (zj_b E N pt V s) i).2.2 = 0 by rw [h3]; rfl), if_pos h3]
        · rw [if_neg (nI_ne0 (by omega) (by omega)), if_neg h3]
      · rw [zj_could_0 (show ¬ zj_b E N pt V s i = true from fun q => hc (of_decide_eq_true q)), if_pos ((lI_lt (zs_w_zb hT hi) (zs_w_zb hT hi)).mpr (by omega)), nI_1]) (fun t h => by
      subst h
      refine ⟨_, ?_, rfl⟩
      unfold fn_M_could_l1
      dsimp only
      rw [hM.2.2.1, if_neg (nI_nlt (Nat.le_refl _) (by omega))]) 0 (-1, -1, 0, 0) (Nat.zero_le _) rfl
  rw [h1, h2]
theorem sp_two {c1 c3 : zw_Ct} (hA : zr_A c1 c3) (x y : Int32) : ∃ c4, fn_Judge_tellTwo c3 x y = some c4 ∧ zr_C (if x = -1 then [] else ([] ++ [x.toInt64]) ++ [y.toInt64]) c1 c4 := by
  obtain ⟨c4, a1, a2, -⟩ := zr_C.clear hA
  unfold fn_Judge_tellTwo
  rw [a1, zp_bs]
  by_cases h : x = -1
  · exact ⟨c4, by rw [if_neg (fun q => q h), zp_bs], by rw [if_pos h]; exact a2⟩
  · obtain ⟨c5, b1, b2, -⟩ := a2.add (by decide) x.toInt64
    obtain ⟨c6, b3, b4, -⟩ := b2.add (by simp) y.toInt64
    exact ⟨c6, by rw [if_pos h, b1, zp_bs, b3, zp_bs, zp_bs], by rw [if_neg h]; exact b4⟩
theorem zr_C.len2 {x y : Int32} : (if x = -1 then [] else ([] ++ [x.toInt64]) ++ [y.toInt64] : List Int64).length ≤ 16 := by split <;> simp
theorem zo_could : zq_could zr_Rel := by
  intro n c hn hRel a s
  unfold fn_P_could fn_M_could
  rcases zo_pay hRel a with ⟨h1, h2⟩ | ⟨p, E, T, V, c1, hp, rfl, h1, hR, hRl, hV, hM, hlen, hisP⟩
  · refine ⟨-1, c, zw_wI c 71 9 0, ?_, ?_, zr_thr hRel⟩
    · rw [h1, zp_bs]
      dsimp only
      rw [if_pos (Or.inl rfl)]
    · rw [zp_bs, h2, zp_bs, if_pos (Or.inl (by decide))]
  · have hTab := hRl.2.2.1
    have hT := zt_T hTab.1
    have hN : zt_N E T ≤ 455 := hT.2.2.2.2.2.1
    have hRel1 : zr_Rel n c1 := ⟨hR, E, T, hRl⟩
    rw [h1, zp_bs]
    dsimp only
    by_cases hc : (((some (54 + p) : Option Nat) = none) ∨ (¬ (¬ (fn_Sayings_has c1 s) = 0)))
    · have hA9 : zr_A c1 (zw_wI c1 71 9 0) := zr_A.rf.wF (by decide)
      refine ⟨-1, c1, zw_wI c1 71 9 0, by rw [if_pos hc], ?_, zr_thr hRel1⟩
      rw [zp_bs, hisP _ hA9, zp_bs, zr_isSaying (hA9.tab hTab), ← zr_has hTab, if_pos]
      rcases hc with h | h
      · cases h
      · exact Or.inr h
    · obtain ⟨sj, hsj, rfl⟩ := has_n (zt_N31 hTab.1) (s := s) (fun q => hc (Or.inr (fun z => z (by rw [zr_has hTab]; exact q))))
      obtain ⟨c2, g1, g2, g3⟩ := sp_could hT hTab.2.1 hlen hV hsj
      have hA2 : zr_A c1 c2 := zr_A.eq g2
      obtain ⟨b, hb⟩ : ∃ b, b = zj_b E (zt_N E T) (zt_p E T) V sj := ⟨_, rfl⟩
      rw [← hb] at g1
      obtain ⟨m1, m2⟩ := zj_could_m b (zt_N E T) (by omega)
      obtain ⟨c4, a1, a2⟩ := sp_two hA2 (zj_could b (zt_N E T)).1 (zj_could b (zt_N E T)).2.1
      have hA49 : zr_A c1 (zw_wI c4 71 9 0) := a2.2.wF (by decide)
      obtain ⟨d1, d2, d3, d4, d5, d6⟩ := zo_laid hTab hM a2.2
      have hD := zr_D.start d4 d5 d6
      have hg := sp_Mcould hT (d4.tab hTab).2.2 d3 hsj
      rw [← hb] at hg
      have cls : ((some (54 + p) : Option Nat).bind fun a8 => (fn_Judge_tellThoughtsFor c1 a8 (nI sj)).bind fun (r9, c10) => some (r9, c10)) = some (nI (zj_could b (zt_N E T)).2.2, c4) := by
        rw [zp_bs]
        unfold fn_Judge_tellThoughtsFor
        rw [g1, zp_bs]
        dsimp only
        rw [a1, zp_bs, zp_bs]
      have mod0 : ¬ ((¬ (¬ (1 : Int32) = 0)) ∨ (¬ (¬ (fn_M_isSaying (zw_wI c4 71 9 0) (nI sj)) = 0))) := by
        rw [zr_isSaying (hA49.tab hTab), ← zr_has hTab]
        rintro (h | h)
        · exact h (by decide)
        · exact hc (Or.inr h)
      by_cases h3 : (zj_could b (zt_N E T)).2.2 = 0
      · rw [if_pos (m2.mpr h3)] at a2
        refine ⟨_, c4, zw_wI d1 71 8 0, by rw [if_neg hc]; exact cls, ?_, hD.fin hRl (by simp) a2.1⟩
        rw [zp_bs, hisP _ hA49, zp_bs, if_neg mod0, d2, zp_bs, hg, zp_bs]
        dsimp only
        rw [zp_bs, if_neg (by rw [h3]; decide), zp_bs]
      · rw [if_neg (fun q => h3 (m2.mp q))] at a2
        obtain ⟨e1, f1, f2, -⟩ := hD.tell (by decide) (zj_could b (zt_N E T)).1.toInt64
        obtain ⟨e2, f3, f4, -⟩ := f2.tell (by simp) (zj_could b (zt_N E T)).2.1.toInt64
        refine ⟨_, c4, e2, by rw [if_neg hc]; exact cls, ?_, f4.fin hRl (by simp) a2.1⟩
        rw [zp_bs, hisP _ hA49, zp_bs, if_neg mod0, d2, zp_bs, hg, zp_bs]
        dsimp only
        rw [zp_bs, if_pos (show (0 : Int32) < nI (zj_could b (zt_N E T)).2.2 from nI_lt (a := 0) (by omega) (by omega)), f1, zp_bs, f3, zp_bs, zp_bs]
