/-! truly: the first other one with the greatest worth; the first thought with b, found from above and from below -/
theorem lI_ne0 {z : Int} (hz : zb z) (h : z ≠ 0) : ¬ lI z = (0 : Int64) := fun q => h ((lI_eq (b := 0) hz ⟨by decide, by decide⟩).mp q)
theorem lI_pos {z : Int} (hz : zb z) : (0 : Int64) < lI z ↔ 0 < z := lI_lt (a := 0) ⟨by decide, by decide⟩ hz
theorem lI_negI {z : Int} (hz : zb z) : lI z < (0 : Int64) ↔ z < 0 := lI_lt (b := 0) hz ⟨by decide, by decide⟩
theorem lI_0I {z : Int} (hz : zb z) : lI z = (0 : Int64) ↔ z = 0 := lI_eq (b := 0) hz ⟨by decide, by decide⟩
theorem lI_le0 {z : Int} (hz : zb z) : lI z ≤ (0 : Int64) ↔ z ≤ 0 := lI_le (b := 0) hz ⟨by decide, by decide⟩
def zj_oth (E N : Nat) (pt : Nat → Nat → Nat) (V : Nat → Nat → Int32) (t : Nat) : Nat := zs_top (fun s => if s = t then -200000000000 else zs_w E pt V s t) N
theorem zj_oth_of {E T N t k : Nat} {pt : Nat → Nat → Nat} {V : Nat → Nat → Int32} (hT : zr_T E T N pt) (ht : t < N) (h1 : k < N) (h2 : k ≠ t) (h3 : ∀ i, i < N → i ≠ t → zs_w E pt V i t ≤ zs_w E pt V k t) (h4 : ∀ i, i < k → i ≠ t → zs_w E pt V i t < zs_w E pt V k t) : zj_oth E N pt V t = k := by
  have hb := zs_w_bd (V := V) hT (s := k) ht
  unfold zj_oth
  refine zs_top_eq _ h1 (fun i hi => ?_) (fun i hi => ?_)
  · rw [if_neg h2]
    by_cases e : i = t
    · rw [if_pos e]; omega
    · rw [if_neg e]; exact h3 i hi e
  · rw [if_neg h2]
    by_cases e : i = t
    · rw [if_pos e]; omega
    · rw [if_neg e]; exact h4 i hi e
theorem sp_oth {E T N t : Nat} {pt : Nat → Nat → Nat} {V : Nat → Nat → Int32} {c : zw_Ct} (hT : zr_T E T N pt) (hS : c.1 1 2 = nI N) (hY : zr_Y N (fun s => zs_w E pt V s t) c) (ht : t < N) : fn_Tally_topBut c (nI t) = some (nI (zj_oth E N pt V t)) := by
  obtain ⟨k, h1, h2, h3, h4, h5⟩ := sp_topBut hT.2.2.2.2.1 hT.2.2.2.2.2.1 hS hY (fun s hs => zs_w_zb hT ht) ht
  rw [h1, zj_oth_of hT ht h2 h3 h4 h5]
theorem zj_oth_p {E T N t : Nat} {pt : Nat → Nat → Nat} {V : Nat → Nat → Int32} (hT : zr_T E T N pt) (ht : t < N) : zj_oth E N pt V t < N ∧ zj_oth E N pt V t ≠ t ∧ (∀ i, i < N → i ≠ t → zs_w E pt V i t ≤ zs_w E pt V (zj_oth E N pt V t) t) ∧ ∀ i, i < zj_oth E N pt V t → i ≠ t → zs_w E pt V i t < zs_w E pt V (zj_oth E N pt V t) t := by
  have hN2 := hT.2.2.2.2.1
  obtain ⟨g, hg⟩ : ∃ g : Nat → Int, g = fun s => if s = t then -200000000000 else zs_w E pt V s t := ⟨_, rfl⟩
  have hk : zj_oth E N pt V t = zs_top g N := by rw [hg]; rfl
  have hlt : zs_top g N < N := zs_top_lt g (by omega)
  have gi : ∀ i, i ≠ t → g i = zs_w E pt V i t := fun i hi => by rw [hg]; exact if_neg hi
  have gt : g t = -200000000000 := by rw [hg]; exact if_pos rfl
  obtain ⟨j, hj, hjt⟩ : ∃ j, j < N ∧ j ≠ t := by
    by_cases h : t = 0
    · exact ⟨1, by omega, by omega⟩
    · exact ⟨0, by omega, fun q => h q.symm⟩
  have hne : zs_top g N ≠ t := fun e => by
    have h1 := zs_top_max g hj
    rw [e, gt, gi j hjt] at h1
    have := zs_w_bd (V := V) hT (s := j) ht
    omega
  rw [hk]
  refine ⟨hlt, hne, fun i hi hit => ?_, fun i hi hit => ?_⟩
  · have := zs_top_max g hi
    rw [gi _ hne, gi i hit] at this
    exact this
  · have := zs_top_first g hi
    rw [gi _ hne, gi i hit] at this
    exact this
def zj_ls (b : Nat → Bool) (o : Nat → Nat) : Nat → Int32 × Int32
  | 0 => (-1, -1)
  | i + 1 => if b i = true ∧ (zj_ls b o i).1 = -1 then (nI i, nI (o i)) else zj_ls b o i
theorem zj_ls_s (b : Nat → Bool) (o : Nat → Nat) (i : Nat) : zj_ls b o (i + 1) = if b i = true ∧ (zj_ls b o i).1 = -1 then (nI i, nI (o i)) else zj_ls b o i := rfl
theorem zj_ls_none {b : Nat → Bool} {o : Nat → Nat} : ∀ N : Nat, (∀ j, j < N → b j = false) → zj_ls b o N = (-1, -1)
  | 0, _ => rfl
  | N + 1, h => by rw [zj_ls_s, zj_ls_none N (fun j hj => h j (by omega)), if_neg (fun q => by rw [h N (by omega)] at q; exact absurd q.1 (by decide))]
theorem zj_ls_some {b : Nat → Bool} {o : Nat → Nat} {k : Nat} (hb : b k = true) (h : ∀ j, j < k → b j = false) (hk : k < 2 ^ 31) : ∀ N : Nat, k < N → zj_ls b o N = (nI k, nI (o k))
  | N + 1, hN => by
    rw [zj_ls_s]
    by_cases e : k = N
    · subst e
      rw [zj_ls_none k h, if_pos ⟨hb, rfl⟩]
    · rw [zj_ls_some hb h hk N (by omega), if_neg (fun q => nI_nm1 hk q.2)]
def zj_dn (b : Nat → Bool) (N : Nat) : Nat → Int32
  | 0 => -1
  | i + 1 => if b (N - (i + 1)) = true then nI (N - (i + 1)) else zj_dn b N i
theorem zj_dn_none {b : Nat → Bool} {N : Nat} (h : ∀ j, j < N → b j = false) : ∀ i : Nat, i ≤ N → zj_dn b N i = -1
  | 0, _ => rfl
  | i + 1, hi => by
    show (if b (N - (i + 1)) = true then nI (N - (i + 1)) else zj_dn b N i) = -1
    rw [h _ (by omega), if_neg (by decide), zj_dn_none h i (by omega)]
theorem zj_dn_some {b : Nat → Bool} {N k : Nat} (hb : b k = true) (h : ∀ j, j < k → b j = false) : ∀ i : Nat, i ≤ N → k < N → N - i ≤ k → zj_dn b N i = nI k
  | 0, _, hk, hi => by omega
  | i + 1, hi, hk, hki => by
    show (if b (N - (i + 1)) = true then nI (N - (i + 1)) else zj_dn b N i) = nI k
    by_cases e : N - (i + 1) = k
    · rw [e, if_pos hb]
    · have hh : N - i ≤ k := by omega
      have ih := zj_dn_some hb h i (by omega) hk hh
      cases hq : b (N - (i + 1)) with
      | false => rw [if_neg (by decide)]; exact ih
      | true => exact absurd (h (N - (i + 1)) (by omega)) (by rw [hq]; decide)
theorem zj_dn_full {b : Nat → Bool} {N k : Nat} (hb : b k = true) (h : ∀ j, j < k → b j = false) (hk : k < N) : zj_dn b N N = nI k := zj_dn_some hb h N (Nat.le_refl _) hk (by omega)
def zj_mo (E N : Nat) (pt : Nat → Nat → Nat) (V : Nat → Nat → Int32) (t : Nat) : Int := zs_w E pt V (zj_oth E N pt V t) t - zs_w E pt V t t
theorem zj_mo_z {E T N t : Nat} {pt : Nat → Nat → Nat} {V : Nat → Nat → Int32} (hT : zr_T E T N pt) (ht : t < N) : -206158430208 ≤ zj_mo E N pt V t ∧ zj_mo E N pt V t ≤ 206158430208 := by
  have h1 := zs_w_bd (V := V) hT (s := t) ht
  have h2 := zs_w_bd (V := V) hT (s := zj_oth E N pt V t) ht
  unfold zj_mo
  omega
/-- the class's walk over the thoughts ahead of the first bad one -/
theorem sp_truth {E T N a M : Nat} {pt : Nat → Nat → Nat} {V : Nat → Nat → Int32} {c : zw_Ct} (hT : zr_T E T N pt) (hS : zr_S E T N pt c) (ha : zw_len SH 0 a = some 1820) (hV : zr_V a E N V c) (hM : M ≤ N) (hno : ∀ t, t < M → zj_mo E N pt V t ≤ 0) : ∀ i, i ≤ M → ∃ c', c'.1 = c.1 ∧ (∀ k, k ≠ 12 → c'.2 k = c.2 k) ∧ ∀ {x} F, zw_whl (fn_Judge_tellTruth_l1 a) F ((zj_ls (fun t => decide (zj_mo E N pt V t = 0)) (zj_oth E N pt V) i).1, (zj_ls (fun t => decide (zj_mo E N pt V t = 0)) (zj_oth E N pt V) i).2, nI i, c') = some x → zw_whl (fn_Judge_tellTruth_l1 a) (F + i) (-1, -1, 0, c) = some x := by
  have hN := hT.2.2.2.2.2.1
  intro i
  induction i with
  | zero => intro _; exact ⟨c, rfl, fun _ _ => rfl, fun F h => h⟩
  | succ i ih =>
    intro hi
    obtain ⟨c', e1, e2, e3⟩ := ih (by omega)
    have hS' : zr_S E T N pt c' := by unfold zr_S; rw [e1]; exact hS
    have hV' : zr_V a E N V c' := by unfold zr_V; rw [e1]; exact hV
    obtain ⟨c2, g1, g2, g3, g4⟩ := sp_tally hT hS' ha hV' (show i < N by omega)
    obtain ⟨o1, o2, o3, o4⟩ := zj_oth_p (V := V) hT (show i < N by omega)
    have hm := zj_mo_z (V := V) hT (show i < N by omega)
    have hn := hno i (by omega)
    refine ⟨c2, g2.trans e1, fun k hk => (g3 k hk).trans (e2 k hk), fun {x} F h => ?_⟩
    have key : fn_Judge_tellTruth_l1 a ((zj_ls (fun t => decide (zj_mo E N pt V t = 0)) (zj_oth E N pt V) i).1, (zj_ls (fun t => decide (zj_mo E N pt V t = 0)) (zj_oth E N pt V) i).2, nI i, c') = some (.inr ((zj_ls (fun t => decide (zj_mo E N pt V t = 0)) (zj_oth E N pt V) (i + 1)).1, (zj_ls (fun t => decide (zj_mo E N pt V t = 0)) (zj_oth E N pt V) (i + 1)).2, nI (i + 1), c2)) := by
      unfold fn_Judge_tellTruth_l1
      dsimp only
      have z0 : zb 0 := ⟨by decide, by decide⟩
      have zm : zb (zj_mo E N pt V i) := ⟨by omega, by omega⟩
      have eo : zs_w E pt V (zj_oth E N pt V i) i - zs_w E pt V i i = zj_mo E N pt V i := rfl
      rw [hS'.2.2.1, if_pos (nI_lt (show i < N by omega) (by omega)), g1, zp_bs, sp_oth hT (by rw [g2]; exact hS'.2.2.1) g4 (show i < N by omega), zp_bs, zp_aL (by omega) (by omega), zp_bs, zp_aL (by omega) (by omega), zp_bs, zp_bs, g4 i (by omega), g4 _ o1, lI_sub, eo, if_neg (fun q => by have := (lI_lt (a := 0) z0 zm).mp q; omega), nI_1, zj_ls_s]
      by_cases h0 : zj_mo E N pt V i = 0
      · by_cases hl : (zj_ls (fun t => decide (zj_mo E N pt V t = 0)) (zj_oth E N pt V) i).1 = -1
        · rw [if_pos ⟨(lI_eq (b := 0) zm z0).mpr h0, hl⟩, zp_bs, if_pos ⟨decide_eq_true h0, hl⟩]
        · rw [if_neg (fun q => hl q.2), zp_bs, if_neg (fun q => hl q.2)]
      · rw [if_neg (fun q => h0 ((lI_eq (b := 0) zm z0).mp q.1)), zp_bs, if_neg (fun q => h0 (of_decide_eq_true q.1))]
    have : zw_whl (fn_Judge_tellTruth_l1 a) (F + 1) ((zj_ls (fun t => decide (zj_mo E N pt V t = 0)) (zj_oth E N pt V) i).1, (zj_ls (fun t => decide (zj_mo E N pt V t = 0)) (zj_oth E N pt V) i).2, nI i, c') = some x := by
      simp only [zw_whl, key, Option.bind_some]
      exact h
    have r := e3 (F + 1) this
    rw [show F + (i + 1) = F + 1 + i by omega]
    exact r
/-- the Model's other one with the greatest worth -/
theorem sp_otherBest {E T N t : Nat} {pt : Nat → Nat → Nat} {V : Nat → Nat → Int32} {d : zw_Ct} (hT : zr_T E T N pt) (hM : zr_M E T N pt d) (hV : zr_V 84 E N V d) (ht : t < N) : fn_M_otherBest d (nI t) (lI (zs_w E pt V (zs_top (fun s => zs_w E pt V s t) N) t)) = some (if 0 ≤ zj_mo E N pt V t then nI (zj_oth E N pt V t) else -1) := by
  have hN := hT.2.2.2.2.2.1
  obtain ⟨o1, o2, o3, o4⟩ := zj_oth_p (V := V) hT ht
  have hmax : ∀ i, i < N → zs_w E pt V i t ≤ zs_w E pt V (zs_top (fun s => zs_w E pt V s t) N) t := fun i hi => zs_top_max (fun s => zs_w E pt V s t) hi
  have htop : zs_top (fun s => zs_w E pt V s t) N < N := zs_top_lt _ (by omega)
  have run : ∀ (i : Nat), i < N → (i ≠ t → zs_w E pt V i t < zs_w E pt V (zs_top (fun s => zs_w E pt V s t) N) t) → fn_M_otherBest_l1 d (nI t) (lI (zs_w E pt V (zs_top (fun s => zs_w E pt V s t) N) t)) (nI i) = some (.inr (nI (i + 1))) := fun i hi h => by
    unfold fn_M_otherBest_l1
    rw [hM.2.2.1, if_pos (nI_lt hi (by omega))]
    by_cases e : i = t
    · rw [if_neg (fun q => q (by rw [e])), zp_bs, if_neg (by decide), nI_1]
    · have := h e
      rw [if_pos (fun q => e ((nI_eq (by omega) (by omega)).mp q)), sp_Mworth hT hM hV hi ht, zp_bs, zp_bs, if_neg (fun q => by have := (lI_eq (zs_w_zb hT ht) (zs_w_zb hT ht)).mp (of_decide_eq_true q); omega), nI_1]
  unfold fn_M_otherBest
  by_cases hc : 0 ≤ zj_mo E N pt V t
  · have hk : zs_w E pt V (zj_oth E N pt V t) t = zs_w E pt V (zs_top (fun s => zs_w E pt V s t) N) t := by
      have h1 := hmax _ o1
      unfold zj_mo at hc
      by_cases e : zs_top (fun s => zs_w E pt V s t) N = t
      · rw [e] at h1 ⊢; omega
      · have := o3 _ htop e; omega
    have h := zp_det (f := fn_M_otherBest_l1 d (nI t) (lI (zs_w E pt V (zs_top (fun s => zs_w E pt V s t) N) t))) (x := .inl (nI (zj_oth E N pt V t))) (fun i => nI i) (zj_oth E N pt V t) 0 (Nat.zero_le _) (by unfold zw_F; omega) (fun i _ hi => run i (by omega) (fun hit => by have := o4 i hi hit; omega)) (by
      unfold fn_M_otherBest_l1
      rw [hM.2.2.1, if_pos (nI_lt o1 (by omega)), if_pos (fun q => o2 ((nI_eq (by omega) (by omega)).mp q)), sp_Mworth hT hM hV o1 ht, zp_bs, zp_bs, if_pos (decide_eq_true (congrArg lI hk))])
    have h' : zw_whl (fn_M_otherBest_l1 d (nI t) (lI (zs_w E pt V (zs_top (fun s => zs_w E pt V s t) N) t))) zw_F 0 = some (.inl (nI (zj_oth E N pt V t))) := h
    rw [h', zp_bs, if_pos hc]
  · have hall : ∀ i, i < N → i ≠ t → zs_w E pt V i t < zs_w E pt V (zs_top (fun s => zs_w E pt V s t) N) t := fun i hi hit => by
      have h1 := o3 i hi hit
      have h2 := hmax t ht
      unfold zj_mo at hc
      omega
    have h := zp_det (f := fn_M_otherBest_l1 d (nI t) (lI (zs_w E pt V (zs_top (fun s => zs_w E pt V s t) N) t))) (x := .inr ()) (fun i => nI i) N 0 (Nat.zero_le _) (by unfold zw_F; omega) (fun i _ hi => run i hi (hall i hi)) (by
      unfold fn_M_otherBest_l1
      rw [hM.2.2.1, if_neg (nI_nlt (Nat.le_refl _) (by omega))])
    have h' : zw_whl (fn_M_otherBest_l1 d (nI t) (lI (zs_w E pt V (zs_top (fun s => zs_w E pt V s t) N) t))) zw_F 0 = some (.inr ()) := h
    rw [h', zp_bs, if_neg hc]
theorem zj_bad {E T N t : Nat} {pt : Nat → Nat → Nat} {V : Nat → Nat → Int32} (hT : zr_T E T N pt) (ht : t < N) : zs_w E pt V t t < zs_w E pt V (zs_top (fun s => zs_w E pt V s t) N) t ↔ 0 < zj_mo E N pt V t := by
  obtain ⟨o1, o2, o3, o4⟩ := zj_oth_p (V := V) hT ht
  have htop : zs_top (fun s => zs_w E pt V s t) N < N := zs_top_lt _ (by omega)
  have h1 : zs_w E pt V (zj_oth E N pt V t) t ≤ zs_w E pt V (zs_top (fun s => zs_w E pt V s t) N) t := zs_top_max (fun s => zs_w E pt V s t) o1
  unfold zj_mo
  constructor
  · intro h
    by_cases e : zs_top (fun s => zs_w E pt V s t) N = t
    · rw [e] at h; omega
    · have := o3 _ htop e; omega
  · intro h; omega
theorem sp_Mtruth {E T N : Nat} {pt : Nat → Nat → Nat} {V : Nat → Nat → Int32} {d : zw_Ct} (hT : zr_T E T N pt) (hM : zr_M E T N pt d) (hV : zr_V 84 E N V d) : zw_whl (fn_M_truly_l1 d) zw_F (-1, -1, nI N - 1) = some (zj_dn (fun t => decide (0 < zj_mo E N pt V t)) N N, zj_dn (fun t => decide (0 ≤ zj_mo E N pt V t)) N N) := by
  have hN := hT.2.2.2.2.2.1
  have hN2 := hT.2.2.2.2.1
  have h := zp_det (f := fn_M_truly_l1 d) (x := (zj_dn (fun t => decide (0 < zj_mo E N pt V t)) N N, zj_dn (fun t => decide (0 ≤ zj_mo E N pt V t)) N N)) (fun i => (zj_dn (fun t => decide (0 < zj_mo E N pt V t)) N i, zj_dn (fun t => decide (0 ≤ zj_mo E N pt V t)) N i, nI (N - i) + (-1))) N 0 (Nat.zero_le _) (by unfold zw_F; omega) (fun i _ hi => by
      have e1 : nI (N - i) + (-1) = nI (N - (i + 1)) := by rw [show N - i = N - (i + 1) + 1 by omega]; exact nI_m1 _
      have ht : N - (i + 1) < N := by omega
      unfold fn_M_truly_l1
      dsimp only
      rw [e1, if_pos (nI_pos' (by omega)), sp_Mbest hT hM hV ht, zp_bs, sp_Mworth hT hM hV ht ht, zp_bs]
      have eA : (if lI (zs_w E pt V (N - (i + 1)) (N - (i + 1))) < lI (zs_w E pt V (zs_top (fun s => zs_w E pt V s (N - (i + 1))) N) (N - (i + 1))) then some (nI (N - (i + 1))) else some (zj_dn (fun t => decide (0 < zj_mo E N pt V t)) N i)) = some (zj_dn (fun t => decide (0 < zj_mo E N pt V t)) N (i + 1)) := by
        show _ = some (if decide (0 < zj_mo E N pt V (N - (i + 1))) = true then nI (N - (i + 1)) else zj_dn (fun t => decide (0 < zj_mo E N pt V t)) N i)
        by_cases hc : 0 < zj_mo E N pt V (N - (i + 1))
        · rw [if_pos ((lI_lt (zs_w_zb hT ht) (zs_w_zb hT ht)).mpr ((zj_bad hT ht).mpr hc)), if_pos (decide_eq_true hc)]
        · rw [if_neg (fun q => hc ((zj_bad hT ht).mp ((lI_lt (zs_w_zb hT ht) (zs_w_zb hT ht)).mp q))), if_neg (fun q => hc (of_decide_eq_true q))]
      rw [eA, zp_bs, sp_otherBest hT hM hV ht, zp_bs]
      have eB : (if ¬ (if 0 ≤ zj_mo E N pt V (N - (i + 1)) then nI (zj_oth E N pt V (N - (i + 1))) else -1) = -1 then some (nI (N - (i + 1))) else some (zj_dn (fun t => decide (0 ≤ zj_mo E N pt V t)) N i)) = some (zj_dn (fun t => decide (0 ≤ zj_mo E N pt V t)) N (i + 1)) := by
        show _ = some (if decide (0 ≤ zj_mo E N pt V (N - (i + 1))) = true then nI (N - (i + 1)) else zj_dn (fun t => decide (0 ≤ zj_mo E N pt V t)) N i)
        have o1 := (zj_oth_p (V := V) hT ht).1
        by_cases hc : 0 ≤ zj_mo E N pt V (N - (i + 1))
        · rw [if_pos hc, if_pos (nI_nm1 (by omega)), if_pos (decide_eq_true hc)]
        · rw [if_neg hc, if_neg (fun q => q rfl), if_neg (fun q => hc (of_decide_eq_true q))]
      rw [eB, zp_bs]) (by
      unfold fn_M_truly_l1
      dsimp only
      rw [Nat.sub_self, if_neg (by decide)])
  have e0 : nI N - 1 = nI (N - 0) + (-1) := by
    rw [Nat.sub_zero]
    exact Int32.sub_eq_add_neg _ _
  rw [e0]
  exact h
theorem zo_truly : zq_truly zr_Rel := by
  intro n c hn hRel a
  unfold fn_P_truly fn_M_truly
  rcases zo_pay hRel a with ⟨h1, h2⟩ | ⟨p, E, T, V, c1, hp, rfl, h1, hR, hRl, hV, hM, hlen, hisP⟩
  · refine ⟨-1, c, zw_wI c 71 9 0, ?_, ?_, zr_thr hRel⟩
    · rw [h1, zp_bs]
      dsimp only
      rw [if_pos rfl, zp_bs]
    · rw [zp_bs, h2, zp_bs, if_pos (by decide)]
  · have hTab := hRl.2.2.1
    have hT := zt_T hTab.1
    have hN : zt_N E T ≤ 455 := hT.2.2.2.2.2.1
    have hN2 : 2 ≤ zt_N E T := hT.2.2.2.2.1
    rw [h1, zp_bs]
    dsimp only
    rw [if_neg (show ¬ (some (54 + p) : Option Nat) = none by intro q; cases q), zp_bs]
    obtain ⟨m, hm⟩ : ∃ m : Nat → Int, m = zj_mo E (zt_N E T) (zt_p E T) V := ⟨_, rfl⟩
    obtain ⟨o, ho⟩ : ∃ o : Nat → Nat, o = zj_oth E (zt_N E T) (zt_p E T) V := ⟨_, rfl⟩
    have hmz : ∀ t, t < zt_N E T → zb (m t) := fun t ht => by rw [hm]; have := zj_mo_z (V := V) hT ht; exact ⟨by omega, by omega⟩
    have z0 : zb 0 := ⟨by decide, by decide⟩
    -- the Model's end, once told what the thoughts are
    have Mend : ∀ (c3 : zw_Ct) (l : List Int64) (r : Int32), zr_A c1 c3 → zr_Rw l c3 → (∀ d1, zr_V 84 E (zt_N E T) V d1 → zr_A c1 d1 → ∀ d2, zr_D [] c1 c3 d2 → d2.1 84 = d1.1 84 → ∃ e, (if zj_dn (fun t => decide (0 ≤ m t)) (zt_N E T) (zt_N E T) = -1 then some (2, d2) else (some (if zj_dn (fun t => decide (0 < m t)) (zt_N E T) (zt_N E T) = -1 then zj_dn (fun t => decide (0 ≤ m t)) (zt_N E T) (zt_N E T) else zj_dn (fun t => decide (0 < m t)) (zt_N E T) (zt_N E T))).bind fun which30 => (fn_M_tell d2 which30.toInt64).bind fun c31 => (fn_M_bestWorth c31 which30).bind fun r32 => (fn_M_otherBest c31 which30 r32).bind fun r33 => (fn_M_tell c31 r33.toInt64).bind fun c34 => some (if zj_dn (fun t => decide (0 < m t)) (zt_N E T) (zt_N E T) = -1 then (1 : Int32) else 0, c34)) = some (r, e) ∧ zr_D l c1 c3 e) → l.length ≤ 16 → ∃ c2, ((some (zw_wI c3 71 9 0)).bind fun c3 => (fn_M_isPay c3 (nI p)).bind fun r4 => if (¬ (¬ r4 = 0)) then (some ((-1), c3)) else ((fn_M_layPay c3 (nI p)).bind fun c7 => (some (((c7.1 71 2) - 1) : Int32)).bind fun t8 => (zw_whl (fn_M_truly_l1 c7) zw_F ((-1), (-1), t8)).bind fun (firstBad12, firstLike13) => (some (zw_wI c7 71 8 0)).bind fun c26 => if (firstLike13 = (-1)) then (some (2, c26)) else ((some ((if (firstBad12 = (-1)) then (firstLike13 : Int32) else firstBad12) : Int32)).bind fun which30 => (fn_M_tell c26 which30.toInt64).bind fun c31 => (fn_M_bestWorth c31 which30).bind fun r32 => (fn_M_otherBest c31 which30 r32).bind fun r33 => (fn_M_tell c31 r33.toInt64).bind fun c34 => some ((if (firstBad12 = (-1)) then (1 : Int32) else 0), c34)))) = some (r, c2) ∧ zr_Rel (n + 1) c2 := by
      intro c3 l r hA3 hl K hlen16
      have hA39 : zr_A c1 (zw_wI c3 71 9 0) := hA3.wF (by decide)
      obtain ⟨d1, d2, d3, d4, d5, d6⟩ := zo_laid hTab hM hA3
      have hD := zr_D.start d4 d5 d6
      have hg := sp_Mtruth hT (d4.tab hTab).2.2 d3
      rw [← hm] at hg
      obtain ⟨e, f1, f2⟩ := K d1 d3 d4 _ hD (zw_wI_ne (by decide))
      refine ⟨e, ?_, f2.fin hRl hlen16 hl⟩
      rw [zp_bs, hisP _ hA39, zp_bs, if_neg (by decide), d2, zp_bs, zp_bs, (d4.tab hTab).2.2.2.2.1, hg, zp_bs]
      exact f1
    have two : ∀ (c3 : zw_Ct) (k : Nat) (z : Int32), k < zt_N E T → 0 ≤ m k → ∀ d1, zr_V 84 E (zt_N E T) V d1 → zr_A c1 d1 → ∀ d2, zr_D [] c1 c3 d2 → d2.1 84 = d1.1 84 → ∃ e, ((some (nI k)).bind fun which30 => (fn_M_tell d2 which30.toInt64).bind fun c31 => (fn_M_bestWorth c31 which30).bind fun r32 => (fn_M_otherBest c31 which30 r32).bind fun r33 => (fn_M_tell c31 r33.toInt64).bind fun c34 => some (z, c34)) = some (z, e) ∧ zr_D (([] ++ [(nI k).toInt64]) ++ [(nI (o k)).toInt64]) c1 c3 e := by
      intro c3 k z hk hmk d1 hV1 hA1 d2 hD2 h84
      obtain ⟨e1, f1, f2, f3⟩ := hD2.tell (by decide) (nI k).toInt64
      obtain ⟨e2, f4, f5, -⟩ := f2.tell (by simp) (nI (o k)).toInt64
      have hVe : zr_V 84 E (zt_N E T) V e1 := fun s hs e he => by rw [f3 84 (by decide), h84]; exact hV1 s hs e he
      have hTe := f2.2.1.tab hTab
      refine ⟨e2, ?_, f5⟩
      rw [zp_bs, f1, zp_bs, sp_Mbest hT hTe.2.2 hVe hk, zp_bs, sp_otherBest hT hTe.2.2 hVe hk, zp_bs, ← hm, if_pos hmk, ← ho, f4, zp_bs]
    rcases zj_fst (fun t => decide (0 < m t)) (zt_N E T) with hnb | ⟨k, hk, hbk, hfk⟩
    · -- no thought for which another saying is worth more
      have hno : ∀ t, t < zt_N E T → m t ≤ 0 := fun t ht => by have := of_decide_eq_false (hnb t ht); omega
      obtain ⟨c2, e1, e2, e3⟩ := sp_truth hT hTab.2.1 hlen hV (Nat.le_refl _) (fun t ht => by rw [← hm]; exact hno t ht) (zt_N E T) (Nat.le_refl _)
      rw [← hm, ← ho] at e3
      obtain ⟨ls, hls⟩ : ∃ ls, ls = zj_ls (fun t => decide (m t = 0)) o (zt_N E T) := ⟨_, rfl⟩
      rw [← hls] at e3
      have hA2 : zr_A c1 c2 := zr_A.eq e1
      obtain ⟨c4, a1, a2⟩ := sp_two hA2 ls.1 ls.2
      have cls : fn_Judge_tellTruth c1 (54 + p) = some (if ls.1 = -1 then 2 else 1, c4) := by
        have hw : zw_whl (fn_Judge_tellTruth_l1 (54 + p)) zw_F (-1, -1, 0, c1) = some (.inr (ls.1, ls.2, c2)) := by
          have := e3 (x := .inr (ls.1, ls.2, c2)) (zw_F - zt_N E T) (by
            rw [show zw_F - zt_N E T = (zw_F - zt_N E T - 1) + 1 by unfold zw_F; omega]
            have k1 : fn_Judge_tellTruth_l1 (54 + p) (ls.1, ls.2, nI (zt_N E T), c2) = some (.inl (.inr (ls.1, ls.2, c2))) := by
              unfold fn_Judge_tellTruth_l1
              dsimp only
              rw [show c2.1 1 2 = nI (zt_N E T) by rw [e1]; exact hTab.2.1.2.2.1, if_neg (nI_nlt (Nat.le_refl _) (by omega))]
            simp only [zw_whl, k1, Option.bind_some])
          rw [show zw_F - zt_N E T + zt_N E T = zw_F by unfold zw_F; omega] at this
          exact this
        unfold fn_Judge_tellTruth
        rw [hw, zp_bs]
        dsimp only
        rw [a1, zp_bs]
      have hdb : zj_dn (fun t => decide (0 < m t)) (zt_N E T) (zt_N E T) = -1 := zj_dn_none hnb _ (Nat.le_refl _)
      rcases zj_fst (fun t => decide (0 ≤ m t)) (zt_N E T) with hnl | ⟨k, hk, hbk, hfk⟩
      · have hl : ls = (-1, -1) := by
          rw [hls]
          refine zj_ls_none _ (fun j hj => decide_eq_false (fun q => ?_))
          have := of_decide_eq_false (hnl j hj)
          omega
        rw [hl] at a2 cls
        have a2' : zr_C [] c1 c4 := a2
        obtain ⟨d, q1, q2⟩ := Mend c4 [] 2 a2'.2 a2'.1 (fun d1 hV1 hA1 d2 hD2 h84 => ⟨d2, by rw [zj_dn_none hnl _ (Nat.le_refl _), if_pos rfl], hD2⟩) (by simp)
        exact ⟨2, c4, d, by rw [cls]; rfl, q1, q2⟩
      · have hmk : 0 ≤ m k := of_decide_eq_true hbk
        have hl : ls = (nI k, nI (o k)) := by
          rw [hls]
          refine zj_ls_some (decide_eq_true (by have := hno k hk; omega)) (fun j hj => decide_eq_false (fun q => ?_)) (by omega) _ hk
          have := of_decide_eq_false (hfk j hj)
          omega
        rw [hl] at a2 cls
        dsimp only at a2 cls
        rw [if_neg (nI_nm1 (by omega))] at a2 cls
        obtain ⟨d, q1, q2⟩ := Mend c4 _ 1 a2.2 a2.1 (fun d1 hV1 hA1 d2 hD2 h84 => by
          rw [zj_dn_full hbk hfk hk, if_neg (nI_nm1 (by omega)), hdb, if_pos rfl, if_pos rfl]
          exact two c4 k 1 hk hmk d1 hV1 hA1 d2 hD2 h84) (by simp)
        exact ⟨1, c4, d, by rw [cls]; rfl, q1, q2⟩
    · -- the first thought for which another saying is worth more
      have hmk : 0 < m k := of_decide_eq_true hbk
      have hno : ∀ t, t < k → m t ≤ 0 := fun t ht => by have := of_decide_eq_false (hfk t ht); omega
      obtain ⟨c2, e1, e2, e3⟩ := sp_truth hT hTab.2.1 hlen hV (M := k) (by omega) (fun t ht => by rw [← hm]; exact hno t ht) k (Nat.le_refl _)
      rw [← hm, ← ho] at e3
      have hTab2 : zr_Tab E T c2 := (zr_A.eq e1).tab hTab
      obtain ⟨c3, g1, g2, g3, g4⟩ := sp_tally hT hTab2.2.1 hlen (show zr_V (54 + p) E (zt_N E T) V c2 by unfold zr_V; rw [e1]; exact hV) hk
      have hA3 : zr_A c1 c3 := zr_A.eq (g2.trans e1)
      obtain ⟨c4, a1, a2⟩ := sp_two hA3 (nI k) (nI (o k))
      rw [if_neg (nI_nm1 (by omega))] at a2
      have o1 := (zj_oth_p (V := V) hT hk).1
      have cls : fn_Judge_tellTruth c1 (54 + p) = some (0, c4) := by
        have hw : zw_whl (fn_Judge_tellTruth_l1 (54 + p)) zw_F (-1, -1, 0, c1) = some (.inl (0, c4)) := by
          have := e3 (x := .inl (0, c4)) (zw_F - k) (by
            rw [show zw_F - k = (zw_F - k - 1) + 1 by unfold zw_F; omega]
            have k1 : fn_Judge_tellTruth_l1 (54 + p) ((zj_ls (fun t => decide (m t = 0)) o k).1, (zj_ls (fun t => decide (m t = 0)) o k).2, nI k, c2) = some (.inl (.inl (0, c4))) := by
              unfold fn_Judge_tellTruth_l1
              dsimp only
              have eo : zs_w E (zt_p E T) V (zj_oth E (zt_N E T) (zt_p E T) V k) k - zs_w E (zt_p E T) V k k = m k := by rw [hm]; rfl
              rw [hTab2.2.1.2.2.1, if_pos (nI_lt hk (by omega)), g1, zp_bs, sp_oth hT (by rw [g2]; exact hTab2.2.1.2.2.1) g4 hk, zp_bs, zp_aL (by omega) (by omega), zp_bs, zp_aL (by omega) (by omega), zp_bs, zp_bs, g4 k hk, g4 _ o1, lI_sub, eo, if_pos ((lI_pos (hmz k hk)).mpr hmk), ← ho, a1, zp_bs]
            simp only [zw_whl, k1, Option.bind_some])
          rw [show zw_F - k + k = zw_F by unfold zw_F; omega] at this
          exact this
        unfold fn_Judge_tellTruth
        rw [hw, zp_bs]
      rcases zj_fst (fun t => decide (0 ≤ m t)) (zt_N E T) with hnl | ⟨k', hk', hbk', hfk'⟩
      · have := of_decide_eq_false (hnl k hk); omega
      · obtain ⟨d, q1, q2⟩ := Mend c4 _ 0 a2.2 a2.1 (fun d1 hV1 hA1 d2 hD2 h84 => by
          rw [zj_dn_full hbk' hfk' hk', if_neg (nI_nm1 (by omega)), zj_dn_full hbk hfk hk, if_neg (nI_nm1 (by omega)), if_neg (nI_nm1 (by omega))]
          exact two c4 k 0 hk (by omega) d1 hV1 hA1 d2 hD2 h84) (by simp)
        exact ⟨0, c4, d, by rw [cls]; rfl, q1, q2⟩
