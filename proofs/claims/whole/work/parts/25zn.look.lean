/-! look, purse -/
theorem nI_dv {a b : Nat} (ha : a < 2 ^ 31) (hb0 : 0 < b) (hb : b < 2 ^ 31) : nI a / nI b = nI (a / b) := by
  have h1 : a / b ≤ a := Nat.div_le_self a b
  apply Int32.toInt_inj.mp
  rw [Int32.toInt_div, nI_toInt ha, nI_toInt hb, nI_toInt (by omega), Int.tdiv_eq_ediv_of_nonneg (by omega)]
  have e : ((a : Int) / (b : Int)) = ((a / b : Nat) : Int) := by rw [Int.natCast_ediv]
  rw [e]
  generalize a / b = q at h1 ⊢
  exact Int.bmod_eq_of_le (by omega) (by omega)
theorem nI_md {a : Nat} (ha : a < 100000) : nI a - nI a / 10 * 10 = nI (a % 10) := by
  have e : nI a / 10 = nI (a / 10) := nI_dv (b := 10) (by omega) (by omega) (by omega)
  have e2 : nI (a / 10) * 10 = nI (a / 10 * 10) := nI_mul (a / 10) 10
  rw [e, e2, nI_sub (by omega)]
  exact congrArg nI (by omega)
def zj_dg (E L e : Nat) : Nat := L / 10 ^ (E - 1 - e) % 10
def zj_W1 (E : Nat) (pt : Nat → Nat → Nat) (t L e : Nat) : Int32 := nI (pt t e * zj_dg E L e)
def zj_W0 (E : Nat) (pt : Nat → Nat → Nat) (t L e : Nat) : Int32 := nI (pt t e * (10 - zj_dg E L e))
def zj_lf (E : Nat) (W : Nat → Int32) (V : Nat → Nat → Int32) (s : Nat) : Int := zs_sum (fun e => (W e).toInt * (V s e).toInt) E
def zj_ga (E N : Nat) (pt : Nat → Nat → Nat) (V : Nat → Nat → Int32) (t L : Nat) : Int := zj_lf E (zj_W1 E pt t L) V (zs_top (zj_lf E (zj_W1 E pt t L) V) N) + zj_lf E (zj_W0 E pt t L) V (zs_top (zj_lf E (zj_W0 E pt t L) V) N) - 10 * zs_w E pt V (zs_top (fun s => zs_w E pt V s t) N) t
theorem zj_dg_b {E L e : Nat} : zj_dg E L e < 10 := Nat.mod_lt _ (by omega)
theorem zj_Wb {E T N t : Nat} {pt : Nat → Nat → Nat} (hT : zr_T E T N pt) (ht : t < N) {e x : Nat} (he : e < E) (hx : x ≤ 10) : pt t e * x ≤ 120 := by
  have h1 := hT.2.2.2.2.2.2 t ht e (by have := hT.2.1; omega)
  have h2 := hT.2.2.2.1
  have := Nat.mul_le_mul (show pt t e ≤ 12 by omega) hx
  omega
theorem zj_lf_b {E : Nat} {W : Nat → Int32} {V : Nat → Nat → Int32} {s : Nat} (hE : E ≤ 4) (hW : ∀ e, e < E → 0 ≤ (W e).toInt ∧ (W e).toInt ≤ 120) : -1100000000000 ≤ zj_lf E W V s ∧ zj_lf E W V s ≤ 1100000000000 := by
  have h := zs_sum_bd (f := fun e => (W e).toInt * (V s e).toInt) (B := 257698037760) (n := E) (fun e he => by
    have h1 := hW e he
    have h2 := i_bd (V s e)
    have h5 := Int.mul_le_mul_of_nonneg_left h2.2 h1.1
    have h6 := Int.mul_le_mul_of_nonneg_left h2.1 h1.1
    constructor
    · show -257698037760 ≤ (W e).toInt * (V s e).toInt
      omega
    · show (W e).toInt * (V s e).toInt ≤ 257698037760
      omega)
  have hE4 : (E : Int) ≤ 4 := by omega
  unfold zj_lf
  omega
theorem zj_W1_b {E T N t L : Nat} {pt : Nat → Nat → Nat} (hT : zr_T E T N pt) (ht : t < N) : ∀ e, e < E → 0 ≤ (zj_W1 E pt t L e).toInt ∧ (zj_W1 E pt t L e).toInt ≤ 120 := fun e he => by
  have h := zj_Wb hT ht he (x := zj_dg E L e) (by have := zj_dg_b (E := E) (L := L) (e := e); omega)
  unfold zj_W1
  rw [nI_toInt (by omega)]
  omega
theorem zj_W0_b {E T N t L : Nat} {pt : Nat → Nat → Nat} (hT : zr_T E T N pt) (ht : t < N) : ∀ e, e < E → 0 ≤ (zj_W0 E pt t L e).toInt ∧ (zj_W0 E pt t L e).toInt ≤ 120 := fun e he => by
  have h := zj_Wb hT ht he (x := 10 - zj_dg E L e) (by omega)
  unfold zj_W0
  rw [nI_toInt (by omega)]
  omega
/-- both lights together are ten times the worth, so looking never loses -/
theorem zj_ga_0 {E T N t L : Nat} {pt : Nat → Nat → Nat} {V : Nat → Nat → Int32} (hT : zr_T E T N pt) (ht : t < N) : 0 ≤ zj_ga E N pt V t L := by
  have hN2 := hT.2.2.2.2.1
  have hk : zs_top (fun s => zs_w E pt V s t) N < N := zs_top_lt _ (by omega)
  have h1 := zs_top_max (zj_lf E (zj_W1 E pt t L) V) hk
  have h2 := zs_top_max (zj_lf E (zj_W0 E pt t L) V) hk
  have e : zj_lf E (zj_W1 E pt t L) V (zs_top (fun s => zs_w E pt V s t) N) + zj_lf E (zj_W0 E pt t L) V (zs_top (fun s => zs_w E pt V s t) N) = 10 * zs_w E pt V (zs_top (fun s => zs_w E pt V s t) N) t := by
    unfold zj_lf zs_w
    rw [← zs_sum_add, ← zs_sum_mul]
    refine zs_sum_congr (fun e he => ?_)
    have hd := zj_dg_b (E := E) (L := L) (e := e)
    have b1 := zj_Wb hT ht he (x := zj_dg E L e) (by omega)
    have b2 := zj_Wb hT ht he (x := 10 - zj_dg E L e) (by omega)
    unfold zj_W1 zj_W0
    rw [nI_toInt (by omega), nI_toInt (by omega), ← Int.add_mul, ← Int.mul_assoc]
    have : ((pt t e * zj_dg E L e : Nat) : Int) + ((pt t e * (10 - zj_dg E L e) : Nat) : Int) = 10 * ((pt t e : Nat) : Int) := by
      have h3 : pt t e * zj_dg E L e + pt t e * (10 - zj_dg E L e) = pt t e * 10 := by rw [← Nat.mul_add, show zj_dg E L e + (10 - zj_dg E L e) = 10 by omega]
      omega
    rw [this]
  unfold zj_ga
  omega
theorem zj_ga_b {E T N t L : Nat} {pt : Nat → Nat → Nat} {V : Nat → Nat → Int32} (hT : zr_T E T N pt) (ht : t < N) : zj_ga E N pt V t L ≤ 4000000000000 := by
  have h1 := zj_lf_b (V := V) (s := zs_top (zj_lf E (zj_W1 E pt t L) V) N) hT.2.1 (zj_W1_b (L := L) hT ht)
  have h2 := zj_lf_b (V := V) (s := zs_top (zj_lf E (zj_W0 E pt t L) V) N) hT.2.1 (zj_W0_b (L := L) hT ht)
  have h3 := zs_w_bd (V := V) hT (s := zs_top (fun s => zs_w E pt V s t) N) ht
  unfold zj_ga
  omega
theorem zj_pow {E i : Nat} (hi : i < E) (hE : E ≤ 4) : E - 1 - (E - (i + 1)) = i := by omega
theorem sp_light {E T N a t L : Nat} {pt : Nat → Nat → Nat} {V : Nat → Nat → Int32} {c : zw_Ct} {sh : Int32} {W : Nat → Int32} (hW : (sh = 1 ∧ W = zj_W1 E pt t L) ∨ (sh = 0 ∧ W = zj_W0 E pt t L)) (hT : zr_T E T N pt) (hS : zr_S E T N pt c) (ha : zw_len SH 0 a = some 1820) (ha64 : a ≠ 64) (hV : zr_V a E N V c) (ht : t < N) (hL : L < 10000) : ∃ c2, fn_Lures_worthWithLight c a (nI t) (nI L) sh = some (lI (zj_lf E W V (zs_top (zj_lf E W V) N)), c2) ∧ (∀ k, k ≠ 64 → c2.1 k = c.1 k) ∧ ∀ k, k ≠ 12 → c2.2 k = c.2 k := by
  have hN := hT.2.2.2.2.2.1
  have hN2 := hT.2.2.2.2.1
  have hE4 := hT.2.1
  have hE2 := hT.1
  have hWb : ∀ e, e < E → 0 ≤ (W e).toInt ∧ (W e).toInt ≤ 120 := by
    rcases hW with ⟨-, rfl⟩ | ⟨-, rfl⟩
    · exact zj_W1_b hT ht
    · exact zj_W0_b hT ht
  have hdiv : ∀ i, L / 10 ^ i ≤ L := fun i => Nat.div_le_self _ _
  obtain ⟨c1, g1, g2, g3, g4⟩ := zp_detC (f := fn_Lures_worthWithLight_l1 (nI t) sh) (fun i c => (nI (L / 10 ^ i), nI (E - i) + (-1), c)) (fun i x => (∀ k, k ≠ 64 → x.1 k = c.1 k) ∧ x.2 = c.2 ∧ ∀ e, e < E → E - i ≤ e → x.1 64 e = W e) (fun c => (nI (L / 10 ^ E), c)) E 0 (Nat.zero_le _) (by unfold zw_F; omega) (fun i x _ hi ⟨q1, q2, q3⟩ => by
    have hSx : zr_S E T N pt x := by unfold zr_S; rw [q1 1 (by decide), q1 2 (by decide)]; exact hS
    have e1 : nI (E - i) + (-1) = nI (E - (i + 1)) := by rw [show E - i = E - (i + 1) + 1 by omega]; exact nI_m1 _
    have hd := hdiv i
    have e2 : nI (L / 10 ^ i) - nI (L / 10 ^ i) / 10 * 10 = nI (L / 10 ^ i % 10) := nI_md (by omega)
    have e3 : nI (L / 10 ^ i) / 10 = nI (L / 10 ^ (i + 1)) := by
      have h : nI (L / 10 ^ i) / 10 = nI (L / 10 ^ i / 10) := nI_dv (b := 10) (by omega) (by omega) (by omega)
      rw [h, Nat.div_div_eq_div_mul, ← Nat.pow_succ]
    have edg : L / 10 ^ i % 10 = zj_dg E L (E - (i + 1)) := by unfold zj_dg; rw [zj_pow hi hE4]
    have hdb := zj_dg_b (E := E) (L := L) (e := E - (i + 1))
    have ew : nI (pt t (E - (i + 1))) * (if ¬ sh = 0 then nI (zj_dg E L (E - (i + 1))) else 10 - nI (zj_dg E L (E - (i + 1)))) = W (E - (i + 1)) := by
      rcases hW with ⟨rfl, rfl⟩ | ⟨rfl, rfl⟩
      · rw [if_pos (show ¬ (1 : Int32) = 0 by decide), nI_mul]; rfl
      · have e10 : (10 : Int32) - nI (zj_dg E L (E - (i + 1))) = nI (10 - zj_dg E L (E - (i + 1))) := nI_sub (a := 10) (by omega)
        rw [if_neg (show ¬ ¬ (0 : Int32) = 0 by decide), e10, nI_mul]; rfl
    refine ⟨zw_wI x 64 (E - (i + 1)) (W (E - (i + 1))), ?_, fun k hk => by rw [zw_wI_ne hk]; exact q1 k hk, q2, fun e he hei => ?_⟩
    · unfold fn_Lures_worthWithLight_l1
      dsimp only
      rw [e1, if_pos (nI_pos' (by omega)), e2, zp_bs, zp_bs, e3, sp_partOf hT hSx ht (by omega), zp_bs, edg, ew, zp_uI (by omega) (by omega), zp_bs]
    · by_cases q : e = E - (i + 1)
      · rw [q, zw_wI_eq]
      · rw [zw_wI_at q]; exact q3 e he (by omega)) (fun x ⟨q1, q2, q3⟩ => by
    unfold fn_Lures_worthWithLight_l1
    dsimp only
    rw [Nat.sub_self, if_neg (by decide)]) c ⟨fun _ _ => rfl, rfl, fun e he hei => by omega⟩
  have e0 : nI E - 1 = nI (E - 0) + (-1) := by rw [Nat.sub_zero]; exact Int32.sub_eq_add_neg _ _
  have g1' : zw_whl (fn_Lures_worthWithLight_l1 (nI t) sh) zw_F (nI L, nI E - 1, c) = some (nI (L / 10 ^ E), c1) := by
    rw [e0]
    have h : (nI (L / 10 ^ 0), nI (E - 0) + (-1), c) = (nI L, nI (E - 0) + (-1), c) := by rw [Nat.pow_zero, Nat.div_one]
    rw [← h]
    exact g1
  have hS1 : zr_S E T N pt c1 := by unfold zr_S; rw [g2 1 (by decide), g2 2 (by decide)]; exact hS
  obtain ⟨c2, i1, i2, i3, i4⟩ := sp_tallyW (V := V) (W := W) (fr := 0) (w := 64) (nw := 4) hT hS1 ha (fun s hs e he => by rw [g2 a ha64]; exact hV s hs e he) rfl (by omega) (by omega) (fun e he => by rw [Nat.zero_add]; exact g4 e he (by omega))
  have i1' : fn_Judge_tallyWeighed c1 a 64 0 = some c2 := i1
  have hY : zr_Y N (zj_lf E W V) c2 := i4
  have hz : ∀ s, s < N → zb (zj_lf E W V s) := fun s _ => by have := zj_lf_b (V := V) (s := s) hE4 hWb; exact ⟨by omega, by omega⟩
  refine ⟨c2, ?_, fun k hk => by rw [i2]; exact g2 k hk, fun k hk => by rw [i3 k hk, g3]⟩
  unfold fn_Lures_worthWithLight
  rw [hS.1, zp_bs, g1', zp_bs]
  dsimp only
  rw [i1', zp_bs, sp_greatest (by omega) hN (by rw [i2]; exact hS1.2.2.1) hY hz, zp_bs]
theorem sp_gain {E T a t L : Nat} {V : Nat → Nat → Int32} {c : zw_Ct} (hTab : zr_Tab E T c) (ha : zw_len SH 0 a = some 1820) (ha64 : a ≠ 64) (hV : zr_V a E (zt_N E T) V c) (ht : t < zt_N E T) (hL : L < 10000) : ∃ c2, fn_Lures_gainOfLooking c a (nI t) (nI L) = some (lI (zj_ga E (zt_N E T) (zt_p E T) V t L), c2) ∧ (∀ k, k ≠ 64 → c2.1 k = c.1 k) ∧ ∀ k, k ≠ 12 → c2.2 k = c.2 k := by
  have hT := zt_T hTab.1
  obtain ⟨c1, a1, a2, a3⟩ := sp_light (Or.inl ⟨rfl, rfl⟩) hT hTab.2.1 ha ha64 hV ht hL
  have hT1 : zr_Tab E T c1 := hTab.fr (a2 1 (by decide)) (a2 2 (by decide)) (a2 72 (by decide)) (by rw [a2 71 (by decide)]) (by rw [a2 71 (by decide)]) (by rw [a2 71 (by decide)])
  obtain ⟨c2, b1, b2, b3⟩ := sp_light (sh := 0) (L := L) (Or.inr ⟨rfl, rfl⟩) hT hT1.2.1 ha ha64 (V := V) (fun s hs e he => by rw [a2 a ha64]; exact hV s hs e he) ht hL
  have hT2 : zr_Tab E T c2 := hT1.fr (b2 1 (by decide)) (b2 2 (by decide)) (b2 72 (by decide)) (by rw [b2 71 (by decide)]) (by rw [b2 71 (by decide)]) (by rw [b2 71 (by decide)])
  obtain ⟨c3, d1, d2, d3, -⟩ := sp_great (V := V) hT hT2.2.1 ha (fun s hs e he => by rw [b2 a ha64, a2 a ha64]; exact hV s hs e he) ht
  refine ⟨c3, ?_, fun k hk => by rw [d2, b2 k hk, a2 k hk], fun k hk => by rw [d3 k hk, b3 k hk, a3 k hk]⟩
  unfold fn_Lures_gainOfLooking
  rw [a1, zp_bs]
  dsimp only
  rw [b1, zp_bs]
  dsimp only
  rw [d1, zp_bs]
  dsimp only
  rw [show (10 : Int64) = lI 10 by rfl, lI_mul, lI_add, lI_sub]
  rfl
theorem sp_MbestBy {E T N a : Nat} {pt : Nat → Nat → Nat} {V : Nat → Nat → Int32} {W : Nat → Int32} {d : zw_Ct} (hT : zr_T E T N pt) (hM : zr_M E T N pt d) (hV : zr_V 84 E N V d) (ha : zw_len SH 0 a = some 4) (hW : ∀ e, e < E → d.1 a e = W e) (hWb : ∀ e, e < E → 0 ≤ (W e).toInt ∧ (W e).toInt ≤ 120) : fn_M_bestBy d a = some (lI (zj_lf E W V (zs_top (zj_lf E W V) N))) := by
  have hN := hT.2.2.2.2.2.1
  have hN2 := hT.2.2.2.2.1
  have hE4 := hT.2.1
  have hz : ∀ s, zb (zj_lf E W V s) := fun s => by have := zj_lf_b (V := V) (s := s) hE4 hWb; exact ⟨by omega, by omega⟩
  have inner : ∀ s, s < N → zw_whl (fn_M_bestBy_l2 d a (nI s)) zw_F (0, 0) = some (lI (zj_lf E W V s)) := fun s hs => by
    have h := zp_det (f := fn_M_bestBy_l2 d a (nI s)) (x := lI (zj_lf E W V s)) (fun i => (lI (zj_lf i W V s), nI i)) E 0 (Nat.zero_le _) (by unfold zw_F; omega) (fun i _ hi => by
      unfold fn_M_bestBy_l2
      dsimp only
      rw [hM.1, if_pos (nI_lt hi (by omega)), zp_dI ha (by omega) (by omega), zp_bs, nI_at', zp_aI (by omega) (by omega), zp_bs, zp_bs, hW i hi, hV s hs i hi, iL (W i), iL (V s i), lI_mul, lI_add, nI_1]
      rfl) (by
      unfold fn_M_bestBy_l2
      dsimp only
      rw [hM.1, if_neg (nI_nlt (Nat.le_refl _) (by omega))])
    exact h
  have h := zp_det (f := fn_M_bestBy_l1 d a) (x := lI (zj_lf E W V (zs_top (zj_lf E W V) N))) (fun i => (if i = 0 then 0 else lI (zj_lf E W V (zs_top (zj_lf E W V) i)), nI i)) N 0 (Nat.zero_le _) (by unfold zw_F; omega) (fun i _ hi => by
    unfold fn_M_bestBy_l1
    dsimp only
    rw [hM.2.2.1, if_pos (nI_lt hi (by omega)), inner i hi, zp_bs, zp_bs, if_neg (show ¬ i + 1 = 0 from Nat.succ_ne_zero i), nI_1]
    by_cases h0 : i = 0
    · rw [if_pos (show nI i = 0 by rw [h0]; rfl), h0, zs_top_1]
    · rw [if_neg (nI_ne0 (by omega) (by omega)), if_neg h0, zs_top_s]
      by_cases hq : zj_lf E W V (zs_top (zj_lf E W V) i) < zj_lf E W V i
      · rw [if_neg (fun z => by have := (lI_lt (hz _) (hz _)).mp z; omega), if_pos hq]
      · by_cases hq2 : zj_lf E W V i < zj_lf E W V (zs_top (zj_lf E W V) i)
        · rw [if_pos ((lI_lt (hz _) (hz _)).mpr hq2), if_neg hq]
        · rw [if_neg (fun z => hq2 ((lI_lt (hz _) (hz _)).mp z)), if_neg hq]
          exact congrArg (fun z => some (Sum.inr (lI z, nI (i + 1)))) (by omega)) (by
    unfold fn_M_bestBy_l1
    dsimp only
    rw [hM.2.2.1, if_neg (nI_nlt (Nat.le_refl _) (by omega)), if_neg (by omega)])
  have h' : zw_whl (fn_M_bestBy_l1 d a) zw_F (0, 0) = some (lI (zj_lf E W V (zs_top (zj_lf E W V) N))) := h
  unfold fn_M_bestBy
  rw [h', zp_bs]
/-- the Model's more by looking, whatever scratch places hold -/
theorem sp_Mlook {E T p t L : Nat} {V : Nat → Nat → Int32} {c1 d : zw_Ct} (hTab : zr_Tab E T c1) (hM : zv_M E T p V c1) (hA : zr_A c1 d) (ht : t < zt_N E T) (hL : L < 10000) : ∃ d2, fn_M_moreByLooking d (nI p) (nI t) (nI L) = some (lI (zj_ga E (zt_N E T) (zt_p E T) V t L), d2) ∧ zr_A c1 d2 ∧ d2.1 61 = d.1 61 ∧ d2.1 71 8 = d.1 71 8 ∧ d2.2 = d.2 := by
  have hT := zt_T hTab.1
  have hN := hT.2.2.2.2.2.1
  have hE4 := hT.2.1
  have hE2 := hT.1
  obtain ⟨d1, a1, a2, a3, a4, a5⟩ := sp_layPayX hTab hM hA
  have hA1 : zr_A c1 d1 := ⟨fun k k1 k2 => (a3 k k2 (fun e => k1 (by rw [e]; decide))).trans (hA.1 k k1 k2), fun j hj => (a4 j (Or.inl hj)).trans (hA.2 j hj)⟩
  have hdiv : ∀ i, L / 10 ^ i ≤ L := fun i => Nat.div_le_self _ _
  have fr : ∀ x : zw_Ct, (∀ k, k ≠ 87 → k ≠ 88 → x.1 k = d1.1 k) → zr_A c1 x := fun x hx => hA1.tr ⟨fun k k1 _ => hx k (fun e => k1 (by rw [e]; decide)) (fun e => k1 (by rw [e]; decide)), fun j _ => by rw [hx 71 (by decide) (by decide)]⟩
  obtain ⟨d2, g1, g2, g3, g4, g5⟩ := zp_detC (f := fn_M_moreByLooking_l1 (nI t)) (fun i c => (nI (L / 10 ^ i), nI (E - i) + (-1), c)) (fun i x => (∀ k, k ≠ 87 → k ≠ 88 → x.1 k = d1.1 k) ∧ x.2 = d1.2 ∧ (∀ e, e < E → E - i ≤ e → x.1 87 e = zj_W1 E (zt_p E T) t L e) ∧ ∀ e, e < E → E - i ≤ e → x.1 88 e = zj_W0 E (zt_p E T) t L e) (fun c => (nI (L / 10 ^ E), c)) E 0 (Nat.zero_le _) (by unfold zw_F; omega) (fun i x _ hi ⟨q1, q2, q3, q4⟩ => by
    have hTx := (fr x q1).tab hTab
    have e1 : nI (E - i) + (-1) = nI (E - (i + 1)) := by rw [show E - i = E - (i + 1) + 1 by omega]; exact nI_m1 _
    have hd := hdiv i
    have e2 : nI (L / 10 ^ i) - nI (L / 10 ^ i) / 10 * 10 = nI (L / 10 ^ i % 10) := nI_md (by omega)
    have e3 : nI (L / 10 ^ i) / 10 = nI (L / 10 ^ (i + 1)) := by
      have h : nI (L / 10 ^ i) / 10 = nI (L / 10 ^ i / 10) := nI_dv (b := 10) (by omega) (by omega) (by omega)
      rw [h, Nat.div_div_eq_div_mul, ← Nat.pow_succ]
    have edg : L / 10 ^ i % 10 = zj_dg E L (E - (i + 1)) := by unfold zj_dg; rw [zj_pow hi hE4]
    have hdb := zj_dg_b (E := E) (L := L) (e := E - (i + 1))
    have ew1 : nI (zt_p E T t (E - (i + 1))) * nI (zj_dg E L (E - (i + 1))) = zj_W1 E (zt_p E T) t L (E - (i + 1)) := by rw [nI_mul]; rfl
    have ew0 : nI (zt_p E T t (E - (i + 1))) * (10 - nI (zj_dg E L (E - (i + 1)))) = zj_W0 E (zt_p E T) t L (E - (i + 1)) := by
      have e10 : (10 : Int32) - nI (zj_dg E L (E - (i + 1))) = nI (10 - zj_dg E L (E - (i + 1))) := nI_sub (a := 10) (by omega)
      rw [e10, nI_mul]; rfl
    have ep : x.1 72 (4 * t + (E - (i + 1))) = nI (zt_p E T t (E - (i + 1))) := hTx.2.2.2.2.2 t ht _ (by omega)
    refine ⟨zw_wI (zw_wI x 87 (E - (i + 1)) (zj_W1 E (zt_p E T) t L (E - (i + 1)))) 88 (E - (i + 1)) (zj_W0 E (zt_p E T) t L (E - (i + 1))), ?_, fun k k1 k2 => by rw [zw_wI_ne k2, zw_wI_ne k1]; exact q1 k k1 k2, q2, fun e he hei => ?_, fun e he hei => ?_⟩
    · unfold fn_M_moreByLooking_l1
      dsimp only
      rw [e1, if_pos (nI_pos' (by omega)), e2, zp_bs, zp_bs, e3, nI_at', zp_aI (by omega) (by omega), zp_bs, ep, edg, ew1, zp_uI (by omega) (by omega), zp_bs, zp_aI (by omega) (by omega), zp_bs, zw_wI_ne (show (72 : Nat) ≠ 87 by decide), ep, ew0, zp_uI (by omega) (by omega), zp_bs]
    · rw [zw_wI_ne (show (87 : Nat) ≠ 88 by decide)]
      by_cases q : e = E - (i + 1)
      · rw [q, zw_wI_eq]
      · rw [zw_wI_at q]; exact q3 e he (by omega)
    · by_cases q : e = E - (i + 1)
      · rw [q, zw_wI_eq]
      · rw [zw_wI_at q, zw_wI_ne (show (88 : Nat) ≠ 87 by decide)]; exact q4 e he (by omega)) (fun x ⟨q1, q2, q3, q4⟩ => by
    unfold fn_M_moreByLooking_l1
    dsimp only
    rw [Nat.sub_self, if_neg (by decide)]) d1 ⟨fun _ _ _ => rfl, rfl, fun e he hei => by omega, fun e he hei => by omega⟩
  have e0 : nI E - 1 = nI (E - 0) + (-1) := by rw [Nat.sub_zero]; exact Int32.sub_eq_add_neg _ _
  have g1' : zw_whl (fn_M_moreByLooking_l1 (nI t)) zw_F (nI L, nI E - 1, d1) = some (nI (L / 10 ^ E), d2) := by
    rw [e0]
    have h : (nI (L / 10 ^ 0), nI (E - 0) + (-1), d1) = (nI L, nI (E - 0) + (-1), d1) := by rw [Nat.pow_zero, Nat.div_one]
    rw [← h]
    exact g1
  have hA2 := fr d2 g2
  have hT2 := hA2.tab hTab
  have hV2 : zr_V 84 E (zt_N E T) V d2 := fun s hs e he => by rw [g2 84 (by decide) (by decide)]; exact a2 s hs e he
  refine ⟨d2, ?_, hA2, ?_, ?_, g3.trans a5⟩
  · unfold fn_M_moreByLooking
    rw [a1, zp_bs, (hA1.tab hTab).2.2.1, zp_bs, g1', zp_bs]
    dsimp only
    rw [sp_MbestBy hT hT2.2.2 hV2 rfl (fun e he => g4 e he (by omega)) (zj_W1_b hT ht), zp_bs, sp_MbestBy hT hT2.2.2 hV2 rfl (fun e he => g5 e he (by omega)) (zj_W0_b hT ht), zp_bs, sp_Mbest hT hT2.2.2 hV2 ht, zp_bs, show (10 : Int64) = lI 10 by rfl, lI_mul, lI_add, lI_sub]
    rfl
  · rw [g2 61 (by decide) (by decide), a3 61 (by decide) (by decide)]
  · rw [g2 71 (by decide) (by decide), a4 8 (Or.inr rfl)]
/-! how often the cost is won back -/
def zj_ti (more due : Int) : Int32 := if due = 0 then 1 else if more ≤ 0 then -1 else if 9999 < (due + more - 1) / more then -1 else (lI ((due + more - 1) / more)).toInt32
theorem zj_ti_b (more due : Int) (hd : 0 ≤ due) : zj_ti more due = -1 ∨ ∃ k : Nat, k ≤ 9999 ∧ zj_ti more due = nI k := by
  unfold zj_ti
  by_cases h0 : due = 0
  · rw [if_pos h0]; exact Or.inr ⟨1, by omega, rfl⟩
  · rw [if_neg h0]
    by_cases h1 : more ≤ 0
    · rw [if_pos h1]; exact Or.inl rfl
    · rw [if_neg h1]
      by_cases h2 : 9999 < (due + more - 1) / more
      · rw [if_pos h2]; exact Or.inl rfl
      · rw [if_neg h2]
        have h3 : 0 ≤ (due + more - 1) / more := Int.ediv_nonneg (by omega) (by omega)
        obtain ⟨k, hk⟩ := Int.eq_ofNat_of_zero_le h3
        refine Or.inr ⟨k, by omega, ?_⟩
        rw [hk]
        exact lI_n32 (by omega)
theorem sp_times {T ct : Nat} {more : Int} {c : zw_Ct} (hT : c.1 1 1 = nI T) (hT1 : 1 ≤ T) (hT12 : T ≤ 12) (hc : ct ≤ 9999) (hm : 0 ≤ more) (hm2 : more ≤ 4000000000000) : fn_Lures_timesForCost c (lI more) (nI ct) = some (zj_ti more ((ct : Int) * (T : Int) * 10)) := by
  have hd : 0 ≤ (ct : Int) * (T : Int) ∧ (ct : Int) * (T : Int) ≤ 119988 := by
    have h1 := Int.mul_le_mul_of_nonneg_left (show (T : Int) ≤ 12 by omega) (show (0 : Int) ≤ (ct : Int) by omega)
    have h2 := Int.mul_le_mul_of_nonneg_left (show (0 : Int) ≤ T by omega) (show (0 : Int) ≤ (ct : Int) by omega)
    omega
  unfold fn_Lures_timesForCost zj_ti
  rw [hT, nL (by omega), nL (by omega), lI_mul, show (10 : Int64) = lI 10 by rfl, lI_mul, zp_bs]
  generalize (ct : Int) * (T : Int) = x at hd ⊢
  by_cases h0 : x * 10 = 0
  · rw [if_pos ((lI_0I ⟨by omega, by omega⟩).mpr h0), if_pos h0]
  · rw [if_neg (fun z => h0 ((lI_0I ⟨by omega, by omega⟩).mp z)), if_neg h0]
    by_cases h1 : more ≤ 0
    · rw [if_pos ((lI_le0 ⟨by omega, by omega⟩).mpr h1), zp_bs, if_pos h1]
      rfl
    · have h2 := Int.ediv_le_self more (show 0 ≤ x * 10 + more - 1 by omega)
      have h3 : 0 ≤ (x * 10 + more - 1) / more := Int.ediv_nonneg (by omega) (by omega)
      rw [if_neg (fun z => h1 ((lI_le0 ⟨by omega, by omega⟩).mp z)), show (1 : Int64) = lI 1 by rfl, lI_add, lI_sub, sp_cut ⟨by omega, by omega⟩ (by omega), zp_bs, zp_bs, lI_div (by omega) (by omega) (by omega) (by omega), if_neg h1]
      by_cases h4 : 9999 < (x * 10 + more - 1) / more
      · rw [if_pos h4, if_pos (show (9999 : Int64) < lI ((x * 10 + more - 1) / more) from (lI_lt (a := 9999) ⟨by omega, by omega⟩ ⟨by omega, by omega⟩).mpr h4)]
      · rw [if_neg h4, if_neg (show ¬ (9999 : Int64) < lI ((x * 10 + more - 1) / more) from fun z => h4 ((lI_lt (a := 9999) ⟨by omega, by omega⟩ ⟨by omega, by omega⟩).mp z))]
theorem sp_Mtimes {T ct : Nat} {more : Int} {d : zw_Ct} (hT : d.1 71 1 = nI T) (hT1 : 1 ≤ T) (hT12 : T ≤ 12) (hc : ct ≤ 9999) (hm : 0 ≤ more) (hm2 : more ≤ 4000000000000) : fn_M_times d (lI more) (nI ct) = some (zj_ti more ((ct : Int) * (T : Int) * 10)) := by
  have hd : 0 ≤ (ct : Int) * (T : Int) ∧ (ct : Int) * (T : Int) ≤ 119988 := by
    have h1 := Int.mul_le_mul_of_nonneg_left (show (T : Int) ≤ 12 by omega) (show (0 : Int) ≤ (ct : Int) by omega)
    have h2 := Int.mul_le_mul_of_nonneg_left (show (0 : Int) ≤ T by omega) (show (0 : Int) ≤ (ct : Int) by omega)
    omega
  have ed : (10 : Int64) * (nI ct).toInt64 * (nI T).toInt64 = lI ((ct : Int) * (T : Int) * 10) := by
    rw [nL (by omega), nL (by omega), show (10 : Int64) = lI 10 by rfl, lI_mul, lI_mul]
    exact congrArg lI (by rw [Int.mul_comm ((ct : Int) * (T : Int)), Int.mul_assoc])
  generalize hx : (ct : Int) * (T : Int) = x at hd ed
  have zx : zb (x * 10) := ⟨by omega, by omega⟩
  have step : ∀ k : Nat, 1 ≤ k → k ≤ 9999 → fn_M_times_l1 (nI ct) d (lI more) (nI k) = if x * 10 ≤ (k : Int) * more then some (.inl (.inl (nI k))) else some (.inr (nI (k + 1))) := fun k hk1 hk => by
    have h1 := Int.mul_le_mul_of_nonneg_left hm (show (0 : Int) ≤ (k : Int) by omega)
    have h2 := Int.mul_le_mul_of_nonneg_left hm2 (show (0 : Int) ≤ (k : Int) by omega)
    have zk : zb ((k : Int) * more) := ⟨by omega, by omega⟩
    unfold fn_M_times_l1
    rw [if_pos (show nI k ≤ (9999 : Int32) from nI_le (b := 9999) hk (by omega)), hT, ed, nL (by omega), lI_mul, nI_1]
    by_cases h : x * 10 ≤ (k : Int) * more
    · rw [if_pos ((lI_le zx zk).mpr h), if_pos h]
    · rw [if_neg (fun z => h ((lI_le zx zk).mp z)), if_neg h]
  have fin : ∀ (K : Nat), 1 ≤ K → K ≤ 9999 → x * 10 ≤ (K : Int) * more → (∀ k : Nat, 1 ≤ k → k < K → ¬ x * 10 ≤ (k : Int) * more) → fn_M_times d (lI more) (nI ct) = some (nI K) := fun K hK1 hK2 h1 h2 => by
    have h := zp_det (f := fn_M_times_l1 (nI ct) d (lI more)) (x := .inl (nI K)) (fun i => nI i) K 1 hK1 (by unfold zw_F; omega) (fun i h0 hi => by rw [step i h0 (by omega), if_neg (h2 i h0 hi)]) (by rw [step K hK1 hK2, if_pos h1])
    have h' : zw_whl (fn_M_times_l1 (nI ct) d (lI more)) zw_F 1 = some (.inl (nI K)) := h
    unfold fn_M_times
    rw [h', zp_bs]
  have none' : (∀ k : Nat, 1 ≤ k → k ≤ 9999 → ¬ x * 10 ≤ (k : Int) * more) → fn_M_times d (lI more) (nI ct) = some (-1) := fun h2 => by
    have h := zp_det (f := fn_M_times_l1 (nI ct) d (lI more)) (x := .inr ()) (fun i => nI i) 10000 1 (by omega) (by unfold zw_F; omega) (fun i h0 hi => by rw [step i h0 (by omega), if_neg (h2 i h0 (by omega))]) (by
      unfold fn_M_times_l1
      rw [if_neg (show ¬ nI 10000 ≤ (9999 : Int32) by decide)])
    have h' : zw_whl (fn_M_times_l1 (nI ct) d (lI more)) zw_F 1 = some (.inr ()) := h
    unfold fn_M_times
    rw [h', zp_bs]
  unfold zj_ti
  by_cases h0 : x * 10 = 0
  · rw [if_pos h0, fin 1 (by omega) (by omega) (by rw [h0]; omega) (fun k h1 h2 => by omega)]
    rfl
  · rw [if_neg h0]
    by_cases h1 : more ≤ 0
    · rw [if_pos h1]
      have e : more = 0 := by omega
      exact none' (fun k _ _ h => by rw [e, Int.mul_zero] at h; omega)
    · rw [if_neg h1]
      have key : ∀ k : Int, (x * 10 + more - 1) / more < k + 1 ↔ x * 10 ≤ k * more := fun k => by
        rw [Int.ediv_lt_iff_lt_mul (show 0 < more by omega), Int.add_mul, Int.one_mul]
        omega
      by_cases h4 : 9999 < (x * 10 + more - 1) / more
      · rw [if_pos h4]
        exact none' (fun k _ hk h => by have := (key k).mpr h; omega)
      · rw [if_neg h4]
        have h3 : 0 ≤ (x * 10 + more - 1) / more := Int.ediv_nonneg (by omega) (by omega)
        obtain ⟨K, hK⟩ := Int.eq_ofNat_of_zero_le h3
        have hK1 : 1 ≤ K := by
          rcases Nat.eq_zero_or_pos K with q | q
          · have := (key 0).mp (by rw [hK, q]; decide)
            rw [Int.zero_mul] at this
            omega
          · exact q
        rw [hK, fin K hK1 (by omega) ((key K).mp (by omega)) (fun k _ hk h => by have := (key k).mpr h; omega)]
        exact congrArg some (lI_n32 (by omega)).symm
