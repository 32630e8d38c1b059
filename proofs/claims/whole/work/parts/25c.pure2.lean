/-! what the helpers of class and Model answer: weighing, the tally, the row -/
def zr_T (E T N : Nat) (pt : Nat → Nat → Nat) : Prop := 2 ≤ E ∧ E ≤ 4 ∧ 1 ≤ T ∧ T ≤ 12 ∧ 2 ≤ N ∧ N ≤ 455 ∧ (∀ s, s < N → ∀ e, e < 4 → pt s e ≤ T)
/-- the class's table -/
def zr_S (E T N : Nat) (pt : Nat → Nat → Nat) (c : zw_Ct) : Prop := c.1 1 0 = nI E ∧ c.1 1 1 = nI T ∧ c.1 1 2 = nI N ∧ ∀ s, s < N → ∀ e, e < 4 → c.1 2 (4 * s + e) = nI (pt s e)
/-- the Model's table -/
def zr_M (E T N : Nat) (pt : Nat → Nat → Nat) (c : zw_Ct) : Prop := c.1 71 0 = nI E ∧ c.1 71 1 = nI T ∧ c.1 71 2 = nI N ∧ ∀ s, s < N → ∀ e, e < 4 → c.1 72 (4 * s + e) = nI (pt s e)
/-- a pay's values in cell a -/
def zr_V (a E N : Nat) (V : Nat → Nat → Int32) (c : zw_Ct) : Prop := ∀ s, s < N → ∀ e, e < E → c.1 a (4 * s + e) = V s e
theorem zp_dI {S : zw_Sh} {t a n k : Nat} {c : zw_Ct} (h : zw_len S t a = some n) (hk : k < n) (hn : n < 2 ^ 31) : zw_dI S t c a (nI k) = some (c.1 a k) := by
  unfold zw_dI; rw [h]; exact zp_aI hk hn
/-- WORTH -/
def zs_w (E : Nat) (pt : Nat → Nat → Nat) (V : Nat → Nat → Int32) (s t : Nat) : Int := zs_sum (fun e => (pt t e : Int) * (V s e).toInt) E
theorem zs_w_bd {E T N : Nat} {pt : Nat → Nat → Nat} {V : Nat → Nat → Int32} (hT : zr_T E T N pt) {s t : Nat} (ht : t < N) : -103079215104 ≤ zs_w E pt V s t ∧ zs_w E pt V s t ≤ 103079215104 := by
  obtain ⟨-, hE, -, hT12, -, -, hp⟩ := hT
  have h := zs_sum_bd (f := fun e => (pt t e : Int) * (V s e).toInt) (B := 25769803776) (n := E) (fun e he => by
    have h1 := hp t ht e (by omega)
    have h2 := i_bd (V s e)
    have h3 : (pt t e : Int) ≤ 12 := by omega
    have h4 : (0 : Int) ≤ (pt t e : Int) := by omega
    have h5 := Int.mul_le_mul_of_nonneg_left h2.2 h4
    have h6 := Int.mul_le_mul_of_nonneg_left h2.1 h4
    constructor
    · show -25769803776 ≤ (pt t e : Int) * (V s e).toInt
      omega
    · show (pt t e : Int) * (V s e).toInt ≤ 25769803776
      omega)
  have hE4 : (E : Int) ≤ 4 := by omega
  unfold zs_w
  omega
theorem zs_w_zb {E T N : Nat} {pt : Nat → Nat → Nat} {V : Nat → Nat → Int32} (hT : zr_T E T N pt) {s t : Nat} (ht : t < N) : zb (zs_w E pt V s t) := by
  have := zs_w_bd (V := V) hT (s := s) ht
  constructor <;> omega
theorem sp_weighed {E s w a fr nw : Nat} {c : zw_Ct} {V W : Nat → Int32} (hE : c.1 1 0 = nI E) (hE4 : E ≤ 4) (hs : s < 455) (hw : zw_len SH 0 w = some nw) (hfr : fr + E ≤ nw) (hnw : nw < 100000) (ha : zw_len SH 0 a = some 1820) (hV : ∀ e, e < E → c.1 a (4 * s + e) = V e) (hW : ∀ e, e < E → c.1 w (fr + e) = W e) : fn_Judge_weighed c a (nI s) w (nI fr) = some (lI (zs_sum (fun e => (W e).toInt * (V e).toInt) E)) := by
  unfold fn_Judge_weighed
  rw [zp_bs]
  obtain ⟨x, h1, h2⟩ := zp_up (f := fn_Judge_weighed_l1 c w (nI fr) a (nI s * 4)) (I := fun i t => t = (lI (zs_sum (fun e => (W e).toInt * (V e).toInt) i), nI i)) (P := fun x => x = lI (zs_sum (fun e => (W e).toInt * (V e).toInt) E)) E (by unfold zw_F; omega) (fun i t hi h => by
      subst h
      refine Or.inl ⟨_, ?_, rfl⟩
      unfold fn_Judge_weighed_l1
      dsimp only
      rw [hE, if_pos (nI_lt hi (by omega)), nI_add, zp_dI hw (by omega) (by omega), zp_bs, nI_at, zp_dI ha (by omega) (by omega), zp_bs, zp_bs, hW i hi, hV i hi, iL, iL, lI_mul, lI_add, nI_1]
      rfl) (fun t h => by
      subst h
      refine ⟨_, ?_, rfl⟩
      unfold fn_Judge_weighed_l1
      dsimp only
      rw [hE, if_neg (nI_nlt (Nat.le_refl _) (by omega))]) 0 (0, 0) (Nat.zero_le _) rfl
  rw [h1, h2, zp_bs]
theorem sp_len2 : zw_len SH 0 2 = some 1820 := rfl
theorem sp_worth {E T N a s t : Nat} {pt : Nat → Nat → Nat} {V : Nat → Nat → Int32} {c : zw_Ct} (hT : zr_T E T N pt) (hS : zr_S E T N pt c) (ha : zw_len SH 0 a = some 1820) (hV : zr_V a E N V c) (hs : s < N) (ht : t < N) : fn_Judge_worth c a (nI s) (nI t) = some (lI (zs_w E pt V s t)) := by
  have hN := hT.2.2.2.2.2.1
  have hE4 := hT.2.1
  unfold fn_Judge_worth
  rw [nI_4, sp_weighed (V := V s) (W := fun e => nI (pt t e)) hS.1 hE4 (by omega) sp_len2 (by omega) (by omega) ha (fun e he => hV s hs e he) (fun e he => hS.2.2.2 t ht e (by omega)), zp_bs]
  refine congrArg (fun z => some (lI z)) (zs_sum_congr (fun e he => ?_))
  have := hT.2.2.2.2.2.2 t ht e (by omega)
  have h12 := hT.2.2.2.1
  show (nI (pt t e)).toInt * (V s e).toInt = (pt t e : Int) * (V s e).toInt
  rw [nI_toInt (by omega)]
/-- the tally holds these numbers -/
def zr_Y (N : Nat) (f : Nat → Int) (c : zw_Ct) : Prop := ∀ s, s < N → c.2 12 s = lI (f s)
theorem sp_tallyW {E T N a w fr nw : Nat} {pt : Nat → Nat → Nat} {V : Nat → Nat → Int32} {W : Nat → Int32} {c : zw_Ct} (hT : zr_T E T N pt) (hS : zr_S E T N pt c) (ha : zw_len SH 0 a = some 1820) (hV : zr_V a E N V c) (hw : zw_len SH 0 w = some nw) (hfr : fr + E ≤ nw) (hnw : nw < 100000) (hW : ∀ e, e < E → c.1 w (fr + e) = W e) : ∃ c2, fn_Judge_tallyWeighed c a w (nI fr) = some c2 ∧ c2.1 = c.1 ∧ (∀ k, k ≠ 12 → c2.2 k = c.2 k) ∧ zr_Y N (fun s => zs_sum (fun e => (W e).toInt * (V s e).toInt) E) c2 := by
  have hN := hT.2.2.2.2.2.1
  have hE4 := hT.2.1
  unfold fn_Judge_tallyWeighed
  obtain ⟨x, h1, h2⟩ := zp_up (f := fn_Judge_tallyWeighed_l1 a w (nI fr)) (I := fun i t => t.1 = nI i ∧ t.2.1 = c.1 ∧ (∀ k, k ≠ 12 → t.2.2 k = c.2 k) ∧ zr_Y i (fun s => zs_sum (fun e => (W e).toInt * (V s e).toInt) E) t.2) (P := fun c2 => c2.1 = c.1 ∧ (∀ k, k ≠ 12 → c2.2 k = c.2 k) ∧ zr_Y N (fun s => zs_sum (fun e => (W e).toInt * (V s e).toInt) E) c2) N (by unfold zw_F; omega) (fun i t hi h => by
      obtain ⟨t1, t2⟩ := t
      obtain ⟨h1, h2, h3, h4⟩ := h
      dsimp only at h1 h2 h3 h4
      subst h1
      refine Or.inl ⟨(nI (i + 1), zw_wL t2 12 i (lI (zs_sum (fun e => (W e).toInt * (V i e).toInt) E))), ?_, rfl, h2, fun k hk => ?_, fun s hs => ?_⟩
      · unfold fn_Judge_tallyWeighed_l1
        dsimp only
        rw [h2, hS.2.2.1, if_pos (nI_lt hi (by omega)), sp_weighed (V := V i) (W := W) (by rw [h2]; exact hS.1) hE4 (by omega) hw hfr hnw ha (fun e he => by rw [h2]; exact hV i hi e he) (fun e he => by rw [h2]; exact hW e he), zp_bs, zp_uL (by omega) (by omega), zp_bs, nI_1]
      · dsimp only
        rw [zw_wL_ne hk]; exact h3 k hk
      · dsimp only
        rw [zp_rL]
        by_cases he : s = i
        · rw [if_pos ⟨rfl, he⟩, he]
        · rw [if_neg (fun q => he q.2)]; exact h4 s (by omega)) (fun t h => by
      obtain ⟨t1, t2⟩ := t
      obtain ⟨h1, h2, h3, h4⟩ := h
      dsimp only at h1 h2 h3 h4
      subst h1
      refine ⟨t2, ?_, h2, h3, h4⟩
      unfold fn_Judge_tallyWeighed_l1
      dsimp only
      rw [h2, hS.2.2.1, if_neg (nI_nlt (Nat.le_refl _) (by omega))]) 0 (0, c) (Nat.zero_le _) ⟨rfl, rfl, fun _ _ => rfl, fun s hs => by omega⟩
  exact ⟨x, by rw [h1, zp_bs], h2⟩
theorem sp_tally {E T N a t : Nat} {pt : Nat → Nat → Nat} {V : Nat → Nat → Int32} {c : zw_Ct} (hT : zr_T E T N pt) (hS : zr_S E T N pt c) (ha : zw_len SH 0 a = some 1820) (hV : zr_V a E N V c) (ht : t < N) : ∃ c2, fn_Judge_tallyWorth c a (nI t) = some c2 ∧ c2.1 = c.1 ∧ (∀ k, k ≠ 12 → c2.2 k = c.2 k) ∧ zr_Y N (fun s => zs_w E pt V s t) c2 := by
  have hN := hT.2.2.2.2.2.1
  have hE4 := hT.2.1
  obtain ⟨c2, h1, h2, h3, h4⟩ := sp_tallyW (W := fun e => nI (pt t e)) (fr := 4 * t) (w := 2) (nw := 1820) hT hS ha hV rfl (by omega) (by omega) (fun e he => hS.2.2.2 t ht e (by omega))
  refine ⟨c2, ?_, h2, h3, fun s hs => ?_⟩
  · unfold fn_Judge_tallyWorth
    rw [nI_4, h1, zp_bs]
  · rw [h4 s hs]
    refine congrArg lI (zs_sum_congr (fun e he => ?_))
    have := hT.2.2.2.2.2.2 t ht e (by omega)
    have h12 := hT.2.2.2.1
    show (nI (pt t e)).toInt * (V s e).toInt = (pt t e : Int) * (V s e).toInt
    rw [nI_toInt (by omega)]
theorem nI_nm1 {n : Nat} (h : n < 2 ^ 31) : ¬ nI n = -1 := fun e => by
  have h1 := congrArg Int32.toInt e
  rw [nI_toInt h] at h1
  have h2 : (-1 : Int32).toInt = -1 := by decide
  rw [h2] at h1
  omega
theorem zs_top_1 (f : Nat → Int) : zs_top f 1 = 0 := by
  show (if f 0 < f 0 then 0 else 0) = 0
  split <;> rfl
theorem sp_top {N : Nat} {f : Nat → Int} {c : zw_Ct} (hN1 : 1 ≤ N) (hN : N ≤ 455) (hS : c.1 1 2 = nI N) (hY : zr_Y N f c) (hb : ∀ s, s < N → zb (f s)) : fn_Tally_topBut c (-1) = some (nI (zs_top f N)) := by
  unfold fn_Tally_topBut
  obtain ⟨x, h1, h2⟩ := zp_up (f := fn_Tally_topBut_l1 c (-1)) (I := fun i t => 1 ≤ i ∧ t = (nI (zs_top f i), nI i)) (P := fun x => x = nI (zs_top f N)) N (by unfold zw_F; omega) (fun i t hi h => by
      obtain ⟨hi1, h⟩ := h
      subst h
      have ht := zs_top_lt f (n := i) (by omega)
      refine Or.inl ⟨_, ?_, by omega, rfl⟩
      unfold fn_Tally_topBut_l1
      dsimp only
      rw [hS, if_pos (nI_lt hi (by omega)), if_pos (nI_nm1 (by omega)), zp_aL (by omega) (by omega), zp_bs, zp_aL (by omega) (by omega), zp_bs, zp_bs, hY i hi, hY _ (by omega)]
      by_cases hc : f (zs_top f i) < f i
      · rw [if_pos (decide_eq_true ((lI_lt (hb _ (by omega)) (hb _ hi)).mpr hc)), zp_bs, nI_1]
        have e : zs_top f (i + 1) = i := by show (if f (zs_top f i) < f i then i else zs_top f i) = i; rw [if_pos hc]
        rw [e]
      · rw [if_neg (fun q => hc ((lI_lt (hb _ (by omega)) (hb _ hi)).mp (of_decide_eq_true q))), zp_bs, nI_1]
        have e : zs_top f (i + 1) = zs_top f i := by show (if f (zs_top f i) < f i then i else zs_top f i) = _; rw [if_neg hc]
        rw [e]) (fun t h => by
      obtain ⟨hi1, h⟩ := h
      subst h
      refine ⟨_, ?_, rfl⟩
      unfold fn_Tally_topBut_l1
      dsimp only
      rw [hS, if_neg (nI_nlt (Nat.le_refl _) (by omega))]) 1 (0, 0 + 1) hN1 ⟨Nat.le_refl _, by rw [zs_top_1]; rfl⟩
  rw [zp_bs, zp_bs, if_neg (by decide), h1, zp_bs, h2]
theorem sp_topBut {N x : Nat} {f : Nat → Int} {c : zw_Ct} (hN2 : 2 ≤ N) (hN : N ≤ 455) (hS : c.1 1 2 = nI N) (hY : zr_Y N f c) (hb : ∀ s, s < N → zb (f s)) (hx : x < N) : ∃ k, fn_Tally_topBut c (nI x) = some (nI k) ∧ k < N ∧ k ≠ x ∧ (∀ i, i < N → i ≠ x → f i ≤ f k) ∧ (∀ i, i < k → i ≠ x → f i < f k) := by
  have run : ∀ a : Nat, (a = 0 ∧ x ≠ 0) ∨ (a = 1 ∧ x = 0) → ∃ k, zw_whl (fn_Tally_topBut_l1 c (nI x)) zw_F (nI a, nI (a + 1)) = some (nI k) ∧ k < N ∧ k ≠ x ∧ (∀ i, i < N → i ≠ x → f i ≤ f k) ∧ (∀ i, i < k → i ≠ x → f i < f k) := by
    intro a ha
    obtain ⟨y, h1, k, h2, h3⟩ := zp_up (f := fn_Tally_topBut_l1 c (nI x)) (I := fun j t => a + 1 ≤ j ∧ ∃ k, t = (nI k, nI j) ∧ k < j ∧ k ≠ x ∧ (∀ i, i < j → i ≠ x → f i ≤ f k) ∧ (∀ i, i < k → i ≠ x → f i < f k)) (P := fun y => ∃ k, y = nI k ∧ k < N ∧ k ≠ x ∧ (∀ i, i < N → i ≠ x → f i ≤ f k) ∧ (∀ i, i < k → i ≠ x → f i < f k)) N (by unfold zw_F; omega) (fun j t hj h => by
      obtain ⟨hj1, k, h, k1, k2, k3, k4⟩ := h
      subst h
      left
      unfold fn_Tally_topBut_l1
      dsimp only
      rw [hS, if_pos (nI_lt hj (by omega))]
      by_cases hjx : j = x
      · rw [if_neg (fun q => q (by rw [hjx])), zp_bs, if_neg (by decide), zp_bs, nI_1]
        exact ⟨_, rfl, by omega, k, rfl, by omega, k2, fun i hi hne => k3 i (by omega) hne, k4⟩
      · rw [if_pos (fun q => hjx ((nI_eq (by omega) (by omega)).mp q)), zp_aL (by omega) (by omega), zp_bs, zp_aL (by omega) (by omega), zp_bs, zp_bs, hY j hj, hY k (by omega)]
        by_cases hc : f k < f j
        · rw [if_pos (decide_eq_true ((lI_lt (hb _ (by omega)) (hb _ hj)).mpr hc)), zp_bs, nI_1]
          refine ⟨_, rfl, by omega, j, rfl, by omega, hjx, fun i hi hne => ?_, fun i hi hne => ?_⟩
          · by_cases e : i = j
            · rw [e]; omega
            · have := k3 i (by omega) hne; omega
          · have := k3 i (by omega) hne; omega
        · rw [if_neg (fun q => hc ((lI_lt (hb _ (by omega)) (hb _ hj)).mp (of_decide_eq_true q))), zp_bs, nI_1]
          refine ⟨_, rfl, by omega, k, rfl, by omega, k2, fun i hi hne => ?_, k4⟩
          by_cases e : i = j
          · rw [e]; omega
          · exact k3 i (by omega) hne) (fun t h => by
      obtain ⟨hj1, k, h, k1, k2, k3, k4⟩ := h
      subst h
      refine ⟨_, ?_, k, rfl, k1, k2, k3, k4⟩
      unfold fn_Tally_topBut_l1
      dsimp only
      rw [hS, if_neg (nI_nlt (Nat.le_refl _) (by omega))]) (a + 1) (nI a, nI (a + 1)) (by omega) ⟨Nat.le_refl _, a, rfl, by omega, by omega, fun i hi hne => by
        have : i = a := by omega
        rw [this]; omega, fun i hi hne => by omega⟩
    exact ⟨k, by rw [h1, h2], h3⟩
  unfold fn_Tally_topBut
  rw [zp_bs, zp_bs]
  by_cases hx0 : x = 0
  · obtain ⟨k, h1, h2⟩ := run 1 (Or.inr ⟨rfl, hx0⟩)
    refine ⟨k, ?_, h2⟩
    rw [hx0] at h1 ⊢
    rw [if_pos (by rfl)]
    have h1' : zw_whl (fn_Tally_topBut_l1 c (nI 0)) zw_F (1, 1 + 1) = some (nI k) := h1
    rw [h1', zp_bs]
  · obtain ⟨k, h1, h2⟩ := run 0 (Or.inl ⟨rfl, hx0⟩)
    refine ⟨k, ?_, h2⟩
    have e0 : ¬ nI x = (0 : Int32) := fun q => hx0 ((nI_eq (b := 0) (by omega) (by omega)).mp q)
    rw [if_neg e0]
    have h1' : zw_whl (fn_Tally_topBut_l1 c (nI x)) zw_F (0, 0 + 1) = some (nI k) := h1
    rw [h1', zp_bs]
theorem sp_greatest {N : Nat} {f : Nat → Int} {c : zw_Ct} (hN1 : 1 ≤ N) (hN : N ≤ 455) (hS : c.1 1 2 = nI N) (hY : zr_Y N f c) (hb : ∀ s, s < N → zb (f s)) : fn_Tally_greatest c = some (lI (f (zs_top f N))) := by
  unfold fn_Tally_greatest fn_Tally_top
  have ht := zs_top_lt f (n := N) hN1
  rw [sp_top hN1 hN hS hY hb, zp_bs, zp_bs, zp_aL (by omega) (by omega), zp_bs, hY _ ht]
theorem sp_howMany {N : Nat} {f : Nat → Int} {c : zw_Ct} {z : Int} (hN : N ≤ 455) (hS : c.1 1 2 = nI N) (hY : zr_Y N f c) (hb : ∀ s, s < N → zb (f s)) (hz : zb z) : fn_Tally_howMany c (lI z) = some (nI (zs_cnt (fun s => decide (f s = z)) N)) := by
  unfold fn_Tally_howMany
  obtain ⟨x, h1, h2⟩ := zp_up (f := fn_Tally_howMany_l1 c (lI z)) (I := fun i t => t = (nI (zs_cnt (fun s => decide (f s = z)) i), nI i)) (P := fun x => x = nI (zs_cnt (fun s => decide (f s = z)) N)) N (by unfold zw_F; omega) (fun i t hi h => by
      subst h
      refine Or.inl ⟨_, ?_, rfl⟩
      unfold fn_Tally_howMany_l1
      dsimp only
      rw [hS, if_pos (nI_lt hi (by omega)), zp_aL (by omega) (by omega), zp_bs, zp_bs, hY i hi, nI_1]
      have e : (nI (zs_cnt (fun s => decide (f s = z)) i) + (if lI (f i) = lI z then (1 : Int32) else 0)) = nI (zs_cnt (fun s => decide (f s = z)) (i + 1)) := by
        show _ = nI (zs_cnt (fun s => decide (f s = z)) i + if decide (f i = z) = true then 1 else 0)
        by_cases hc : f i = z
        · rw [if_pos (by rw [hc]), if_pos (decide_eq_true hc), nI_1]
        · rw [if_neg (fun q => hc ((lI_eq (hb i hi) hz).mp q)), if_neg (fun q => hc (of_decide_eq_true q))]
          exact (Int32.add_zero _)
      rw [e]) (fun t h => by
      subst h
      refine ⟨_, ?_, rfl⟩
      unfold fn_Tally_howMany_l1
      dsimp only
      rw [hS, if_neg (nI_nlt (Nat.le_refl _) (by omega))]) 0 (0, 0) (Nat.zero_le _) rfl
  rw [h1, zp_bs, h2]
theorem sp_great {E T N a t : Nat} {pt : Nat → Nat → Nat} {V : Nat → Nat → Int32} {c : zw_Ct} (hT : zr_T E T N pt) (hS : zr_S E T N pt c) (ha : zw_len SH 0 a = some 1820) (hV : zr_V a E N V c) (ht : t < N) : ∃ c2, fn_Judge_greatestWorth c a (nI t) = some (lI (zs_w E pt V (zs_top (fun s => zs_w E pt V s t) N) t), c2) ∧ c2.1 = c.1 ∧ (∀ k, k ≠ 12 → c2.2 k = c.2 k) ∧ zr_Y N (fun s => zs_w E pt V s t) c2 := by
  obtain ⟨c2, h1, h2, h3, h4⟩ := sp_tally hT hS ha hV ht
  refine ⟨c2, ?_, h2, h3, h4⟩
  unfold fn_Judge_greatestWorth
  rw [h1, zp_bs, sp_greatest (by have := hT.2.2.2.2.1; omega) hT.2.2.2.2.2.1 (by rw [h2]; exact hS.2.2.1) h4 (fun s hs => zs_w_zb hT ht), zp_bs]
/-! the Model's -/
theorem sp_Mworth {E T N s t : Nat} {pt : Nat → Nat → Nat} {V : Nat → Nat → Int32} {c : zw_Ct} (hT : zr_T E T N pt) (hM : zr_M E T N pt c) (hV : zr_V 84 E N V c) (hs : s < N) (ht : t < N) : fn_M_worth c (nI s) (nI t) = some (lI (zs_w E pt V s t)) := by
  have hN := hT.2.2.2.2.2.1
  have hE4 := hT.2.1
  have h12 := hT.2.2.2.1
  unfold fn_M_worth
  obtain ⟨x, h1, h2⟩ := zp_up (f := fn_M_worth_l1 c (nI t) (nI s)) (I := fun i z => z = (lI (zs_w i pt V s t), nI i)) (P := fun x => x = lI (zs_w E pt V s t)) E (by unfold zw_F; omega) (fun i z hi h => by
      subst h
      refine Or.inl ⟨_, ?_, rfl⟩
      have := hT.2.2.2.2.2.2 t ht i (by omega)
      unfold fn_M_worth_l1
      dsimp only
      rw [hM.1, if_pos (nI_lt hi (by omega)), nI_at', zp_aI (by omega) (by omega), zp_bs, nI_at', zp_aI (by omega) (by omega), zp_bs, zp_bs, hM.2.2.2 t ht i (by omega), hV s hs i hi, iL, iL, nI_toInt (by omega), lI_mul, lI_add, nI_1]
      rfl) (fun z h => by
      subst h
      refine ⟨_, ?_, rfl⟩
      unfold fn_M_worth_l1
      dsimp only
      rw [hM.1, if_neg (nI_nlt (Nat.le_refl _) (by omega))]) 0 (0, 0) (Nat.zero_le _) rfl
  rw [h1, h2, zp_bs]
theorem sp_Mbest {E T N t : Nat} {pt : Nat → Nat → Nat} {V : Nat → Nat → Int32} {c : zw_Ct} (hT : zr_T E T N pt) (hM : zr_M E T N pt c) (hV : zr_V 84 E N V c) (ht : t < N) : fn_M_bestWorth c (nI t) = some (lI (zs_w E pt V (zs_top (fun s => zs_w E pt V s t) N) t)) := by
  have hN := hT.2.2.2.2.2.1
  have hN2 := hT.2.2.2.2.1
  unfold fn_M_bestWorth
  have e0 : fn_M_worth c 0 (nI t) = some (lI (zs_w E pt V 0 t)) := sp_Mworth (s := 0) hT hM hV (by omega) ht
  obtain ⟨x, h1, h2⟩ := zp_up (f := fn_M_bestWorth_l1 c (nI t)) (I := fun i z => 1 ≤ i ∧ z = (lI (zs_w E pt V (zs_top (fun s => zs_w E pt V s t) i) t), nI i)) (P := fun x => x = lI (zs_w E pt V (zs_top (fun s => zs_w E pt V s t) N) t)) N (by unfold zw_F; omega) (fun i z hi h => by
      obtain ⟨hi1, h⟩ := h
      subst h
      refine Or.inl ⟨_, ?_, by omega, rfl⟩
      have hk := zs_top_lt (fun s => zs_w E pt V s t) (n := i) (by omega)
      unfold fn_M_bestWorth_l1
      dsimp only
      rw [hM.2.2.1, if_pos (nI_lt hi (by omega)), sp_Mworth hT hM hV hi ht, zp_bs, zp_bs, nI_1]
      have e : (if lI (zs_w E pt V i t) < lI (zs_w E pt V (zs_top (fun s => zs_w E pt V s t) i) t) then lI (zs_w E pt V (zs_top (fun s => zs_w E pt V s t) i) t) else lI (zs_w E pt V i t)) = lI (zs_w E pt V (zs_top (fun s => zs_w E pt V s t) (i + 1)) t) := by
        show _ = lI (zs_w E pt V (if zs_w E pt V (zs_top (fun s => zs_w E pt V s t) i) t < zs_w E pt V i t then i else zs_top (fun s => zs_w E pt V s t) i) t)
        by_cases hc : zs_w E pt V i t < zs_w E pt V (zs_top (fun s => zs_w E pt V s t) i) t
        · rw [if_pos ((lI_lt (zs_w_zb hT ht) (zs_w_zb hT ht)).mpr hc), if_neg (by omega)]
        · rw [if_neg (fun q => hc ((lI_lt (zs_w_zb hT ht) (zs_w_zb hT ht)).mp q))]
          by_cases hd : zs_w E pt V (zs_top (fun s => zs_w E pt V s t) i) t < zs_w E pt V i t
          · rw [if_pos hd]
          · rw [if_neg hd]
            exact congrArg lI (by omega)
      rw [e]) (fun z h => by
      obtain ⟨hi1, h⟩ := h
      subst h
      refine ⟨_, ?_, rfl⟩
      unfold fn_M_bestWorth_l1
      dsimp only
      rw [hM.2.2.1, if_neg (nI_nlt (Nat.le_refl _) (by omega))]) 1 (lI (zs_w E pt V 0 t), 1) (by omega) ⟨Nat.le_refl _, by rw [zs_top_1]; rfl⟩
  rw [e0, zp_bs, h1, h2, zp_bs]
