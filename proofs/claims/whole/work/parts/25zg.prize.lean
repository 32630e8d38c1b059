/-! prize, boast, rest -/
theorem sp_cp {n0 n1 n a0 a1 : Nat} {c : zw_Ct} (h0 : n ≤ n0) (h1 : n ≤ n1) (hn : n < 2 ^ 31) : ∃ c2, zw_cp n0 n1 c a0 0 a1 0 (nI n) = some c2 ∧ (∀ k, k ≠ a1 → c2.1 k = c.1 k) ∧ c2.2 = c.2 ∧ (∀ i, i < n → c2.1 a1 i = c.1 a0 i) ∧ ∀ i, n ≤ i → c2.1 a1 i = c.1 a1 i := by
  have hz : (0 : Int32).toNatClampNeg = 0 := by decide
  refine ⟨zw_cpw c a0 0 a1 0 n, ?_, fun k hk => ?_, rfl, fun i hi => ?_, fun i hi => ?_⟩
  · unfold zw_cp
    rw [nI_clamp hn, hz, if_neg]
    rintro (h | h | h | h | h)
    · exact absurd h (by decide)
    · exact absurd h (by decide)
    · exact nI_pos hn h
    · omega
    · omega
  · show (fun i => if k = a1 then va_cpy (c.1 a0) (c.1 a1) 0 0 n i else c.1 k i) = c.1 k
    funext i
    rw [if_neg hk]
  · show (if a1 = a1 then va_cpy (c.1 a0) (c.1 a1) 0 0 n i else c.1 a1 i) = c.1 a0 i
    rw [if_pos rfl]
    unfold va_cpy
    rw [if_pos ⟨Nat.zero_le _, by omega⟩]
    exact congrArg (c.1 a0) (by omega)
  · show (if a1 = a1 then va_cpy (c.1 a0) (c.1 a1) 0 0 n i else c.1 a1 i) = c.1 a1 i
    rw [if_pos rfl]
    unfold va_cpy
    rw [if_neg (by omega)]
def zj_any (b : Nat → Bool) : Nat → Bool
  | 0 => false
  | n + 1 => zj_any b n || b n
theorem zj_any_no {b : Nat → Bool} : ∀ n : Nat, (∀ j, j < n → b j = false) → zj_any b n = false
  | 0, _ => rfl
  | n + 1, h => by
    show (zj_any b n || b n) = false
    rw [zj_any_no n (fun j hj => h j (by omega)), h n (by omega)]
    rfl
theorem zj_any_yes {b : Nat → Bool} {k : Nat} (hb : b k = true) : ∀ n : Nat, k < n → zj_any b n = true
  | n + 1, h => by
    show (zj_any b n || b n) = true
    by_cases e : k = n
    · rw [← e, hb, Bool.or_true]
    · rw [zj_any_yes hb n (by omega), Bool.true_or]
def zj_g1 (V : Nat → Nat → Int32) (sd : Nat → Nat) (who s e i : Nat) : Bool := decide (i ≠ who ∧ V s e < V (sd i) e)
def zj_g2 (V : Nat → Nat → Int32) (sd : Nat → Nat) (who s e i : Nat) : Bool := decide (i ≠ who ∧ V (sd i) e = V s e)
def zj_shr (V : Nat → Nat → Int32) (P : Nat) (sd : Nat → Nat) (who s e : Nat) : Nat := if zj_any (zj_g1 V sd who s e) P = true then 0 else 60 / (1 + zs_cnt (zj_g2 V sd who s e) P)
def zj_pz (E : Nat) (pt : Nat → Nat → Nat) (V : Nat → Nat → Int32) (P : Nat) (pe sd : Nat → Nat) (who s : Nat) : Nat := zs_sumN (fun e => pt (pe who) e * zj_shr V P sd who s e) E
/-- the class's people and what they say; the Model's -/
def zj_K1 (E T P : Nat) (pe sd : Nat → Nat) (c : zw_Ct) : Prop := zr_S E T (zt_N E T) (zt_p E T) c ∧ c.1 3 2 = nI P ∧ (∀ i, i < P → c.1 5 i = nI (pe i)) ∧ ∀ i, i < P → c.1 66 i = nI (sd i)
def zj_K2 (E T P : Nat) (pe sd : Nat → Nat) (c : zw_Ct) : Prop := zr_M E T (zt_N E T) (zt_p E T) c ∧ c.1 71 26 = nI P ∧ (∀ i, i < P → c.1 89 i = nI (pe i)) ∧ ∀ i, i < P → c.1 90 i = nI (sd i)
theorem sp_dv60 : ∀ k, k < 8 → 0 < k → zw_dvI 60 (nI k) = some (nI (60 / k)) := by decide +kernel
theorem zj_shr_b {V : Nat → Nat → Int32} {P : Nat} {sd : Nat → Nat} {who s e : Nat} : zj_shr V P sd who s e ≤ 60 := by
  unfold zj_shr
  split
  · omega
  · exact Nat.div_le_self _ _
theorem zs_sumN_b {f : Nat → Nat} {B : Nat} : ∀ n : Nat, (∀ i, i < n → f i ≤ B) → zs_sumN f n ≤ n * B
  | 0, _ => Nat.zero_le _
  | n + 1, h => by
    have ih := zs_sumN_b (f := f) n (fun i hi => h i (by omega))
    have := h n (by omega)
    show zs_sumN f n + f n ≤ (n + 1) * B
    rw [Nat.add_mul, Nat.one_mul]
    omega
theorem zj_pz_b {E T P : Nat} {V : Nat → Nat → Int32} {pe sd : Nat → Nat} {who s : Nat} (hET : zt_ET E T) (hw : pe who < zt_N E T) : ∀ n, n ≤ E → zs_sumN (fun e => zt_p E T (pe who) e * zj_shr V P sd who s e) n ≤ 2880 := fun n hn => by
  have hE4 := hET.2.1
  have h12 := hET.2.2.2
  have h := zs_sumN_b (f := fun e => zt_p E T (pe who) e * zj_shr V P sd who s e) (B := 720) n (fun i hi => by
    have h1 := zt_le hET hw (e := i) (by omega)
    have h2 := zj_shr_b (V := V) (P := P) (sd := sd) (who := who) (s := s) (e := i)
    exact Nat.le_trans (Nat.mul_le_mul (show zt_p E T (pe who) i ≤ 12 by omega) h2) (by decide))
  have : n * 720 ≤ 4 * 720 := Nat.mul_le_mul (by omega) (Nat.le_refl _)
  omega
theorem sp_share {E T P a who s e : Nat} {pe sd : Nat → Nat} {V : Nat → Nat → Int32} {c : zw_Ct} (hET : zt_ET E T) (hP : P ≤ 6) (hK : zj_K1 E T P pe sd c) (ha : zw_len SH 0 a = some 1820) (hV : zr_V a E (zt_N E T) V c) (hsd : ∀ i, i < P → sd i < zt_N E T) (hw : who < P) (hs : s < zt_N E T) (he : e < E) : fn_Contest_share c a (nI who) (nI s) (nI e) = some (nI (zj_shr V P sd who s e)) := by
  have hN : zt_N E T ≤ 455 := (zt_ok hET).2.1
  have hE4 := hET.2.1
  have step : ∀ i, i < P → zj_g1 V sd who s e i = false → fn_Contest_share_l1 c a (nI e) (nI who) (V s e) (nI (1 + zs_cnt (zj_g2 V sd who s e) i), nI i) = some (.inr (nI (1 + zs_cnt (zj_g2 V sd who s e) (i + 1)), nI (i + 1))) := fun i hi hg => by
    have hsi := hsd i hi
    have hg' := of_decide_eq_false hg
    have hcs : zs_cnt (zj_g2 V sd who s e) (i + 1) = zs_cnt (zj_g2 V sd who s e) i + if zj_g2 V sd who s e i = true then 1 else 0 := rfl
    unfold fn_Contest_share_l1
    dsimp only
    rw [hK.2.1, if_pos (nI_lt hi (by omega)), zp_aI (by omega) (by omega), zp_bs, hK.2.2.2 i hi, nI_at, zp_dI ha (by omega) (by omega), zp_bs, hV _ hsi e he, if_neg (fun q => hg' ⟨fun z => q.1 (by rw [z]), q.2⟩), nI_1, hcs]
    by_cases h2 : i ≠ who ∧ V (sd i) e = V s e
    · rw [if_pos ⟨fun q => h2.1 ((nI_eq (by omega) (by omega)).mp q), h2.2⟩, zp_bs, if_pos (show zj_g2 V sd who s e i = true from decide_eq_true h2), nI_1]
      rfl
    · rw [if_neg (fun q => h2 ⟨fun z => q.1 (by rw [z]), q.2⟩), zp_bs, if_neg (show ¬ zj_g2 V sd who s e i = true from fun q => h2 (of_decide_eq_true q)), nI_1]
      rfl
  unfold fn_Contest_share
  rw [nI_at, zp_dI ha (by omega) (by omega), zp_bs, hV s hs e he]
  unfold zj_shr
  rcases zj_fst (zj_g1 V sd who s e) P with hn | ⟨k, hk, hbk, hfk⟩
  · have h := zp_det (f := fn_Contest_share_l1 c a (nI e) (nI who) (V s e)) (x := .inr (nI (1 + zs_cnt (zj_g2 V sd who s e) P))) (fun i => (nI (1 + zs_cnt (zj_g2 V sd who s e) i), nI i)) P 0 (Nat.zero_le _) (by unfold zw_F; omega) (fun i _ hi => step i hi (hn i hi)) (by
      unfold fn_Contest_share_l1
      dsimp only
      rw [hK.2.1, if_neg (nI_nlt (Nat.le_refl _) (by omega))])
    have h' : zw_whl (fn_Contest_share_l1 c a (nI e) (nI who) (V s e)) zw_F (1, 0) = some (.inr (nI (1 + zs_cnt (zj_g2 V sd who s e) P))) := h
    have hcl := zs_cnt_le (zj_g2 V sd who s e) P
    rw [h', zp_bs, zj_any_no P hn, if_neg (by decide)]
    dsimp only
    rw [sp_dv60 _ (by omega) (by omega), zp_bs]
  · have hg := of_decide_eq_true hbk
    have hsk := hsd k hk
    have h := zp_det (f := fn_Contest_share_l1 c a (nI e) (nI who) (V s e)) (x := .inl 0) (fun i => (nI (1 + zs_cnt (zj_g2 V sd who s e) i), nI i)) k 0 (Nat.zero_le _) (by unfold zw_F; omega) (fun i _ hi => step i (by omega) (hfk i hi)) (by
      unfold fn_Contest_share_l1
      dsimp only
      rw [hK.2.1, if_pos (nI_lt hk (by omega)), zp_aI (by omega) (by omega), zp_bs, hK.2.2.2 k hk, nI_at, zp_dI ha (by omega) (by omega), zp_bs, hV _ hsk e he, if_pos ⟨fun q => hg.1 ((nI_eq (by omega) (by omega)).mp q), hg.2⟩])
    have h' : zw_whl (fn_Contest_share_l1 c a (nI e) (nI who) (V s e)) zw_F (1, 0) = some (.inl 0) := h
    rw [h', zp_bs, zj_any_yes hbk P hk, if_pos rfl]
    rfl
theorem sp_prizeIf {E T P a who s : Nat} {pe sd : Nat → Nat} {V : Nat → Nat → Int32} {c : zw_Ct} (hET : zt_ET E T) (hP : P ≤ 6) (hK : zj_K1 E T P pe sd c) (ha : zw_len SH 0 a = some 1820) (hV : zr_V a E (zt_N E T) V c) (hsd : ∀ i, i < P → sd i < zt_N E T) (hpe : ∀ i, i < P → pe i < zt_N E T) (hw : who < P) (hs : s < zt_N E T) : fn_Contest_prizeIf c a (nI who) (nI s) = some (nI (zj_pz E (zt_p E T) V P pe sd who s)) := by
  have hT := zt_T hET
  have hE4 := hET.2.1
  have h := zp_det (f := fn_Contest_prizeIf_l1 c (nI who) a (nI s)) (x := nI (zj_pz E (zt_p E T) V P pe sd who s)) (fun i => (nI (zs_sumN (fun e => zt_p E T (pe who) e * zj_shr V P sd who s e) i), nI i)) E 0 (Nat.zero_le _) (by unfold zw_F; omega) (fun i _ hi => by
    unfold fn_Contest_prizeIf_l1
    dsimp only
    rw [hK.1.1, if_pos (nI_lt hi (by omega)), zp_aI (by omega) (by omega), zp_bs, hK.2.2.1 who hw, sp_partOf hT hK.1 (hpe who hw) (by omega), zp_bs, sp_share hET hP hK ha hV hsd hw hs hi, zp_bs, zp_bs, nI_mul, nI_add, nI_1]
    rfl) (by
    unfold fn_Contest_prizeIf_l1
    dsimp only
    rw [hK.1.1, if_neg (nI_nlt (Nat.le_refl _) (by omega))]
    rfl)
  have h' : zw_whl (fn_Contest_prizeIf_l1 c (nI who) a (nI s)) zw_F (0, 0) = some (nI (zj_pz E (zt_p E T) V P pe sd who s)) := h
  unfold fn_Contest_prizeIf
  rw [h', zp_bs]
theorem sp_MprizeOf {E T P who s : Nat} {pe sd : Nat → Nat} {V : Nat → Nat → Int32} {d : zw_Ct} (hET : zt_ET E T) (hP : P ≤ 6) (hK : zj_K2 E T P pe sd d) (hV : zr_V 84 E (zt_N E T) V d) (hsd : ∀ i, i < P → sd i < zt_N E T) (hpe : ∀ i, i < P → pe i < zt_N E T) (hw : who < P) (hs : s < zt_N E T) : fn_M_prizeOf d (nI who) (nI s) = some (lI ((zj_pz E (zt_p E T) V P pe sd who s : Nat) : Int)) := by
  have hT := zt_T hET
  have hE4 := hET.2.1
  have h12 := hET.2.2.2
  have hN : zt_N E T ≤ 455 := (zt_ok hET).2.1
  have inner : ∀ e, e < E → zw_whl (fn_M_prizeOf_l2 d (nI who) (nI e) (V s e)) zw_F (1, 1, 0) = some (if zj_any (zj_g1 V sd who s e) P = true then (0 : Int32) else 1, nI (1 + zs_cnt (zj_g2 V sd who s e) P)) := fun e he => by
    have h := zp_det (f := fn_M_prizeOf_l2 d (nI who) (nI e) (V s e)) (x := (if zj_any (zj_g1 V sd who s e) P = true then (0 : Int32) else 1, nI (1 + zs_cnt (zj_g2 V sd who s e) P))) (fun i => (if zj_any (zj_g1 V sd who s e) i = true then (0 : Int32) else 1, nI (1 + zs_cnt (zj_g2 V sd who s e) i), nI i)) P 0 (Nat.zero_le _) (by unfold zw_F; omega) (fun i _ hi => by
      have hsi := hsd i hi
      have hcs : zs_cnt (zj_g2 V sd who s e) (i + 1) = zs_cnt (zj_g2 V sd who s e) i + if zj_g2 V sd who s e i = true then 1 else 0 := rfl
      have han : zj_any (zj_g1 V sd who s e) (i + 1) = (zj_any (zj_g1 V sd who s e) i || zj_g1 V sd who s e i) := rfl
      unfold fn_M_prizeOf_l2
      dsimp only
      rw [hK.2.1, if_pos (nI_lt hi (by omega)), nI_1, hcs, han]
      by_cases hiw : i = who
      · rw [if_pos (by rw [hiw]), show zj_g1 V sd who s e i = false from decide_eq_false (fun q => q.1 hiw), show zj_g2 V sd who s e i = false from decide_eq_false (fun q => q.1 hiw), Bool.or_false, if_neg (show ¬ false = true by decide)]
        rfl
      · rw [if_neg (fun q => hiw ((nI_eq (by omega) (by omega)).mp q)), zp_aI (by omega) (by omega), zp_bs, hK.2.2.2 i hi, nI_at', zp_aI (by omega) (by omega), zp_bs, zp_bs, zp_bs, hV _ hsi e he]
        have e1 : (if ((¬ (if zj_any (zj_g1 V sd who s e) i = true then (0 : Int32) else 1) = 0) ∧ (V (sd i) e ≤ V s e)) then (1 : Int32) else 0) = if (zj_any (zj_g1 V sd who s e) i || zj_g1 V sd who s e i) = true then (0 : Int32) else 1 := by
          have hlt : zj_g1 V sd who s e i = true ↔ ¬ V (sd i) e ≤ V s e := by
            constructor
            · intro q z
              have := (of_decide_eq_true q).2
              rw [Int32.lt_iff_toInt_lt] at this
              rw [Int32.le_iff_toInt_le] at z
              omega
            · intro q
              refine decide_eq_true ⟨hiw, ?_⟩
              rw [Int32.lt_iff_toInt_lt]
              rw [Int32.le_iff_toInt_le] at q
              omega
          cases hb : zj_any (zj_g1 V sd who s e) i with
          | true => rw [if_pos (show true = true from rfl), if_neg (fun q => q.1 rfl), Bool.true_or, if_pos (show true = true from rfl)]
          | false =>
            rw [if_neg (show ¬ false = true by decide), Bool.false_or]
            by_cases hq : V (sd i) e ≤ V s e
            · rw [if_pos ⟨by decide, hq⟩, if_neg (fun z => hlt.mp z hq)]
            · rw [if_neg (fun z => hq z.2), if_pos (hlt.mpr hq)]
        rw [e1]
        by_cases h2 : V (sd i) e = V s e
        · rw [if_pos h2, if_pos (show zj_g2 V sd who s e i = true from decide_eq_true ⟨hiw, h2⟩), nI_1]
          rfl
        · rw [if_neg h2, if_neg (show ¬ zj_g2 V sd who s e i = true from fun q => h2 (of_decide_eq_true q).2), Int32.add_zero]
          rfl) (by
      unfold fn_M_prizeOf_l2
      dsimp only
      rw [hK.2.1, if_neg (nI_nlt (Nat.le_refl _) (by omega))])
    exact h
  have h := zp_det (f := fn_M_prizeOf_l1 d (nI s) (nI who)) (x := lI ((zj_pz E (zt_p E T) V P pe sd who s : Nat) : Int)) (fun i => (lI ((zs_sumN (fun e => zt_p E T (pe who) e * zj_shr V P sd who s e) i : Nat) : Int), nI i)) E 0 (Nat.zero_le _) (by unfold zw_F; omega) (fun i _ hi => by
    have hpw := hpe who hw
    have hcl := zs_cnt_le (zj_g2 V sd who s i) P
    have hle := zt_le hET hpw (e := i) (by omega)
    have hss : zs_sumN (fun e => zt_p E T (pe who) e * zj_shr V P sd who s e) (i + 1) = zs_sumN (fun e => zt_p E T (pe who) e * zj_shr V P sd who s e) i + zt_p E T (pe who) i * zj_shr V P sd who s i := rfl
    unfold fn_M_prizeOf_l1
    dsimp only
    rw [hK.1.1, if_pos (nI_lt hi (by omega)), nI_at', zp_aI (by omega) (by omega), zp_bs, hV s hs i hi, inner i hi, zp_bs]
    dsimp only
    rw [nI_1, hss]
    by_cases hb : zj_any (zj_g1 V sd who s i) P = true
    · have hz : zj_shr V P sd who s i = 0 := if_pos hb
      rw [if_pos hb, if_neg (fun q => q rfl), zp_bs, hz, Nat.mul_zero]
      rfl
    · have hdv : 60 / (1 + zs_cnt (zj_g2 V sd who s i) P) ≤ 60 := Nat.div_le_self _ _
      have hz : zj_shr V P sd who s i = 60 / (1 + zs_cnt (zj_g2 V sd who s i) P) := if_neg hb
      rw [if_neg hb, if_pos (by decide), hz, zp_aI (by omega) (by omega), zp_bs, hK.2.2.1 who hw, nI_at', zp_aI (by omega) (by omega), zp_bs, sp_dv60 _ (by omega) (by omega), zp_bs, zp_bs, zp_bs, hK.1.2.2.2 _ hpw i (by omega), nL (by omega), nL (by omega), lI_mul, lI_add]
      have : ((zs_sumN (fun e => zt_p E T (pe who) e * zj_shr V P sd who s e) i : Nat) : Int) + ((zt_p E T (pe who) i : Nat) : Int) * ((60 / (1 + zs_cnt (zj_g2 V sd who s i) P) : Nat) : Int) = ((zs_sumN (fun e => zt_p E T (pe who) e * zj_shr V P sd who s e) i + zt_p E T (pe who) i * (60 / (1 + zs_cnt (zj_g2 V sd who s i) P)) : Nat) : Int) := by push_cast; rfl
      exact congrArg (fun z => some (Sum.inr (lI z, nI (i + 1)))) this) (by
    unfold fn_M_prizeOf_l1
    dsimp only
    rw [hK.1.1, if_neg (nI_nlt (Nat.le_refl _) (by omega))]
    rfl)
  have h' : zw_whl (fn_M_prizeOf_l1 d (nI s) (nI who)) zw_F (0, 0) = some (lI ((zj_pz E (zt_p E T) V P pe sd who s : Nat) : Int)) := h
  unfold fn_M_prizeOf
  rw [h', zp_bs]
/-- people as whole numbers -/
def zj_pe (c : zw_Ct) (i : Nat) : Nat := (c.1 5 i).toNatClampNeg
theorem zj_people {E T : Nat} {c : zw_Ct} (hTab : zr_Tab E T c) (h : zr_H E T c) : ∃ P : Nat, P ≤ 6 ∧ c.1 3 2 = nI P ∧ c.1 71 26 = nI P ∧ ∀ i, i < P → c.1 5 i = nI (zj_pe c i) ∧ c.1 89 i = nI (zj_pe c i) ∧ zj_pe c i < zt_N E T := by
  obtain ⟨-, q2, q3, -, -, -, -, P, Q, p1, p2, -, -, p5, -⟩ := h
  have hN : zt_N E T ≤ 455 := (zt_ok hTab.1).2.1
  refine ⟨P, p2, p1, by rw [← q3]; exact p1, fun i hi => ?_⟩
  obtain ⟨t, t1, t2⟩ := p5 i hi
  have e : zj_pe c i = t := by unfold zj_pe; rw [t2, nI_clamp (by omega)]
  rw [e]
  exact ⟨t2, by rw [← q2 i (by omega)]; exact t2, t1⟩
/-- all say the truth, on both sides -/
theorem sp_truths {E T P : Nat} {pe : Nat → Nat} {c1 : zw_Ct} (hTab : zr_Tab E T c1) (hP : P ≤ 6) (h32 : c1.1 3 2 = nI P) (h5 : ∀ i, i < P → c1.1 5 i = nI (pe i)) : ∃ c2, fn_Contest_allSayTheTruth c1 = some c2 ∧ zr_A c1 c2 ∧ c2.2 = c1.2 ∧ c2.1 61 = c1.1 61 ∧ zj_K1 E T P pe pe c2 := by
  obtain ⟨c2, a1, a2, a3, a4, -⟩ := sp_cp (n0 := 6) (n1 := 6) (n := 6) (a0 := 5) (a1 := 66) (c := c1) (Nat.le_refl _) (Nat.le_refl _) (by omega)
  have a1' : zw_cp 6 6 c1 5 0 66 0 6 = some c2 := a1
  have hA : zr_A c1 c2 := ⟨fun k k1 _ => a2 k (fun e => k1 (by rw [e]; decide)), fun j _ => by rw [a2 71 (by decide)]⟩
  refine ⟨c2, ?_, hA, a3, a2 61 (by decide), (hA.tab hTab).2.1, ?_, fun i hi => ?_, fun i hi => ?_⟩
  · unfold fn_Contest_allSayTheTruth
    rw [a1', zp_bs]
  · rw [a2 3 (by decide)]; exact h32
  · rw [a2 5 (by decide)]; exact h5 i hi
  · rw [a4 i (by omega)]; exact h5 i hi
theorem sp_Mtruths {E T P : Nat} {pe : Nat → Nat} {V : Nat → Nat → Int32} {c1 d : zw_Ct} (hTab : zr_Tab E T c1) (hA : zr_A c1 d) (hP : P ≤ 6) (h26 : c1.1 71 26 = nI P) (h89 : ∀ i, i < P → c1.1 89 i = nI (pe i)) (hV : zr_V 84 E (zt_N E T) V d) : ∃ d2, fn_M_allTrue d = some d2 ∧ zr_A c1 d2 ∧ d2.2 = d.2 ∧ d2.1 61 = d.1 61 ∧ d2.1 71 = d.1 71 ∧ zr_V 84 E (zt_N E T) V d2 ∧ zj_K2 E T P pe pe d2 := by
  have f26 : ∀ x : zw_Ct, zr_A c1 x → x.1 71 26 = nI P := fun x hx => by rw [hx.2 26 (by decide)]; exact h26
  have f89 : ∀ x : zw_Ct, zr_A c1 x → ∀ i, i < P → x.1 89 i = nI (pe i) := fun x hx i hi => by rw [hx.1 89 (by decide) (by decide)]; exact h89 i hi
  obtain ⟨d2, g1, g2, g3, g4⟩ := zp_detC (f := fn_M_allTrue_l1) (fun i c => (nI i, c)) (fun i x => (∀ k, k ≠ 90 → x.1 k = d.1 k) ∧ x.2 = d.2 ∧ ∀ j, j < i → x.1 90 j = nI (pe j)) (fun c => c) P 0 (Nat.zero_le _) (by unfold zw_F; omega) (fun i x _ hi ⟨e1, e2, e3⟩ => by
    have hAx : zr_A c1 x := hA.tr ⟨fun k k1 _ => e1 k (fun e => k1 (by rw [e]; decide)), fun j _ => by rw [e1 71 (by decide)]⟩
    refine ⟨zw_wI x 90 i (nI (pe i)), ?_, fun k hk => by rw [zw_wI_ne hk]; exact e1 k hk, e2, fun j hj => ?_⟩
    · unfold fn_M_allTrue_l1
      dsimp only
      rw [f26 x hAx, if_pos (nI_lt hi (by omega)), zp_aI (by omega) (by omega), zp_bs, f89 x hAx i hi, zp_uI (by omega) (by omega), zp_bs, nI_1]
    · by_cases e : j = i
      · rw [e, zw_wI_eq]
      · rw [zw_wI_at e]; exact e3 j (by omega)) (fun x ⟨e1, e2, e3⟩ => by
    have hAx : zr_A c1 x := hA.tr ⟨fun k k1 _ => e1 k (fun e => k1 (by rw [e]; decide)), fun j _ => by rw [e1 71 (by decide)]⟩
    unfold fn_M_allTrue_l1
    dsimp only
    rw [f26 x hAx, if_neg (nI_nlt (Nat.le_refl _) (by omega))]) d ⟨fun _ _ => rfl, rfl, fun j hj => absurd hj (Nat.not_lt_zero j)⟩
  have g1' : zw_whl fn_M_allTrue_l1 zw_F (0, d) = some d2 := g1
  have hA2 : zr_A c1 d2 := hA.tr ⟨fun k k1 _ => g2 k (fun e => k1 (by rw [e]; decide)), fun j _ => by rw [g2 71 (by decide)]⟩
  refine ⟨d2, ?_, hA2, g3, g2 61 (by decide), g2 71 (by decide), fun s hs e he => by rw [g2 84 (by decide)]; exact hV s hs e he, (hA2.tab hTab).2.2, f26 d2 hA2, f89 d2 hA2, g4⟩
  unfold fn_M_allTrue
  rw [g1', zp_bs]
theorem zo_prize : zq_prize zr_Rel := by
  intro n c hn hRel a w s
  unfold fn_P_prize fn_M_prize
  rcases zo_pay hRel a with ⟨h1, h2⟩ | ⟨p, E, T, V, c1, hp, rfl, h1, hR, hRl, hV, hM, hlen, hisP⟩
  · refine ⟨-1, c, zw_wI c 71 9 0, ?_, ?_, zr_thr hRel⟩
    · rw [h1, zp_bs]
      dsimp only
      rw [if_pos (Or.inl (Or.inl rfl))]
    · rw [zp_bs, h2, zp_bs, if_pos (Or.inl (Or.inl (by decide)))]
  · have hTab := hRl.2.2.1
    have hET := hTab.1
    have hN : zt_N E T ≤ 455 := (zt_ok hET).2.1
    have hRel1 : zr_Rel n c1 := ⟨hR, E, T, hRl⟩
    obtain ⟨P, hP, h32, h26, hpp⟩ := zj_people hTab hRl.2.2.2.2.1
    have isOne : ∀ d : zw_Ct, zr_A c1 d → ∀ x, fn_M_isOne d x = fn_Held_hasPerson 3 c1 x := fun d hA x => by rw [zr_isOne (P := P) (by rw [hA.2 26 (by decide)]; exact h26) (by omega), zr_hasP h32]
    rw [h1, zp_bs]
    dsimp only
    by_cases hc : ((((some (54 + p) : Option Nat) = none) ∨ (¬ (¬ (fn_Held_hasPerson 3 c1 w) = 0))) ∨ (¬ (¬ (fn_Sayings_has c1 s) = 0)))
    · have hA9 : zr_A c1 (zw_wI c1 71 9 0) := zr_A.rf.wF (by decide)
      refine ⟨-1, c1, zw_wI c1 71 9 0, by rw [if_pos hc], ?_, zr_thr hRel1⟩
      rw [zp_bs, hisP _ hA9, zp_bs, isOne _ hA9, zr_isSaying (hA9.tab hTab), ← zr_has hTab, if_pos]
      rcases hc with (h | h) | h
      · cases h
      · exact Or.inl (Or.inr h)
      · exact Or.inr h
    · obtain ⟨sj, hsj, rfl⟩ := has_n (zt_N31 hTab.1) (s := s) (fun q => hc (Or.inr (fun z => z (by rw [zr_has hTab]; exact q))))
      obtain ⟨wj, hwj, rfl⟩ := has_n (N := P) (by omega) (s := w) (fun q => hc (Or.inl (Or.inr (fun z => z (by rw [zr_hasP h32]; exact q)))))
      have hpe : ∀ i, i < P → zj_pe c1 i < zt_N E T := fun i hi => (hpp i hi).2.2
      obtain ⟨c2, a1, a2, a3, a4, a5⟩ := sp_truths hTab hP h32 (fun i hi => (hpp i hi).1)
      have hA29 : zr_A c1 (zw_wI c2 71 9 0) := a2.wF (by decide)
      obtain ⟨d1, d2, d3, d4, d5, d6, d7⟩ := zo_laidX hTab hM a2
      obtain ⟨d8, b1, b2, b3, b4, b5, b6, b7⟩ := sp_Mtruths hTab d4 hP h26 (fun i hi => (hpp i hi).2.1) d3
      have hpz := zj_pz_b (V := V) (P := P) (pe := zj_pe c1) (sd := zj_pe c1) (who := wj) (s := sj) hET (hpe wj hwj) E (Nat.le_refl _)
      have hpz' : zj_pz E (zt_p E T) V P (zj_pe c1) (zj_pe c1) wj sj ≤ 2880 := hpz
      refine ⟨nI (zj_pz E (zt_p E T) V P (zj_pe c1) (zj_pe c1) wj sj), c2, d8, ?_, ?_, zr_fin0 hR hRl b2 (b4.trans ((d5 61 (by decide) (by decide)).trans a4)) (by rw [b5, d7, show c2.1 71 8 = c1.1 71 8 by
        have := sp_cp (n0 := 6) (n1 := 6) (n := 6) (a0 := 5) (a1 := 66) (c := c1) (Nat.le_refl _) (Nat.le_refl _) (by omega)
        obtain ⟨c2', z1, z2, -⟩ := this
        have z1' : zw_cp 6 6 c1 5 0 66 0 6 = some c2' := z1
        have : c2 = c2' := by
          unfold fn_Contest_allSayTheTruth at a1
          rw [z1', zp_bs] at a1
          exact (Option.some.inj a1).symm
        rw [this, z2 71 (by decide)]]) (by rw [b3, d6, a3]) (by rw [b3, d6, a3])⟩
      · rw [if_neg hc, zp_bs]
        unfold fn_Contest_prizeFor
        rw [a1, zp_bs, sp_prizeIf hET hP a5 hlen (a2.V hp hV) hpe hpe hwj hsj, zp_bs, zp_bs]
      · rw [zp_bs, hisP _ hA29, zp_bs, isOne _ hA29, zr_isSaying (hA29.tab hTab), ← zr_has hTab, if_neg (by
          rintro ((h | h) | h)
          · exact h (by decide)
          · exact hc (Or.inl (Or.inr h))
          · exact hc (Or.inr h)), d2, zp_bs, b1, zp_bs, sp_MprizeOf hET hP b7 b6 hpe hpe hwj hsj, zp_bs, lI_n32 (by omega)]
