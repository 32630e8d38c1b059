/-! safe, minds -/
theorem L_xor {x y : Int64} (hy : 0 ≤ y.toInt) : (x ^^^ y) < 0 ↔ x.toInt < 0 := by
  rw [Int64.lt_iff_toInt_lt]
  show (x.toBitVec ^^^ y.toBitVec).toInt < (0 : Int64).toInt ↔ x.toBitVec.toInt < 0
  have h0 : (0 : Int64).toInt = 0 := by rfl
  rw [h0]
  have a := BitVec.msb_eq_toInt (x := x.toBitVec ^^^ y.toBitVec)
  have b := BitVec.msb_eq_toInt (x := x.toBitVec)
  have d := BitVec.msb_eq_toInt (x := y.toBitVec)
  have e : decide (y.toBitVec.toInt < 0) = false := decide_eq_false (by show ¬ y.toInt < 0; omega)
  rw [BitVec.msb_xor, d, e, b, Bool.xor_false] at a
  constructor
  · intro h; exact of_decide_eq_true (a.trans (decide_eq_true h))
  · intro h; exact of_decide_eq_true (a.symm.trans (decide_eq_true h))
theorem lI_tdiv {a b : Int} (ha : zb a) (hb : 0 < b) (hb2 : b ≤ 4611686018427387904) : lI a / lI b = lI (a.tdiv b) := by
  have h1 : -4611686018427387904 ≤ a.tdiv b ∧ a.tdiv b ≤ 4611686018427387904 := by
    obtain ⟨a1, a2⟩ := ha
    by_cases h : 0 ≤ a
    · rw [Int.tdiv_eq_ediv_of_nonneg h]
      have h0 : 0 ≤ a / b := Int.ediv_nonneg h (by omega)
      have h1 : a / b ≤ a := Int.ediv_le_self b h
      omega
    · have e : a.tdiv b = -((-a) / b) := by
        rw [← Int.tdiv_eq_ediv_of_nonneg (show 0 ≤ -a by omega), Int.neg_tdiv, Int.neg_neg]
      have h0 : 0 ≤ (-a) / b := Int.ediv_nonneg (by omega) (by omega)
      have h1 : (-a) / b ≤ -a := Int.ediv_le_self b (by omega)
      rw [e]
      omega
  apply Int64.toInt_inj.mp
  rw [Int64.toInt_div, lI_toInt ha, lI_toInt ⟨by omega, hb2⟩, lI_toInt h1]
  exact Int.bmod_eq_of_le (by omega) (by omega)
theorem sp_floor {a : Int} {m : Nat} (ha : -1000000000000 ≤ a ∧ a ≤ 1000000000000) (hm1 : 1 ≤ m) (hm : m ≤ 40) : fn_Math_floorDiv (lI a) (nI m) = some (lI (a / m)) := by
  have zm : zb (m : Int) := ⟨by omega, by omega⟩
  have z0 : zb 0 := ⟨by decide, by decide⟩
  have za : zb a := ⟨by omega, by omega⟩
  have hne : ¬ lI (m : Int) = (0 : Int64) := fun q => by have := (lI_eq (b := 0) zm z0).mp q; omega
  have hx : (lI a ^^^ lI (m : Int)) < 0 ↔ a < 0 := by rw [L_xor (by rw [lI_toInt zm]; omega), lI_toInt za]
  unfold fn_Math_floorDiv fn_Math_floorDivL zw_dvL
  rw [nL (by omega), if_neg hne, zp_bs, lI_tdiv za (by omega) (by omega)]
  have key := Int.tdiv_eq_ediv (a := a) (b := (m : Int))
  have hs : Int.sign (m : Int) = 1 := Int.sign_eq_one_of_pos (by omega)
  rw [hs] at key
  have b1 : -1000000000000 ≤ a / (m : Int) := (Int.le_ediv_iff_mul_le (by omega)).mpr (by
    have := Int.mul_le_mul_of_nonneg_left (show (1 : Int) ≤ m by omega) (show (0 : Int) ≤ 1000000000000 by omega)
    omega)
  have b2 : a / (m : Int) ≤ 1000000000000 := by
    by_cases h : 0 ≤ a
    · have := Int.ediv_le_self (m : Int) h; omega
    · have := Int.ediv_lt_of_lt_mul (a := a) (b := 0) (c := (m : Int)) (by omega) (by omega); omega
  by_cases hd : (0 ≤ a ∨ (m : Int) ∣ a)
  · rw [if_pos hd, Int.add_zero] at key
    rw [key, if_neg, zp_bs]
    rintro ⟨q1, q2⟩
    have hneg := hx.mp q1
    have hdv : (m : Int) ∣ a := hd.elim (fun h => absurd h (by omega)) (fun h => h)
    exact q2 (by rw [lI_mul, Int.ediv_mul_cancel hdv])
  · rw [if_neg hd] at key
    have hneg : a < 0 := by
      rcases Int.lt_or_le a 0 with h | h
      · exact h
      · exact absurd (Or.inl h) hd
    have hnd : ¬ (m : Int) ∣ a := fun h => hd (Or.inr h)
    have hc : (a / (m : Int) + 1) * (m : Int) ≤ a + 40 ∧ -1000000000100 ≤ (a / (m : Int) + 1) * (m : Int) := by
      have q1 := Int.ediv_mul_le a (show (m : Int) ≠ 0 by omega)
      have q2 := Int.lt_ediv_add_one_mul_self a (show 0 < (m : Int) by omega)
      rw [Int.add_mul, Int.one_mul] at q2 ⊢
      omega
    rw [key, if_pos, zp_bs, show (1 : Int64) = lI 1 by rfl, lI_sub]
    · rw [show a / (m : Int) + 1 - 1 = a / (m : Int) by omega]
    · refine ⟨hx.mpr hneg, fun q => ?_⟩
      rw [lI_mul] at q
      have := (lI_eq ⟨by omega, by omega⟩ za).mp q
      exact hnd ⟨a / (m : Int) + 1, by rw [Int.mul_comm]; exact this.symm⟩
/-- the least of a start and of h over all but t -/
def zj_mn (h : Nat → Int) (t : Nat) (b : Int) : Nat → Int
  | 0 => b
  | n + 1 => if n = t then zj_mn h t b n else if h n < zj_mn h t b n then h n else zj_mn h t b n
theorem zj_mn_s (h : Nat → Int) (t : Nat) (b : Int) (n : Nat) : zj_mn h t b (n + 1) = if n = t then zj_mn h t b n else if h n < zj_mn h t b n then h n else zj_mn h t b n := rfl
theorem zj_mn_p {h : Nat → Int} {t : Nat} {b : Int} : ∀ n : Nat, zj_mn h t b n ≤ b ∧ (∀ s, s < n → s ≠ t → zj_mn h t b n ≤ h s) ∧ (zj_mn h t b n = b ∨ ∃ s, s < n ∧ s ≠ t ∧ zj_mn h t b n = h s)
  | 0 => ⟨Int.le_refl _, fun s hs => absurd hs (Nat.not_lt_zero s), Or.inl rfl⟩
  | n + 1 => by
    obtain ⟨h1, h2, h3⟩ := zj_mn_p (h := h) (t := t) (b := b) n
    rw [zj_mn_s]
    by_cases e : n = t
    · rw [if_pos e]
      refine ⟨h1, fun s hs hst => h2 s (by omega) hst, ?_⟩
      rcases h3 with h3 | ⟨s, q1, q2, q3⟩
      · exact Or.inl h3
      · exact Or.inr ⟨s, by omega, q2, q3⟩
    · rw [if_neg e]
      by_cases hc : h n < zj_mn h t b n
      · rw [if_pos hc]
        refine ⟨by omega, fun s hs hst => ?_, Or.inr ⟨n, by omega, e, rfl⟩⟩
        by_cases q : s = n
        · rw [q]; exact Int.le_refl _
        · have := h2 s (by omega) hst; omega
      · rw [if_neg hc]
        refine ⟨h1, fun s hs hst => ?_, ?_⟩
        · by_cases q : s = n
          · rw [q]; omega
          · exact h2 s (by omega) hst
        · rcases h3 with h3 | ⟨s, q1, q2, q3⟩
          · exact Or.inl h3
          · exact Or.inr ⟨s, by omega, q2, q3⟩
theorem zj_mn_k {h : Nat → Int} {t N k : Nat} {b : Int} (hk : k < N) (hkt : k ≠ t) (hm : ∀ s, s < N → s ≠ t → h k ≤ h s) : zj_mn h t b N = if h k < b then h k else b := by
  obtain ⟨h1, h2, h3⟩ := zj_mn_p (h := h) (t := t) (b := b) N
  have h4 := h2 k hk hkt
  rcases h3 with h3 | ⟨s, q1, q2, q3⟩
  · rw [if_neg (by omega)]; exact h3
  · have := hm s q1 q2
    split <;> omega
def zj_sf (q : Nat → Int) : Nat → Int
  | 0 => 9999
  | t + 1 => if q t < zj_sf q t then q t else zj_sf q t
theorem zj_sf_s (q : Nat → Int) (t : Nat) : zj_sf q (t + 1) = if q t < zj_sf q t then q t else zj_sf q t := rfl
theorem zj_sf_b {q : Nat → Int} : ∀ n : Nat, (∀ t, t < n → -1000000000000 ≤ q t) → -1000000000000 ≤ zj_sf q n ∧ zj_sf q n ≤ 9999
  | 0, _ => ⟨by show -1000000000000 ≤ (9999 : Int); omega, Int.le_refl _⟩
  | n + 1, h => by
    have ih := zj_sf_b (q := q) n (fun t ht => h t (by omega))
    have := h n (by omega)
    rw [zj_sf_s]
    split <;> omega
theorem zj_sf_le {q : Nat → Int} : ∀ (n t : Nat), t < n → zj_sf q n ≤ q t
  | n + 1, t, ht => by
    rw [zj_sf_s]
    by_cases e : t = n
    · rw [e]; split <;> omega
    · have := zj_sf_le (q := q) n t (by omega)
      split <;> omega
theorem zj_sf_0 {q : Nat → Int} : ∀ n : Nat, (∀ t, t < n → 0 ≤ q t) → 0 ≤ zj_sf q n
  | 0, _ => by show 0 ≤ (9999 : Int); omega
  | n + 1, h => by
    have ih := zj_sf_0 (q := q) n (fun t ht => h t (by omega))
    have := h n (by omega)
    rw [zj_sf_s]
    split <;> omega
theorem zo_safe : zq_safe zr_Rel := by
  intro n c hn hRel a
  unfold fn_P_safe fn_M_safe
  rcases zo_pay hRel a with ⟨h1, h2⟩ | ⟨p, E, T, V, c1, hp, rfl, h1, hR, hRl, hV, hM, hlen, hisP⟩
  · refine ⟨-1, c, zw_wI c 71 9 0, ?_, ?_, zr_thr hRel⟩
    · rw [h1, zp_bs]
      dsimp only
      rw [if_pos rfl, zp_bs]
    · rw [zp_bs, h2, zp_bs, if_pos (by decide)]
  · have hTab := hRl.2.2.1
    have hT := zt_T hTab.1
    have hN : zt_N E T ≤ 455 := hT.2.2.2.2.2.1
    have hN2 : 2 ≤ zt_N E T := hT.2.2.2.2.1
    have hT1 := hTab.1.2.2.1
    have hT12 := hTab.1.2.2.2
    rw [h1, zp_bs]
    dsimp only
    rw [if_neg (show ¬ (some (54 + p) : Option Nat) = none by intro q; cases q), zp_bs]
    obtain ⟨m, hm⟩ : ∃ m : Nat → Int, m = zj_mo E (zt_N E T) (zt_p E T) V := ⟨_, rfl⟩
    have hmb : ∀ t, t < zt_N E T → -206158430208 ≤ m t ∧ m t ≤ 206158430208 := fun t ht => by rw [hm]; exact zj_mo_z hT ht
    obtain ⟨q, hq⟩ : ∃ q : Nat → Int, q = fun t => (-m t) / (T : Int) := ⟨_, rfl⟩
    have hqv : ∀ t, q t = (-m t) / (T : Int) := fun t => by rw [hq]
    have hqn : ∀ t, m t ≤ 0 → 0 ≤ q t := fun t h => by rw [hqv]; exact Int.ediv_nonneg (by omega) (by omega)
    have hqneg : ∀ t, 0 < m t → q t < 0 := fun t h => by rw [hqv]; exact Int.ediv_lt_of_lt_mul (by omega) (by omega)
    have hqb : ∀ t, t < zt_N E T → -1000000000000 ≤ q t := fun t ht => by
      rw [hqv]
      exact (Int.le_ediv_iff_mul_le (by omega)).mpr (by
        have := Int.mul_le_mul_of_nonneg_left (show (1 : Int) ≤ T by omega) (show (0 : Int) ≤ 1000000000000 by omega)
        have := hmb t ht
        omega)
    have z0 : zb 0 := ⟨by decide, by decide⟩
    -- the class's walk ahead of the first bad one
    have cls : ∀ M, M ≤ zt_N E T → (∀ t, t < M → m t ≤ 0) → ∀ (x : zw_Ct → (Int32 × zw_Ct) ⊕ (Int64 × zw_Ct)), (∀ c', c'.1 = c1.1 → (∀ k, k ≠ 12 → c'.2 k = c1.2 k) → ∃ c'', c''.1 = c1.1 ∧ (∀ k, k ≠ 12 → c''.2 k = c1.2 k) ∧ fn_Lures_greatestSafeGift_l1 (54 + p) (lI (zj_sf q M), nI M, c') = some (.inl (x c''))) → ∃ c2, c2.1 = c1.1 ∧ (∀ k, k ≠ 12 → c2.2 k = c1.2 k) ∧ zw_whl (fn_Lures_greatestSafeGift_l1 (54 + p)) zw_F (9999, 0, c1) = some (x c2) := by
      intro M hMN hno x hx
      obtain ⟨y, y1, c2, y2, y3, y4⟩ := zp_up (f := fn_Lures_greatestSafeGift_l1 (54 + p)) (I := fun i t => ∃ c', t = (lI (zj_sf q i), nI i, c') ∧ c'.1 = c1.1 ∧ ∀ k, k ≠ 12 → c'.2 k = c1.2 k) (P := fun y => ∃ c2, y = x c2 ∧ c2.1 = c1.1 ∧ ∀ k, k ≠ 12 → c2.2 k = c1.2 k) M (by unfold zw_F; omega) (fun i t hi h => by
        obtain ⟨c', rfl, e1, e2⟩ := h
        have hTab' : zr_Tab E T c' := (zr_A.eq e1).tab hTab
        have hiN : i < zt_N E T := by omega
        obtain ⟨c2, g1, g2, g3, g4⟩ := sp_tally hT hTab'.2.1 hlen (show zr_V (54 + p) E (zt_N E T) V c' by unfold zr_V; rw [e1]; exact hV) hiN
        have o1 := (zj_oth_p (V := V) hT hiN).1
        have hS2 : c2.1 1 2 = nI (zt_N E T) := by rw [g2]; exact hTab'.2.1.2.2.1
        have hT2 : c2.1 1 1 = nI T := by rw [g2]; exact hTab'.2.1.2.1
        have eo : zs_w E (zt_p E T) V i i - zs_w E (zt_p E T) V (zj_oth E (zt_N E T) (zt_p E T) V i) i = -m i := by rw [hm]; unfold zj_mo; omega
        have hmi := hmb i hiN
        have hni := hno i hi
        have hsb := zj_sf_b (q := q) i (fun t ht => hqb t (by omega))
        have hqi := hqn i hni
        refine Or.inl ⟨(lI (zj_sf q (i + 1)), nI (i + 1), c2), ?_, c2, rfl, g2.trans e1, fun k hk => (g3 k hk).trans (e2 k hk)⟩
        unfold fn_Lures_greatestSafeGift_l1
        dsimp only
        rw [hTab'.2.1.2.2.1, if_pos (nI_lt hiN (by omega)), g1, zp_bs, zp_aL (by omega) (by omega), zp_bs, sp_oth hT hS2 g4 hiN, zp_bs, zp_aL (by omega) (by omega), zp_bs, zp_bs, g4 i hiN, g4 _ o1, lI_sub, eo, if_neg (fun z => by have := (lI_lt (b := 0) ⟨by omega, by omega⟩ z0).mp z; omega), hT2, nL (by omega)]
        have ec : fn_P_cut (lI (-m i)) (lI (T : Int)) = some (lI (q i)) := by
          unfold fn_P_cut zw_dvL
          have hne : ¬ lI (T : Int) = (0 : Int64) := fun z => by have := (lI_eq (b := 0) ⟨by omega, by omega⟩ z0).mp z; omega
          rw [if_neg hne, if_neg hne, zp_bs, zp_bs, lI_div (by omega) (by omega) (by omega) (by omega), hqv]
        have hqi2 : q i ≤ 1000000000000 := by
          rw [hqv]
          have := Int.ediv_le_self (T : Int) (show 0 ≤ -m i by omega)
          omega
        rw [ec, zp_bs, zp_bs, nI_1, zj_sf_s]
        by_cases hcc : q i < zj_sf q i
        · rw [if_pos ((lI_lt ⟨by omega, by omega⟩ ⟨by omega, by omega⟩).mpr hcc), if_pos hcc]
        · rw [if_neg (fun z => hcc ((lI_lt ⟨by omega, by omega⟩ ⟨by omega, by omega⟩).mp z)), if_neg hcc]) (fun t h => by
        obtain ⟨c', rfl, e1, e2⟩ := h
        obtain ⟨c'', w1, w2, w3⟩ := hx c' e1 e2
        exact ⟨x c'', w3, c'', rfl, w1, w2⟩) 0 (9999, 0, c1) (Nat.zero_le _) ⟨c1, rfl, rfl, fun _ _ => rfl⟩
      exact ⟨c2, y3, y4, by rw [y1, y2]⟩
    -- the Model
    have Mend : ∀ c2 : zw_Ct, c2.1 = c1.1 → (∀ k, k ≠ 12 → c2.2 k = c1.2 k) → ∃ d, ((some (zw_wI c2 71 9 0)).bind fun c3 => (fn_M_isPay c3 (nI p)).bind fun r4 => if (¬ (¬ r4 = 0)) then (some ((-1), c3)) else ((fn_M_layPay c3 (nI p)).bind fun c7 => (zw_whl (fn_M_safe_l1 c7) zw_F (9999, 0)).bind fun bound10 => some ((if (bound10 < 0) then ((-2) : Int32) else bound10.toInt32), c7))) = some (if zj_sf q (zt_N E T) < 0 then -2 else (lI (zj_sf q (zt_N E T))).toInt32, d) ∧ zr_Rel (n + 1) d := by
      intro c2 e1 e2
      have hA2 : zr_A c1 c2 := zr_A.eq e1
      have hA29 : zr_A c1 (zw_wI c2 71 9 0) := hA2.wF (by decide)
      obtain ⟨d1, d2, d3, d4, d5, d6, d7⟩ := zo_laidX hTab hM hA2
      have hTD := d4.tab hTab
      have inner : ∀ (t : Nat), t < zt_N E T → ∀ b : Int, -1000000000000 ≤ b → b ≤ 9999 → zw_whl (fn_M_safe_l2 d1 (nI t)) zw_F (lI b, 0) = some (lI (if q t < b then q t else b)) := by
        intro t ht b hb1 hb2
        obtain ⟨o1, o2, o3, o4⟩ := zj_oth_p (V := V) hT ht
        obtain ⟨h, hh⟩ : ∃ h : Nat → Int, h = fun s => (zs_w E (zt_p E T) V t t - zs_w E (zt_p E T) V s t) / (T : Int) := ⟨_, rfl⟩
        have hhb : ∀ s, -1000000000000 ≤ h s := fun s => by
          have w1 := zs_w_bd (V := V) hT (s := s) ht
          have w2 := zs_w_bd (V := V) hT (s := t) ht
          rw [hh]
          exact (Int.le_ediv_iff_mul_le (by omega)).mpr (by
            have := Int.mul_le_mul_of_nonneg_left (show (1 : Int) ≤ T by omega) (show (0 : Int) ≤ 1000000000000 by omega)
            omega)
        have hho : h (zj_oth E (zt_N E T) (zt_p E T) V t) = q t := by
          rw [hh, hqv, hm]
          unfold zj_mo
          exact congrArg (fun z => z / (T : Int)) (by omega)
        have hmin : ∀ s, s < zt_N E T → s ≠ t → h (zj_oth E (zt_N E T) (zt_p E T) V t) ≤ h s := fun s hs hst => by
          have := o3 s hs hst
          rw [hh]
          exact Int.ediv_le_ediv (by omega) (by omega)
        have hmnb : ∀ i, i ≤ zt_N E T → -1000000000000 ≤ zj_mn h t b i := fun i _ => by
          obtain ⟨_, _, h3⟩ := zj_mn_p (h := h) (t := t) (b := b) i
          rcases h3 with h3 | ⟨s, _, _, q3⟩
          · rw [h3]; exact hb1
          · rw [q3]; exact hhb s
        have hmnu : ∀ i, zj_mn h t b i ≤ 9999 := fun i => by have := (zj_mn_p (h := h) (t := t) (b := b) i).1; omega
        have hl := zp_det (f := fn_M_safe_l2 d1 (nI t)) (x := lI (zj_mn h t b (zt_N E T))) (fun i => (lI (zj_mn h t b i), nI i)) (zt_N E T) 0 (Nat.zero_le _) (by unfold zw_F; omega) (fun i _ hi => by
          unfold fn_M_safe_l2
          dsimp only
          rw [hTD.2.2.2.2.1, if_pos (nI_lt hi (by omega)), zj_mn_s, nI_1]
          by_cases e : i = t
          · rw [if_neg (fun z => z (by rw [e])), zp_bs, if_pos e]
          · have w1 := zs_w_bd (V := V) hT (s := i) ht
            have w2 := zs_w_bd (V := V) hT (s := t) ht
            have hii : (zs_w E (zt_p E T) V t t - zs_w E (zt_p E T) V i t) / (T : Int) = h i := by rw [hh]
            have hib := hhb i
            have hiu : h i ≤ 1000000000000 := by
              rw [← hii]
              by_cases h0 : 0 ≤ zs_w E (zt_p E T) V t t - zs_w E (zt_p E T) V i t
              · have := Int.ediv_le_self (T : Int) h0; omega
              · have := Int.ediv_lt_of_lt_mul (a := zs_w E (zt_p E T) V t t - zs_w E (zt_p E T) V i t) (b := 0) (c := (T : Int)) (by omega) (by omega); omega
            have hb3 := hmnb i (by omega)
            have hb4 := hmnu i
            rw [if_pos (fun z => e ((nI_eq (by omega) (by omega)).mp z)), sp_Mworth hT hTD.2.2 d3 ht ht, zp_bs, sp_Mworth hT hTD.2.2 d3 hi ht, zp_bs, lI_sub, hTD.2.2.2.1, sp_floor (by omega) hT1 (by omega), zp_bs, zp_bs, zp_bs, hii, if_neg e]
            by_cases hcc : h i < zj_mn h t b i
            · rw [if_pos ((lI_lt ⟨by omega, by omega⟩ ⟨by omega, by omega⟩).mpr hcc), if_pos hcc]
            · rw [if_neg (fun z => hcc ((lI_lt ⟨by omega, by omega⟩ ⟨by omega, by omega⟩).mp z)), if_neg hcc]) (by
          unfold fn_M_safe_l2
          dsimp only
          rw [hTD.2.2.2.2.1, if_neg (nI_nlt (Nat.le_refl _) (by omega))])
        rw [zj_mn_k o1 o2 hmin, hho] at hl
        exact hl
      have hl := zp_det (f := fn_M_safe_l1 d1) (x := lI (zj_sf q (zt_N E T))) (fun i => (lI (zj_sf q i), nI i)) (zt_N E T) 0 (Nat.zero_le _) (by unfold zw_F; omega) (fun i _ hi => by
        have hsb := zj_sf_b (q := q) i (fun t ht => hqb t (by omega))
        unfold fn_M_safe_l1
        dsimp only
        rw [hTD.2.2.2.2.1, if_pos (nI_lt hi (by omega)), inner i hi _ hsb.1 hsb.2, zp_bs, zj_sf_s, nI_1]) (by
        unfold fn_M_safe_l1
        dsimp only
        rw [hTD.2.2.2.2.1, if_neg (nI_nlt (Nat.le_refl _) (by omega))])
      have hl' : zw_whl (fn_M_safe_l1 d1) zw_F (9999, 0) = some (lI (zj_sf q (zt_N E T))) := hl
      have hsb := zj_sf_b (q := q) (zt_N E T) hqb
      refine ⟨d1, ?_, zr_fin0 hR hRl d4 ((d5 61 (by decide) (by decide)).trans (by rw [e1])) (d7.trans (by rw [e1])) (by rw [d6]; exact e2 62 (by decide)) (by rw [d6]; exact e2 75 (by decide))⟩
      rw [zp_bs, hisP _ hA29, zp_bs, if_neg (by decide), d2, zp_bs, hl', zp_bs]
      by_cases hs : zj_sf q (zt_N E T) < 0
      · rw [if_pos ((lI_negI ⟨by omega, by omega⟩).mpr hs), if_pos hs]
      · rw [if_neg (fun z => hs ((lI_negI ⟨by omega, by omega⟩).mp z)), if_neg hs]
    rcases zj_fst (fun t => decide (0 < m t)) (zt_N E T) with hnb | ⟨k, hk, hbk, hfk⟩
    · have hno : ∀ t, t < zt_N E T → m t ≤ 0 := fun t ht => by have := of_decide_eq_false (hnb t ht); omega
      obtain ⟨c2, e1, e2, e3⟩ := cls (zt_N E T) (Nat.le_refl _) hno (fun c' => .inr (lI (zj_sf q (zt_N E T)), c')) (fun c' w1 w2 => ⟨c', w1, w2, by
        unfold fn_Lures_greatestSafeGift_l1
        dsimp only
        rw [show c'.1 1 2 = nI (zt_N E T) by rw [w1]; exact hTab.2.1.2.2.1, if_neg (nI_nlt (Nat.le_refl _) (by omega))]⟩)
      obtain ⟨d, f1, f2⟩ := Mend c2 e1 e2
      have := zj_sf_0 (q := q) (zt_N E T) (fun t ht => hqn t (hno t ht))
      refine ⟨(lI (zj_sf q (zt_N E T))).toInt32, c2, d, ?_, ?_, f2⟩
      · unfold fn_Lures_greatestSafeGift
        rw [e3, zp_bs]
        rfl
      · rw [if_neg (by omega)] at f1; exact f1
    · have hmk : 0 < m k := of_decide_eq_true hbk
      have hno : ∀ t, t < k → m t ≤ 0 := fun t ht => by have := of_decide_eq_false (hfk t ht); omega
      obtain ⟨c2, e1, e2, e3⟩ := cls k (by omega) hno (fun c' => .inl (-2, c')) (fun c' w1 w2 => by
        have hTab' : zr_Tab E T c' := (zr_A.eq w1).tab hTab
        obtain ⟨c3, g1, g2, g3, g4⟩ := sp_tally hT hTab'.2.1 hlen (show zr_V (54 + p) E (zt_N E T) V c' by unfold zr_V; rw [w1]; exact hV) hk
        have o1 := (zj_oth_p (V := V) hT hk).1
        have hS2 : c3.1 1 2 = nI (zt_N E T) := by rw [g2]; exact hTab'.2.1.2.2.1
        have eo : zs_w E (zt_p E T) V k k - zs_w E (zt_p E T) V (zj_oth E (zt_N E T) (zt_p E T) V k) k = -m k := by rw [hm]; unfold zj_mo; omega
        have hmi := hmb k hk
        refine ⟨c3, g2.trans w1, fun j hj => (g3 j hj).trans (w2 j hj), ?_⟩
        unfold fn_Lures_greatestSafeGift_l1
        dsimp only
        rw [hTab'.2.1.2.2.1, if_pos (nI_lt hk (by omega)), g1, zp_bs, zp_aL (by omega) (by omega), zp_bs, sp_oth hT hS2 g4 hk, zp_bs, zp_aL (by omega) (by omega), zp_bs, zp_bs, g4 k hk, g4 _ o1, lI_sub, eo, if_pos ((lI_negI ⟨by omega, by omega⟩).mpr (by omega))])
      obtain ⟨d, f1, f2⟩ := Mend c2 e1 e2
      have h1 := zj_sf_le (q := q) (zt_N E T) k hk
      have h2 := hqneg k hmk
      refine ⟨-2, c2, d, ?_, ?_, f2⟩
      · unfold fn_Lures_greatestSafeGift
        rw [e3, zp_bs]
        rfl
      · rw [if_pos (by omega)] at f1; exact f1
