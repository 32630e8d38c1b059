/-! paid, first, thinks -/
def zj_sa (c : zw_Ct) (k : Nat) : Nat := (c.1 7 k).toNatClampNeg
def zj_ca (c : zw_Ct) (k : Nat) : Nat := (c.1 8 k).toNatClampNeg
theorem zj_book {E T : Nat} {c : zw_Ct} (hTab : zr_Tab E T c) (h : zr_H E T c) : ∃ Q : Nat, Q ≤ 40 ∧ c.1 3 6 = nI Q ∧ c.1 71 33 = nI Q ∧ ∀ k, k < Q → c.1 7 k = nI (zj_sa c k) ∧ c.1 95 k = nI (zj_sa c k) ∧ zj_sa c k < zt_N E T ∧ c.1 8 k = nI (zj_ca c k) ∧ c.1 96 k = nI (zj_ca c k) ∧ zj_ca c k < E ∧ c.1 94 k = c.1 6 k := by
  obtain ⟨-, -, -, q4, q5, -, -, P, Q, -, -, p3, p4, -, p6⟩ := h
  have hN : zt_N E T ≤ 455 := (zt_ok hTab.1).2.1
  have hE4 := hTab.1.2.1
  refine ⟨Q, p4, p3, by rw [← q5]; exact p3, fun k hk => ?_⟩
  obtain ⟨w, s, e, g1, g2, g3, g4, g5, g6⟩ := p6 k hk
  obtain ⟨r1, r2, r3⟩ := q4 k (by omega)
  have es : zj_sa c k = s := by unfold zj_sa; rw [g5, nI_clamp (by omega)]
  have ee : zj_ca c k = e := by unfold zj_ca; rw [g6, nI_clamp (by omega)]
  rw [es, ee]
  exact ⟨g5, by rw [← r2]; exact g5, g2, g6, by rw [← r3]; exact g6, g3, r1.symm⟩
/-- the book in later contents, the class's and the Model's -/
def zj_B1 (E T Q : Nat) (c1 c : zw_Ct) : Prop := zr_Tab E T c ∧ c.1 3 6 = nI Q ∧ ∀ k, k < Q → c.1 7 k = nI (zj_sa c1 k) ∧ zj_sa c1 k < zt_N E T ∧ c.1 8 k = nI (zj_ca c1 k) ∧ zj_ca c1 k < E ∧ c.1 6 k = c1.1 6 k
def zj_B2 (E T Q : Nat) (c1 c : zw_Ct) : Prop := zr_Tab E T c ∧ c.1 71 33 = nI Q ∧ ∀ k, k < Q → c.1 95 k = nI (zj_sa c1 k) ∧ zj_sa c1 k < zt_N E T ∧ c.1 96 k = nI (zj_ca c1 k) ∧ zj_ca c1 k < E ∧ c.1 94 k = c1.1 6 k
theorem zj_books {E T : Nat} {c1 : zw_Ct} (hTab : zr_Tab E T c1) (h : zr_H E T c1) : ∃ Q : Nat, Q ≤ 40 ∧ ∀ c, zr_A c1 c → zj_B1 E T Q c1 c ∧ zj_B2 E T Q c1 c := by
  obtain ⟨Q, h1, h2, h3, h4⟩ := zj_book hTab h
  refine ⟨Q, h1, fun c hA => ⟨⟨hA.tab hTab, by rw [hA.1 3 (by decide) (by decide)]; exact h2, fun k hk => ?_⟩, ⟨hA.tab hTab, by rw [hA.2 33 (by decide)]; exact h3, fun k hk => ?_⟩⟩⟩
  · obtain ⟨g1, g2, g3, g4, g5, g6, g7⟩ := h4 k hk
    exact ⟨by rw [hA.1 7 (by decide) (by decide)]; exact g1, g3, by rw [hA.1 8 (by decide) (by decide)]; exact g4, g6, by rw [hA.1 6 (by decide) (by decide)]⟩
  · obtain ⟨g1, g2, g3, g4, g5, g6, g7⟩ := h4 k hk
    exact ⟨by rw [hA.1 95 (by decide) (by decide)]; exact g2, g3, by rw [hA.1 96 (by decide) (by decide)]; exact g5, g6, by rw [hA.1 94 (by decide) (by decide)]; exact g7⟩
def zj_ev (c1 : zw_Ct) (w : Int32) (k : Nat) : Bool := decide (c1.1 6 k = w)
theorem sp_evenings {E T Q : Nat} {c1 c : zw_Ct} {w : Int32} (hQ : Q ≤ 40) (hB : zj_B1 E T Q c1 c) : fn_Ledger_eveningsOf c w = some (nI (zs_cnt (zj_ev c1 w) Q)) := by
  have h := zp_det (f := fn_Ledger_eveningsOf_l1 c w) (x := nI (zs_cnt (zj_ev c1 w) Q)) (fun i => (nI (zs_cnt (zj_ev c1 w) i), nI i)) Q 0 (Nat.zero_le _) (by unfold zw_F; omega) (fun i _ hi => by
    have e : zs_cnt (zj_ev c1 w) (i + 1) = zs_cnt (zj_ev c1 w) i + if zj_ev c1 w i = true then 1 else 0 := rfl
    unfold fn_Ledger_eveningsOf_l1
    dsimp only
    rw [hB.2.1, if_pos (nI_lt hi (by omega)), zp_aI (by omega) (by omega), zp_bs, zp_bs, (hB.2.2 i hi).2.2.2.2, e]
    by_cases h : c1.1 6 i = w
    · rw [if_pos h, if_pos (show zj_ev c1 w i = true from decide_eq_true h), nI_1, nI_1]
    · rw [if_neg h, if_neg (show ¬ zj_ev c1 w i = true from fun q => h (of_decide_eq_true q)), Int32.add_zero, nI_1]
      rfl) (by
    unfold fn_Ledger_eveningsOf_l1
    dsimp only
    rw [hB.2.1, if_neg (nI_nlt (Nat.le_refl _) (by omega))])
  have h' : zw_whl (fn_Ledger_eveningsOf_l1 c w) zw_F (0, 0) = some (nI (zs_cnt (zj_ev c1 w) Q)) := h
  unfold fn_Ledger_eveningsOf
  rw [h', zp_bs]
theorem sp_Mevenings {E T Q : Nat} {c1 c : zw_Ct} {w : Int32} (hQ : Q ≤ 40) (hB : zj_B2 E T Q c1 c) : fn_M_eveningsOf c w = some (nI (zs_cnt (zj_ev c1 w) Q)) := by
  have h := zp_det (f := fn_M_eveningsOf_l1 c w) (x := nI (zs_cnt (zj_ev c1 w) Q)) (fun i => (nI (zs_cnt (zj_ev c1 w) i), nI i)) Q 0 (Nat.zero_le _) (by unfold zw_F; omega) (fun i _ hi => by
    have e : zs_cnt (zj_ev c1 w) (i + 1) = zs_cnt (zj_ev c1 w) i + if zj_ev c1 w i = true then 1 else 0 := rfl
    unfold fn_M_eveningsOf_l1
    dsimp only
    rw [hB.2.1, if_pos (nI_lt hi (by omega)), zp_aI (by omega) (by omega), zp_bs, zp_bs, (hB.2.2 i hi).2.2.2.2, e]
    by_cases h : c1.1 6 i = w
    · rw [if_pos h, if_pos (show zj_ev c1 w i = true from decide_eq_true h), nI_1, nI_1]
    · rw [if_neg h, if_neg (show ¬ zj_ev c1 w i = true from fun q => h (of_decide_eq_true q)), Int32.add_zero, nI_1]
      rfl) (by
    unfold fn_M_eveningsOf_l1
    dsimp only
    rw [hB.2.1, if_neg (nI_nlt (Nat.le_refl _) (by omega))])
  have h' : zw_whl (fn_M_eveningsOf_l1 c w) zw_F (0, 0) = some (nI (zs_cnt (zj_ev c1 w) Q)) := h
  unfold fn_M_eveningsOf
  rw [h', zp_bs]
/-- what one got, by what was said; and what one would have got by saying s -/
def zj_gt (c1 : zw_Ct) (V : Nat → Nat → Int32) (w : Int32) (k : Nat) : Int := if c1.1 6 k = w then (V (zj_sa c1 k) (zj_ca c1 k)).toInt else 0
def zj_gs (c1 : zw_Ct) (V : Nat → Nat → Int32) (w : Int32) (s k : Nat) : Int := if c1.1 6 k = w then (V s (zj_ca c1 k)).toInt else 0
theorem zj_gt_b {c1 : zw_Ct} {V : Nat → Nat → Int32} {w : Int32} {n : Nat} (hn : n ≤ 40) : -100000000000 ≤ zs_sum (zj_gt c1 V w) n ∧ zs_sum (zj_gt c1 V w) n ≤ 100000000000 := by
  have h := zs_sum_bd (f := zj_gt c1 V w) (B := 2147483648) (n := n) (fun i hi => by
    have := i_bd (V (zj_sa c1 i) (zj_ca c1 i))
    unfold zj_gt
    split <;> omega)
  omega
theorem zj_gs_b {c1 : zw_Ct} {V : Nat → Nat → Int32} {w : Int32} {s n : Nat} (hn : n ≤ 40) : -100000000000 ≤ zs_sum (zj_gs c1 V w s) n ∧ zs_sum (zj_gs c1 V w s) n ≤ 100000000000 := by
  have h := zs_sum_bd (f := zj_gs c1 V w s) (B := 2147483648) (n := n) (fun i hi => by
    have := i_bd (V s (zj_ca c1 i))
    unfold zj_gs
    split <;> omega)
  omega
theorem sp_gotBy {E T Q a : Nat} {c1 c : zw_Ct} {V : Nat → Nat → Int32} {w : Int32} (hQ : Q ≤ 40) (hB : zj_B1 E T Q c1 c) (ha : zw_len SH 0 a = some 1820) (hV : zr_V a E (zt_N E T) V c) : fn_Ledger_gotBy c a w = some (lI (zs_sum (zj_gt c1 V w) Q)) := by
  have hN : zt_N E T ≤ 455 := (zt_ok hB.1.1).2.1
  have hE4 := hB.1.1.2.1
  have h := zp_det (f := fn_Ledger_gotBy_l1 c w a) (x := lI (zs_sum (zj_gt c1 V w) Q)) (fun i => (lI (zs_sum (zj_gt c1 V w) i), nI i)) Q 0 (Nat.zero_le _) (by unfold zw_F; omega) (fun i _ hi => by
    obtain ⟨g1, g2, g3, g4, g5⟩ := hB.2.2 i hi
    have e : zs_sum (zj_gt c1 V w) (i + 1) = zs_sum (zj_gt c1 V w) i + zj_gt c1 V w i := rfl
    unfold fn_Ledger_gotBy_l1
    dsimp only
    rw [hB.2.1, if_pos (nI_lt hi (by omega)), zp_aI (by omega) (by omega), zp_bs, g5, e]
    unfold zj_gt
    by_cases h : c1.1 6 i = w
    · rw [if_pos h, zp_aI (by omega) (by omega), zp_bs, zp_aI (by omega) (by omega), zp_bs, g1, g3, nI_at, zp_dI ha (by omega) (by omega), zp_bs, zp_bs, zp_bs, hV _ g2 _ g4, iL, lI_add, nI_1, if_pos h]
    · rw [if_neg h, zp_bs, nI_1, if_neg h, Int.add_zero]) (by
    unfold fn_Ledger_gotBy_l1
    dsimp only
    rw [hB.2.1, if_neg (nI_nlt (Nat.le_refl _) (by omega))])
  have h' : zw_whl (fn_Ledger_gotBy_l1 c w a) zw_F (0, 0) = some (lI (zs_sum (zj_gt c1 V w) Q)) := h
  unfold fn_Ledger_gotBy
  rw [h', zp_bs]
theorem sp_MgotBy {E T Q : Nat} {c1 c : zw_Ct} {V : Nat → Nat → Int32} {w : Int32} (hQ : Q ≤ 40) (hB : zj_B2 E T Q c1 c) (hV : zr_V 84 E (zt_N E T) V c) : fn_M_gotBy c w (-1) = some (lI (zs_sum (zj_gt c1 V w) Q)) := by
  have hN : zt_N E T ≤ 455 := (zt_ok hB.1.1).2.1
  have hE4 := hB.1.1.2.1
  have h := zp_det (f := fn_M_gotBy_l1 c w (-1)) (x := lI (zs_sum (zj_gt c1 V w) Q)) (fun i => (lI (zs_sum (zj_gt c1 V w) i), nI i)) Q 0 (Nat.zero_le _) (by unfold zw_F; omega) (fun i _ hi => by
    obtain ⟨g1, g2, g3, g4, g5⟩ := hB.2.2 i hi
    have e : zs_sum (zj_gt c1 V w) (i + 1) = zs_sum (zj_gt c1 V w) i + zj_gt c1 V w i := rfl
    unfold fn_M_gotBy_l1
    dsimp only
    rw [hB.2.1, if_pos (nI_lt hi (by omega)), zp_aI (by omega) (by omega), zp_bs, g5, e]
    unfold zj_gt
    by_cases h : c1.1 6 i = w
    · rw [if_pos h, if_pos (show (-1 : Int32) = -1 from rfl), zp_aI (by omega) (by omega), zp_bs, zp_bs, zp_aI (by omega) (by omega), zp_bs, g1, g3, nI_at', zp_aI (by omega) (by omega), zp_bs, zp_bs, zp_bs, hV _ g2 _ g4, iL, lI_add, nI_1, if_pos h]
    · rw [if_neg h, zp_bs, nI_1, if_neg h, Int.add_zero]) (by
    unfold fn_M_gotBy_l1
    dsimp only
    rw [hB.2.1, if_neg (nI_nlt (Nat.le_refl _) (by omega))])
  have h' : zw_whl (fn_M_gotBy_l1 c w (-1)) zw_F (0, 0) = some (lI (zs_sum (zj_gt c1 V w) Q)) := h
  unfold fn_M_gotBy
  rw [h', zp_bs]
theorem sp_MgotBy2 {E T Q s : Nat} {c1 c : zw_Ct} {V : Nat → Nat → Int32} {w : Int32} (hQ : Q ≤ 40) (hB : zj_B2 E T Q c1 c) (hV : zr_V 84 E (zt_N E T) V c) (hs : s < zt_N E T) : fn_M_gotBy c w (nI s) = some (lI (zs_sum (zj_gs c1 V w s) Q)) := by
  have hN : zt_N E T ≤ 455 := (zt_ok hB.1.1).2.1
  have hE4 := hB.1.1.2.1
  have h := zp_det (f := fn_M_gotBy_l1 c w (nI s)) (x := lI (zs_sum (zj_gs c1 V w s) Q)) (fun i => (lI (zs_sum (zj_gs c1 V w s) i), nI i)) Q 0 (Nat.zero_le _) (by unfold zw_F; omega) (fun i _ hi => by
    obtain ⟨g1, g2, g3, g4, g5⟩ := hB.2.2 i hi
    have e : zs_sum (zj_gs c1 V w s) (i + 1) = zs_sum (zj_gs c1 V w s) i + zj_gs c1 V w s i := rfl
    unfold fn_M_gotBy_l1
    dsimp only
    rw [hB.2.1, if_pos (nI_lt hi (by omega)), zp_aI (by omega) (by omega), zp_bs, g5, e]
    unfold zj_gs
    by_cases h : c1.1 6 i = w
    · rw [if_pos h, if_neg (nI_nm1 (by omega)), zp_bs, zp_aI (by omega) (by omega), zp_bs, g3, nI_at', zp_aI (by omega) (by omega), zp_bs, zp_bs, zp_bs, hV _ hs _ g4, iL, lI_add, nI_1, if_pos h]
    · rw [if_neg h, zp_bs, nI_1, if_neg h, Int.add_zero]) (by
    unfold fn_M_gotBy_l1
    dsimp only
    rw [hB.2.1, if_neg (nI_nlt (Nat.le_refl _) (by omega))])
  have h' : zw_whl (fn_M_gotBy_l1 c w (nI s)) zw_F (0, 0) = some (lI (zs_sum (zj_gs c1 V w s) Q)) := h
  unfold fn_M_gotBy
  rw [h', zp_bs]
/-- how often an event came in one's evenings -/
def zj_oc (c1 : zw_Ct) (w : Int32) (e k : Nat) : Bool := decide (c1.1 6 k = w ∧ zj_ca c1 k = e)
theorem zs_sum_one {f g : Nat → Int} {j : Nat} : ∀ n : Nat, zs_sum (fun e => f e + if e = j then g e else 0) n = zs_sum f n + if j < n then g j else 0
  | 0 => by
    show (0 : Int) = 0 + if j < 0 then g j else 0
    rw [if_neg (Nat.not_lt_zero j)]
    rfl
  | n + 1 => by
    show zs_sum (fun e => f e + if e = j then g e else 0) n + (f n + if n = j then g n else 0) = zs_sum f n + f n + if j < n + 1 then g j else 0
    rw [zs_sum_one n]
    by_cases h1 : n = j
    · rw [if_pos h1, if_neg (by omega), if_pos (by omega), h1]; omega
    · rw [if_neg h1]
      by_cases h2 : j < n
      · rw [if_pos h2, if_pos (by omega)]; omega
      · rw [if_neg h2, if_neg (by omega)]; omega
theorem zj_often {E s : Nat} {c1 : zw_Ct} {V : Nat → Nat → Int32} {w : Int32} : ∀ n : Nat, (∀ k, k < n → zj_ca c1 k < E) → zs_sum (zj_gs c1 V w s) n = zs_sum (fun e => ((zs_cnt (zj_oc c1 w e) n : Nat) : Int) * (V s e).toInt) E
  | 0, _ => by
    have : ∀ m : Nat, zs_sum (fun e => ((zs_cnt (zj_oc c1 w e) 0 : Nat) : Int) * (V s e).toInt) m = 0 := by
      intro m
      induction m with
      | zero => rfl
      | succ m ih =>
        show zs_sum (fun e => ((zs_cnt (zj_oc c1 w e) 0 : Nat) : Int) * (V s e).toInt) m + ((0 : Nat) : Int) * (V s m).toInt = 0
        rw [ih, show ((0 : Nat) : Int) = 0 by rfl, Int.zero_mul]
        rfl
    rw [this E]
    rfl
  | n + 1, h => by
    have ih := zj_often (E := E) (s := s) (V := V) (w := w) n (fun k hk => h k (by omega))
    show zs_sum (zj_gs c1 V w s) n + zj_gs c1 V w s n = _
    rw [ih]
    have e : zs_sum (fun e => ((zs_cnt (zj_oc c1 w e) (n + 1) : Nat) : Int) * (V s e).toInt) E = zs_sum (fun e => ((zs_cnt (zj_oc c1 w e) n : Nat) : Int) * (V s e).toInt + if e = zj_ca c1 n then (if c1.1 6 n = w then (V s e).toInt else 0) else 0) E := by
      refine zs_sum_congr (fun e he => ?_)
      show ((zs_cnt (zj_oc c1 w e) n + if zj_oc c1 w e n = true then 1 else 0 : Nat) : Int) * (V s e).toInt = _
      by_cases h1 : c1.1 6 n = w
      · by_cases h2 : zj_ca c1 n = e
        · rw [if_pos (show zj_oc c1 w e n = true from decide_eq_true ⟨h1, h2⟩), if_pos h2.symm, if_pos h1]
          push_cast
          rw [Int.add_mul, Int.one_mul]
        · rw [if_neg (show ¬ zj_oc c1 w e n = true from fun q => h2 (of_decide_eq_true q).2), if_neg (fun q => h2 q.symm), Int.add_zero]
          rfl
      · rw [if_neg (show ¬ zj_oc c1 w e n = true from fun q => h1 (of_decide_eq_true q).1), if_neg h1]
        by_cases h2 : e = zj_ca c1 n
        · rw [if_pos h2, Int.add_zero]; rfl
        · rw [if_neg h2, Int.add_zero]; rfl
    rw [e, zs_sum_one, if_pos (h n (by omega))]
    rfl
theorem sp_fill70 (c : zw_Ct) : ∃ c2, fn_Arrays_fill c 70 0 = some c2 ∧ (∀ k, k ≠ 70 → c2.1 k = c.1 k) ∧ c2.2 = c.2 ∧ ∀ e, e < 4 → c2.1 70 e = 0 := by
  have h70 : zw_len SH 0 70 = some 4 := rfl
  obtain ⟨c2, h1, h2, h3, h4⟩ := zp_detC (f := fn_Arrays_fill_l1 (nI 4) 70 0) (fun i c => (nI i, c)) (fun i x => (∀ k, k ≠ 70 → x.1 k = c.1 k) ∧ x.2 = c.2 ∧ ∀ e, e < i → x.1 70 e = 0) (fun c => (nI 4, c)) 4 0 (Nat.zero_le _) (by unfold zw_F; omega) (fun i x _ hi ⟨q1, q2, q3⟩ => by
    refine ⟨zw_wI x 70 i 0, ?_, fun k hk => by rw [zw_wI_ne hk]; exact q1 k hk, q2, fun e he => ?_⟩
    · unfold fn_Arrays_fill_l1
      dsimp only
      rw [if_pos (nI_lt hi (by omega)), zp_eI h70 hi (by omega), zp_bs, nI_1]
    · by_cases q : e = i
      · rw [q, zw_wI_eq]
      · rw [zw_wI_at q]; exact q3 e (by omega)) (fun x _ => by
    unfold fn_Arrays_fill_l1
    dsimp only
    rw [if_neg (nI_nlt (Nat.le_refl _) (by omega))]) c ⟨fun _ _ => rfl, rfl, fun e he => absurd he (Nat.not_lt_zero e)⟩
  have h1' : zw_whl (fn_Arrays_fill_l1 (nI 4) 70 0) zw_F (0, c) = some (nI 4, c2) := h1
  refine ⟨c2, ?_, h2, h3, h4⟩
  unfold fn_Arrays_fill
  rw [h70, zp_bs, zp_bs, h1', zp_bs]
theorem zo_paid : zq_paid zr_Rel := by
  intro n c hn hRel a w
  unfold fn_P_paid fn_M_paid
  rcases zo_pay hRel a with ⟨h1, h2⟩ | ⟨p, E, T, V, c1, hp, rfl, h1, hR, hRl, hV, hM, hlen, hisP⟩
  · refine ⟨-1, c, zw_wI c 71 9 0, ?_, ?_, zr_thr hRel⟩
    · rw [h1, zp_bs]
      dsimp only
      rw [if_pos (Or.inl rfl)]
    · rw [zp_bs, h2, zp_bs, if_pos (Or.inl (by decide))]
  · have hTab := hRl.2.2.1
    have hT := zt_T hTab.1
    have hN : zt_N E T ≤ 455 := hT.2.2.2.2.2.1
    have hN2 : 2 ≤ zt_N E T := hT.2.2.2.2.1
    have hE4 := hTab.1.2.1
    have hRel1 : zr_Rel n c1 := ⟨hR, E, T, hRl⟩
    obtain ⟨P, hP, h32, h26, hpp⟩ := zj_people hTab hRl.2.2.2.2.1
    obtain ⟨Q, hQ, hB⟩ := zj_books hTab hRl.2.2.2.2.1
    have isOne : ∀ d : zw_Ct, zr_A c1 d → ∀ x, fn_M_isOne d x = fn_Held_hasPerson 3 c1 x := fun d hA x => by rw [zr_isOne (P := P) (by rw [hA.2 26 (by decide)]; exact h26) (by omega), zr_hasP h32]
    rw [h1, zp_bs]
    dsimp only
    by_cases hc : (((some (54 + p) : Option Nat) = none) ∨ (¬ (¬ (fn_Held_hasPerson 3 c1 w) = 0)))
    · have hA9 : zr_A c1 (zw_wI c1 71 9 0) := zr_A.rf.wF (by decide)
      refine ⟨-1, c1, zw_wI c1 71 9 0, by rw [if_pos hc], ?_, zr_thr hRel1⟩
      rw [zp_bs, hisP _ hA9, zp_bs, isOne _ hA9, if_pos]
      rcases hc with h | h
      · cases h
      · exact Or.inr h
    · obtain ⟨f, hf⟩ : ∃ f : Nat → Int, f = fun s => zs_sum (zj_gs c1 V w s) Q := ⟨_, rfl⟩
      have fv : ∀ s, f s = zs_sum (zj_gs c1 V w s) Q := fun s => by rw [hf]
      have zf : ∀ s, zb (f s) := fun s => by have := zj_gs_b (c1 := c1) (V := V) (w := w) (s := s) hQ; rw [fv]; exact ⟨by omega, by omega⟩
      have hca : ∀ k, k < Q → zj_ca c1 k < E := fun k hk => ((hB c1 zr_A.rf).1.2.2 k hk).2.2.2.1
      obtain ⟨c2, a1, a2, a3, a4⟩ := sp_fill70 c1
      have of70 : ∀ x : zw_Ct, (∀ k, k ≠ 70 → x.1 k = c1.1 k) → zr_A c1 x := fun x hx => ⟨fun k k1 _ => hx k (fun e => k1 (by rw [e]; decide)), fun j _ => by rw [hx 71 (by decide)]⟩
      obtain ⟨c3, b1, b2, b3, b4⟩ := zp_detC (f := fn_Ledger_tellPaid_l1 w) (fun i c => (nI i, c)) (fun i x => (∀ k, k ≠ 70 → x.1 k = c1.1 k) ∧ x.2 = c1.2 ∧ ∀ e, e < 4 → x.1 70 e = nI (zs_cnt (zj_oc c1 w e) i)) (fun c => c) Q 0 (Nat.zero_le _) (by unfold zw_F; omega) (fun i x _ hi ⟨q1, q2, q3⟩ => by
        obtain ⟨g1, g2, g3, g4, g5⟩ := (hB x (of70 x q1)).1.2.2 i hi
        have g6 := (hB x (of70 x q1)).1.2.1
        have eo : ∀ e, zs_cnt (zj_oc c1 w e) (i + 1) = zs_cnt (zj_oc c1 w e) i + if zj_oc c1 w e i = true then 1 else 0 := fun _ => rfl
        refine ⟨zw_wI x 70 (zj_ca c1 i) (nI (zs_cnt (zj_oc c1 w (zj_ca c1 i)) (i + 1))), ?_, fun k hk => by rw [zw_wI_ne hk]; exact q1 k hk, q2, fun e he => ?_⟩
        · unfold fn_Ledger_tellPaid_l1
          dsimp only
          rw [g6, if_pos (nI_lt hi (by omega)), zp_aI (a := 8) (by omega) (by omega), zp_bs, g3, zp_aI (a := 70) (by omega) (by omega), zp_bs, q3 _ (by omega), zp_aI (a := 6) (by omega) (by omega), zp_bs, g5, zp_uI (by omega) (by omega), zp_bs, eo, nI_1]
          by_cases h : c1.1 6 i = w
          · rw [if_pos h, if_pos (show zj_oc c1 w (zj_ca c1 i) i = true from decide_eq_true ⟨h, rfl⟩), nI_1]
          · rw [if_neg h, if_neg (show ¬ zj_oc c1 w (zj_ca c1 i) i = true from fun q => h (of_decide_eq_true q).1), Int32.add_zero]
            rfl
        · by_cases q : e = zj_ca c1 i
          · rw [q, zw_wI_eq]
          · rw [zw_wI_at q, eo, if_neg (show ¬ zj_oc c1 w e i = true from fun z => q (of_decide_eq_true z).2.symm)]
            exact q3 e he) (fun x ⟨q1, q2, q3⟩ => by
        unfold fn_Ledger_tellPaid_l1
        dsimp only
        rw [(hB x (of70 x q1)).1.2.1, if_neg (nI_nlt (Nat.le_refl _) (by omega))]) c2 ⟨a2, a3, fun e he => by rw [a4 e he]; rfl⟩
      have b1' : zw_whl (fn_Ledger_tellPaid_l1 w) zw_F (0, c2) = some c3 := b1
      have hA3 := of70 c3 b2
      obtain ⟨c4, g1, g2, g3, g4⟩ := sp_tallyW (W := fun e => nI (zs_cnt (zj_oc c1 w e) Q)) (fr := 0) (w := 70) (nw := 4) hT (hA3.tab hTab).2.1 hlen (hA3.V hp hV) rfl (by omega) (by omega) (fun e he => by rw [Nat.zero_add]; exact b4 e (by omega))
      have g1' : fn_Judge_tallyWeighed c3 (54 + p) 70 0 = some c4 := g1
      have hY : zr_Y (zt_N E T) f c4 := fun s hs => by
        rw [g4 s hs, fv, zj_often Q hca]
        refine congrArg lI (zs_sum_congr (fun e he => ?_))
        have hcl := zs_cnt_le (zj_oc c1 w e) Q
        show (nI (zs_cnt (zj_oc c1 w e) Q)).toInt * (V s e).toInt = _
        rw [nI_toInt (by omega)]
      have hA4 : zr_A c1 c4 := hA3.tr (zr_A.eq g2)
      obtain ⟨k, hk⟩ : ∃ k, k = zs_top f (zt_N E T) := ⟨_, rfl⟩
      have hkN : k < zt_N E T := by rw [hk]; exact zs_top_lt _ (by omega)
      have htop : fn_Tally_top c4 = some (nI k) := by
        unfold fn_Tally_top
        rw [sp_top (by omega) hN (hA4.tab hTab).2.1.2.2.1 hY (fun s _ => zf s), zp_bs, hk]
      obtain ⟨c5, e1, e2, e3, e4⟩ := zr_C.clear2 hA4
      have hg5 := sp_gotBy (w := w) hQ (hB c5 e2.2).1 hlen (e2.2.V hp hV)
      obtain ⟨c6, e5, e6, e7, e8⟩ := e2.add2 (by decide) (lI (zs_sum (zj_gt c1 V w) Q))
      have hx : c6.2 12 k = lI (f k) := by rw [e8 12 (by decide), e4]; exact hY k hkN
      obtain ⟨c7, e9, e10, -, -⟩ := e6.add2 (by simp) (lI (f k))
      obtain ⟨c8, e11, e12, -, -⟩ := e10.add2 (by simp) (nI k).toInt64
      have hev := sp_evenings (w := w) hQ (hB c8 e12.2).1
      have hA89 : zr_A c1 (zw_wI c8 71 9 0) := e12.2.wF (by decide)
      obtain ⟨d1, d2, d3, d4, d5, d6⟩ := zo_laid hTab hM e12.2
      have hD := zr_D.start d4 d5 d6
      have hTd := d4.tab hTab
      have hm := zp_det (f := fn_M_paid_l1 d1 w) (x := nI (zs_top f (zt_N E T))) (fun i => (nI (zs_top f i), nI i)) (zt_N E T) 1 (by omega) (by unfold zw_F; omega) (fun i h0 hi => by
        have hkk := zs_top_lt f (n := i) (by omega)
        unfold fn_M_paid_l1
        dsimp only
        rw [hTd.2.2.2.2.1, if_pos (nI_lt hi (by omega)), sp_MgotBy2 hQ (hB d1 d4).2 d3 hi, zp_bs, sp_MgotBy2 hQ (hB d1 d4).2 d3 (show zs_top f i < zt_N E T by omega), zp_bs, ← fv, ← fv, zs_top_s, nI_1]
        by_cases hq : f (zs_top f i) < f i
        · rw [if_pos ((lI_lt (zf _) (zf _)).mpr hq), zp_bs, if_pos hq]
        · rw [if_neg (fun z => hq ((lI_lt (zf _) (zf _)).mp z)), zp_bs, if_neg hq]) (by
        unfold fn_M_paid_l1
        dsimp only
        rw [hTd.2.2.2.2.1, if_neg (nI_nlt (Nat.le_refl _) (by omega))])
      have hm' : zw_whl (fn_M_paid_l1 d1 w) zw_F (0, 1) = some (nI k) := by
        have e0 : (nI (zs_top f 1), nI 1) = ((0 : Int32), (1 : Int32)) := by rw [zs_top_1]; rfl
        rw [← e0, hk]
        exact hm
      have hV8 : zr_V 84 E (zt_N E T) V (zw_wI d1 71 8 0) := fun s hs e he => by rw [zw_wI_ne (by decide)]; exact d3 s hs e he
      have hg8 := sp_MgotBy (w := w) hQ (hB _ hD.2.1).2 hV8
      obtain ⟨d7, f1, f2, f3⟩ := hD.tell (by decide) (lI (zs_sum (zj_gt c1 V w) Q))
      have hg7 := sp_MgotBy2 (V := V) (w := w) (s := k) hQ (hB _ f2.2.1).2 (fun s hs e he => by rw [f3 84 (by decide)]; exact hV8 s hs e he) hkN
      rw [← fv] at hg7
      obtain ⟨d8, f4, f5, -⟩ := f2.tell (by simp) (lI (f k))
      obtain ⟨d9, f6, f7, -⟩ := f5.tell (by simp) (nI k).toInt64
      have hme := sp_Mevenings (w := w) hQ (hB _ f7.2.1).2
      refine ⟨nI (zs_cnt (zj_ev c1 w) Q), c8, d9, ?_, ?_, f7.fin hRl (by simp) e12.1⟩
      · rw [if_neg hc, zp_bs]
        unfold fn_Ledger_tellPaid
        rw [a1, zp_bs, b1', zp_bs, g1', zp_bs, htop, zp_bs, e1, zp_bs, hg5, zp_bs, e5, zp_bs, zp_aL (by omega) (by omega), zp_bs, hx, e9, zp_bs, e11, zp_bs, hev, zp_bs, zp_bs]
      · rw [zp_bs, hisP _ hA89, zp_bs, isOne _ hA89, if_neg (by
          rintro (h | h)
          · exact h (by decide)
          · exact hc (Or.inr h)), d2, zp_bs, hm', zp_bs, zp_bs, hg8, zp_bs, f1, zp_bs, hg7, zp_bs, f4, zp_bs, f6, zp_bs, hme, zp_bs]
/-! first -/
def zj_bs (g : Nat → Int) (m : Nat → Nat) : Nat → Option Nat
  | 0 => none
  | w + 1 => match zj_bs g m w with
    | none => if m w = 0 then none else some w
    | some b => if m w = 0 ∨ g w * (m b : Int) ≤ g b * (m w : Int) then some b else some w
theorem zj_bs_p {g : Nat → Int} {m : Nat → Nat} : ∀ w b : Nat, zj_bs g m w = some b → b < w ∧ 0 < m b
  | 0, _, h => by cases h
  | w + 1, b, h => by
    unfold zj_bs at h
    cases hq : zj_bs g m w with
    | none =>
      rw [hq] at h
      dsimp only at h
      by_cases h0 : m w = 0
      · rw [if_pos h0] at h; cases h
      · rw [if_neg h0] at h
        have e := Option.some.inj h
        rw [← e]
        exact ⟨by omega, by omega⟩
    | some b' =>
      rw [hq] at h
      dsimp only at h
      obtain ⟨r1, r2⟩ := zj_bs_p w b' hq
      by_cases h0 : m w = 0 ∨ g w * (m b' : Int) ≤ g b' * (m w : Int)
      · rw [if_pos h0] at h
        have e := Option.some.inj h
        rw [← e]
        exact ⟨by omega, r2⟩
      · rw [if_neg h0] at h
        have e := Option.some.inj h
        rw [← e]
        exact ⟨by omega, by omega⟩
def zj_o1 (o : Option Nat) : Int32 := match o with
  | none => -2
  | some b => nI b
def zj_o2 (g : Nat → Int) (o : Option Nat) : Int64 := match o with
  | none => 0
  | some b => lI (g b)
def zj_o3 (m : Nat → Nat) (o : Option Nat) : Int64 := match o with
  | none => 1
  | some b => lI (m b : Int)
theorem zj_mulb {x : Int} {m : Nat} (hx : -100000000000 ≤ x ∧ x ≤ 100000000000) (hm : m ≤ 40) : zb (x * (m : Int)) := by
  have h1 := Int.mul_le_mul_of_nonneg_left hx.1 (show (0 : Int) ≤ (m : Int) by omega)
  have h2 := Int.mul_le_mul_of_nonneg_left hx.2 (show (0 : Int) ≤ (m : Int) by omega)
  rw [Int.mul_comm x]
  constructor <;> omega
theorem nI_nm2 {n : Nat} (h : n < 2 ^ 31) : ¬ nI n = -2 := fun e => by
  have h1 := congrArg Int32.toInt e
  rw [nI_toInt h] at h1
  have h2 : (-2 : Int32).toInt = -2 := by decide
  rw [h2] at h1
  omega
theorem zo_first : zq_first zr_Rel := by
  intro n c hn hRel a
  unfold fn_P_first fn_M_first
  rcases zo_pay hRel a with ⟨h1, h2⟩ | ⟨p, E, T, V, c1, hp, rfl, h1, hR, hRl, hV, hM, hlen, hisP⟩
  · refine ⟨-1, c, zw_wI c 71 9 0, ?_, ?_, zr_thr hRel⟩
    · rw [h1, zp_bs]
      dsimp only
      rw [if_pos rfl, zp_bs]
    · rw [zp_bs, h2, zp_bs, if_pos (by decide)]
  · have hTab := hRl.2.2.1
    obtain ⟨P, hP, h32, h26, hpp⟩ := zj_people hTab hRl.2.2.2.2.1
    obtain ⟨Q, hQ, hB⟩ := zj_books hTab hRl.2.2.2.2.1
    rw [h1, zp_bs]
    dsimp only
    rw [if_neg (show ¬ (some (54 + p) : Option Nat) = none by intro q; cases q), zp_bs]
    obtain ⟨g, hg⟩ : ∃ g : Nat → Int, g = fun w => zs_sum (zj_gt c1 V (nI w)) Q := ⟨_, rfl⟩
    obtain ⟨m, hm⟩ : ∃ m : Nat → Nat, m = fun w => zs_cnt (zj_ev c1 (nI w)) Q := ⟨_, rfl⟩
    have gv : ∀ w, zs_sum (zj_gt c1 V (nI w)) Q = g w := fun w => by rw [hg]
    have mv : ∀ w, zs_cnt (zj_ev c1 (nI w)) Q = m w := fun w => by rw [hm]
    have gb : ∀ w, -100000000000 ≤ g w ∧ g w ≤ 100000000000 := fun w => by rw [← gv]; exact zj_gt_b hQ
    have mb : ∀ w, m w ≤ 40 := fun w => by rw [← mv]; have := zs_cnt_le (zj_ev c1 (nI w)) Q; omega
    have hB1 := (hB c1 zr_A.rf).1
    have hcl := zp_det (f := fn_Ledger_tellFirst_l1 c1 (54 + p)) (x := (zj_o1 (zj_bs g m P), zj_o2 g (zj_bs g m P), zj_o3 m (zj_bs g m P))) (fun i => (zj_o1 (zj_bs g m i), zj_o2 g (zj_bs g m i), zj_o3 m (zj_bs g m i), nI i)) P 0 (Nat.zero_le _) (by unfold zw_F; omega) (fun i _ hi => by
      have hmi := mb i
      have hgi := gb i
      unfold fn_Ledger_tellFirst_l1
      dsimp only
      rw [h32, if_pos (nI_lt hi (by omega)), sp_evenings hQ hB1, zp_bs, zp_bs, sp_gotBy hQ hB1 hlen hV, zp_bs, gv, mv, nL (by omega), nI_1]
      have hs : zj_bs g m (i + 1) = match zj_bs g m i with
        | none => if m i = 0 then none else some i
        | some b => if m i = 0 ∨ g i * (m b : Int) ≤ g b * (m i : Int) then some b else some i := rfl
      rw [hs]
      cases hq : zj_bs g m i with
      | none =>
        dsimp only
        by_cases h0 : m i = 0
        · rw [if_neg (fun z => by have := (lI_pos ⟨by omega, by omega⟩).mp z.1; omega), zp_bs, if_pos h0]
        · rw [if_pos ⟨(lI_pos ⟨by omega, by omega⟩).mpr (by omega), Or.inl rfl⟩, zp_bs, if_neg h0]
          rfl
      | some b =>
        obtain ⟨r1, r2⟩ := zj_bs_p i b hq
        have hmb := mb b
        have hgb := gb b
        have z1 : zb (g b * (m i : Int)) := zj_mulb hgb hmi
        have z2 : zb (g i * (m b : Int)) := zj_mulb hgi hmb
        dsimp only
        have e2 : zj_o2 g (some b) = lI (g b) := rfl
        have e3 : zj_o3 m (some b) = lI (m b : Int) := rfl
        have e1 : zj_o1 (some b) = nI b := rfl
        rw [e1, e2, e3, lI_mul, lI_mul]
        by_cases h0 : m i = 0 ∨ g i * (m b : Int) ≤ g b * (m i : Int)
        · rw [if_neg (fun z => by
            have y1 := (lI_pos ⟨by omega, by omega⟩).mp z.1
            rcases z.2 with y2 | y2
            · exact nI_nm2 (by omega) y2
            · have := (lI_lt z1 z2).mp y2
              rcases h0 with h0 | h0 <;> omega), zp_bs, if_pos h0]
          rfl
        · rw [if_pos ⟨(lI_pos ⟨by omega, by omega⟩).mpr (by omega), Or.inr ((lI_lt z1 z2).mpr (by omega))⟩, zp_bs, if_neg h0]
          rfl) (by
      unfold fn_Ledger_tellFirst_l1
      dsimp only
      rw [h32, if_neg (nI_nlt (Nat.le_refl _) (by omega))])
    have hcl' : zw_whl (fn_Ledger_tellFirst_l1 c1 (54 + p)) zw_F (-2, 0, 1, 0) = some (zj_o1 (zj_bs g m P), zj_o2 g (zj_bs g m P), zj_o3 m (zj_bs g m P)) := hcl
    have mloop : ∀ d1, zr_A c1 d1 → zr_V 84 E (zt_N E T) V d1 → zw_whl (fn_M_first_l1 d1) zw_F (-2, 0) = some (zj_o1 (zj_bs g m P)) := by
      intro d1 hA hVd
      have hB2 := (hB d1 hA).2
      have h := zp_det (f := fn_M_first_l1 d1) (x := zj_o1 (zj_bs g m P)) (fun i => (zj_o1 (zj_bs g m i), nI i)) P 0 (Nat.zero_le _) (by unfold zw_F; omega) (fun i _ hi => by
        have hmi := mb i
        have hgi := gb i
        have hs : zj_bs g m (i + 1) = match zj_bs g m i with
          | none => if m i = 0 then none else some i
          | some b => if m i = 0 ∨ g i * (m b : Int) ≤ g b * (m i : Int) then some b else some i := rfl
        unfold fn_M_first_l1
        dsimp only
        rw [hA.2 26 (by decide), h26, if_pos (nI_lt hi (by omega)), sp_Mevenings hQ hB2, zp_bs, mv, nI_1, hs]
        by_cases h0 : m i = 0
        · rw [if_pos (show nI (m i) = 0 by rw [h0]; rfl)]
          cases hq : zj_bs g m i with
          | none => dsimp only; rw [if_pos h0]
          | some b => dsimp only; rw [if_pos (Or.inl h0)]
        · rw [if_neg (nI_ne0 (by omega) (by omega))]
          cases hq : zj_bs g m i with
          | none =>
            dsimp only
            rw [if_neg (show ¬ (0 : Int32) ≤ zj_o1 none by decide), zp_bs, if_neg (show ¬ false = true by decide), if_neg h0]
            rfl
          | some b =>
            obtain ⟨r1, r2⟩ := zj_bs_p i b hq
            have hmb := mb b
            have hgb := gb b
            have z1 : zb (g b * (m i : Int)) := zj_mulb hgb hmi
            have z2 : zb (g i * (m b : Int)) := zj_mulb hgi hmb
            have e1 : zj_o1 (some b) = nI b := rfl
            dsimp only
            rw [e1, if_pos (nI_pos' (by omega)), sp_MgotBy hQ hB2 hVd, zp_bs, sp_Mevenings hQ hB2, zp_bs, sp_MgotBy hQ hB2 hVd, zp_bs, zp_bs, zp_bs, gv, gv, mv, nL (by omega), nL (by omega), lI_mul, lI_mul]
            by_cases h3 : g i * (m b : Int) ≤ g b * (m i : Int)
            · rw [if_pos (decide_eq_true ((lI_le z2 z1).mpr h3)), if_pos (Or.inr h3)]
              rfl
            · rw [if_neg (fun z => h3 ((lI_le z2 z1).mp (of_decide_eq_true z))), if_neg (fun z => z.elim h0 h3)]
              rfl) (by
        unfold fn_M_first_l1
        dsimp only
        rw [hA.2 26 (by decide), h26, if_neg (nI_nlt (Nat.le_refl _) (by omega))])
      exact h
    cases hq : zj_bs g m P with
    | none =>
      rw [hq] at hcl' mloop
      have hA9 : zr_A c1 (zw_wI c1 71 9 0) := zr_A.rf.wF (by decide)
      obtain ⟨d1, d2, d3, d4, d5, d6, d7⟩ := zo_laidX hTab hM (zr_A.rf (c := c1))
      refine ⟨-2, c1, d1, ?_, ?_, zr_fin0 hR hRl d4 (d5 61 (by decide) (by decide)) d7 (by rw [d6]) (by rw [d6])⟩
      · unfold fn_Ledger_tellFirst
        rw [hcl', zp_bs]
        dsimp only
        rw [if_neg (show ¬ ¬ zj_o1 none = -2 from fun z => z rfl), zp_bs]
        rfl
      · rw [zp_bs, hisP _ hA9, zp_bs, if_neg (by decide), d2, zp_bs, mloop d1 d4 d3, zp_bs, if_pos (show zj_o1 none < 0 by decide)]
    | some b =>
      rw [hq] at hcl' mloop
      obtain ⟨r1, r2⟩ := zj_bs_p P b hq
      have hmb := mb b
      have hgb := gb b
      obtain ⟨q, r, hq1, hq2⟩ := sp_frac (u := g b) (by omega) (by omega) (m := m b) r2 hmb
      obtain ⟨c2, a1, a2, -⟩ := zr_C.clear (c1 := c1) (c3 := c1) zr_A.rf
      obtain ⟨c3, b1, b2, b3, -⟩ := hq1 [] c2 a2.1 (by decide)
      have hA3 : zr_A c1 c3 := a2.2.tr (zr_A.of61 b3)
      have hA39 : zr_A c1 (zw_wI c3 71 9 0) := hA3.wF (by decide)
      obtain ⟨d1, d2, d3, d4, d5, d6⟩ := zo_laid hTab hM hA3
      have hD := zr_D.start d4 d5 d6
      have hV8 : zr_V 84 E (zt_N E T) V (zw_wI d1 71 8 0) := fun s hs e he => by rw [zw_wI_ne (by decide)]; exact d3 s hs e he
      have hB8 := (hB _ hD.2.1).2
      obtain ⟨d7, f1, f2, f3, f5, f4⟩ := hq2 [] (zw_wI d1 71 8 0) hD.1 (by decide)
      have hD7 : zr_D (([] ++ [q]) ++ [r]) c1 c3 d7 := ⟨f2, hD.2.1.tr (zr_A.of71 f3 (fun j hj => f5 j (fun e => hj (by rw [e]; decide)))), (f3 61 (by decide)).trans hD.2.2.1, (f4 62 (by decide)).trans hD.2.2.2⟩
      have e1 : zj_o1 (some b) = nI b := rfl
      refine ⟨nI b, c3, d7, ?_, ?_, hD7.fin hRl (by simp) b2⟩
      · unfold fn_Ledger_tellFirst
        rw [hcl', zp_bs]
        dsimp only
        rw [e1, if_pos (nI_nm2 (by omega)), a1, zp_bs]
        have e2 : fn_Row_addFraction c2 (zj_o2 g (some b)) (zj_o3 m (some b)) = some c3 := b1
        rw [e2, zp_bs, zp_bs, zp_bs]
        rfl
      · rw [zp_bs, hisP _ hA39, zp_bs, if_neg (by decide), d2, zp_bs, mloop d1 d4 d3, zp_bs, e1, if_neg (nI_pos (by omega)), zp_bs, sp_MgotBy hQ hB8 hV8, zp_bs, sp_Mevenings hQ hB8, zp_bs, gv, mv, nL (by omega), f1, zp_bs]
/-! thinks -/
def zj_th (E N : Nat) (pt : Nat → Nat → Nat) (V : Nat → Nat → Int32) (c1 : zw_Ct) (w : Int32) (t k : Nat) : Bool := decide (c1.1 6 k = w ∧ ¬ zs_w E pt V (zj_sa c1 k) t = zs_w E pt V (zs_top (fun s => zs_w E pt V s t) N) t)
def zj_ta (E N : Nat) (pt : Nat → Nat → Nat) (V : Nat → Nat → Int32) (c1 : zw_Ct) (w : Int32) (Q t : Nat) : Bool := !(zj_any (zj_th E N pt V c1 w t) Q)
theorem sp_always {E T Q t : Nat} {c1 c : zw_Ct} {V : Nat → Nat → Int32} {w : Int32} (hQ : Q ≤ 40) (hB : zj_B1 E T Q c1 c) (hY : zr_Y (zt_N E T) (fun s => zs_w E (zt_p E T) V s t) c) (ht : t < zt_N E T) : fn_Ledger_alwaysSaidTop c w = some (if zj_ta E (zt_N E T) (zt_p E T) V c1 w Q t = true then 1 else 0) := by
  have hT := zt_T hB.1.1
  have hN : zt_N E T ≤ 455 := hT.2.2.2.2.2.1
  have hN2 : 2 ≤ zt_N E T := hT.2.2.2.2.1
  unfold fn_Ledger_alwaysSaidTop zj_ta
  rw [sp_greatest (by omega) hN hB.1.2.1.2.2.1 hY (fun s _ => zs_w_zb hT ht), zp_bs]
  have step : ∀ i, i < Q → fn_Ledger_alwaysSaidTop_l1 c w (lI (zs_w E (zt_p E T) V (zs_top (fun s => zs_w E (zt_p E T) V s t) (zt_N E T)) t)) (nI i) = if zj_th E (zt_N E T) (zt_p E T) V c1 w t i = true then some (.inl (.inl 0)) else some (.inr (nI (i + 1))) := fun i hi => by
    obtain ⟨g1, g2, g3, g4, g5⟩ := hB.2.2 i hi
    unfold fn_Ledger_alwaysSaidTop_l1
    rw [hB.2.1, if_pos (nI_lt hi (by omega)), zp_aI (by omega) (by omega), zp_bs, g5, nI_1]
    by_cases h : c1.1 6 i = w
    · rw [if_pos h, zp_aI (by omega) (by omega), zp_bs, g1, zp_aL (by omega) (by omega), zp_bs, zp_bs, show c.2 12 (zj_sa c1 i) = lI (zs_w E (zt_p E T) V (zj_sa c1 i) t) from hY _ g2]
      by_cases h2 : zs_w E (zt_p E T) V (zj_sa c1 i) t = zs_w E (zt_p E T) V (zs_top (fun s => zs_w E (zt_p E T) V s t) (zt_N E T)) t
      · rw [decide_eq_false (show ¬ ¬ lI (zs_w E (zt_p E T) V (zj_sa c1 i) t) = lI (zs_w E (zt_p E T) V (zs_top (fun s => zs_w E (zt_p E T) V s t) (zt_N E T)) t) from fun z => z (congrArg lI h2)), if_neg (show ¬ false = true by decide), if_neg (show ¬ zj_th E (zt_N E T) (zt_p E T) V c1 w t i = true from fun z => (of_decide_eq_true z).2 h2)]
      · rw [decide_eq_true (show ¬ lI (zs_w E (zt_p E T) V (zj_sa c1 i) t) = lI (zs_w E (zt_p E T) V (zs_top (fun s => zs_w E (zt_p E T) V s t) (zt_N E T)) t) from fun z => h2 ((lI_eq (zs_w_zb hT ht) (zs_w_zb hT ht)).mp z)), if_pos (show true = true from rfl), if_pos (show zj_th E (zt_N E T) (zt_p E T) V c1 w t i = true from decide_eq_true ⟨h, h2⟩)]
    · rw [if_neg h, zp_bs, if_neg (show ¬ false = true by decide), if_neg (show ¬ zj_th E (zt_N E T) (zt_p E T) V c1 w t i = true from fun z => h (of_decide_eq_true z).1)]
  rcases zj_fst (zj_th E (zt_N E T) (zt_p E T) V c1 w t) Q with hn | ⟨k, hk, hbk, hfk⟩
  · have h := zp_det (f := fn_Ledger_alwaysSaidTop_l1 c w (lI (zs_w E (zt_p E T) V (zs_top (fun s => zs_w E (zt_p E T) V s t) (zt_N E T)) t))) (x := .inr ()) (fun i => nI i) Q 0 (Nat.zero_le _) (by unfold zw_F; omega) (fun i _ hi => by rw [step i hi, hn i hi, if_neg (by decide)]) (by
      unfold fn_Ledger_alwaysSaidTop_l1
      rw [hB.2.1, if_neg (nI_nlt (Nat.le_refl _) (by omega))])
    have h' : zw_whl (fn_Ledger_alwaysSaidTop_l1 c w (lI (zs_w E (zt_p E T) V (zs_top (fun s => zs_w E (zt_p E T) V s t) (zt_N E T)) t))) zw_F 0 = some (.inr ()) := h
    rw [h', zp_bs, zj_any_no Q hn]
    rfl
  · have h := zp_det (f := fn_Ledger_alwaysSaidTop_l1 c w (lI (zs_w E (zt_p E T) V (zs_top (fun s => zs_w E (zt_p E T) V s t) (zt_N E T)) t))) (x := .inl 0) (fun i => nI i) k 0 (Nat.zero_le _) (by unfold zw_F; omega) (fun i _ hi => by rw [step i (by omega), hfk i hi, if_neg (by decide)]) (by rw [step k hk, hbk, if_pos rfl])
    have h' : zw_whl (fn_Ledger_alwaysSaidTop_l1 c w (lI (zs_w E (zt_p E T) V (zs_top (fun s => zs_w E (zt_p E T) V s t) (zt_N E T)) t))) zw_F 0 = some (.inl 0) := h
    rw [h', zp_bs, zj_any_yes hbk Q hk]
    rfl
theorem sp_Malways {E T Q t : Nat} {c1 d : zw_Ct} {V : Nat → Nat → Int32} {w : Int32} (hQ : Q ≤ 40) (hB : zj_B2 E T Q c1 d) (hV : zr_V 84 E (zt_N E T) V d) (ht : t < zt_N E T) : zw_whl (fn_M_thinks_l2 d w (nI t) (lI (zs_w E (zt_p E T) V (zs_top (fun s => zs_w E (zt_p E T) V s t) (zt_N E T)) t))) zw_F (1, 0) = some (if zj_ta E (zt_N E T) (zt_p E T) V c1 w Q t = true then 1 else 0) := by
  have hT := zt_T hB.1.1
  have h := zp_det (f := fn_M_thinks_l2 d w (nI t) (lI (zs_w E (zt_p E T) V (zs_top (fun s => zs_w E (zt_p E T) V s t) (zt_N E T)) t))) (x := if zj_ta E (zt_N E T) (zt_p E T) V c1 w Q t = true then (1 : Int32) else 0) (fun i => (if zj_ta E (zt_N E T) (zt_p E T) V c1 w i t = true then (1 : Int32) else 0, nI i)) Q 0 (Nat.zero_le _) (by unfold zw_F; omega) (fun i _ hi => by
    obtain ⟨g1, g2, g3, g4, g5⟩ := hB.2.2 i hi
    have hs : zj_ta E (zt_N E T) (zt_p E T) V c1 w (i + 1) t = !(zj_any (zj_th E (zt_N E T) (zt_p E T) V c1 w t) i || zj_th E (zt_N E T) (zt_p E T) V c1 w t i) := rfl
    have h0 : zj_ta E (zt_N E T) (zt_p E T) V c1 w i t = !(zj_any (zj_th E (zt_N E T) (zt_p E T) V c1 w t) i) := rfl
    unfold fn_M_thinks_l2
    dsimp only
    rw [hB.2.1, if_pos (nI_lt hi (by omega)), hs, h0, nI_1]
    cases zj_any (zj_th E (zt_N E T) (zt_p E T) V c1 w t) i with
    | true =>
      rw [if_neg (show ¬ (!true) = true by decide), if_neg (show ¬ ¬ (0 : Int32) = 0 by decide), zp_bs, if_neg (show ¬ false = true by decide), zp_bs, Bool.true_or, if_neg (show ¬ (!true) = true by decide)]
    | false =>
      rw [if_pos (show (!false) = true by decide), if_pos (show ¬ (1 : Int32) = 0 by decide), zp_aI (by omega) (by omega), zp_bs, g5, Bool.false_or]
      by_cases h : c1.1 6 i = w
      · rw [if_neg (fun z => z h), zp_aI (by omega) (by omega), zp_bs, g1, sp_Mworth hT hB.1.2.2 hV g2 ht, zp_bs, zp_bs, zp_bs]
        by_cases h2 : zs_w E (zt_p E T) V (zj_sa c1 i) t = zs_w E (zt_p E T) V (zs_top (fun s => zs_w E (zt_p E T) V s t) (zt_N E T)) t
        · rw [if_pos (decide_eq_true (congrArg lI h2)), show zj_th E (zt_N E T) (zt_p E T) V c1 w t i = false from decide_eq_false (fun z => z.2 h2), if_pos (show (!false) = true by decide)]
        · rw [if_neg (fun z => h2 ((lI_eq (zs_w_zb hT ht) (zs_w_zb hT ht)).mp (of_decide_eq_true z))), show zj_th E (zt_N E T) (zt_p E T) V c1 w t i = true from decide_eq_true ⟨h, h2⟩, if_neg (show ¬ (!true) = true by decide)]
      · rw [if_pos h, zp_bs, if_pos (show true = true from rfl), zp_bs, show zj_th E (zt_N E T) (zt_p E T) V c1 w t i = false from decide_eq_false (fun z => h z.1), if_pos (show (!false) = true by decide)]) (by
    unfold fn_M_thinks_l2
    dsimp only
    rw [hB.2.1, if_neg (nI_nlt (Nat.le_refl _) (by omega))])
  exact h
theorem zo_thinks : zq_thinks zr_Rel := by
  intro n c hn hRel a w
  unfold fn_P_thinks fn_M_thinks
  rcases zo_pay hRel a with ⟨h1, h2⟩ | ⟨p, E, T, V, c1, hp, rfl, h1, hR, hRl, hV, hM, hlen, hisP⟩
  · refine ⟨-1, c, zw_wI c 71 9 0, ?_, ?_, zr_thr hRel⟩
    · rw [h1, zp_bs]
      dsimp only
      rw [if_pos (Or.inl rfl)]
    · rw [zp_bs, h2, zp_bs, if_pos (Or.inl (by decide))]
  · have hTab := hRl.2.2.1
    have hT := zt_T hTab.1
    have hN : zt_N E T ≤ 455 := hT.2.2.2.2.2.1
    have hRel1 : zr_Rel n c1 := ⟨hR, E, T, hRl⟩
    obtain ⟨P, hP, h32, h26, hpp⟩ := zj_people hTab hRl.2.2.2.2.1
    obtain ⟨Q, hQ, hB⟩ := zj_books hTab hRl.2.2.2.2.1
    have isOne : ∀ d : zw_Ct, zr_A c1 d → ∀ x, fn_M_isOne d x = fn_Held_hasPerson 3 c1 x := fun d hA x => by rw [zr_isOne (P := P) (by rw [hA.2 26 (by decide)]; exact h26) (by omega), zr_hasP h32]
    rw [h1, zp_bs]
    dsimp only
    by_cases hc : (((some (54 + p) : Option Nat) = none) ∨ (¬ (¬ (fn_Held_hasPerson 3 c1 w) = 0)))
    · have hA9 : zr_A c1 (zw_wI c1 71 9 0) := zr_A.rf.wF (by decide)
      refine ⟨-1, c1, zw_wI c1 71 9 0, by rw [if_pos hc], ?_, zr_thr hRel1⟩
      rw [zp_bs, hisP _ hA9, zp_bs, isOne _ hA9, if_pos]
      rcases hc with h | h
      · cases h
      · exact Or.inr h
    · obtain ⟨b, hb⟩ : ∃ b : Nat → Bool, b = fun t => zj_ta E (zt_N E T) (zt_p E T) V c1 w Q t := ⟨_, rfl⟩
      have bv : ∀ t, zj_ta E (zt_N E T) (zt_p E T) V c1 w Q t = b t := fun t => by rw [hb]
      have mm := fun t (ht : t ≤ zt_N E T) => zj_could_m b t (by omega)
      obtain ⟨c2, g1, g2, g3⟩ := zp_detC (f := fn_Ledger_tellThoughts_l1 (54 + p) w) (fun i c => ((zj_could b i).1, (zj_could b i).2.1, nI (zj_could b i).2.2, nI i, c)) (fun i x => x.1 = c1.1 ∧ ∀ k, k ≠ 12 → x.2 k = c1.2 k) (fun c => ((zj_could b (zt_N E T)).1, (zj_could b (zt_N E T)).2.1, nI (zj_could b (zt_N E T)).2.2, c)) (zt_N E T) 0 (Nat.zero_le _) (by unfold zw_F; omega) (fun i x _ hi ⟨q1, q2⟩ => by
        have hTx : zr_Tab E T x := (zr_A.eq q1).tab hTab
        obtain ⟨y, e1, e2, e3, e4⟩ := sp_tally hT hTx.2.1 hlen (show zr_V (54 + p) E (zt_N E T) V x by unfold zr_V; rw [q1]; exact hV) hi
        have hAy : zr_A c1 y := zr_A.eq (e2.trans q1)
        obtain ⟨m1, m2⟩ := mm i (by omega)
        refine ⟨y, ?_, e2.trans q1, fun k hk => (e3 k hk).trans (q2 k hk)⟩
        unfold fn_Ledger_tellThoughts_l1
        dsimp only
        rw [hTx.2.1.2.2.1, if_pos (nI_lt hi (by omega)), e1, zp_bs, sp_always hQ (hB y hAy).1 e4 hi, zp_bs, bv, nI_1]
        cases hbi : b i with
        | true =>
          rw [if_pos (show ¬ (if true = true then (1 : Int32) else 0) = 0 by decide), zp_bs, zp_bs, zj_could_1 hbi]
          dsimp only
          rw [nI_1]
          by_cases h3 : (zj_could b i).2.2 = 0
          · rw [if_pos (m2.mpr h3), if_pos h3]
          · rw [if_neg (fun q => h3 (m2.mp q)), if_neg h3]
        | false =>
          rw [if_neg (show ¬ ¬ (if false = true then (1 : Int32) else 0) = 0 by decide), zp_bs, zj_could_0 (by rw [hbi]; decide)]
          dsimp only
          rw [nI_1]) (fun x ⟨q1, q2⟩ => by
        unfold fn_Ledger_tellThoughts_l1
        dsimp only
        rw [show x.1 1 2 = nI (zt_N E T) by rw [q1]; exact hTab.2.1.2.2.1, if_neg (nI_nlt (Nat.le_refl _) (by omega))]) c1 ⟨rfl, fun _ _ => rfl⟩
      have g1' : zw_whl (fn_Ledger_tellThoughts_l1 (54 + p) w) zw_F (-1, -1, 0, 0, c1) = some ((zj_could b (zt_N E T)).1, (zj_could b (zt_N E T)).2.1, nI (zj_could b (zt_N E T)).2.2, c2) := g1
      obtain ⟨m1, m2⟩ := mm (zt_N E T) (Nat.le_refl _)
      obtain ⟨c4, a1, a2⟩ := sp_two (zr_A.eq g2) (zj_could b (zt_N E T)).1 (zj_could b (zt_N E T)).2.1
      have hA49 : zr_A c1 (zw_wI c4 71 9 0) := a2.2.wF (by decide)
      obtain ⟨d1, d2, d3, d4, d5, d6⟩ := zo_laid hTab hM a2.2
      have hD := zr_D.start d4 d5 d6
      have hTd := d4.tab hTab
      have hm := zp_det (f := fn_M_thinks_l1 d1 w) (x := ((zj_could b (zt_N E T)).1, (zj_could b (zt_N E T)).2.1, nI (zj_could b (zt_N E T)).2.2)) (fun i => ((zj_could b i).1, (zj_could b i).2.1, nI (zj_could b i).2.2, nI i)) (zt_N E T) 0 (Nat.zero_le _) (by unfold zw_F; omega) (fun i _ hi => by
        obtain ⟨m1, m2⟩ := mm i (by omega)
        unfold fn_M_thinks_l1
        dsimp only
        rw [hTd.2.2.2.2.1, if_pos (nI_lt hi (by omega)), sp_Mbest hT hTd.2.2 d3 hi, zp_bs, sp_Malways hQ (hB d1 d4).2 d3 hi, zp_bs, bv, nI_1]
        cases hbi : b i with
        | true =>
          rw [if_neg (show ¬ ¬ ¬ (if true = true then (1 : Int32) else 0) = 0 by decide), zp_bs, zj_could_1 hbi]
          dsimp only
          rw [nI_1]
          by_cases h3 : (zj_could b i).2.2 = 0
          · rw [if_pos (show nI (zj_could b i).2.2 = 0 by rw [h3]; rfl), if_pos h3]
          · rw [if_neg (nI_ne0 (by omega) (by omega)), if_neg h3]
        | false =>
          rw [if_pos (show ¬ ¬ (if false = true then (1 : Int32) else 0) = 0 by decide), zj_could_0 (by rw [hbi]; decide)]) (by
        unfold fn_M_thinks_l1
        dsimp only
        rw [hTd.2.2.2.2.1, if_neg (nI_nlt (Nat.le_refl _) (by omega))])
      have hm' : zw_whl (fn_M_thinks_l1 d1 w) zw_F (-1, -1, 0, 0) = some ((zj_could b (zt_N E T)).1, (zj_could b (zt_N E T)).2.1, nI (zj_could b (zt_N E T)).2.2) := hm
      have cls : ((some (54 + p) : Option Nat).bind fun a8 => (fn_Ledger_tellThoughts c1 a8 w).bind fun (r9, c10) => some (r9, c10)) = some (nI (zj_could b (zt_N E T)).2.2, c4) := by
        rw [zp_bs]
        unfold fn_Ledger_tellThoughts
        rw [g1', zp_bs]
        dsimp only
        rw [a1, zp_bs, zp_bs]
      have mod0 : ¬ ((¬ (¬ (1 : Int32) = 0)) ∨ (¬ (¬ (fn_M_isOne (zw_wI c4 71 9 0) w) = 0))) := by
        rw [isOne _ hA49]
        rintro (h | h)
        · exact h (by decide)
        · exact hc (Or.inr h)
      by_cases h3 : (zj_could b (zt_N E T)).2.2 = 0
      · rw [if_pos (m2.mpr h3)] at a2
        refine ⟨_, c4, zw_wI d1 71 8 0, by rw [if_neg hc]; exact cls, ?_, hD.fin hRl (by simp) a2.1⟩
        rw [zp_bs, hisP _ hA49, zp_bs, if_neg mod0, d2, zp_bs, hm', zp_bs]
        dsimp only
        rw [zp_bs, if_neg (by rw [h3]; decide), zp_bs]
      · rw [if_neg (fun q => h3 (m2.mp q))] at a2
        obtain ⟨e1, f1, f2, -⟩ := hD.tell (by decide) (zj_could b (zt_N E T)).1.toInt64
        obtain ⟨e2, f3, f4, -⟩ := f2.tell (by simp) (zj_could b (zt_N E T)).2.1.toInt64
        refine ⟨_, c4, e2, by rw [if_neg hc]; exact cls, ?_, f4.fin hRl (by simp) a2.1⟩
        rw [zp_bs, hisP _ hA49, zp_bs, if_neg mod0, d2, zp_bs, hm', zp_bs]
        dsimp only
        rw [zp_bs, if_pos (show (0 : Int32) < nI (zj_could b (zt_N E T)).2.2 from nI_lt (a := 0) (by omega) (by omega)), f1, zp_bs, f3, zp_bs, zp_bs]
