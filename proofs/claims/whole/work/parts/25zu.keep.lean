/-! right -/
def zj_r0 (E T : Nat) (c1 : zw_Ct) (w : Int32) (e p i : Nat) : Bool := decide (c1.1 6 i = w ∧ zt_p E T (zj_sa c1 i) e = p)
def zj_r1 (E T : Nat) (c1 : zw_Ct) (w : Int32) (e p i : Nat) : Bool := decide ((c1.1 6 i = w ∧ zt_p E T (zj_sa c1 i) e = p) ∧ zj_ca c1 i = e)
theorem sp_saidSo {E T Q e p : Nat} {b : Bool} {c1 c : zw_Ct} {w : Int32} (hQ : Q ≤ 40) (hB : zj_B1 E T Q c1 c) (he : e < E) (hp : p ≤ 12) : fn_Ledger_saidSo c w (nI e) (nI p) (if b = true then 1 else 0) = some (nI (zs_cnt (if b = true then zj_r1 E T c1 w e p else zj_r0 E T c1 w e p) Q)) := by
  have hT := zt_T hB.1.1
  have hE4 := hB.1.1.2.1
  have hT12 := hB.1.1.2.2.2
  obtain ⟨f, hf⟩ : ∃ f, f = (if b = true then zj_r1 E T c1 w e p else zj_r0 E T c1 w e p) := ⟨_, rfl⟩
  rw [← hf]
  have h := zp_det (f := fn_Ledger_saidSo_l1 c w (nI e) (nI p) (if b = true then 1 else 0)) (x := nI (zs_cnt f Q)) (fun i => (nI (zs_cnt f i), nI i)) Q 0 (Nat.zero_le _) (by unfold zw_F; omega) (fun i _ hi => by
    obtain ⟨g1, g2, g3, g4, g5⟩ := hB.2.2 i hi
    have hs : zs_cnt f (i + 1) = zs_cnt f i + if f i = true then 1 else 0 := rfl
    have hle := zt_le hB.1.1 g2 (e := e) (by omega)
    unfold fn_Ledger_saidSo_l1
    dsimp only
    rw [hB.2.1, if_pos (nI_lt hi (by omega)), zp_aI (by omega) (by omega), zp_bs, g5, hs, nI_1]
    by_cases h1 : c1.1 6 i = w
    · rw [if_pos h1, zp_aI (by omega) (by omega), zp_bs, g1, sp_partOf hT hB.1.2.1 g2 (by omega), zp_bs, zp_bs]
      by_cases h2 : zt_p E T (zj_sa c1 i) e = p
      · rw [decide_eq_true (show nI (zt_p E T (zj_sa c1 i) e) = nI p by rw [h2]), if_pos (show true = true from rfl), zp_bs, if_pos (show ¬ (1 : Int32) = 0 by decide)]
        cases b with
        | false =>
          have ef : f i = true := by rw [hf]; exact decide_eq_true ⟨h1, h2⟩
          rw [if_pos (show ¬ ¬ (if false = true then (1 : Int32) else 0) = 0 by decide), zp_bs, if_pos (show true = true from rfl), zp_bs, zp_bs, ef, if_pos (show true = true from rfl), nI_1]
        | true =>
          rw [if_neg (show ¬ ¬ ¬ (if true = true then (1 : Int32) else 0) = 0 by decide), zp_aI (by omega) (by omega), zp_bs, g3, zp_bs]
          by_cases h3 : zj_ca c1 i = e
          · have ef : f i = true := by rw [hf]; exact decide_eq_true ⟨⟨h1, h2⟩, h3⟩
            rw [decide_eq_true (show nI (zj_ca c1 i) = nI e by rw [h3]), if_pos (show true = true from rfl), zp_bs, zp_bs, ef, if_pos (show true = true from rfl), nI_1]
          · have ef : f i = false := by rw [hf]; exact decide_eq_false (fun z => h3 z.2)
            rw [decide_eq_false (show ¬ nI (zj_ca c1 i) = nI e from fun z => h3 ((nI_eq (by omega) (by omega)).mp z)), if_neg (show ¬ false = true by decide), zp_bs, zp_bs, ef, if_neg (show ¬ false = true by decide), Int32.add_zero]
            rfl
      · have ef : f i = false := by
          rw [hf]
          cases b with
          | false => exact decide_eq_false (fun z => h2 z.2)
          | true => exact decide_eq_false (fun z => h2 z.1.2)
        rw [decide_eq_false (show ¬ nI (zt_p E T (zj_sa c1 i) e) = nI p from fun z => h2 ((nI_eq (by omega) (by omega)).mp z)), if_neg (show ¬ false = true by decide), zp_bs, if_neg (show ¬ ¬ (0 : Int32) = 0 by decide), zp_bs, if_neg (show ¬ false = true by decide), zp_bs, zp_bs, ef, if_neg (show ¬ false = true by decide), Int32.add_zero]
        rfl
    · have ef : f i = false := by
        rw [hf]
        cases b with
        | false => exact decide_eq_false (fun z => h1 z.1)
        | true => exact decide_eq_false (fun z => h1 z.1.1)
      rw [if_neg h1, zp_bs, if_neg (show ¬ false = true by decide), zp_bs, if_neg (show ¬ ¬ (0 : Int32) = 0 by decide), zp_bs, if_neg (show ¬ false = true by decide), zp_bs, zp_bs, ef, if_neg (show ¬ false = true by decide), Int32.add_zero]
      rfl) (by
    unfold fn_Ledger_saidSo_l1
    dsimp only
    rw [hB.2.1, if_neg (nI_nlt (Nat.le_refl _) (by omega))])
  have h' : zw_whl (fn_Ledger_saidSo_l1 c w (nI e) (nI p) (if b = true then 1 else 0)) zw_F (0, 0) = some (nI (zs_cnt f Q)) := h
  unfold fn_Ledger_saidSo
  rw [h', zp_bs]
theorem sp_countOf {E T Q e p : Nat} {c1 d : zw_Ct} {w : Int32} (hQ : Q ≤ 40) (hB : ∀ c, zr_A c1 c → zj_B2 E T Q c1 c) (hA : zr_A c1 d) (he : e < E) (hp : p ≤ 12) : ∃ d2, fn_M_countOf d w (nI e) (nI p) = some (nI (zs_cnt (zj_r0 E T c1 w e p) Q), d2) ∧ d2.1 71 37 = nI (zs_cnt (zj_r1 E T c1 w e p) Q) ∧ (∀ k, k ≠ 71 → d2.1 k = d.1 k) ∧ (∀ j, j ≠ 37 → d2.1 71 j = d.1 71 j) ∧ d2.2 = d.2 := by
  have fr : ∀ x : zw_Ct, (∀ k, k ≠ 71 → x.1 k = d.1 k) → (∀ j, j ≠ 37 → x.1 71 j = d.1 71 j) → zr_A c1 x := fun x h1 h2 => hA.tr (zr_A.of71 h1 (fun j hj => h2 j (fun q => hj (by rw [q]; decide))))
  obtain ⟨d2, a1, a2, a3, a4, a5⟩ := zp_detC (f := fn_M_countOf_l1 w (nI e) (nI p)) (fun i c => (nI (zs_cnt (zj_r0 E T c1 w e p) i), nI i, c)) (fun i x => x.1 71 37 = nI (zs_cnt (zj_r1 E T c1 w e p) i) ∧ (∀ k, k ≠ 71 → x.1 k = d.1 k) ∧ (∀ j, j ≠ 37 → x.1 71 j = d.1 71 j) ∧ x.2 = d.2) (fun c => (nI (zs_cnt (zj_r0 E T c1 w e p) Q), c)) Q 0 (Nat.zero_le _) (by unfold zw_F; omega) (fun i x _ hi ⟨q1, q2, q3, q4⟩ => by
    have hBx := hB x (fr x q2 q3)
    have hT12 := hBx.1.1.2.2.2
    have hE4 := hBx.1.1.2.1
    have hN : zt_N E T ≤ 455 := (zt_ok hBx.1.1).2.1
    obtain ⟨g1, g2, g3, g4, g5⟩ := hBx.2.2 i hi
    have hs0 : zs_cnt (zj_r0 E T c1 w e p) (i + 1) = zs_cnt (zj_r0 E T c1 w e p) i + if zj_r0 E T c1 w e p i = true then 1 else 0 := rfl
    have hs1 : zs_cnt (zj_r1 E T c1 w e p) (i + 1) = zs_cnt (zj_r1 E T c1 w e p) i + if zj_r1 E T c1 w e p i = true then 1 else 0 := rfl
    have hle := zt_le hBx.1.1 g2 (e := e) (by omega)
    by_cases h1 : c1.1 6 i = w
    · by_cases h2 : zt_p E T (zj_sa c1 i) e = p
      · refine ⟨zw_wI x 71 37 (nI (zs_cnt (zj_r1 E T c1 w e p) (i + 1))), ?_, zw_wI_eq, fun k hk => by rw [zw_wI_ne hk]; exact q2 k hk, fun j hj => by rw [zw_wI_at hj]; exact q3 j hj, q4⟩
        unfold fn_M_countOf_l1
        dsimp only
        rw [hBx.2.1, if_pos (nI_lt hi (by omega)), zp_aI (by omega) (by omega), zp_bs, g5, if_neg (fun z => z h1), zp_aI (by omega) (by omega), zp_bs, g1, nI_at', zp_aI (by omega) (by omega), zp_bs, hBx.1.2.2.2.2.2 _ g2 e (by omega), if_neg (fun z => z (by rw [h2])), zp_aI (by omega) (by omega), zp_bs, g3, zp_bs, q1, hs0, if_pos (show zj_r0 E T c1 w e p i = true from decide_eq_true ⟨h1, h2⟩), hs1, nI_1, nI_1]
        by_cases h3 : zj_ca c1 i = e
        · rw [if_pos (show nI (zj_ca c1 i) = nI e by rw [h3]), if_pos (show zj_r1 E T c1 w e p i = true from decide_eq_true ⟨⟨h1, h2⟩, h3⟩), nI_1]
        · rw [if_neg (show ¬ nI (zj_ca c1 i) = nI e from fun z => h3 ((nI_eq (by omega) (by omega)).mp z)), if_neg (show ¬ zj_r1 E T c1 w e p i = true from fun z => h3 (of_decide_eq_true z).2), Int32.add_zero]
          rfl
      · refine ⟨x, ?_, by rw [hs1, if_neg (show ¬ zj_r1 E T c1 w e p i = true from fun z => h2 (of_decide_eq_true z).1.2)]; exact q1, q2, q3, q4⟩
        unfold fn_M_countOf_l1
        dsimp only
        rw [hBx.2.1, if_pos (nI_lt hi (by omega)), zp_aI (by omega) (by omega), zp_bs, g5, if_neg (fun z => z h1), zp_aI (by omega) (by omega), zp_bs, g1, nI_at', zp_aI (by omega) (by omega), zp_bs, hBx.1.2.2.2.2.2 _ g2 e (by omega), if_pos (fun z => h2 ((nI_eq (by omega) (by omega)).mp z)), hs0, if_neg (show ¬ zj_r0 E T c1 w e p i = true from fun z => h2 (of_decide_eq_true z).2), nI_1]
        rfl
    · refine ⟨x, ?_, by rw [hs1, if_neg (show ¬ zj_r1 E T c1 w e p i = true from fun z => h1 (of_decide_eq_true z).1.1)]; exact q1, q2, q3, q4⟩
      unfold fn_M_countOf_l1
      dsimp only
      rw [hBx.2.1, if_pos (nI_lt hi (by omega)), zp_aI (by omega) (by omega), zp_bs, g5, if_pos h1, hs0, if_neg (show ¬ zj_r0 E T c1 w e p i = true from fun z => h1 (of_decide_eq_true z).1), nI_1]
      rfl) (fun x ⟨q1, q2, q3, q4⟩ => by
    unfold fn_M_countOf_l1
    dsimp only
    rw [(hB x (fr x q2 q3)).2.1, if_neg (nI_nlt (Nat.le_refl _) (by omega))]) (zw_wI d 71 37 0) ⟨zw_wI_eq, fun k hk => zw_wI_ne hk, fun j hj => zw_wI_at hj, rfl⟩
  have a1' : zw_whl (fn_M_countOf_l1 w (nI e) (nI p)) zw_F (0, 0, zw_wI d 71 37 0) = some (nI (zs_cnt (zj_r0 E T c1 w e p) Q), d2) := a1
  refine ⟨d2, ?_, a2, a3, a4, a5⟩
  unfold fn_M_countOf
  rw [zp_bs, a1', zp_bs]
theorem zo_right : zq_right zr_Rel := by
  intro n c hn hRel w e k
  have hRel0 := hRel
  obtain ⟨hR, E, T, hRl⟩ := hRel
  have hTab := hRl.2.2.1
  have hT12 := hTab.1.2.2.2
  have hE4 := hTab.1.2.1
  obtain ⟨P, hP, h32, h26, hpp⟩ := zj_people hTab hRl.2.2.2.2.1
  obtain ⟨Q, hQ, hB⟩ := zj_books hTab hRl.2.2.2.2.1
  have isOne : ∀ d : zw_Ct, zr_A c d → ∀ x, fn_M_isOne d x = fn_Held_hasPerson 3 c x := fun d hA x => by rw [zr_isOne (P := P) (by rw [hA.2 26 (by decide)]; exact h26) (by omega), zr_hasP h32]
  have wk : fn_M_in k.toInt64 0 12 = fn_P_within k 0 12 := in_within k 0 12
  unfold fn_P_right fn_M_right
  rw [wk]
  by_cases hc : (((¬ (¬ (fn_Held_hasPerson 3 c w) = 0)) ∨ (¬ (¬ (fn_Sayings_hasEvent c e) = 0))) ∨ (¬ (¬ (fn_P_within k 0 12) = 0)))
  · have hA9 : zr_A c (zw_wI c 71 9 0) := zr_A.rf.wF (by decide)
    refine ⟨-1, c, zw_wI c 71 9 0, by rw [if_pos hc], ?_, zr_thr hRel0⟩
    rw [zp_bs, isOne _ hA9, zr_isEvent (hA9.tab hTab), ← zr_hasE hTab, if_pos hc]
  · obtain ⟨ej, hej, rfl⟩ := has_n (N := E) (by omega) (s := e) (fun q => hc (Or.inl (Or.inr (fun z => z (by rw [zr_hasE hTab]; exact q)))))
    obtain ⟨kj, hkj, rfl⟩ := within_n (a := k) (m := 12) rfl (by omega) (within_1 (a := k) (lo := 0) (hi := 12) (fun q => hc (Or.inr (fun z => z q))))
    obtain ⟨n0, hn0⟩ : ∃ n0 : Nat → Nat, n0 = fun p => zs_cnt (zj_r0 E T c w ej p) Q := ⟨_, rfl⟩
    obtain ⟨n1, hn1⟩ : ∃ n1 : Nat → Nat, n1 = fun p => zs_cnt (zj_r1 E T c w ej p) Q := ⟨_, rfl⟩
    have s0 : ∀ x, zr_A c x → ∀ p, p ≤ 12 → fn_Ledger_saidSo x w (nI ej) (nI p) 0 = some (nI (n0 p)) := fun x hA p hp => by rw [hn0]; exact sp_saidSo (b := false) hQ (hB x hA).1 hej hp
    have s1 : ∀ x, zr_A c x → ∀ p, p ≤ 12 → fn_Ledger_saidSo x w (nI ej) (nI p) 1 = some (nI (n1 p)) := fun x hA p hp => by rw [hn1]; exact sp_saidSo (b := true) hQ (hB x hA).1 hej hp
    obtain ⟨g, hg⟩ : ∃ g : Nat → Int32, g = fun p => zj_ab (nI (n0 p) * nI p - nI T * nI (n1 p)) := ⟨_, rfl⟩
    have hcl := zp_det (f := fn_Ledger_tellRight_l1 c w (nI ej)) (x := zs_sumI g (T + 1)) (fun i => (zs_sumI g i, nI i)) (T + 1) 0 (Nat.zero_le _) (by unfold zw_F; omega) (fun i _ hi => by
      unfold fn_Ledger_tellRight_l1
      dsimp only
      rw [hTab.2.1.2.1, if_pos (nI_le (show i ≤ T by omega) (by omega)), s0 c zr_A.rf i (by omega), zp_bs, zp_bs, s1 c zr_A.rf i (by omega), zp_bs, zp_bs, nI_1]
      have e : zs_sumI g (i + 1) = zs_sumI g i + zj_ab (nI (n0 i) * nI i - nI T * nI (n1 i)) := by rw [hg]; rfl
      rw [e]
      rfl) (by
      unfold fn_Ledger_tellRight_l1
      dsimp only
      rw [hTab.2.1.2.1, if_neg (nI_ge (by omega) (by omega))])
    have hcl' : zw_whl (fn_Ledger_tellRight_l1 c w (nI ej)) zw_F (0, 0) = some (zs_sumI g (T + 1)) := hcl
    obtain ⟨c2, a1, a2, -⟩ := zr_C.clear (c1 := c) (c3 := c) zr_A.rf
    obtain ⟨c3, a3, a4, -⟩ := a2.add (by decide) (nI (n1 kj)).toInt64
    obtain ⟨c4, a5, a6, -⟩ := a4.add (by simp) (zs_sumI g (T + 1)).toInt64
    have hA49 : zr_A c (zw_wI c4 71 9 0) := a6.2.wF (by decide)
    have cnt : ∀ d, zr_A c d → ∀ p, p ≤ 12 → ∃ d2, fn_M_countOf d w (nI ej) (nI p) = some (nI (n0 p), d2) ∧ d2.1 71 37 = nI (n1 p) ∧ (∀ k, k ≠ 71 → d2.1 k = d.1 k) ∧ (∀ j, j ≠ 37 → d2.1 71 j = d.1 71 j) ∧ d2.2 = d.2 := fun d hA p hp => by rw [hn0, hn1]; exact sp_countOf hQ (fun x hx => (hB x hx).2) hA hej hp
    obtain ⟨d1, b1, b2, b3, b4⟩ := zp_detC (f := fn_M_right_l1 w (nI ej)) (fun i c => (zs_sumI g i, nI i, c)) (fun i x => zr_A c x ∧ x.1 61 = c4.1 61 ∧ x.2 = c4.2) (fun x => (zs_sumI g (T + 1), x)) (T + 1) 0 (Nat.zero_le _) (by unfold zw_F; omega) (fun i x _ hi ⟨q1, q2, q3⟩ => by
      obtain ⟨y, f1, f2, f3, f4, f5⟩ := cnt x q1 i (by omega)
      have hAy : zr_A c y := q1.tr (zr_A.of71 f3 (fun j hj => f4 j (fun q => hj (by rw [q]; decide))))
      refine ⟨y, ?_, hAy, (f3 61 (by decide)).trans q2, f5.trans q3⟩
      unfold fn_M_right_l1
      dsimp only
      rw [(q1.tab hTab).2.2.2.1, if_pos (nI_le (show i ≤ T by omega) (by omega)), f1, zp_bs]
      dsimp only
      rw [f2, (hAy.tab hTab).2.2.2.1, zp_bs, nI_1]
      have e : zs_sumI g (i + 1) = zs_sumI g i + zj_ab (nI (n0 i) * nI i - nI T * nI (n1 i)) := by rw [hg]; rfl
      rw [e]
      rfl) (fun x ⟨q1, _⟩ => by
      unfold fn_M_right_l1
      dsimp only
      rw [(q1.tab hTab).2.2.2.1, if_neg (nI_ge (by omega) (by omega))]) (zw_wI c4 71 9 0) ⟨hA49, zw_wI_ne (by decide), rfl⟩
    have b1' : zw_whl (fn_M_right_l1 w (nI ej)) zw_F (0, 0, zw_wI c4 71 9 0) = some (zs_sumI g (T + 1), d1) := b1
    obtain ⟨d2, f1, f2, f3, f4, f5⟩ := cnt d1 b2 kj hkj
    have hAd2 : zr_A c d2 := b2.tr (zr_A.of71 f3 (fun j hj => f4 j (fun q => hj (by rw [q]; decide))))
    have hD := zr_D.start (c1 := c) (c3 := c4) hAd2 ((f3 61 (by decide)).trans b3) (f5.trans b4)
    obtain ⟨d3, i1, i2, -⟩ := hD.tell (by decide) (nI (n1 kj)).toInt64
    obtain ⟨d4, i3, i4, -⟩ := i2.tell (by simp) (zs_sumI g (T + 1)).toInt64
    refine ⟨nI (n0 kj), c4, d4, ?_, ?_, i4.fin hRl (by simp) a6.1⟩
    · rw [if_neg hc]
      unfold fn_Ledger_tellRight
      rw [hcl', zp_bs, a1, zp_bs, s1 c2 a2.2 kj hkj, zp_bs, a3, zp_bs, a5, zp_bs, s0 c4 a6.2 kj hkj, zp_bs, zp_bs]
    · rw [zp_bs, isOne _ hA49, zr_isEvent (hA49.tab hTab), ← zr_hasE hTab, if_neg hc, b1', zp_bs]
      dsimp only
      rw [f1, zp_bs]
      dsimp only
      rw [zp_bs, zw_wI_at (by decide), f2, i1, zp_bs, i3, zp_bs]
/-! keep, again -/
theorem zr_K.fr2 {E T i : Nat} {c c' : zw_Ct} (h1 : c'.1 39 i = c.1 39 i) (h2 : c'.1 98 i = c.1 98 i) (h3 : c'.1 99 i = c.1 99 i) (h4 : c'.1 71 10 = c.1 71 10) (h5 : ∀ k, 154 * i ≤ k → k < 154 * (i + 1) → c'.1 97 k = c.1 97 k) (h : ∀ k, 15 + 8 * i ≤ k → k ≤ 22 + 8 * i → c'.1 k = c.1 k) (hK : zr_K E T i c) : zr_K E T i c' := by
  obtain ⟨b, b1, b2, b3⟩ := hK
  refine ⟨b, h1.trans b1, fun q => ?_, fun q => ?_⟩
  · rw [h2, h3, h4]; exact b2 q
  · obtain ⟨r1, r2, r3, r4, r5, r6, r7, r8, r9, r10⟩ := b3 q
    rw [h2, h3, h4, h (15 + 8 * i) (by omega) (by omega), h (16 + 8 * i) (by omega) (by omega), h (17 + 8 * i) (by omega) (by omega), h (18 + 8 * i) (by omega) (by omega), h (19 + 8 * i) (by omega) (by omega), h (20 + 8 * i) (by omega) (by omega), h (21 + 8 * i) (by omega) (by omega), h (22 + 8 * i) (by omega) (by omega)]
    exact ⟨r1, r2, fun j hj => by rw [h5 _ (by omega) (by omega)]; exact r3 j hj, by rw [h5 _ (by omega) (by omega)]; exact r4, fun j hj => by rw [h5 _ (by omega) (by omega)]; exact r5 j hj, by rw [h5 _ (by omega) (by omega)]; exact r6, fun j hj => by rw [h5 _ (by omega) (by omega), h5 _ (by omega) (by omega), h5 _ (by omega) (by omega)]; exact r7 j hj, by rw [h5 _ (by omega) (by omega)]; exact r8, fun j hj => by rw [h5 _ (by omega) (by omega), h5 _ (by omega) (by omega)]; exact r9 j hj, r10⟩
theorem sp_copy {o o2 : Nat} {c : zw_Ct} (ho : o + 7 < o2 ∨ o2 + 7 < o) : ∃ d, fn_Held_copy o c o2 = some d ∧ (∀ k, k < o ∨ o + 7 < k → d.1 k = c.1 k) ∧ d.2 = c.2 ∧ (∀ i, i < 13 → d.1 (o + 1) i = c.1 (o2 + 1) i) ∧ (∀ i, i < 6 → d.1 (o + 2) i = c.1 (o2 + 2) i) ∧ (∀ i, i < 40 → d.1 (o + 3) i = c.1 (o2 + 3) i ∧ d.1 (o + 4) i = c.1 (o2 + 4) i ∧ d.1 (o + 5) i = c.1 (o2 + 5) i) ∧ (∀ i, i < 6 → d.1 (o + 6) i = c.1 (o2 + 6) i ∧ d.1 (o + 7) i = c.1 (o2 + 7) i) ∧ d.1 o 2 = c.1 o2 2 ∧ d.1 o 6 = c.1 o2 6 ∧ d.1 o 9 = c.1 o2 9 := by
  obtain ⟨x1, a1, a2, a3, a4, -⟩ := sp_cp (n0 := 13) (n1 := 13) (n := 13) (a0 := o2 + 1) (a1 := o + 1) (c := c) (Nat.le_refl _) (Nat.le_refl _) (by omega)
  obtain ⟨x2, b1, b2, b3, b4, -⟩ := sp_cp (n0 := 6) (n1 := 6) (n := 6) (a0 := o2 + 2) (a1 := o + 2) (c := x1) (Nat.le_refl _) (Nat.le_refl _) (by omega)
  obtain ⟨x3, c1, c2, c3, c4, -⟩ := sp_cp (n0 := 40) (n1 := 40) (n := 40) (a0 := o2 + 3) (a1 := o + 3) (c := x2) (Nat.le_refl _) (Nat.le_refl _) (by omega)
  obtain ⟨x4, d1, d2, d3, d4, -⟩ := sp_cp (n0 := 40) (n1 := 40) (n := 40) (a0 := o2 + 4) (a1 := o + 4) (c := x3) (Nat.le_refl _) (Nat.le_refl _) (by omega)
  obtain ⟨x5, e1, e2, e3, e4, -⟩ := sp_cp (n0 := 40) (n1 := 40) (n := 40) (a0 := o2 + 5) (a1 := o + 5) (c := x4) (Nat.le_refl _) (Nat.le_refl _) (by omega)
  obtain ⟨x6, f1, f2, f3, f4, -⟩ := sp_cp (n0 := 6) (n1 := 6) (n := 6) (a0 := o2 + 6) (a1 := o + 6) (c := x5) (Nat.le_refl _) (Nat.le_refl _) (by omega)
  obtain ⟨x7, g1, g2, g3, g4, -⟩ := sp_cp (n0 := 6) (n1 := 6) (n := 6) (a0 := o2 + 7) (a1 := o + 7) (c := x6) (Nat.le_refl _) (Nat.le_refl _) (by omega)
  have a1' : zw_cp 13 13 c (o2 + 1) 0 (o + 1) 0 13 = some x1 := a1
  have b1' : zw_cp 6 6 x1 (o2 + 2) 0 (o + 2) 0 6 = some x2 := b1
  have c1' : zw_cp 40 40 x2 (o2 + 3) 0 (o + 3) 0 40 = some x3 := c1
  have d1' : zw_cp 40 40 x3 (o2 + 4) 0 (o + 4) 0 40 = some x4 := d1
  have e1' : zw_cp 40 40 x4 (o2 + 5) 0 (o + 5) 0 40 = some x5 := e1
  have f1' : zw_cp 6 6 x5 (o2 + 6) 0 (o + 6) 0 6 = some x6 := f1
  have g1' : zw_cp 6 6 x6 (o2 + 7) 0 (o + 7) 0 6 = some x7 := g1
  have ne : ∀ k, k ≠ o → ∀ (u v w : Int32), (zw_wI (zw_wI (zw_wI x7 o 2 u) o 6 v) o 9 w).1 k = x7.1 k := fun k hk u v w => by rw [zw_wI_ne hk, zw_wI_ne hk, zw_wI_ne hk]
  have h7 : ∀ k, k < o + 1 ∨ o + 7 < k → x7.1 k = c.1 k := fun k hk => by rw [g2 k (by omega), f2 k (by omega), e2 k (by omega), d2 k (by omega), c2 k (by omega), b2 k (by omega), a2 k (by omega)]
  refine ⟨zw_wI (zw_wI (zw_wI x7 o 2 (x7.1 o2 2)) o 6 (x7.1 o2 6)) o 9 (x7.1 o2 9), ?_, fun k hk => by rw [ne k (by omega)]; exact h7 k (by omega), by show x7.2 = c.2; rw [g3, f3, e3, d3, c3, b3, a3], fun i hi => ?_, fun i hi => ?_, fun i hi => ⟨?_, ?_, ?_⟩, fun i hi => ⟨?_, ?_⟩, ?_, ?_, ?_⟩
  · unfold fn_Held_copy
    rw [a1', zp_bs, b1', zp_bs, c1', zp_bs, d1', zp_bs, e1', zp_bs, f1', zp_bs, g1', zp_bs, zp_bs, zp_bs, zp_bs, zw_wI_ne (show o2 ≠ o by omega), zw_wI_ne (show o2 ≠ o by omega), zw_wI_ne (show o2 ≠ o by omega)]
  · rw [ne _ (by omega), g2 _ (by omega), f2 _ (by omega), e2 _ (by omega), d2 _ (by omega), c2 _ (by omega), b2 _ (by omega), a4 i hi]
  · rw [ne _ (by omega), g2 _ (by omega), f2 _ (by omega), e2 _ (by omega), d2 _ (by omega), c2 _ (by omega), b4 i hi, a2 _ (by omega)]
  · rw [ne _ (by omega), g2 _ (by omega), f2 _ (by omega), e2 _ (by omega), d2 _ (by omega), c4 i hi, b2 _ (by omega), a2 _ (by omega)]
  · rw [ne _ (by omega), g2 _ (by omega), f2 _ (by omega), e2 _ (by omega), d4 i hi, c2 _ (by omega), b2 _ (by omega), a2 _ (by omega)]
  · rw [ne _ (by omega), g2 _ (by omega), f2 _ (by omega), e4 i hi, d2 _ (by omega), c2 _ (by omega), b2 _ (by omega), a2 _ (by omega)]
  · rw [ne _ (by omega), g2 _ (by omega), f4 i hi, e2 _ (by omega), d2 _ (by omega), c2 _ (by omega), b2 _ (by omega), a2 _ (by omega)]
  · rw [ne _ (by omega), g4 i hi, f2 _ (by omega), e2 _ (by omega), d2 _ (by omega), c2 _ (by omega), b2 _ (by omega), a2 _ (by omega)]
  · rw [zw_wI_at (by decide), zw_wI_at (by decide), zw_wI_eq]; exact congrFun (h7 o2 (by omega)) 2
  · rw [zw_wI_at (by decide), zw_wI_eq]; exact congrFun (h7 o2 (by omega)) 6
  · rw [zw_wI_eq]; exact congrFun (h7 o2 (by omega)) 9
/-- what the Model keeps, place by place -/
def zj_G (d : zw_Ct) (j : Nat) : Int32 := if j < 13 then d.1 73 j else if j = 13 then d.1 71 26 else if j < 20 then d.1 89 (j - 14) else if j = 20 then d.1 71 33 else if j < 141 then (if (j - 21) % 3 = 0 then d.1 94 ((j - 21) / 3) else if (j - 21) % 3 = 1 then d.1 95 ((j - 21) / 3) else d.1 96 ((j - 21) / 3)) else if j = 141 then d.1 71 30 else if (j - 142) % 2 = 0 then d.1 92 ((j - 142) / 2) else d.1 93 ((j - 142) / 2)
def zj_KQ (d : zw_Ct) (i m : Nat) (x : zw_Ct) : Prop := (∀ k, k ≠ 97 → k ≠ 71 → x.1 k = d.1 k) ∧ (∀ j, j ≠ 41 → x.1 71 j = d.1 71 j) ∧ x.2 = d.2 ∧ x.1 71 41 = nI (154 * i + m) ∧ (∀ j, j < 154 * i ∨ 154 * (i + 1) ≤ j → x.1 97 j = d.1 97 j) ∧ ∀ j, j < m → x.1 97 (154 * i + j) = zj_G d j
theorem zj_KQ.put {d x : zw_Ct} {i m : Nat} {v : Int32} (hi : i < 3) (h : zj_KQ d i m x) (hm : m < 154) (hv : v = zj_G d m) : ∃ x', fn_M_put x v = some x' ∧ zj_KQ d i (m + 1) x' := by
  obtain ⟨h1, h2, h3, h4, h5, h6⟩ := h
  refine ⟨zw_wI (zw_wI x 97 (154 * i + m) v) 71 41 (nI (154 * i + (m + 1))), ?_, fun k k1 k2 => by rw [zw_wI_ne k2, zw_wI_ne k1]; exact h1 k k1 k2, fun j hj => by rw [zw_wI_at hj, zw_wI_ne (by decide)]; exact h2 j hj, h3, zw_wI_eq, fun j hj => by rw [zw_wI_ne (by decide), zw_wI_at (by omega)]; exact h5 j hj, fun j hj => ?_⟩
  · unfold fn_M_put
    rw [h4, zp_uI (by omega) (by omega), zp_bs, zw_wI_ne (show (71 : Nat) ≠ 97 by decide), h4, nI_1, zp_bs]
    rfl
  · rw [zw_wI_ne (by decide)]
    by_cases e : j = m
    · rw [e, zw_wI_eq, hv]
    · rw [zw_wI_at (by omega)]; exact h6 j (by omega)
theorem zp_gr8 {B n p : Nat} (hp : p < n) (hn : n < 2 ^ 31) : zw_gr B n 8 (nI p) = some (B + 8 * p) := by
  unfold zw_gr
  rw [if_neg (nI_in hp hn), nI_clamp (by omega)]
theorem zo_keep : zq_keep zr_Rel := by
  intro n c hn hRel i
  have hRel0 := hRel
  obtain ⟨hR, E, T, hRl⟩ := hRel
  have w : fn_M_in i.toInt64 0 2 = fn_P_within i 0 2 := in_within i 0 2
  unfold fn_P_keep fn_M_keep
  rw [w]
  by_cases hc : ¬ (¬ (fn_P_within i 0 2) = 0)
  · exact ⟨0, c, zw_wI c 71 9 0, by rw [if_pos hc], by rw [zp_bs, if_pos hc], zr_thr hRel0⟩
  · obtain ⟨j, hj, rfl⟩ := within_n (a := i) (m := 2) rfl (by omega) (within_1 (a := i) (lo := 0) (hi := 2) (fun q => hc (fun z => z q)))
    obtain ⟨c2, a1, a2, a3, a4, a5, a6, a7, a8, a9, a10⟩ := sp_copy (o := 15 + 8 * j) (o2 := 3) (c := c) (by omega)
    obtain ⟨c3, hc3⟩ : ∃ c3, c3 = zw_wI c2 39 j 1 := ⟨_, rfl⟩
    have f3 : ∀ k, k ≠ 39 → (k < 15 + 8 * j ∨ 22 + 8 * j < k) → c3.1 k = c.1 k := fun k k1 k2 => by rw [hc3, zw_wI_ne k1]; exact a2 k (by omega)
    -- the Model
    obtain ⟨d0, hd0⟩ : ∃ d0, d0 = zw_wI (zw_wI (zw_wI (zw_wI c3 71 9 0) 98 j 1) 99 j (c.1 71 10)) 71 41 (nI (154 * j)) := ⟨_, rfl⟩
    have d0k : ∀ k, k ≠ 71 → k ≠ 98 → k ≠ 99 → d0.1 k = c3.1 k := fun k k1 k2 k3 => by rw [hd0, zw_wI_ne k1, zw_wI_ne k3, zw_wI_ne k2, zw_wI_ne k1]
    have d0f : ∀ x, x ≠ 9 → x ≠ 41 → d0.1 71 x = c.1 71 x := fun x x1 x2 => by rw [hd0, zw_wI_at x2, zw_wI_ne (by decide), zw_wI_ne (by decide), zw_wI_at x1, f3 71 (by decide) (by omega)]
    have q0 : zj_KQ d0 j 0 d0 := ⟨fun _ _ _ => rfl, fun _ _ => rfl, rfl, by rw [hd0, zw_wI_eq]; rfl, fun _ _ => rfl, fun x hx => absurd hx (Nat.not_lt_zero x)⟩
    obtain ⟨d1, b1, q1⟩ := zp_detC (f := fn_M_keep_l1) (fun k c => (nI k, c)) (fun k x => zj_KQ d0 j k x) (fun c => c) 13 0 (Nat.zero_le _) (by unfold zw_F; omega) (fun k x _ hk q => by
      obtain ⟨y, e1, e2⟩ := q.put (by omega) (by omega) (v := d0.1 73 k) (by unfold zj_G; rw [if_pos hk])
      refine ⟨y, ?_, e2⟩
      unfold fn_M_keep_l1
      dsimp only
      rw [if_pos (show nI k < (13 : Int32) from nI_lt (b := 13) hk (by omega)), zp_aI (by omega) (by omega), zp_bs, q.1 73 (by decide) (by decide), e1, zp_bs, nI_1]) (fun x _ => by
      unfold fn_M_keep_l1
      dsimp only
      rw [if_neg (show ¬ nI 13 < (13 : Int32) by decide)]) d0 q0
    have b1' : zw_whl fn_M_keep_l1 zw_F (0, d0) = some d1 := b1
    obtain ⟨d2, b2, q2⟩ := q1.put (by omega) (by omega) (v := d0.1 71 26) rfl
    obtain ⟨d3, b3, q3⟩ := zp_detC (f := fn_M_keep_l2) (fun k c => (nI k, c)) (fun k x => zj_KQ d0 j (14 + k) x) (fun c => c) 6 0 (Nat.zero_le _) (by unfold zw_F; omega) (fun k x _ hk q => by
      obtain ⟨y, e1, e2⟩ := q.put (by omega) (by omega) (v := d0.1 89 k) (by unfold zj_G; rw [if_neg (by omega), if_neg (by omega), if_pos (by omega), show 14 + k - 14 = k by omega])
      refine ⟨y, ?_, e2⟩
      unfold fn_M_keep_l2
      dsimp only
      rw [if_pos (show nI k < (6 : Int32) from nI_lt (b := 6) hk (by omega)), zp_aI (by omega) (by omega), zp_bs, q.1 89 (by decide) (by decide), e1, zp_bs, nI_1]) (fun x _ => by
      unfold fn_M_keep_l2
      dsimp only
      rw [if_neg (show ¬ nI 6 < (6 : Int32) by decide)]) d2 q2
    have b3' : zw_whl fn_M_keep_l2 zw_F (0, d2) = some d3 := b3
    obtain ⟨d4, b4, q4⟩ := q3.put (by omega) (by omega) (v := d0.1 71 33) rfl
    obtain ⟨d5, b5, q5⟩ := zp_detC (f := fn_M_keep_l3) (fun k c => (nI k, c)) (fun k x => zj_KQ d0 j (21 + 3 * k) x) (fun c => c) 40 0 (Nat.zero_le _) (by unfold zw_F; omega) (fun k x _ hk q => by
      obtain ⟨y, e1, e2⟩ := q.put (by omega) (by omega) (v := d0.1 94 k) (by unfold zj_G; rw [if_neg (by omega), if_neg (by omega), if_neg (by omega), if_neg (by omega), if_pos (by omega), if_pos (by omega), show (21 + 3 * k - 21) / 3 = k by omega])
      obtain ⟨y2, e3, e4⟩ := e2.put (by omega) (by omega) (v := d0.1 95 k) (by unfold zj_G; rw [if_neg (by omega), if_neg (by omega), if_neg (by omega), if_neg (by omega), if_pos (by omega), if_neg (by omega), if_pos (by omega), show (21 + 3 * k + 1 - 21) / 3 = k by omega])
      obtain ⟨y3, e5, e6⟩ := e4.put (by omega) (by omega) (v := d0.1 96 k) (by unfold zj_G; rw [if_neg (by omega), if_neg (by omega), if_neg (by omega), if_neg (by omega), if_pos (by omega), if_neg (by omega), if_neg (by omega), show (21 + 3 * k + 1 + 1 - 21) / 3 = k by omega])
      refine ⟨y3, ?_, e6⟩
      unfold fn_M_keep_l3
      dsimp only
      rw [if_pos (show nI k < (40 : Int32) from nI_lt (b := 40) hk (by omega)), zp_aI (by omega) (by omega), zp_bs, q.1 94 (by decide) (by decide), e1, zp_bs, zp_aI (by omega) (by omega), zp_bs, e2.1 95 (by decide) (by decide), e3, zp_bs, zp_aI (by omega) (by omega), zp_bs, e4.1 96 (by decide) (by decide), e5, zp_bs, nI_1]) (fun x _ => by
      unfold fn_M_keep_l3
      dsimp only
      rw [if_neg (show ¬ nI 40 < (40 : Int32) by decide)]) d4 q4
    have b5' : zw_whl fn_M_keep_l3 zw_F (0, d4) = some d5 := b5
    obtain ⟨d6, b6, q6⟩ := q5.put (by omega) (by omega) (v := d0.1 71 30) rfl
    obtain ⟨d7, b7, q7⟩ := zp_detC (f := fn_M_keep_l4) (fun k c => (nI k, c)) (fun k x => zj_KQ d0 j (142 + 2 * k) x) (fun c => c) 6 0 (Nat.zero_le _) (by unfold zw_F; omega) (fun k x _ hk q => by
      obtain ⟨y, e1, e2⟩ := q.put (by omega) (by omega) (v := d0.1 92 k) (by unfold zj_G; rw [if_neg (by omega), if_neg (by omega), if_neg (by omega), if_neg (by omega), if_neg (by omega), if_neg (by omega), if_pos (by omega), show (142 + 2 * k - 142) / 2 = k by omega])
      obtain ⟨y2, e3, e4⟩ := e2.put (by omega) (by omega) (v := d0.1 93 k) (by unfold zj_G; rw [if_neg (by omega), if_neg (by omega), if_neg (by omega), if_neg (by omega), if_neg (by omega), if_neg (by omega), if_neg (by omega), show (142 + 2 * k + 1 - 142) / 2 = k by omega])
      refine ⟨y2, ?_, e4⟩
      unfold fn_M_keep_l4
      dsimp only
      rw [if_pos (show nI k < (6 : Int32) from nI_lt (b := 6) hk (by omega)), zp_aI (by omega) (by omega), zp_bs, q.1 92 (by decide) (by decide), e1, zp_bs, zp_aI (by omega) (by omega), zp_bs, e2.1 93 (by decide) (by decide), e3, zp_bs, nI_1]) (fun x _ => by
      unfold fn_M_keep_l4
      dsimp only
      rw [if_neg (show ¬ nI 6 < (6 : Int32) by decide)]) d6 q6
    have b7' : zw_whl fn_M_keep_l4 zw_F (0, d6) = some d7 := b7
    have k7 : ∀ k, k ≠ 97 → k ≠ 71 → k ≠ 98 → k ≠ 99 → d7.1 k = c3.1 k := fun k k1 k2 k3 k4 => by rw [q7.1 k k1 k2]; exact d0k k k2 k3 k4
    have k7c : ∀ k, k ≠ 97 → k ≠ 71 → k ≠ 98 → k ≠ 99 → k ≠ 39 → (k < 15 + 8 * j ∨ 22 + 8 * j < k) → d7.1 k = c.1 k := fun k k1 k2 k3 k4 k5 k6 => by rw [k7 k k1 k2 k3 k4, f3 k k5 k6]
    have f7 : ∀ x, x ≠ 9 → x ≠ 41 → d7.1 71 x = c.1 71 x := fun x x1 x2 => by rw [q7.2.1 x x2]; exact d0f x x1 x2
    have k97 : ∀ x, x < 154 * j ∨ 154 * (j + 1) ≤ x → d7.1 97 x = c.1 97 x := fun x hx => by rw [q7.2.2.2.2.1 x hx, d0k 97 (by decide) (by decide) (by decide), f3 97 (by decide) (by omega)]
    have k98 : ∀ x, x ≠ j → d7.1 98 x = c.1 98 x := fun x hx => by rw [q7.1 98 (by decide) (by decide), hd0, zw_wI_ne (by decide), zw_wI_ne (by decide), zw_wI_at hx, zw_wI_ne (by decide), f3 98 (by decide) (by omega)]
    have k98j : d7.1 98 j = 1 := by rw [q7.1 98 (by decide) (by decide), hd0, zw_wI_ne (by decide), zw_wI_ne (by decide), zw_wI_eq]
    have k99 : ∀ x, x ≠ j → d7.1 99 x = c.1 99 x := fun x hx => by rw [q7.1 99 (by decide) (by decide), hd0, zw_wI_ne (by decide), zw_wI_at hx, zw_wI_ne (by decide), zw_wI_ne (by decide), f3 99 (by decide) (by omega)]
    have k99j : d7.1 99 j = c.1 71 10 := by rw [q7.1 99 (by decide) (by decide), hd0, zw_wI_ne (by decide), zw_wI_eq]
    have k39 : ∀ x, x ≠ j → d7.1 39 x = c.1 39 x := fun x hx => by rw [k7 39 (by decide) (by decide) (by decide) (by decide), hc3, zw_wI_at hx, a2 39 (by omega)]
    have k39j : d7.1 39 j = 1 := by rw [k7 39 (by decide) (by decide) (by decide) (by decide), hc3, zw_wI_eq]
    have G0 : ∀ x, zj_G d0 x = zj_G c x := fun x => by
      unfold zj_G
      rw [d0k 73 (by decide) (by decide) (by decide), d0k 89 (by decide) (by decide) (by decide), d0k 94 (by decide) (by decide) (by decide), d0k 95 (by decide) (by decide) (by decide), d0k 96 (by decide) (by decide) (by decide), d0k 92 (by decide) (by decide) (by decide), d0k 93 (by decide) (by decide) (by decide), f3 73 (by decide) (by omega), f3 89 (by decide) (by omega), f3 94 (by decide) (by omega), f3 95 (by decide) (by omega), f3 96 (by decide) (by omega), f3 92 (by decide) (by omega), f3 93 (by decide) (by omega), d0f 26 (by decide) (by decide), d0f 33 (by decide) (by decide), d0f 30 (by decide) (by decide)]
    have kG : ∀ x, x < 154 → d7.1 97 (154 * j + x) = zj_G c x := fun x hx => by rw [q7.2.2.2.2.2 x (by omega), G0]
    refine ⟨1, c3, d7, ?_, ?_, ?_⟩
    · rw [if_neg hc, zp_gr8 (by omega) (by omega), zp_bs, a1, zp_bs, zp_uI (by omega) (by omega), zp_bs, hc3]
    · have e10 : (zw_wI (zw_wI c3 71 9 0) 98 j 1).1 71 10 = c.1 71 10 := by rw [zw_wI_ne (by decide), zw_wI_at (by decide), f3 71 (by decide) (by omega)]
      have e26 : d1.1 71 26 = d0.1 71 26 := q1.2.1 26 (by decide)
      have e33 : d3.1 71 33 = d0.1 71 33 := q3.2.1 33 (by decide)
      have e30 : d5.1 71 30 = d0.1 71 30 := q5.2.1 30 (by decide)
      rw [zp_bs, if_neg hc, zp_uI (by omega) (by omega), zp_bs, e10, zp_uI (by omega) (by omega), zp_bs, show (154 : Int32) = nI 154 by decide, nI_mul, zp_bs, ← hd0, b1', zp_bs, e26, b2, zp_bs, b3', zp_bs, e33, b4, zp_bs, b5', zp_bs, e30, b6, zp_bs, b7', zp_bs]
    · obtain ⟨hN, hX, hTab, hP, hH, hK⟩ := hRl
      have d72 : d7.2 = c.2 := by
        rw [q7.2.2.1, hd0]
        show c3.2 = c.2
        rw [hc3]
        exact a3
      refine ⟨hR.fr (by rw [k7c 61 (by decide) (by decide) (by decide) (by decide) (by decide) (by omega)]) (f7 8 (by decide) (by decide)) (by rw [d72]) (by rw [d72]), E, T, ?_⟩
      refine zr_Rl.up (Nat.le_succ n) ⟨?_, hX.fr (k7c 40 (by decide) (by decide) (by decide) (by decide) (by decide) (by omega)) (f7 6 (by decide) (by decide)) (k7c 41 (by decide) (by decide) (by decide) (by decide) (by decide) (by omega)) (k7c 74 (by decide) (by decide) (by decide) (by decide) (by decide) (by omega)), hTab.fr (k7c 1 (by decide) (by decide) (by decide) (by decide) (by decide) (by omega)) (k7c 2 (by decide) (by decide) (by decide) (by decide) (by decide) (by omega)) (k7c 72 (by decide) (by decide) (by decide) (by decide) (by decide) (by omega)) (f7 0 (by decide) (by decide)) (f7 1 (by decide) (by decide)) (f7 2 (by decide) (by decide)), fun p hp => ?_, ?_, fun x hx => ?_⟩
      · obtain ⟨t, t1, t2, t3⟩ := hN
        refine ⟨t, t1, by rw [f7 10 (by decide) (by decide)]; exact t2, fun x hx => ?_⟩
        by_cases e : x = j
        · subst e
          exact Or.inr ⟨k98j, t, Nat.le_refl _, by rw [k99j]; exact t2⟩
        · rw [k98 x e, k99 x e]; exact t3 x hx
      · exact (hP p hp).fr (by rw [k7c 46 (by decide) (by decide) (by decide) (by decide) (by decide) (by omega)]) (by rw [k7c 82 (by decide) (by decide) (by decide) (by decide) (by decide) (by omega)]) (by rw [k7c 81 (by decide) (by decide) (by decide) (by decide) (by decide) (by omega)]) (by rw [k7c 58 (by decide) (by decide) (by decide) (by decide) (by decide) (by omega)]) (k7c _ (by omega) (by omega) (by omega) (by omega) (by omega) (by omega)) (k7c 83 (by decide) (by decide) (by decide) (by decide) (by decide) (by omega)) (k7c _ (by omega) (by omega) (by omega) (by omega) (by omega) (by omega)) (by rw [k7c 52 (by decide) (by decide) (by decide) (by decide) (by decide) (by omega)]) (k7c _ (by omega) (by omega) (by omega) (by omega) (by omega) (by omega)) (k7c 4 (by decide) (by decide) (by decide) (by decide) (by decide) (by omega))
      · exact hH.fr (k7c 3 (by decide) (by decide) (by decide) (by decide) (by decide) (by omega)) (k7c 4 (by decide) (by decide) (by decide) (by decide) (by decide) (by omega)) (k7c 5 (by decide) (by decide) (by decide) (by decide) (by decide) (by omega)) (k7c 6 (by decide) (by decide) (by decide) (by decide) (by decide) (by omega)) (k7c 7 (by decide) (by decide) (by decide) (by decide) (by decide) (by omega)) (k7c 8 (by decide) (by decide) (by decide) (by decide) (by decide) (by omega)) (k7c 9 (by decide) (by decide) (by decide) (by decide) (by decide) (by omega)) (k7c 10 (by decide) (by decide) (by decide) (by decide) (by decide) (by omega)) (k7c 73 (by decide) (by decide) (by decide) (by decide) (by decide) (by omega)) (k7c 89 (by decide) (by decide) (by decide) (by decide) (by decide) (by omega)) (k7c 92 (by decide) (by decide) (by decide) (by decide) (by decide) (by omega)) (k7c 93 (by decide) (by decide) (by decide) (by decide) (by decide) (by omega)) (k7c 94 (by decide) (by decide) (by decide) (by decide) (by decide) (by omega)) (k7c 95 (by decide) (by decide) (by decide) (by decide) (by decide) (by omega)) (k7c 96 (by decide) (by decide) (by decide) (by decide) (by decide) (by omega)) (f7 26 (by decide) (by decide)) (f7 33 (by decide) (by decide)) (f7 30 (by decide) (by decide))
      · by_cases e : x = j
        · subst e
          obtain ⟨r1, r2, r3, r4, r5, r6, r7, r8⟩ := hH
          have cc : ∀ k, 15 + 8 * x ≤ k → k ≤ 22 + 8 * x → d7.1 k = c2.1 k := fun k k1 k2 => by rw [k7 k (by omega) (by omega) (by omega) (by omega), hc3, zw_wI_ne (by omega)]
          have g : ∀ y, y < 154 → zj_G c y = d7.1 97 (154 * x + y) := fun y hy => (kG y hy).symm
          refine ⟨true, k39j, fun q => (by cases q), fun _ => ⟨k98j, by rw [k99j, f7 10 (by decide) (by decide)], fun y hy => ?_, ?_, fun y hy => ?_, ?_, fun y hy => ⟨?_, ?_, ?_⟩, ?_, fun y hy => ⟨?_, ?_⟩, ?_⟩⟩
          · rw [cc _ (by omega) (by omega), show 16 + 8 * x = 15 + 8 * x + 1 by omega, a4 y hy, kG y (by omega)]
            unfold zj_G
            rw [if_pos hy]
            exact r1 y hy
          · rw [cc _ (by omega) (by omega), a8, kG 13 (by omega)]
            exact r3
          · rw [cc _ (by omega) (by omega), show 17 + 8 * x = 15 + 8 * x + 2 by omega, a5 y hy, kG (14 + y) (by omega)]
            unfold zj_G
            rw [if_neg (by omega), if_neg (by omega), if_pos (by omega), show 14 + y - 14 = y by omega]
            exact r2 y hy
          · rw [cc _ (by omega) (by omega), a9, kG 20 (by omega)]
            exact r5
          · rw [cc _ (by omega) (by omega), show 18 + 8 * x = 15 + 8 * x + 3 by omega, (a6 y hy).1, kG (21 + 3 * y) (by omega)]
            unfold zj_G
            rw [if_neg (by omega), if_neg (by omega), if_neg (by omega), if_neg (by omega), if_pos (by omega), if_pos (by omega), show (21 + 3 * y - 21) / 3 = y by omega]
            exact (r4 y hy).1
          · rw [cc _ (by omega) (by omega), show 19 + 8 * x = 15 + 8 * x + 4 by omega, (a6 y hy).2.1, kG (22 + 3 * y) (by omega)]
            unfold zj_G
            rw [if_neg (by omega), if_neg (by omega), if_neg (by omega), if_neg (by omega), if_pos (by omega), if_neg (by omega), if_pos (by omega), show (22 + 3 * y - 21) / 3 = y by omega]
            exact (r4 y hy).2.1
          · rw [cc _ (by omega) (by omega), show 20 + 8 * x = 15 + 8 * x + 5 by omega, (a6 y hy).2.2, kG (23 + 3 * y) (by omega)]
            unfold zj_G
            rw [if_neg (by omega), if_neg (by omega), if_neg (by omega), if_neg (by omega), if_pos (by omega), if_neg (by omega), if_neg (by omega), show (23 + 3 * y - 21) / 3 = y by omega]
            exact (r4 y hy).2.2
          · rw [cc _ (by omega) (by omega), a10, kG 141 (by omega)]
            exact r7
          · rw [cc _ (by omega) (by omega), show 21 + 8 * x = 15 + 8 * x + 6 by omega, (a7 y hy).1, kG (142 + 2 * y) (by omega)]
            unfold zj_G
            rw [if_neg (by omega), if_neg (by omega), if_neg (by omega), if_neg (by omega), if_neg (by omega), if_neg (by omega), if_pos (by omega), show (142 + 2 * y - 142) / 2 = y by omega]
            exact (r6 y hy).1
          · rw [cc _ (by omega) (by omega), show 22 + 8 * x = 15 + 8 * x + 7 by omega, (a7 y hy).2, kG (143 + 2 * y) (by omega)]
            unfold zj_G
            rw [if_neg (by omega), if_neg (by omega), if_neg (by omega), if_neg (by omega), if_neg (by omega), if_neg (by omega), if_neg (by omega), show (143 + 2 * y - 142) / 2 = y by omega]
            exact (r6 y hy).2
          · obtain ⟨P, Q, p1, p2, p3, p4, p5, p6⟩ := r8
            rw [cc (15 + 8 * x) (by omega) (by omega), cc (17 + 8 * x) (by omega) (by omega), cc (18 + 8 * x) (by omega) (by omega), cc (19 + 8 * x) (by omega) (by omega), cc (20 + 8 * x) (by omega) (by omega)]
            refine ⟨P, Q, by rw [a8]; exact p1, p2, by rw [a9]; exact p3, p4, fun y hy => ?_, fun y hy => ?_⟩
            · rw [show 17 + 8 * x = 15 + 8 * x + 2 by omega, a5 y (by omega)]; exact p5 y hy
            · rw [show 18 + 8 * x = 15 + 8 * x + 3 by omega, show 19 + 8 * x = 15 + 8 * x + 4 by omega, show 20 + 8 * x = 15 + 8 * x + 5 by omega, (a6 y (by omega)).1, (a6 y (by omega)).2.1, (a6 y (by omega)).2.2]
              exact p6 y hy
        · exact (hK x hx).fr2 (k39 x e) (k98 x e) (k99 x e) (f7 10 (by decide) (by decide)) (fun k k1 k2 => k97 k (by omega)) (fun k k1 k2 => k7c k (by omega) (by omega) (by omega) (by omega) (by omega) (by omega))
