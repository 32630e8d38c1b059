/-! again -/
/-- behind a changed TURN, PEOPLE, BOOK and WORDS -/
theorem zr_held2 {n E T : Nat} {c d : zw_Ct} (hR : zr_R c) (hRl : zr_Rl n E T c) (g : ∀ k, k ∉ zr_SC → k ∉ zr_HC → k ≠ 4 → k ≠ 58 → k ≠ 71 → k ≠ 73 → d.1 k = c.1 k) (f : ∀ j, j ∉ zr_FS → j ∉ zr_HF → d.1 71 j = c.1 71 j) (g58 : ∀ p, p < 4 → d.1 58 p = if c.1 46 p = 2 then 1 else 0) (h61 : d.1 61 = c.1 61) (h8 : d.1 71 8 = c.1 71 8) (h62 : d.2 62 = c.2 62) (h75 : d.2 75 = c.2 75) (hH : zr_H E T d) : zr_Rel (n + 1) d := by
  obtain ⟨h1, h2, h3, h4, -, h6⟩ := hRl
  have G : ∀ k, k ∉ zr_SC → k ∉ zr_HC → k ≠ 4 ∧ k ≠ 58 ∧ k ≠ 71 ∧ k ≠ 73 → d.1 k = c.1 k := fun k k0 k1 k2 => g k k0 k1 k2.1 k2.2.1 k2.2.2.1 k2.2.2.2
  refine ⟨hR.fr (by rw [h61]) h8 h62 h75, E, T, ?_⟩
  refine zr_Rl.up (Nat.le_succ n) ⟨h1.fr (f 10 (by decide) (by decide)) (G 98 (by decide) (by decide) (by decide)) (G 99 (by decide) (by decide) (by decide)), h2.fr (G 40 (by decide) (by decide) (by decide)) (f 6 (by decide) (by decide)) (G 41 (by decide) (by decide) (by decide)) (G 74 (by decide) (by decide) (by decide)), h3.fr (G 1 (by decide) (by decide) (by decide)) (G 2 (by decide) (by decide) (by decide)) (G 72 (by decide) (by decide) (by decide)) (f 0 (by decide) (by decide)) (f 1 (by decide) (by decide)) (f 2 (by decide) (by decide)), fun p hp => ?_, hH, fun i hi => ?_⟩
  · have e1 : d.1 (54 + p) = c.1 (54 + p) := by rcases (show p = 0 ∨ p = 1 ∨ p = 2 ∨ p = 3 by omega) with rfl | rfl | rfl | rfl <;> exact G _ (by decide) (by decide) (by decide)
    have e2 : d.1 (77 + p) = c.1 (77 + p) := by rcases (show p = 0 ∨ p = 1 ∨ p = 2 ∨ p = 3 by omega) with rfl | rfl | rfl | rfl <;> exact G _ (by decide) (by decide) (by decide)
    have e3 : d.1 (48 + p) = c.1 (48 + p) := by rcases (show p = 0 ∨ p = 1 ∨ p = 2 ∨ p = 3 by omega) with rfl | rfl | rfl | rfl <;> exact G _ (by decide) (by decide) (by decide)
    exact (h4 p hp).tc (by rw [G 46 (by decide) (by decide) (by decide)]) (by rw [G 82 (by decide) (by decide) (by decide)]) (by rw [G 81 (by decide) (by decide) (by decide)]) (g58 p hp) e1 (G 83 (by decide) (by decide) (by decide)) e2 (by rw [G 52 (by decide) (by decide) (by decide)]) e3
  · refine (h6 i hi).fr (by rw [G 39 (by decide) (by decide) (by decide)]) (by rw [G 98 (by decide) (by decide) (by decide)]) (by rw [G 99 (by decide) (by decide) (by decide)]) (f 10 (by decide) (by decide)) (G 97 (by decide) (by decide) (by decide)) (fun k k1 k2 => G k (fun hk => ?_) (fun hk => ?_) (by omega))
    · simp only [zr_SC, List.mem_cons, List.not_mem_nil, or_false] at hk
      omega
    · simp only [zr_HC, List.mem_cons, List.not_mem_nil, or_false] at hk
      omega
theorem sp_next {x : zw_Ct} {i m : Nat} (h : x.1 71 41 = nI (154 * i + m)) (hi : i < 3) (hm : m < 154) : fn_M_next x = some (x.1 97 (154 * i + m), zw_wI x 71 41 (nI (154 * i + (m + 1)))) := by
  have e : nI (154 * i + (m + 1)) - 1 = nI (154 * i + m) := nI_sub (b := 1) (by omega)
  unfold fn_M_next
  rw [h, nI_1, zp_bs]
  have e2 : (zw_wI x 71 41 (nI (154 * i + m + 1))).1 71 41 - 1 = nI (154 * i + m) := by rw [zw_wI_eq]; exact e
  rw [e2, zp_aI (by omega) (by omega), zp_bs, zw_wI_ne (show (97 : Nat) ≠ 71 by decide)]
  rfl
theorem zo_again : zq_again zr_Rel := by
  intro n c hn hRel i
  have hRel0 := hRel
  obtain ⟨hR, E, T, hRl⟩ := hRel
  have w : fn_M_in i.toInt64 0 2 = fn_P_within i 0 2 := in_within i 0 2
  unfold fn_P_again fn_M_again
  rw [w]
  by_cases hc : ¬ (¬ (fn_P_within i 0 2) = 0)
  · exact ⟨0, c, zw_wI c 71 9 0, by rw [if_pos hc], by rw [zp_bs, if_pos hc], zr_thr hRel0⟩
  obtain ⟨j, hj, rfl⟩ := within_n (a := i) (m := 2) rfl (by omega) (within_1 (a := i) (lo := 0) (hi := 2) (fun q => hc (fun z => z q)))
  obtain ⟨b, hb, hb0, hb1⟩ := hRl.2.2.2.2.2 j (by omega)
  have e98 : (zw_wI c 71 9 0).1 98 j = c.1 98 j := by rw [zw_wI_ne (by decide)]
  have e99 : (zw_wI c 71 9 0).1 99 j = c.1 99 j := by rw [zw_wI_ne (by decide)]
  have e10 : (zw_wI c 71 9 0).1 71 10 = c.1 71 10 := zw_wI_at (by decide)
  cases b with
  | false =>
    refine ⟨0, c, zw_wI c 71 9 0, ?_, ?_, zr_thr hRel0⟩
    · rw [if_neg hc, zp_aI (by omega) (by omega), zp_bs, hb, if_pos (by decide)]
    · rw [zp_bs, if_neg hc, zp_aI (by omega) (by omega), zp_bs, e98]
      rcases hb0 rfl with h | h
      · rw [if_pos (by rw [h]; decide)]
      · by_cases h98 : ¬ ¬ c.1 98 j = 0
        · rw [if_pos h98]
        · rw [if_neg h98, zp_aI (by omega) (by omega), zp_bs, e99, e10, if_pos h]
  | true =>
    obtain ⟨r1, r2, r3, r4, r5, r6, r7, r8, r9, r10⟩ := hb1 rfl
    obtain ⟨c2, a1, a2, a3, a4, a5, a6, a7, a8, a9, a10⟩ := sp_copy (o := 3) (o2 := 15 + 8 * j) (c := c) (by omega)
    obtain ⟨c3, t1, t2, t3, t4⟩ := sp_turnChanged c2
    have f3 : ∀ k, k ≠ 58 → (k < 3 ∨ 10 < k) → c3.1 k = c.1 k := fun k k1 k2 => by rw [t2 k k1]; exact a2 k (by omega)
    obtain ⟨d0, hd0⟩ : ∃ d0, d0 = zw_wI (zw_wI c3 71 9 0) 71 41 (nI (154 * j)) := ⟨_, rfl⟩
    have d0k : ∀ k, k ≠ 71 → d0.1 k = c3.1 k := fun k k1 => by rw [hd0, zw_wI_ne k1, zw_wI_ne k1]
    have d0f : ∀ x, x ≠ 9 → x ≠ 41 → d0.1 71 x = c.1 71 x := fun x x1 x2 => by rw [hd0, zw_wI_at x2, zw_wI_at x1, f3 71 (by decide) (by omega)]
    have d41 : d0.1 71 41 = nI (154 * j + 0) := by rw [hd0, zw_wI_eq]; rfl
    obtain ⟨K, hK⟩ : ∃ K : Nat → Int32, K = fun m => c.1 97 (154 * j + m) := ⟨_, rfl⟩
    have Kv : ∀ m, c.1 97 (154 * j + m) = K m := fun m => by rw [hK]
    have d97 : d0.1 97 = c.1 97 := by rw [d0k 97 (by decide), f3 97 (by decide) (by omega)]
    -- one reading, by a place that is written
    have rd : ∀ (x : zw_Ct) (m : Nat), x.1 97 = c.1 97 → x.1 71 41 = nI (154 * j + m) → m < 154 → fn_M_next x = some (K m, zw_wI x 71 41 (nI (154 * j + (m + 1)))) := fun x m h1 h2 hm => by rw [sp_next h2 (by omega) hm, h1, Kv]
    obtain ⟨d1, b1, p1, p2, p3, p4, p5⟩ := zp_detC (f := fn_M_again_l1) (fun k c => (nI k, c)) (fun k x => (∀ y, y ≠ 71 → y ≠ 73 → x.1 y = d0.1 y) ∧ (∀ y, y ≠ 41 → x.1 71 y = d0.1 71 y) ∧ x.2 = d0.2 ∧ x.1 71 41 = nI (154 * j + k) ∧ ∀ y, y < k → x.1 73 y = K y) (fun c => c) 13 0 (Nat.zero_le _) (by unfold zw_F; omega) (fun k x _ hk ⟨q1, q2, q3, q4, q5⟩ => by
      have h := rd x k (by rw [q1 97 (by decide) (by decide)]; exact d97) q4 (by omega)
      refine ⟨zw_wI (zw_wI x 71 41 (nI (154 * j + (k + 1)))) 73 k (K k), ?_, fun y y1 y2 => by rw [zw_wI_ne y2, zw_wI_ne y1]; exact q1 y y1 y2, fun y hy => by rw [zw_wI_ne (by decide), zw_wI_at hy]; exact q2 y hy, q3, by rw [zw_wI_ne (by decide), zw_wI_eq], fun y hy => ?_⟩
      · unfold fn_M_again_l1
        dsimp only
        rw [if_pos (show nI k < (13 : Int32) from nI_lt (b := 13) hk (by omega)), h, zp_bs]
        dsimp only
        rw [zp_uI (by omega) (by omega), zp_bs, nI_1]
      · by_cases e : y = k
        · rw [e, zw_wI_eq]
        · rw [zw_wI_at e, zw_wI_ne (by decide)]; exact q5 y (by omega)) (fun x _ => by
      unfold fn_M_again_l1
      dsimp only
      rw [if_neg (show ¬ nI 13 < (13 : Int32) by decide)]) d0 ⟨fun _ _ _ => rfl, fun _ _ => rfl, rfl, d41, fun y hy => absurd hy (Nat.not_lt_zero y)⟩
    have b1' : zw_whl fn_M_again_l1 zw_F (0, d0) = some d1 := b1
    have h13 := rd d1 13 (by rw [p1 97 (by decide) (by decide)]; exact d97) p4 (by omega)
    obtain ⟨e1, he1⟩ : ∃ e1, e1 = zw_wI (zw_wI d1 71 41 (nI (154 * j + (13 + 1)))) 71 26 (K 13) := ⟨_, rfl⟩
    obtain ⟨d2, b2, u1, u2, u3, u4, u5⟩ := zp_detC (f := fn_M_again_l2) (fun k c => (nI k, c)) (fun k x => (∀ y, y ≠ 71 → y ≠ 89 → x.1 y = e1.1 y) ∧ (∀ y, y ≠ 41 → x.1 71 y = e1.1 71 y) ∧ x.2 = e1.2 ∧ x.1 71 41 = nI (154 * j + (14 + k)) ∧ ∀ y, y < k → x.1 89 y = K (14 + y)) (fun c => c) 6 0 (Nat.zero_le _) (by unfold zw_F; omega) (fun k x _ hk ⟨q1, q2, q3, q4, q5⟩ => by
      have h := rd x (14 + k) (by rw [q1 97 (by decide) (by decide), he1, zw_wI_ne (by decide), zw_wI_ne (by decide), p1 97 (by decide) (by decide)]; exact d97) q4 (by omega)
      refine ⟨zw_wI (zw_wI x 71 41 (nI (154 * j + (14 + k + 1)))) 89 k (K (14 + k)), ?_, fun y y1 y2 => by rw [zw_wI_ne y2, zw_wI_ne y1]; exact q1 y y1 y2, fun y hy => by rw [zw_wI_ne (by decide), zw_wI_at hy]; exact q2 y hy, q3, by rw [zw_wI_ne (by decide), zw_wI_eq]; rfl, fun y hy => ?_⟩
      · unfold fn_M_again_l2
        dsimp only
        rw [if_pos (show nI k < (6 : Int32) from nI_lt (b := 6) hk (by omega)), h, zp_bs]
        dsimp only
        rw [zp_uI (by omega) (by omega), zp_bs, nI_1]
      · by_cases e : y = k
        · rw [e, zw_wI_eq]
        · rw [zw_wI_at e, zw_wI_ne (by decide)]; exact q5 y (by omega)) (fun x _ => by
      unfold fn_M_again_l2
      dsimp only
      rw [if_neg (show ¬ nI 6 < (6 : Int32) by decide)]) e1 ⟨fun _ _ _ => rfl, fun _ _ => rfl, rfl, by rw [he1, zw_wI_at (by decide), zw_wI_eq], fun y hy => absurd hy (Nat.not_lt_zero y)⟩
    have b2' : zw_whl fn_M_again_l2 zw_F (0, e1) = some d2 := b2
    have x97 : d2.1 97 = c.1 97 := by rw [u1 97 (by decide) (by decide), he1, zw_wI_ne (by decide), zw_wI_ne (by decide), p1 97 (by decide) (by decide)]; exact d97
    have h20 := rd d2 20 x97 u4 (by omega)
    obtain ⟨e2, he2⟩ : ∃ e2, e2 = zw_wI (zw_wI d2 71 41 (nI (154 * j + (20 + 1)))) 71 33 (K 20) := ⟨_, rfl⟩
    obtain ⟨d3, b3, v1, v2, v3, v4, v5⟩ := zp_detC (f := fn_M_again_l3) (fun k c => (nI k, c)) (fun k x => (∀ y, y ≠ 71 → y ≠ 94 → y ≠ 95 → y ≠ 96 → x.1 y = e2.1 y) ∧ (∀ y, y ≠ 41 → x.1 71 y = e2.1 71 y) ∧ x.2 = e2.2 ∧ x.1 71 41 = nI (154 * j + (21 + 3 * k)) ∧ ∀ y, y < k → x.1 94 y = K (21 + 3 * y) ∧ x.1 95 y = K (22 + 3 * y) ∧ x.1 96 y = K (23 + 3 * y)) (fun c => c) 40 0 (Nat.zero_le _) (by unfold zw_F; omega) (fun k x _ hk ⟨q1, q2, q3, q4, q5⟩ => by
      have z97 : x.1 97 = c.1 97 := by rw [q1 97 (by decide) (by decide) (by decide) (by decide), he2, zw_wI_ne (by decide), zw_wI_ne (by decide)]; exact x97
      have h := rd x (21 + 3 * k) z97 q4 (by omega)
      obtain ⟨x1, hx1⟩ : ∃ x1, x1 = zw_wI (zw_wI x 71 41 (nI (154 * j + (21 + 3 * k + 1)))) 94 k (K (21 + 3 * k)) := ⟨_, rfl⟩
      have h2 := rd x1 (22 + 3 * k) (by rw [hx1, zw_wI_ne (by decide), zw_wI_ne (by decide)]; exact z97) (by rw [hx1, zw_wI_ne (by decide), zw_wI_eq, show 21 + 3 * k + 1 = 22 + 3 * k by omega]) (by omega)
      obtain ⟨x2, hx2⟩ : ∃ x2, x2 = zw_wI (zw_wI x1 71 41 (nI (154 * j + (22 + 3 * k + 1)))) 95 k (K (22 + 3 * k)) := ⟨_, rfl⟩
      have h3 := rd x2 (23 + 3 * k) (by rw [hx2, zw_wI_ne (by decide), zw_wI_ne (by decide), hx1, zw_wI_ne (by decide), zw_wI_ne (by decide)]; exact z97) (by rw [hx2, zw_wI_ne (by decide), zw_wI_eq, show 22 + 3 * k + 1 = 23 + 3 * k by omega]) (by omega)
      refine ⟨zw_wI (zw_wI x2 71 41 (nI (154 * j + (23 + 3 * k + 1)))) 96 k (K (23 + 3 * k)), ?_, fun y y1 y2 y3 y4 => by rw [zw_wI_ne y4, zw_wI_ne y1, hx2, zw_wI_ne y3, zw_wI_ne y1, hx1, zw_wI_ne y2, zw_wI_ne y1]; exact q1 y y1 y2 y3 y4, fun y hy => by rw [zw_wI_ne (by decide), zw_wI_at hy, hx2, zw_wI_ne (by decide), zw_wI_at hy, hx1, zw_wI_ne (by decide), zw_wI_at hy]; exact q2 y hy, by rw [← q3, show (zw_wI (zw_wI x2 71 41 (nI (154 * j + (23 + 3 * k + 1)))) 96 k (K (23 + 3 * k))).2 = x2.2 from rfl, hx2, show (zw_wI (zw_wI x1 71 41 (nI (154 * j + (22 + 3 * k + 1)))) 95 k (K (22 + 3 * k))).2 = x1.2 from rfl, hx1]; rfl, by rw [zw_wI_ne (by decide), zw_wI_eq, show 23 + 3 * k + 1 = 21 + 3 * (k + 1) by omega], fun y hy => ⟨?_, ?_, ?_⟩⟩
      · unfold fn_M_again_l3
        dsimp only
        rw [if_pos (show nI k < (40 : Int32) from nI_lt (b := 40) hk (by omega)), h, zp_bs]
        dsimp only
        rw [zp_uI (by omega) (by omega), zp_bs, ← hx1, h2, zp_bs]
        dsimp only
        rw [zp_uI (by omega) (by omega), zp_bs, ← hx2, h3, zp_bs]
        dsimp only
        rw [zp_uI (by omega) (by omega), zp_bs, nI_1]
      · rw [zw_wI_ne (by decide), zw_wI_ne (by decide), hx2, zw_wI_ne (by decide), zw_wI_ne (by decide), hx1]
        by_cases e : y = k
        · rw [e, zw_wI_eq]
        · rw [zw_wI_at e, zw_wI_ne (by decide)]; exact (q5 y (by omega)).1
      · rw [zw_wI_ne (by decide), zw_wI_ne (by decide), hx2]
        by_cases e : y = k
        · rw [e, zw_wI_eq]
        · rw [zw_wI_at e, zw_wI_ne (by decide), hx1, zw_wI_ne (by decide), zw_wI_ne (by decide)]; exact (q5 y (by omega)).2.1
      · by_cases e : y = k
        · rw [e, zw_wI_eq]
        · rw [zw_wI_at e, zw_wI_ne (by decide), hx2, zw_wI_ne (by decide), zw_wI_ne (by decide), hx1, zw_wI_ne (by decide), zw_wI_ne (by decide)]; exact (q5 y (by omega)).2.2) (fun x _ => by
      unfold fn_M_again_l3
      dsimp only
      rw [if_neg (show ¬ nI 40 < (40 : Int32) by decide)]) e2 ⟨fun _ _ _ _ _ => rfl, fun _ _ => rfl, rfl, by rw [he2, zw_wI_at (by decide), zw_wI_eq], fun y hy => absurd hy (Nat.not_lt_zero y)⟩
    have b3' : zw_whl fn_M_again_l3 zw_F (0, e2) = some d3 := b3
    have y97 : d3.1 97 = c.1 97 := by rw [v1 97 (by decide) (by decide) (by decide) (by decide), he2, zw_wI_ne (by decide), zw_wI_ne (by decide)]; exact x97
    have h141 := rd d3 141 y97 v4 (by omega)
    obtain ⟨e3, he3⟩ : ∃ e3, e3 = zw_wI (zw_wI d3 71 41 (nI (154 * j + (141 + 1)))) 71 30 (K 141) := ⟨_, rfl⟩
    obtain ⟨d4, b4, w1, w2, w3, w4, w5⟩ := zp_detC (f := fn_M_again_l4) (fun k c => (nI k, c)) (fun k x => (∀ y, y ≠ 71 → y ≠ 92 → y ≠ 93 → x.1 y = e3.1 y) ∧ (∀ y, y ≠ 41 → x.1 71 y = e3.1 71 y) ∧ x.2 = e3.2 ∧ x.1 71 41 = nI (154 * j + (142 + 2 * k)) ∧ ∀ y, y < k → x.1 92 y = K (142 + 2 * y) ∧ x.1 93 y = K (143 + 2 * y)) (fun c => c) 6 0 (Nat.zero_le _) (by unfold zw_F; omega) (fun k x _ hk ⟨q1, q2, q3, q4, q5⟩ => by
      have z97 : x.1 97 = c.1 97 := by rw [q1 97 (by decide) (by decide) (by decide), he3, zw_wI_ne (by decide), zw_wI_ne (by decide)]; exact y97
      have h := rd x (142 + 2 * k) z97 q4 (by omega)
      obtain ⟨x1, hx1⟩ : ∃ x1, x1 = zw_wI (zw_wI x 71 41 (nI (154 * j + (142 + 2 * k + 1)))) 92 k (K (142 + 2 * k)) := ⟨_, rfl⟩
      have h2 := rd x1 (143 + 2 * k) (by rw [hx1, zw_wI_ne (by decide), zw_wI_ne (by decide)]; exact z97) (by rw [hx1, zw_wI_ne (by decide), zw_wI_eq, show 142 + 2 * k + 1 = 143 + 2 * k by omega]) (by omega)
      refine ⟨zw_wI (zw_wI x1 71 41 (nI (154 * j + (143 + 2 * k + 1)))) 93 k (K (143 + 2 * k)), ?_, fun y y1 y2 y3 => by rw [zw_wI_ne y3, zw_wI_ne y1, hx1, zw_wI_ne y2, zw_wI_ne y1]; exact q1 y y1 y2 y3, fun y hy => by rw [zw_wI_ne (by decide), zw_wI_at hy, hx1, zw_wI_ne (by decide), zw_wI_at hy]; exact q2 y hy, by rw [← q3, show (zw_wI (zw_wI x1 71 41 (nI (154 * j + (143 + 2 * k + 1)))) 93 k (K (143 + 2 * k))).2 = x1.2 from rfl, hx1]; rfl, by rw [zw_wI_ne (by decide), zw_wI_eq, show 143 + 2 * k + 1 = 142 + 2 * (k + 1) by omega], fun y hy => ⟨?_, ?_⟩⟩
      · unfold fn_M_again_l4
        dsimp only
        rw [if_pos (show nI k < (6 : Int32) from nI_lt (b := 6) hk (by omega)), h, zp_bs]
        dsimp only
        rw [zp_uI (by omega) (by omega), zp_bs, ← hx1, h2, zp_bs]
        dsimp only
        rw [zp_uI (by omega) (by omega), zp_bs, nI_1]
      · rw [zw_wI_ne (by decide), zw_wI_ne (by decide), hx1]
        by_cases e : y = k
        · rw [e, zw_wI_eq]
        · rw [zw_wI_at e, zw_wI_ne (by decide)]; exact (q5 y (by omega)).1
      · by_cases e : y = k
        · rw [e, zw_wI_eq]
        · rw [zw_wI_at e, zw_wI_ne (by decide), hx1, zw_wI_ne (by decide), zw_wI_ne (by decide)]; exact (q5 y (by omega)).2) (fun x _ => by
      unfold fn_M_again_l4
      dsimp only
      rw [if_neg (show ¬ nI 6 < (6 : Int32) by decide)]) e3 ⟨fun _ _ _ _ => rfl, fun _ _ => rfl, rfl, by rw [he3, zw_wI_at (by decide), zw_wI_eq], fun y hy => absurd hy (Nat.not_lt_zero y)⟩
    have b4' : zw_whl fn_M_again_l4 zw_F (0, e3) = some d4 := b4
    -- what stands where at the end
    have k4 : ∀ y, y ≠ 71 → y ≠ 73 → y ≠ 89 → y ≠ 92 → y ≠ 93 → y ≠ 94 → y ≠ 95 → y ≠ 96 → d4.1 y = c3.1 y := fun y y1 y2 y3 y4 y5 y6 y7 y8 => by rw [w1 y y1 y4 y5, he3, zw_wI_ne y1, zw_wI_ne y1, v1 y y1 y6 y7 y8, he2, zw_wI_ne y1, zw_wI_ne y1, u1 y y1 y3, he1, zw_wI_ne y1, zw_wI_ne y1, p1 y y1 y2, d0k y y1]
    have g73 : ∀ y, y < 13 → d4.1 73 y = K y := fun y hy => by rw [w1 73 (by decide) (by decide) (by decide), he3, zw_wI_ne (by decide), zw_wI_ne (by decide), v1 73 (by decide) (by decide) (by decide) (by decide), he2, zw_wI_ne (by decide), zw_wI_ne (by decide), u1 73 (by decide) (by decide), he1, zw_wI_ne (by decide), zw_wI_ne (by decide)]; exact p5 y hy
    have g89 : ∀ y, y < 6 → d4.1 89 y = K (14 + y) := fun y hy => by rw [w1 89 (by decide) (by decide) (by decide), he3, zw_wI_ne (by decide), zw_wI_ne (by decide), v1 89 (by decide) (by decide) (by decide) (by decide), he2, zw_wI_ne (by decide), zw_wI_ne (by decide)]; exact u5 y hy
    have g9 : ∀ y, y < 40 → d4.1 94 y = K (21 + 3 * y) ∧ d4.1 95 y = K (22 + 3 * y) ∧ d4.1 96 y = K (23 + 3 * y) := fun y hy => by
      rw [w1 94 (by decide) (by decide) (by decide), w1 95 (by decide) (by decide) (by decide), w1 96 (by decide) (by decide) (by decide), he3, zw_wI_ne (show (94 : Nat) ≠ 71 by decide), zw_wI_ne (show (94 : Nat) ≠ 71 by decide), zw_wI_ne (show (95 : Nat) ≠ 71 by decide), zw_wI_ne (show (95 : Nat) ≠ 71 by decide), zw_wI_ne (show (96 : Nat) ≠ 71 by decide), zw_wI_ne (show (96 : Nat) ≠ 71 by decide)]
      exact v5 y hy
    have g26 : d4.1 71 26 = K 13 := by rw [w2 26 (by decide), he3, zw_wI_at (by decide), zw_wI_at (by decide), v2 26 (by decide), he2, zw_wI_at (by decide), zw_wI_at (by decide), u2 26 (by decide), he1, zw_wI_eq]
    have g33 : d4.1 71 33 = K 20 := by rw [w2 33 (by decide), he3, zw_wI_at (by decide), zw_wI_at (by decide), v2 33 (by decide), he2, zw_wI_eq]
    have g30 : d4.1 71 30 = K 141 := by rw [w2 30 (by decide), he3, zw_wI_eq]
    have gf : ∀ y, y ≠ 9 → y ≠ 41 → y ≠ 26 → y ≠ 33 → y ≠ 30 → d4.1 71 y = c.1 71 y := fun y y1 y2 y3 y4 y5 => by rw [w2 y y2, he3, zw_wI_at y5, zw_wI_at y2, v2 y y2, he2, zw_wI_at y4, zw_wI_at y2, u2 y y2, he1, zw_wI_at y3, zw_wI_at y2, p2 y y2, d0f y y1 y2]
    have g2 : d4.2 = c.2 := by
      have z1 : e3.2 = d3.2 := by rw [he3]; rfl
      have z2 : e2.2 = d2.2 := by rw [he2]; rfl
      have z3 : e1.2 = d1.2 := by rw [he1]; rfl
      have z4 : d0.2 = c3.2 := by rw [hd0]; rfl
      rw [w3, z1, v3, z2, u3, z3, p3, z4, t3, a3]
    have cc : ∀ k, k ≠ 58 → k ≠ 71 → k ≠ 73 → k ≠ 89 → k ≠ 92 → k ≠ 93 → k ≠ 94 → k ≠ 95 → k ≠ 96 → d4.1 k = c2.1 k := fun k k0 k1 k2 k3 k4' k5 k6 k7 k8 => by rw [k4 k k1 k2 k3 k4' k5 k6 k7 k8, t2 k k0]
    refine ⟨1, c3, d4, ?_, ?_, zr_held2 hR hRl (fun k k0 k1 k2 k3 k4' k5 => ?_) (fun y h1 h2 => gf y (fun e => h1 (by rw [e]; decide)) (fun e => h1 (by rw [e]; decide)) (fun e => h2 (by rw [e]; decide)) (fun e => h2 (by rw [e]; decide)) (fun e => h2 (by rw [e]; decide))) (fun p hp => by rw [k4 58 (by decide) (by decide) (by decide) (by decide) (by decide) (by decide) (by decide) (by decide), t4 p hp, a2 46 (by omega)]) (by rw [cc 61 (by decide) (by decide) (by decide) (by decide) (by decide) (by decide) (by decide) (by decide) (by decide), a2 61 (by omega)]) (gf 8 (by decide) (by decide) (by decide) (by decide) (by decide)) (by rw [g2]) (by rw [g2]) ?_⟩
    · rw [if_neg hc, zp_aI (by omega) (by omega), zp_bs, hb, if_neg (show ¬ ¬ ¬ (if true = true then (1 : Int32) else 0) = 0 by decide), zp_gr8 (by omega) (by omega), zp_bs, a1, zp_bs, t1, zp_bs]
    · have i98 : (zw_wI c3 71 9 0).1 98 j = 1 := by rw [zw_wI_ne (by decide), f3 98 (by decide) (by omega)]; exact r1
      have i99 : (zw_wI c3 71 9 0).1 99 j = c.1 71 10 := by rw [zw_wI_ne (by decide), f3 99 (by decide) (by omega)]; exact r2
      have i10 : (zw_wI c3 71 9 0).1 71 10 = c.1 71 10 := by rw [zw_wI_at (by decide), f3 71 (by decide) (by omega)]
      rw [zp_bs, if_neg hc, zp_aI (by omega) (by omega), zp_bs, i98, if_neg (by decide), zp_aI (by omega) (by omega), zp_bs, i99, i10, if_neg (fun z => z rfl), show (154 : Int32) = nI 154 by decide, nI_mul, zp_bs, ← hd0, b1', zp_bs, h13, zp_bs]
      dsimp only
      rw [zp_bs, ← he1, b2', zp_bs, h20, zp_bs]
      dsimp only
      rw [zp_bs, ← he2, b3', zp_bs, h141, zp_bs]
      dsimp only
      rw [zp_bs, ← he3, b4', zp_bs]
    · have hk1 : k ∉ zr_HC := k1
      have m : k ≠ 89 ∧ k ≠ 92 ∧ k ≠ 93 ∧ k ≠ 94 ∧ k ≠ 95 ∧ k ≠ 96 ∧ (k < 3 ∨ 10 < k ∨ k = 4) := by
        refine ⟨fun e => k1 (by rw [e]; decide), fun e => k1 (by rw [e]; decide), fun e => k1 (by rw [e]; decide), fun e => k1 (by rw [e]; decide), fun e => k1 (by rw [e]; decide), fun e => k1 (by rw [e]; decide), ?_⟩
        have n3 : k ≠ 3 := fun e => k1 (by rw [e]; decide)
        have n5 : k ≠ 5 := fun e => k1 (by rw [e]; decide)
        have n6 : k ≠ 6 := fun e => k1 (by rw [e]; decide)
        have n7 : k ≠ 7 := fun e => k1 (by rw [e]; decide)
        have n8 : k ≠ 8 := fun e => k1 (by rw [e]; decide)
        have n9 : k ≠ 9 := fun e => k1 (by rw [e]; decide)
        have n10 : k ≠ 10 := fun e => k1 (by rw [e]; decide)
        omega
      rw [cc k k3 k4' k5 m.1 m.2.1 m.2.2.1 m.2.2.2.1 m.2.2.2.2.1 m.2.2.2.2.2.1, a2 k (by omega)]
    · unfold zr_H
      rw [cc 3 (by decide) (by decide) (by decide) (by decide) (by decide) (by decide) (by decide) (by decide) (by decide), cc 4 (by decide) (by decide) (by decide) (by decide) (by decide) (by decide) (by decide) (by decide) (by decide), cc 5 (by decide) (by decide) (by decide) (by decide) (by decide) (by decide) (by decide) (by decide) (by decide), cc 6 (by decide) (by decide) (by decide) (by decide) (by decide) (by decide) (by decide) (by decide) (by decide), cc 7 (by decide) (by decide) (by decide) (by decide) (by decide) (by decide) (by decide) (by decide) (by decide), cc 8 (by decide) (by decide) (by decide) (by decide) (by decide) (by decide) (by decide) (by decide) (by decide), cc 9 (by decide) (by decide) (by decide) (by decide) (by decide) (by decide) (by decide) (by decide) (by decide), cc 10 (by decide) (by decide) (by decide) (by decide) (by decide) (by decide) (by decide) (by decide) (by decide), g26, g33, g30]
      have a4' : ∀ i, i < 13 → c2.1 4 i = c.1 (16 + 8 * j) i := fun i hi => by rw [show 16 + 8 * j = 15 + 8 * j + 1 by omega]; exact a4 i hi
      have a5' : ∀ i, i < 6 → c2.1 5 i = c.1 (17 + 8 * j) i := fun i hi => by rw [show 17 + 8 * j = 15 + 8 * j + 2 by omega]; exact a5 i hi
      have a6' : ∀ i, i < 40 → c2.1 6 i = c.1 (18 + 8 * j) i ∧ c2.1 7 i = c.1 (19 + 8 * j) i ∧ c2.1 8 i = c.1 (20 + 8 * j) i := fun i hi => by rw [show 18 + 8 * j = 15 + 8 * j + 3 by omega, show 19 + 8 * j = 15 + 8 * j + 4 by omega, show 20 + 8 * j = 15 + 8 * j + 5 by omega]; exact a6 i hi
      have a7' : ∀ i, i < 6 → c2.1 9 i = c.1 (21 + 8 * j) i ∧ c2.1 10 i = c.1 (22 + 8 * j) i := fun i hi => by rw [show 21 + 8 * j = 15 + 8 * j + 6 by omega, show 22 + 8 * j = 15 + 8 * j + 7 by omega]; exact a7 i hi
      refine ⟨fun i hi => by rw [a4' i hi, g73 i hi, ← Kv]; exact r3 i hi, fun i hi => by rw [a5' i hi, g89 i hi, ← Kv]; exact r5 i hi, by rw [a8, ← Kv]; exact r4, fun i hi => ?_, by rw [a9, ← Kv]; exact r6, fun i hi => ?_, by rw [a10, ← Kv]; exact r8, ?_⟩
      · obtain ⟨s1, s2, s3⟩ := a6' i hi
        obtain ⟨q1, q2, q3⟩ := g9 i hi
        rw [s1, s2, s3, q1, q2, q3, ← Kv, ← Kv, ← Kv]
        exact r7 i hi
      · obtain ⟨s1, s2⟩ := a7' i hi
        obtain ⟨q1, q2⟩ := w5 i hi
        rw [s1, s2, q1, q2, ← Kv, ← Kv]
        exact r9 i hi
      · obtain ⟨P, Q, p1', p2', p3', p4', p5', p6'⟩ := r10
        refine ⟨P, Q, by rw [a8]; exact p1', p2', by rw [a9]; exact p3', p4', fun y hy => ?_, fun y hy => ?_⟩
        · rw [a5' y (by omega)]; exact p5' y hy
        · obtain ⟨s1, s2, s3⟩ := a6' y (by omega)
          rw [s1, s2, s3]
          exact p6' y hy
