/-! lift, mix: pays made of pays -/
theorem zr_P.fr2 {E T p : Nat} {c c' : zw_Ct} (hET : zt_ET E T) (h1 : c'.1 46 p = c.1 46 p) (h2 : c'.1 82 p = c.1 82 p) (h3 : c'.1 81 p = c.1 81 p) (h4 : c'.1 58 p = c.1 58 p) (h5 : c'.1 (54 + p) = c.1 (54 + p)) (h6 : ∀ k, 1820 * p ≤ k → k < 1820 * (p + 1) → c'.1 83 k = c.1 83 k) (h7 : c'.1 (77 + p) = c.1 (77 + p)) (h8 : c'.1 52 p = c.1 52 p) (h9 : c'.1 (48 + p) = c.1 (48 + p)) (h10 : c'.1 4 = c.1 4) (h : zr_P E T p c) : zr_P E T p c' := by
  have hN : zt_N E T ≤ 455 := (zt_ok hET).2.1
  have hE4 := hET.2.1
  rcases h with h | ⟨a1, a2, a3, a4, a5⟩ | h
  · exact Or.inl ⟨h1.trans h.1, h2.trans h.2.1, h3.trans h.2.2⟩
  · exact Or.inr (Or.inl ⟨h1.trans a1, h2.trans a2, h3.trans a3, h4.trans a4, fun s hs e he => by rw [h5, h6 _ (by omega) (by omega)]; exact a5 s hs e he⟩)
  · exact Or.inr (Or.inr (by rw [h1, h2, h3, h4, h5, h7, h8, h9, h10]; exact h))
theorem zr_made {n E T i : Nat} {c d : zw_Ct} (hi : i < 4) (hR : zr_R c) (hRl : zr_Rl n E T c) (g : ∀ k, k ∉ zr_SC → k ≠ 46 → k ≠ 58 → k ≠ 54 + i → k ≠ 83 → k ≠ 82 → k ≠ 81 → k ≠ 71 → d.1 k = c.1 k) (f : ∀ j, j ∉ zr_FS → d.1 71 j = c.1 71 j) (o46 : ∀ p, p ≠ i → d.1 46 p = c.1 46 p) (o58 : ∀ p, p ≠ i → d.1 58 p = c.1 58 p) (o82 : ∀ p, p ≠ i → d.1 82 p = c.1 82 p) (o81 : ∀ p, p ≠ i → d.1 81 p = c.1 81 p) (o83 : ∀ k, k < 1820 * i ∨ 1820 * (i + 1) ≤ k → d.1 83 k = c.1 83 k) (m46 : d.1 46 i = 2) (m58 : d.1 58 i = 1) (m82 : d.1 82 i = 1) (m81 : d.1 81 i = 0) (mv : ∀ s, s < zt_N E T → ∀ e, e < E → d.1 (54 + i) (4 * s + e) = d.1 83 (4 * (455 * i + s) + e)) (h61 : d.1 61 = c.1 61) (h8 : d.1 71 8 = c.1 71 8) (h62 : d.2 62 = c.2 62) (h75 : d.2 75 = c.2 75) : zr_Rel (n + 1) d := by
  obtain ⟨h1, h2, h3, h4, h5, h6⟩ := hRl
  have hET := h3.1
  have G : ∀ k, k ∉ zr_SC → k ≠ 46 ∧ k ≠ 58 ∧ (k < 54 ∨ 57 < k) ∧ k ≠ 83 ∧ k ≠ 82 ∧ k ≠ 81 ∧ k ≠ 71 → d.1 k = c.1 k := fun k k1 k2 => g k k1 k2.1 k2.2.1 (by omega) k2.2.2.2.1 k2.2.2.2.2.1 k2.2.2.2.2.2.1 k2.2.2.2.2.2.2
  refine ⟨hR.fr (by rw [h61]) h8 h62 h75, E, T, ?_⟩
  refine zr_Rl.up (Nat.le_succ n) ⟨h1.fr (f 10 (by decide)) (G 98 (by decide) (by decide)) (G 99 (by decide) (by decide)), h2.fr (G 40 (by decide) (by decide)) (f 6 (by decide)) (G 41 (by decide) (by decide)) (G 74 (by decide) (by decide)), h3.fr (G 1 (by decide) (by decide)) (G 2 (by decide) (by decide)) (G 72 (by decide) (by decide)) (f 0 (by decide)) (f 1 (by decide)) (f 2 (by decide)), fun p hp => ?_, ?_, fun i hi => ?_⟩
  · by_cases e : p = i
    · subst e
      exact Or.inr (Or.inl ⟨m46, m82, m81, m58, mv⟩)
    · have e1 : d.1 (54 + p) = c.1 (54 + p) := g _ (by rcases (show p = 0 ∨ p = 1 ∨ p = 2 ∨ p = 3 by omega) with rfl | rfl | rfl | rfl <;> decide) (by omega) (by omega) (by omega) (by omega) (by omega) (by omega) (by omega)
      have e2 : d.1 (77 + p) = c.1 (77 + p) := g _ (by rcases (show p = 0 ∨ p = 1 ∨ p = 2 ∨ p = 3 by omega) with rfl | rfl | rfl | rfl <;> decide) (by omega) (by omega) (by omega) (by omega) (by omega) (by omega) (by omega)
      have e3 : d.1 (48 + p) = c.1 (48 + p) := g _ (by rcases (show p = 0 ∨ p = 1 ∨ p = 2 ∨ p = 3 by omega) with rfl | rfl | rfl | rfl <;> decide) (by omega) (by omega) (by omega) (by omega) (by omega) (by omega) (by omega)
      exact (h4 p hp).fr2 hET (o46 p e) (o82 p e) (o81 p e) (o58 p e) e1 (fun k k1 k2 => o83 k (by omega)) e2 (by rw [G 52 (by decide) (by decide)]) e3 (G 4 (by decide) (by decide))
  · exact h5.fr (G 3 (by decide) (by decide)) (G 4 (by decide) (by decide)) (G 5 (by decide) (by decide)) (G 6 (by decide) (by decide)) (G 7 (by decide) (by decide)) (G 8 (by decide) (by decide)) (G 9 (by decide) (by decide)) (G 10 (by decide) (by decide)) (G 73 (by decide) (by decide)) (G 89 (by decide) (by decide)) (G 92 (by decide) (by decide)) (G 93 (by decide) (by decide)) (G 94 (by decide) (by decide)) (G 95 (by decide) (by decide)) (G 96 (by decide) (by decide)) (f 26 (by decide)) (f 33 (by decide)) (f 30 (by decide))
  · refine (h6 i hi).fr (by rw [G 39 (by decide) (by decide)]) (by rw [G 98 (by decide) (by decide)]) (by rw [G 99 (by decide) (by decide)]) (f 10 (by decide)) (G 97 (by decide) (by decide)) (fun k k1 k2 => G k (fun hk => ?_) (by omega))
    simp only [zr_SC, List.mem_cons, List.not_mem_nil, or_false] at hk
    omega
theorem sp_isPayB {c d : zw_Ct} (h82 : d.1 82 = c.1 82) (h81 : d.1 81 = c.1 81) (a : Int32) : fn_M_isPay d a = fn_M_isPay c a := by
  unfold fn_M_isPay zw_aI
  rw [h82, h81]
theorem zo_payN {n : Nat} {c : zw_Ct} (hRel : zr_Rel n c) (a : Int32) : (fn_Pays_valuesOf c a = some (none, c) ∧ fn_M_isPay (zw_wI c 71 9 0) a = some 0) ∨ (∃ (p E T : Nat) (c1 : zw_Ct), p < 4 ∧ a = nI p ∧ fn_Pays_valuesOf c a = some (some (54 + p), c1) ∧ zr_R c1 ∧ zr_Rl n E T c1 ∧ zv_N E T p (fun s e => c1.1 (54 + p) (4 * s + e)) c1 ∧ ∀ d, d.1 82 = c1.1 82 → d.1 81 = c1.1 81 → fn_M_isPay d a = some 1) := by
  obtain ⟨hR, E, T, hRl⟩ := hRel
  rcases sp_isPay hRl (zr_A.rf.wF (i := 9) (v := 0) (by decide)) a with ⟨⟨p, hp, rfl, hk⟩, h1⟩ | ⟨h0, h1⟩
  · obtain ⟨V, c1, e1, e2, e3, e4, e5, e6, e7, e8, e9⟩ := sp_payX hRl hp hk
    have hk1 : ¬ c1.1 46 p = 0 := by rw [e6]; exact hk
    refine Or.inr ⟨p, E, T, c1, hp, rfl, e1, hR.fr (by rw [e3 61 (by decide) (by decide) (by decide) (by omega)]) (by rw [e3 71 (by decide) (by decide) (by decide) (by omega)]) (by rw [e4]) (by rw [e4]), e5, sp_freshN e5 hp hk1 e8, fun d h82 h81 => ?_⟩
    rw [sp_isPayB h82 h81]
    rcases sp_isPay e5 (zr_A.rf (c := c1)) (nI p) with ⟨_, h⟩ | ⟨h, _⟩
    · exact h
    · exact absurd (h p hp rfl) hk1
  · exact Or.inl ⟨sp_nopay h0, h1⟩
theorem sp_become {N i : Nat} {less : Int32} {d : zw_Ct} (hM : d.1 71 2 = nI N) (hN : N ≤ 455) (hi : i < 4) : ∃ d2, fn_M_become d (nI i) less = some d2 ∧ (∀ k, k ≠ 83 → k ≠ 82 → k ≠ 81 → d2.1 k = d.1 k) ∧ d2.2 = d.2 ∧ (∀ p, p ≠ i → d2.1 82 p = d.1 82 p) ∧ (∀ p, p ≠ i → d2.1 81 p = d.1 81 p) ∧ d2.1 82 i = 1 ∧ d2.1 81 i = 0 ∧ (∀ k, k < 1820 * i ∨ 1820 * (i + 1) ≤ k → d2.1 83 k = d.1 83 k) ∧ ∀ k, k < 4 * N → d2.1 83 (1820 * i + k) = d.1 84 k - less := by
  obtain ⟨d1, a1, a2, a3, a4, a5⟩ := zp_detC (f := fn_M_become_l1 (nI i) less) (fun j c => (nI j, c)) (fun j x => (∀ k, k ≠ 83 → x.1 k = d.1 k) ∧ x.2 = d.2 ∧ (∀ k, k < 1820 * i ∨ 1820 * (i + 1) ≤ k → x.1 83 k = d.1 83 k) ∧ ∀ k, k < j → x.1 83 (1820 * i + k) = d.1 84 k - less) (fun c => c) (4 * N) 0 (Nat.zero_le _) (by unfold zw_F; omega) (fun j x _ hj ⟨q1, q2, q3, q4⟩ => by
    refine ⟨zw_wI x 83 (1820 * i + j) (d.1 84 j - less), ?_, fun k hk => by rw [zw_wI_ne hk]; exact q1 k hk, q2, fun k hk => by rw [zw_wI_at (by omega)]; exact q3 k hk, fun k hk => ?_⟩
    · unfold fn_M_become_l1
      dsimp only
      rw [q1 71 (by decide), hM, nI_4', if_pos (nI_lt hj (by omega)), zp_aI (by omega) (by omega), zp_bs, q1 84 (by decide), show (1820 : Int32) = nI 1820 by decide, nI_mul, nI_add, zp_uI (by omega) (by omega), zp_bs, nI_1]
    · by_cases e : k = j
      · rw [e, zw_wI_eq]
      · rw [zw_wI_at (by omega)]; exact q4 k (by omega)) (fun x ⟨q1, q2, q3, q4⟩ => by
    unfold fn_M_become_l1
    dsimp only
    rw [q1 71 (by decide), hM, nI_4', if_neg (nI_nlt (Nat.le_refl _) (by omega))]) d ⟨fun _ _ => rfl, rfl, fun _ _ => rfl, fun k hk => absurd hk (Nat.not_lt_zero k)⟩
  have a1' : zw_whl (fn_M_become_l1 (nI i) less) zw_F (0, d) = some d1 := a1
  refine ⟨zw_wI (zw_wI d1 82 i 1) 81 i 0, ?_, fun k k1 k2 k3 => by rw [zw_wI_ne k3, zw_wI_ne k2]; exact a2 k k1, a3, fun p hp => by rw [zw_wI_ne (by decide), zw_wI_at hp, a2 82 (by decide)], fun p hp => by rw [zw_wI_at hp, zw_wI_ne (by decide), a2 81 (by decide)], by rw [zw_wI_ne (by decide), zw_wI_eq], zw_wI_eq, fun k hk => by rw [zw_wI_ne (by decide), zw_wI_ne (by decide)]; exact a4 k hk, fun k hk => by rw [zw_wI_ne (by decide), zw_wI_ne (by decide)]; exact a5 k hk⟩
  unfold fn_M_become
  rw [a1', zp_bs, zp_uI hi (by omega), zp_bs, zp_uI hi (by omega), zp_bs]
theorem sp_setMade {i : Nat} {c : zw_Ct} (hi : i < 4) : fn_Pays_setMade c (nI i) = some (zw_wI (zw_wI c 46 i 2) 58 i 1) := by
  unfold fn_Pays_setMade
  rw [zp_uI hi (by omega), zp_bs, zp_uI hi (by omega), zp_bs]
theorem sp_lifts {N i p : Nat} {least : Int32} {c : zw_Ct} (hS : c.1 1 2 = nI N) (hN : N ≤ 455) (hi : i < 4) (hp : p < 4) : ∃ c2, zw_whl (fn_Pays_makeLifted_l1 (54 + p) (54 + i) least) zw_F (0, c) = some c2 ∧ (∀ k, k ≠ 54 + i → c2.1 k = c.1 k) ∧ c2.2 = c.2 ∧ ∀ k, k < 4 * N → c2.1 (54 + i) k = c.1 (54 + p) k - least := by
  obtain ⟨c2, a1, a2, a3, a4, -⟩ := zp_detC (f := fn_Pays_makeLifted_l1 (54 + p) (54 + i) least) (fun j c => (nI j, c)) (fun j x => (∀ k, k ≠ 54 + i → x.1 k = c.1 k) ∧ x.2 = c.2 ∧ (∀ k, k < j → x.1 (54 + i) k = c.1 (54 + p) k - least) ∧ ∀ k, j ≤ k → x.1 (54 + i) k = c.1 (54 + i) k) (fun c => c) (4 * N) 0 (Nat.zero_le _) (by unfold zw_F; omega) (fun j x _ hj ⟨q1, q2, q3, q4⟩ => by
    have hx : x.1 (54 + p) j = c.1 (54 + p) j := by
      by_cases e : p = i
      · rw [e]; exact q4 j (Nat.le_refl _)
      · rw [q1 _ (by omega)]
    refine ⟨zw_wI x (54 + i) j (c.1 (54 + p) j - least), ?_, fun k hk => by rw [zw_wI_ne hk]; exact q1 k hk, q2, fun k hk => ?_, fun k hk => by rw [zw_wI_at (by omega)]; exact q4 k (by omega)⟩
    · unfold fn_Pays_makeLifted_l1
      dsimp only
      rw [q1 1 (by omega), hS, nI_4, if_pos (nI_lt hj (by omega)), zp_dI (zo_len hp) (by omega) (by omega), zp_bs, hx, zp_eI (zo_len hi) (by omega) (by omega), zp_bs, nI_1]
    · by_cases e : k = j
      · rw [e, zw_wI_eq]
      · rw [zw_wI_at e]; exact q3 k (by omega)) (fun x ⟨q1, q2, q3, q4⟩ => by
    unfold fn_Pays_makeLifted_l1
    dsimp only
    rw [q1 1 (by omega), hS, nI_4, if_neg (nI_nlt (Nat.le_refl _) (by omega))]) c ⟨fun _ _ => rfl, rfl, fun k hk => absurd hk (Nat.not_lt_zero k), fun _ _ => rfl⟩
  exact ⟨c2, a1, a2, a3, a4⟩
theorem sp_mixes {N i p q : Nat} {a b : Int32} {c : zw_Ct} (hS : c.1 1 2 = nI N) (hN : N ≤ 455) (hi : i < 4) (hp : p < 4) (hq : q < 4) : ∃ c2, zw_whl (fn_Pays_makeOfTwo_l1 (54 + p) (54 + q) (54 + i) a b) zw_F (0, c) = some c2 ∧ (∀ k, k ≠ 54 + i → c2.1 k = c.1 k) ∧ c2.2 = c.2 ∧ ∀ k, k < 4 * N → c2.1 (54 + i) k = (a * c.1 (54 + p) k) + (b * c.1 (54 + q) k) := by
  obtain ⟨c2, a1, a2, a3, a4, -⟩ := zp_detC (f := fn_Pays_makeOfTwo_l1 (54 + p) (54 + q) (54 + i) a b) (fun j c => (nI j, c)) (fun j x => (∀ k, k ≠ 54 + i → x.1 k = c.1 k) ∧ x.2 = c.2 ∧ (∀ k, k < j → x.1 (54 + i) k = (a * c.1 (54 + p) k) + (b * c.1 (54 + q) k)) ∧ ∀ k, j ≤ k → x.1 (54 + i) k = c.1 (54 + i) k) (fun c => c) (4 * N) 0 (Nat.zero_le _) (by unfold zw_F; omega) (fun j x _ hj ⟨q1, q2, q3, q4⟩ => by
    have hx : ∀ r : Nat, x.1 (54 + r) j = c.1 (54 + r) j := fun r => by
      by_cases e : r = i
      · rw [e]; exact q4 j (Nat.le_refl _)
      · rw [q1 _ (by omega)]
    refine ⟨zw_wI x (54 + i) j ((a * c.1 (54 + p) j) + (b * c.1 (54 + q) j)), ?_, fun k hk => by rw [zw_wI_ne hk]; exact q1 k hk, q2, fun k hk => ?_, fun k hk => by rw [zw_wI_at (by omega)]; exact q4 k (by omega)⟩
    · unfold fn_Pays_makeOfTwo_l1
      dsimp only
      rw [q1 1 (by omega), hS, nI_4, if_pos (nI_lt hj (by omega)), zp_dI (zo_len hp) (by omega) (by omega), zp_bs, zp_dI (zo_len hq) (by omega) (by omega), zp_bs, hx, hx, zp_eI (zo_len hi) (by omega) (by omega), zp_bs, nI_1]
    · by_cases e : k = j
      · rw [e, zw_wI_eq]
      · rw [zw_wI_at e]; exact q3 k (by omega)) (fun x ⟨q1, q2, q3, q4⟩ => by
    unfold fn_Pays_makeOfTwo_l1
    dsimp only
    rw [q1 1 (by omega), hS, nI_4, if_neg (nI_nlt (Nat.le_refl _) (by omega))]) c ⟨fun _ _ => rfl, rfl, fun k hk => absurd hk (Nat.not_lt_zero k), fun _ _ => rfl⟩
  exact ⟨c2, a1, a2, a3, a4⟩
theorem sp_Mlift {E T N : Nat} {pt : Nat → Nat → Nat} {V : Nat → Nat → Int32} {d : zw_Ct} (hT : zr_T E T N pt) (hM : zr_M E T N pt d) (hV : zr_V 84 E N V d) : zw_whl (fn_M_lift_l1 d) zw_F (V 0 0, 0) = some (V (zj_eO V E N).1 (zj_eO V E N).2) := by
  have hN := hT.2.2.2.2.2.1
  have hN2 := hT.2.2.2.2.1
  have hE2 := hT.1
  have hE4 := hT.2.1
  have inner : ∀ s, s < N → ∀ q : Nat × Nat, zw_whl (fn_M_lift_l2 d (nI s)) zw_F (V q.1 q.2, 0) = some (V (zj_eI V s q E).1 (zj_eI V s q E).2) := fun s hs q => by
    have h := zp_det (f := fn_M_lift_l2 d (nI s)) (x := V (zj_eI V s q E).1 (zj_eI V s q E).2) (fun i => (V (zj_eI V s q i).1 (zj_eI V s q i).2, nI i)) E 0 (Nat.zero_le _) (by unfold zw_F; omega) (fun e _ he => by
      have es : zj_eI V s q (e + 1) = if V s e < V (zj_eI V s q e).1 (zj_eI V s q e).2 then (s, e) else zj_eI V s q e := rfl
      unfold fn_M_lift_l2
      dsimp only
      rw [hM.1, if_pos (nI_lt he (by omega)), nI_at', zp_aI (by omega) (by omega), zp_bs, zp_bs, hV s hs e he, nI_1, es]
      by_cases hc : V s e < V (zj_eI V s q e).1 (zj_eI V s q e).2
      · rw [if_pos hc, if_pos hc]
      · rw [if_neg hc, if_neg hc]) (by
      unfold fn_M_lift_l2
      dsimp only
      rw [hM.1, if_neg (nI_nlt (Nat.le_refl _) (by omega))])
    exact h
  have h := zp_det (f := fn_M_lift_l1 d) (x := V (zj_eO V E N).1 (zj_eO V E N).2) (fun i => (V (zj_eO V E i).1 (zj_eO V E i).2, nI i)) N 0 (Nat.zero_le _) (by unfold zw_F; omega) (fun s _ hs => by
    unfold fn_M_lift_l1
    dsimp only
    rw [hM.2.2.1, if_pos (nI_lt hs (by omega)), inner s hs, zp_bs, nI_1]
    rfl) (by
    unfold fn_M_lift_l1
    dsimp only
    rw [hM.2.2.1, if_neg (nI_nlt (Nat.le_refl _) (by omega))])
  exact h
theorem zo_lift : zq_lift zr_Rel := by
  intro n c hn hRel i b
  have w : fn_M_in i.toInt64 0 3 = fn_P_within i 0 3 := in_within i 0 3
  unfold fn_P_lift fn_M_lift
  rw [w]
  rcases zo_payN hRel b with ⟨h1, h2⟩ | ⟨p, E, T, c1, hp, rfl, h1, hR, hRl, hM, hisP⟩
  · refine ⟨-1, c, zw_wI c 71 9 0, ?_, ?_, zr_thr hRel⟩
    · rw [h1, zp_bs]
      dsimp only
      rw [if_pos (Or.inl rfl)]
    · rw [zp_bs]
      by_cases hw : ¬ ¬ fn_P_within i 0 3 = 0
      · rw [if_pos hw]
      · rw [if_neg hw, h2, zp_bs, if_pos (by decide)]
  · have hTab := hRl.2.2.1
    have hT := zt_T hTab.1
    have hN : zt_N E T ≤ 455 := hT.2.2.2.2.2.1
    have hN2 : 2 ≤ zt_N E T := hT.2.2.2.2.1
    have hE2 := hTab.1.1
    have hE4 := hTab.1.2.1
    have hRel1 : zr_Rel n c1 := ⟨hR, E, T, hRl⟩
    rw [h1, zp_bs]
    dsimp only
    by_cases hc : (((some (54 + p) : Option Nat) = none) ∨ (¬ ¬ fn_P_within i 0 3 = 0))
    · refine ⟨-1, c1, zw_wI c1 71 9 0, by rw [if_pos hc], ?_, zr_thr hRel1⟩
      rw [zp_bs, if_pos (hc.resolve_left (fun q => by cases q))]
    · obtain ⟨ij, hij, rfl⟩ := within_n (a := i) (m := 3) rfl (by omega) (within_1 (a := i) (lo := 0) (hi := 3) (fun q => hc (Or.inr (fun z => z q))))
      obtain ⟨V, hVd⟩ : ∃ V : Nat → Nat → Int32, V = fun s e => c1.1 (54 + p) (4 * s + e) := ⟨_, rfl⟩
      have hV : zr_V (54 + p) E (zt_N E T) V c1 := fun s _ e _ => by rw [hVd]
      rw [← hVd] at hM
      obtain ⟨q, hq⟩ : ∃ q, q = zj_eO V E (zt_N E T) := ⟨_, rfl⟩
      have hqb : q.1 < zt_N E T ∧ q.2 < E := by rw [hq]; exact zj_eO_b (by omega) (by omega) _ (Nat.le_refl _)
      have hle := sp_least hT hTab.2.1 (zo_len hp) hV
      rw [← hq] at hle
      obtain ⟨c2, a1, a2, a3, a4⟩ := sp_lifts (i := ij) (p := p) (least := V q.1 q.2) hTab.2.1.2.2.1 hN (by omega) hp
      obtain ⟨c3, hc3⟩ : ∃ c3, c3 = zw_wI (zw_wI c2 46 ij 2) 58 ij 1 := ⟨_, rfl⟩
      have f3 : ∀ k, k ≠ 46 → k ≠ 58 → k ≠ 54 + ij → c3.1 k = c1.1 k := fun k k1 k2 k3 => by rw [hc3, zw_wI_ne k2, zw_wI_ne k1]; exact a2 k k3
      have hB : zr_B c1 (zw_wI c3 71 9 0) := ⟨fun k hk => by
        have hk' : k = 72 ∨ k = 73 ∨ k = 77 ∨ k = 78 ∨ k = 79 ∨ k = 80 ∨ k = 81 ∨ k = 82 ∨ k = 83 := by simpa only [zr_MC, List.mem_cons, List.not_mem_nil, or_false] using hk
        rw [zw_wI_ne (by omega), f3 k (by omega) (by omega) (by omega)], fun j hj => by rw [zw_wI_at (fun e => hj (by rw [e]; decide)), f3 71 (by decide) (by decide) (by omega)]⟩
      obtain ⟨d1, b1, b2, b3, b4, b5⟩ := sp_layPayN hTab.1 hTab.2.2 hM hB
      have hB1 : zr_B c1 d1 := ⟨fun k hk => by
        have hk' : k = 72 ∨ k = 73 ∨ k = 77 ∨ k = 78 ∨ k = 79 ∨ k = 80 ∨ k = 81 ∨ k = 82 ∨ k = 83 := by simpa only [zr_MC, List.mem_cons, List.not_mem_nil, or_false] using hk
        rw [b3 k (by omega) (by omega)]; exact hB.1 k hk, fun j hj => by rw [b4 j (Or.inl hj)]; exact hB.2 j hj⟩
      have hM1 := hB1.M hTab.2.2
      have v0 : d1.1 84 0 = V 0 0 := b2 0 (by omega) 0 (by omega)
      have ml := sp_Mlift hT hM1 b2
      rw [← hq] at ml
      obtain ⟨d2, e1, e2, e3, e4, e5, e6, e7, e8, e9⟩ := sp_become (less := V q.1 q.2) hM1.2.2.1 hN (show ij < 4 by omega)
      have vq : c1.1 (54 + p) (4 * q.1 + q.2) = V q.1 q.2 := hV q.1 hqb.1 q.2 hqb.2
      have D : ∀ k, k ≠ 71 → k ≠ 84 → k ≠ 83 → k ≠ 82 → k ≠ 81 → d2.1 k = c3.1 k := fun k k1 k2 k3 k4 k5 => by rw [e2 k k3 k4 k5, b3 k k1 k2, zw_wI_ne k1]
      refine ⟨-V q.1 q.2, c3, d2, ?_, ?_, zr_made (i := ij) (by omega) hR hRl (fun k k0 k1 k2 k3 k4 k5 k6 k7 => by rw [D k k7 (fun e => k0 (by rw [e]; decide)) k4 k5 k6, f3 k k1 k2 k3]) (fun j hj => by rw [e2 71 (by decide) (by decide) (by decide)]; exact hB1.2 j hj) (fun x hx => by rw [D 46 (by decide) (by decide) (by decide) (by decide) (by decide), hc3, zw_wI_ne (by decide), zw_wI_at hx, a2 46 (by omega)]) (fun x hx => by rw [D 58 (by decide) (by decide) (by decide) (by decide) (by decide), hc3, zw_wI_at hx, zw_wI_ne (by decide), a2 58 (by omega)]) (fun x hx => by rw [e4 x hx]; exact congrFun (hB1.1 82 (by decide)) x) (fun x hx => by rw [e5 x hx]; exact congrFun (hB1.1 81 (by decide)) x) (fun k hk => by rw [e8 k hk]; exact congrFun (hB1.1 83 (by decide)) k) ?_ ?_ e6 e7 (fun s hs e he => ?_) ?_ ?_ ?_ ?_⟩
      · rw [if_neg hc, zp_bs]
        unfold fn_Pays_makeLifted
        rw [hle, zp_bs, zp_dI (zo_len hp) (by omega) (by omega), zp_bs, vq, zp_gr (by omega) (by omega), zp_bs, a1, zp_bs, sp_setMade (by omega), ← hc3, zp_bs, zp_bs]
      · rw [zp_bs, if_neg (fun z => hc (Or.inr z)), hisP _ (hB.1 82 (by decide)) (hB.1 81 (by decide)), zp_bs, if_neg (by decide), b1, zp_bs]
        have ez : zw_aI 1820 d1 84 0 = some (V 0 0) := by rw [← v0]; exact zp_aI (k := 0) (by omega) (by omega)
        rw [ez, zp_bs, ml, zp_bs, e1, zp_bs]
      · rw [D 46 (by decide) (by decide) (by decide) (by decide) (by decide), hc3, zw_wI_ne (by decide), zw_wI_eq]
      · rw [D 58 (by decide) (by decide) (by decide) (by decide) (by decide), hc3, zw_wI_eq]
      · rw [D _ (by omega) (by omega) (by omega) (by omega) (by omega), hc3, zw_wI_ne (by omega), zw_wI_ne (by omega), a4 _ (by omega), show 4 * (455 * ij + s) + e = 1820 * ij + (4 * s + e) by omega, e9 _ (by omega), b2 s hs e he, hV s hs e he]
      · rw [D 61 (by decide) (by decide) (by decide) (by decide) (by decide), f3 61 (by decide) (by decide) (by omega)]
      · rw [e2 71 (by decide) (by decide) (by decide), b4 8 (Or.inr rfl), zw_wI_at (by decide), f3 71 (by decide) (by decide) (by omega)]
      · rw [e3, b5]
        show c3.2 62 = c1.2 62
        rw [hc3]
        show c2.2 62 = c1.2 62
        rw [a3]
      · rw [e3, b5]
        show c3.2 75 = c1.2 75
        rw [hc3]
        show c2.2 75 = c1.2 75
        rw [a3]
theorem zo_mix : zq_mix zr_Rel := by
  intro n c hn hRel i x y a b
  have w : fn_M_in i.toInt64 0 3 = fn_P_within i 0 3 := in_within i 0 3
  have wa : fn_M_in a.toInt64 (-9) 9 = fn_P_within a (-9) 9 := in_within a (-9) 9
  have wb : fn_M_in b.toInt64 (-9) 9 = fn_P_within b (-9) 9 := in_within b (-9) 9
  unfold fn_P_mix fn_M_mix
  rw [w, wa, wb]
  rcases zo_pays hRel x y with ⟨r, r', c1, c2, e1, e2, e3, e4, e5⟩ | ⟨p, q, E, T, c1, c2, hp, hq, rfl, rfl, e1, e2, hR, hRl, hV, hW, hisP⟩
  · refine ⟨0, c2, zw_wI c2 71 9 0, ?_, ?_, zr_thr e4⟩
    · rw [e1, zp_bs]
      dsimp only
      rw [e2, zp_bs]
      dsimp only
      rw [if_pos (Or.inl e3)]
    · rw [zp_bs]
      by_cases hw : ¬ ¬ fn_P_within i 0 3 = 0
      · rw [if_pos hw]
      · rw [if_neg hw]
        rcases e5 with h | ⟨h, h'⟩
        · rw [h, zp_bs, if_pos (by decide)]
        · rw [h, zp_bs, if_neg (by decide), h', zp_bs, if_pos (by decide)]
  · have hTab := hRl.2.2.1
    have hT := zt_T hTab.1
    have hN : zt_N E T ≤ 455 := hT.2.2.2.2.2.1
    have hE4 := hTab.1.2.1
    have hRel2 : zr_Rel n c2 := ⟨hR, E, T, hRl⟩
    rw [e1, zp_bs]
    dsimp only
    rw [e2, zp_bs]
    dsimp only
    have hA9 : zr_A c2 (zw_wI c2 71 9 0) := zr_A.rf.wF (by decide)
    obtain ⟨i1, i2⟩ := hisP _ hA9
    by_cases hw : ¬ ¬ fn_P_within i 0 3 = 0
    · refine ⟨0, c2, zw_wI c2 71 9 0, by rw [if_pos (Or.inr hw)], ?_, zr_thr hRel2⟩
      rw [zp_bs, if_pos hw]
    by_cases hab : (¬ ¬ fn_P_within a (-9) 9 = 0) ∨ (¬ ¬ fn_P_within b (-9) 9 = 0)
    · refine ⟨0, c2, zw_wI c2 71 9 0, by rw [if_neg (by rintro ((h | h) | h); cases h; cases h; exact hw h), if_pos hab], ?_, zr_thr hRel2⟩
      rw [zp_bs, if_neg hw, i1, zp_bs, if_neg (by decide), i2, zp_bs, if_neg (by decide)]
      by_cases ha : ¬ ¬ fn_P_within a (-9) 9 = 0
      · rw [if_pos ha]
      · rw [if_neg ha, if_pos (hab.resolve_left ha)]
    obtain ⟨ij, hij, rfl⟩ := within_n (a := i) (m := 3) rfl (by omega) (within_1 (a := i) (lo := 0) (hi := 3) (fun q => hw (fun z => z q)))
    obtain ⟨c3, a1, a2, a3, a4⟩ := sp_mixes (i := ij) (p := p) (q := q) (a := a) (b := b) hTab.2.1.2.2.1 hN (by omega) hp hq
    obtain ⟨c4, hc4⟩ : ∃ c4, c4 = zw_wI (zw_wI c3 46 ij 2) 58 ij 1 := ⟨_, rfl⟩
    have f4 : ∀ k, k ≠ 46 → k ≠ 58 → k ≠ 54 + ij → c4.1 k = c2.1 k := fun k k1 k2 k3 => by rw [hc4, zw_wI_ne k2, zw_wI_ne k1]; exact a2 k k3
    have hB : zr_B c2 (zw_wI c4 71 9 0) := ⟨fun k hk => by
      have hk' : k = 72 ∨ k = 73 ∨ k = 77 ∨ k = 78 ∨ k = 79 ∨ k = 80 ∨ k = 81 ∨ k = 82 ∨ k = 83 := by simpa only [zr_MC, List.mem_cons, List.not_mem_nil, or_false] using hk
      rw [zw_wI_ne (by omega), f4 k (by omega) (by omega) (by omega)], fun j hj => by rw [zw_wI_at (fun e => hj (by rw [e]; decide)), f4 71 (by decide) (by decide) (by omega)]⟩
    obtain ⟨d1, b1, b2, b2', b3, b4, b5⟩ := sp_layBoth hTab.1 hTab.2.2 hV hW hB
    obtain ⟨d2, g1, g2, g3, g4⟩ := zp_detC (f := fn_M_mix_l1 a b) (fun j c => (nI j, c)) (fun j z => (∀ k, k ≠ 84 → z.1 k = d1.1 k) ∧ z.2 = d1.2 ∧ (∀ k, k < j → z.1 84 k = (a * d1.1 84 k) + (b * d1.1 85 k)) ∧ ∀ k, j ≤ k → z.1 84 k = d1.1 84 k) (fun c => c) 1820 0 (Nat.zero_le _) (by unfold zw_F; omega) (fun j z _ hj ⟨q1, q2, q3, q4⟩ => by
      refine ⟨zw_wI z 84 j ((a * d1.1 84 j) + (b * d1.1 85 j)), ?_, fun k hk => by rw [zw_wI_ne hk]; exact q1 k hk, q2, fun k hk => ?_, fun k hk => by rw [zw_wI_at (by omega)]; exact q4 k (by omega)⟩
      · unfold fn_M_mix_l1
        dsimp only
        rw [if_pos (show nI j < (1820 : Int32) from nI_lt (b := 1820) hj (by omega)), zp_aI (by omega) (by omega), zp_bs, zp_aI (by omega) (by omega), zp_bs, q4 j (Nat.le_refl _), q1 85 (by decide), zp_uI (by omega) (by omega), zp_bs, nI_1]
      · by_cases e : k = j
        · rw [e, zw_wI_eq]
        · rw [zw_wI_at e]; exact q3 k (by omega)) (fun z _ => by
      unfold fn_M_mix_l1
      dsimp only
      rw [if_neg (show ¬ nI 1820 < (1820 : Int32) by decide)]) d1 ⟨fun _ _ => rfl, rfl, fun k hk => absurd hk (Nat.not_lt_zero k), fun _ _ => rfl⟩
    have g1' : zw_whl (fn_M_mix_l1 a b) zw_F (0, d1) = some d2 := g1
    have hB2 : zr_B c2 d2 := ⟨fun k hk => by
      have hk' : k = 72 ∨ k = 73 ∨ k = 77 ∨ k = 78 ∨ k = 79 ∨ k = 80 ∨ k = 81 ∨ k = 82 ∨ k = 83 := by simpa only [zr_MC, List.mem_cons, List.not_mem_nil, or_false] using hk
      rw [g2 k (by omega), b3 k (by omega) (by omega) (by omega)]; exact hB.1 k hk, fun j hj => by rw [g2 71 (by decide), b4 j (Or.inl hj)]; exact hB.2 j hj⟩
    obtain ⟨d3, u1, u2, u3, u4, u5, u6, u7, u8, u9⟩ := sp_become (less := 0) (hB2.M hTab.2.2).2.2.1 hN (show ij < 4 by omega)
    have D : ∀ k, k ≠ 71 → k ≠ 84 → k ≠ 85 → k ≠ 83 → k ≠ 82 → k ≠ 81 → d3.1 k = c4.1 k := fun k k1 k2 k22 k3 k4 k5 => by rw [u2 k k3 k4 k5, g2 k k2, b3 k k1 k2 k22, zw_wI_ne k1]
    have ip : ∀ z, fn_M_isPay (zw_wI c4 71 9 0) z = fn_M_isPay (zw_wI c2 71 9 0) z := fun z => sp_isPayB (by rw [hB.1 82 (by decide), zw_wI_ne (by decide)]) (by rw [hB.1 81 (by decide), zw_wI_ne (by decide)]) z
    refine ⟨1, c4, d3, ?_, ?_, zr_made (i := ij) (by omega) hR hRl (fun k k0 k1 k2 k3 k4 k5 k6 k7 => by rw [D k k7 (fun e => k0 (by rw [e]; decide)) (fun e => k0 (by rw [e]; decide)) k4 k5 k6, f4 k k1 k2 k3]) (fun j hj => by rw [u2 71 (by decide) (by decide) (by decide)]; exact hB2.2 j hj) (fun x hx => by rw [D 46 (by decide) (by decide) (by decide) (by decide) (by decide) (by decide), hc4, zw_wI_ne (by decide), zw_wI_at hx, a2 46 (by omega)]) (fun x hx => by rw [D 58 (by decide) (by decide) (by decide) (by decide) (by decide) (by decide), hc4, zw_wI_at hx, zw_wI_ne (by decide), a2 58 (by omega)]) (fun x hx => by rw [u4 x hx]; exact congrFun (hB2.1 82 (by decide)) x) (fun x hx => by rw [u5 x hx]; exact congrFun (hB2.1 81 (by decide)) x) (fun k hk => by rw [u8 k hk]; exact congrFun (hB2.1 83 (by decide)) k) ?_ ?_ u6 u7 (fun s hs e he => ?_) ?_ ?_ ?_ ?_⟩
    · rw [if_neg (by rintro ((h | h) | h); cases h; cases h; exact hw h), if_neg hab, zp_bs, zp_bs]
      unfold fn_Pays_makeOfTwo
      rw [zp_gr (by omega) (by omega), zp_bs, a1, zp_bs, sp_setMade (by omega), ← hc4, zp_bs, zp_bs]
    · rw [zp_bs, if_neg hw, ip, i1, zp_bs, if_neg (by decide), ip, i2, zp_bs, if_neg (by decide), if_neg (fun z => hab (Or.inl z)), if_neg (fun z => hab (Or.inr z)), b1, zp_bs, g1', zp_bs, u1, zp_bs]
    · rw [D 46 (by decide) (by decide) (by decide) (by decide) (by decide) (by decide), hc4, zw_wI_ne (by decide), zw_wI_eq]
    · rw [D 58 (by decide) (by decide) (by decide) (by decide) (by decide) (by decide), hc4, zw_wI_eq]
    · rw [D _ (by omega) (by omega) (by omega) (by omega) (by omega) (by omega), hc4, zw_wI_ne (by omega), zw_wI_ne (by omega), a4 _ (by omega), show 4 * (455 * ij + s) + e = 1820 * ij + (4 * s + e) by omega, u9 _ (by omega), g4.1 _ (by omega), b2 s hs e he, b2' s hs e he, Int32.sub_zero]
    · rw [D 61 (by decide) (by decide) (by decide) (by decide) (by decide) (by decide), f4 61 (by decide) (by decide) (by omega)]
    · rw [u2 71 (by decide) (by decide) (by decide), g2 71 (by decide), b4 8 (Or.inr rfl), zw_wI_at (by decide), f4 71 (by decide) (by decide) (by omega)]
    · rw [u3, g3, b5]
      show c4.2 62 = c2.2 62
      rw [hc4]
      show c3.2 62 = c2.2 62
      rw [a3]
    · rw [u3, g3, b5]
      show c4.2 75 = c2.2 75
      rw [hc4]
      show c3.2 75 = c2.2 75
      rw [a3]
