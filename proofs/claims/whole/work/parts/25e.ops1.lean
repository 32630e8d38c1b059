/-! frames of the relation; the smallest calls -/
theorem zw_wI_at {c : zw_Ct} {k i j : Nat} {v : Int32} (h : j ≠ i) : (zw_wI c k i v).1 k j = c.1 k j := if_neg (fun q => h q.2)
theorem zw_wI_eq {c : zw_Ct} {k i : Nat} {v : Int32} : (zw_wI c k i v).1 k i = v := if_pos ⟨rfl, rfl⟩
theorem zw_wL_at {c : zw_Ct} {k i j : Nat} {v : Int64} (h : j ≠ i) : (zw_wL c k i v).2 k j = c.2 k j := if_neg (fun q => h q.2)
theorem zw_wL_eq {c : zw_Ct} {k i : Nat} {v : Int64} : (zw_wL c k i v).2 k i = v := if_pos ⟨rfl, rfl⟩
theorem zr_N.fr {n : Nat} {c c' : zw_Ct} (h1 : c'.1 71 10 = c.1 71 10) (h2 : c'.1 98 = c.1 98) (h3 : c'.1 99 = c.1 99) (h : zr_N n c) : zr_N n c' := by
  unfold zr_N at h ⊢; rw [h1, h2, h3]; exact h
theorem zr_X.fr {c c' : zw_Ct} (h1 : c'.1 40 = c.1 40) (h2 : c'.1 71 6 = c.1 71 6) (h3 : c'.1 41 = c.1 41) (h4 : c'.1 74 = c.1 74) (h : zr_X c) : zr_X c' := by
  unfold zr_X at h ⊢; rw [h1, h2, h3, h4]; exact h
theorem zr_R.fr {c c' : zw_Ct} (h1 : c'.1 61 1 = c.1 61 1) (h2 : c'.1 71 8 = c.1 71 8) (h3 : c'.2 62 = c.2 62) (h4 : c'.2 75 = c.2 75) (h : zr_R c) : zr_R c' := by
  unfold zr_R at h ⊢; rw [h1, h2, h3, h4]; exact h
theorem zr_Tab.fr {E T : Nat} {c c' : zw_Ct} (h1 : c'.1 1 = c.1 1) (h2 : c'.1 2 = c.1 2) (h3 : c'.1 72 = c.1 72) (h4 : c'.1 71 0 = c.1 71 0) (h5 : c'.1 71 1 = c.1 71 1) (h6 : c'.1 71 2 = c.1 71 2) (h : zr_Tab E T c) : zr_Tab E T c' := by
  unfold zr_Tab zr_S zr_M at h ⊢; rw [h1, h2, h3, h4, h5, h6]; exact h
theorem zr_P.fr {E T p : Nat} {c c' : zw_Ct} (h1 : c'.1 46 p = c.1 46 p) (h2 : c'.1 82 p = c.1 82 p) (h3 : c'.1 81 p = c.1 81 p) (h4 : c'.1 58 p = c.1 58 p) (h5 : c'.1 (54 + p) = c.1 (54 + p)) (h6 : c'.1 83 = c.1 83) (h7 : c'.1 (77 + p) = c.1 (77 + p)) (h8 : c'.1 52 p = c.1 52 p) (h9 : c'.1 (48 + p) = c.1 (48 + p)) (h10 : c'.1 4 = c.1 4) (h : zr_P E T p c) : zr_P E T p c' := by
  unfold zr_P at h ⊢; rw [h1, h2, h3, h4, h5, h6, h7, h8, h9, h10]; exact h
/-- behind turnChanged, whatever TURN is -/
theorem zr_P.tc {E T p : Nat} {c c' : zw_Ct} (h1 : c'.1 46 p = c.1 46 p) (h2 : c'.1 82 p = c.1 82 p) (h3 : c'.1 81 p = c.1 81 p) (h4 : c'.1 58 p = if c.1 46 p = 2 then 1 else 0) (h5 : c'.1 (54 + p) = c.1 (54 + p)) (h6 : c'.1 83 = c.1 83) (h7 : c'.1 (77 + p) = c.1 (77 + p)) (h8 : c'.1 52 p = c.1 52 p) (h9 : c'.1 (48 + p) = c.1 (48 + p)) (h : zr_P E T p c) : zr_P E T p c' := by
  rcases h with ⟨a1, a2, a3⟩ | ⟨a1, a2, a3, a4, a5⟩ | ⟨a1, a2, n, X, b1, b2, b3, b4, b5, b6, b7, b8⟩
  · exact Or.inl ⟨h1.trans a1, h2.trans a2, h3.trans a3⟩
  · exact Or.inr (Or.inl ⟨h1.trans a1, h2.trans a2, h3.trans a3, by rw [h4, if_pos a1], by rw [h5, h6]; exact a5⟩)
  · exact Or.inr (Or.inr ⟨h1.trans a1, h2.trans a2, n, X, b1, b2, b3, h3.trans b4, by rw [h7]; exact b5, h8.trans b6, by rw [h9]; exact b7, Or.inl (by rw [h4, if_neg (by rw [a1]; decide)])⟩)
theorem zr_H.fr {E T : Nat} {c c' : zw_Ct} (h3 : c'.1 3 = c.1 3) (h4 : c'.1 4 = c.1 4) (h5 : c'.1 5 = c.1 5) (h6 : c'.1 6 = c.1 6) (h7 : c'.1 7 = c.1 7) (h8 : c'.1 8 = c.1 8) (h9 : c'.1 9 = c.1 9) (h10 : c'.1 10 = c.1 10) (m73 : c'.1 73 = c.1 73) (m89 : c'.1 89 = c.1 89) (m92 : c'.1 92 = c.1 92) (m93 : c'.1 93 = c.1 93) (m94 : c'.1 94 = c.1 94) (m95 : c'.1 95 = c.1 95) (m96 : c'.1 96 = c.1 96) (f26 : c'.1 71 26 = c.1 71 26) (f33 : c'.1 71 33 = c.1 71 33) (f30 : c'.1 71 30 = c.1 71 30) (h : zr_H E T c) : zr_H E T c' := by
  unfold zr_H at h ⊢; rw [h3, h4, h5, h6, h7, h8, h9, h10, m73, m89, m92, m93, m94, m95, m96, f26, f33, f30]; exact h
theorem zr_K.fr {E T i : Nat} {c c' : zw_Ct} (h1 : c'.1 39 i = c.1 39 i) (h2 : c'.1 98 i = c.1 98 i) (h3 : c'.1 99 i = c.1 99 i) (h4 : c'.1 71 10 = c.1 71 10) (h5 : c'.1 97 = c.1 97) (h : ∀ k, 15 + 8 * i ≤ k → k ≤ 22 + 8 * i → c'.1 k = c.1 k) (hK : zr_K E T i c) : zr_K E T i c' := by
  unfold zr_K at hK ⊢
  rw [h1, h2, h3, h4, h5, h (15 + 8 * i) (by omega) (by omega), h (16 + 8 * i) (by omega) (by omega), h (17 + 8 * i) (by omega) (by omega), h (18 + 8 * i) (by omega) (by omega), h (19 + 8 * i) (by omega) (by omega), h (20 + 8 * i) (by omega) (by omega), h (21 + 8 * i) (by omega) (by omega), h (22 + 8 * i) (by omega) (by omega)]
  exact hK
theorem zr_N.up {n m : Nat} {c : zw_Ct} (hnm : n ≤ m) (h : zr_N n c) : zr_N m c := by
  obtain ⟨t, h1, h2⟩ := h
  exact ⟨t, Nat.le_trans h1 hnm, h2⟩
/-- places that no call looks at before it has written them -/
def zr_SC : List Nat := [12, 59, 60, 61, 62, 63, 64, 66, 67, 68, 70, 75, 84, 85, 86, 87, 88, 90, 91, 100]
def zr_FS : List Nat := [8, 9, 15, 16, 17, 18, 19, 20, 37, 41]
def zr_A (c c' : zw_Ct) : Prop := (∀ k, k ∉ zr_SC → k ≠ 71 → c'.1 k = c.1 k) ∧ ∀ j, j ∉ zr_FS → c'.1 71 j = c.1 71 j
theorem zr_A.rf {c : zw_Ct} : zr_A c c := ⟨fun _ _ _ => rfl, fun _ _ => rfl⟩
theorem zr_A.tr {c c' c'' : zw_Ct} (h : zr_A c c') (h' : zr_A c' c'') : zr_A c c'' := ⟨fun k h1 h2 => (h'.1 k h1 h2).trans (h.1 k h1 h2), fun j hj => (h'.2 j hj).trans (h.2 j hj)⟩
theorem zr_A.wI {c c' : zw_Ct} {k i : Nat} {v : Int32} (hk : k ∈ zr_SC) (h71 : k ≠ 71) (h : zr_A c c') : zr_A c (zw_wI c' k i v) := ⟨fun j h1 h2 => (zw_wI_ne (fun e => h1 (by rw [e]; exact hk))).trans (h.1 j h1 h2), fun j hj => (congrFun (zw_wI_ne (Ne.symm h71)) j).trans (h.2 j hj)⟩
theorem zr_A.wF {c c' : zw_Ct} {i : Nat} {v : Int32} (hi : i ∈ zr_FS) (h : zr_A c c') : zr_A c (zw_wI c' 71 i v) := ⟨fun j h1 h2 => (zw_wI_ne h2).trans (h.1 j h1 h2), fun j hj => (zw_wI_at (fun e => hj (by rw [e]; exact hi))).trans (h.2 j hj)⟩
theorem zr_A.wL {c c' : zw_Ct} {k i : Nat} {v : Int64} (h : zr_A c c') : zr_A c (zw_wL c' k i v) := h
theorem zr_A.eq {c c' : zw_Ct} (h : c'.1 = c.1) : zr_A c c' := ⟨fun k _ _ => by rw [h], fun j _ => by rw [h]⟩
theorem zr_Rl.fr {n E T : Nat} {c c' : zw_Ct} (hA : zr_A c c') (h : zr_Rl n E T c) : zr_Rl n E T c' := by
  obtain ⟨h1, h2, h3, h4, h5, h6⟩ := h
  have g : ∀ k, k ∉ zr_SC → k ≠ 71 → c'.1 k = c.1 k := hA.1
  have f : ∀ j, j ∉ zr_FS → c'.1 71 j = c.1 71 j := hA.2
  refine ⟨h1.fr (f 10 (by decide)) (g 98 (by decide) (by decide)) (g 99 (by decide) (by decide)), h2.fr (g 40 (by decide) (by decide)) (f 6 (by decide)) (g 41 (by decide) (by decide)) (g 74 (by decide) (by decide)), h3.fr (g 1 (by decide) (by decide)) (g 2 (by decide) (by decide)) (g 72 (by decide) (by decide)) (f 0 (by decide)) (f 1 (by decide)) (f 2 (by decide)), fun p hp => ?_, ?_, fun i hi => ?_⟩
  · have e1 : c'.1 (54 + p) = c.1 (54 + p) := by rcases (show p = 0 ∨ p = 1 ∨ p = 2 ∨ p = 3 by omega) with rfl | rfl | rfl | rfl <;> exact g _ (by decide) (by decide)
    have e2 : c'.1 (77 + p) = c.1 (77 + p) := by rcases (show p = 0 ∨ p = 1 ∨ p = 2 ∨ p = 3 by omega) with rfl | rfl | rfl | rfl <;> exact g _ (by decide) (by decide)
    have e3 : c'.1 (48 + p) = c.1 (48 + p) := by rcases (show p = 0 ∨ p = 1 ∨ p = 2 ∨ p = 3 by omega) with rfl | rfl | rfl | rfl <;> exact g _ (by decide) (by decide)
    exact (h4 p hp).fr (by rw [g 46 (by decide) (by decide)]) (by rw [g 82 (by decide) (by decide)]) (by rw [g 81 (by decide) (by decide)]) (by rw [g 58 (by decide) (by decide)]) e1 (g 83 (by decide) (by decide)) e2 (by rw [g 52 (by decide) (by decide)]) e3 (g 4 (by decide) (by decide))
  · exact h5.fr (g 3 (by decide) (by decide)) (g 4 (by decide) (by decide)) (g 5 (by decide) (by decide)) (g 6 (by decide) (by decide)) (g 7 (by decide) (by decide)) (g 8 (by decide) (by decide)) (g 9 (by decide) (by decide)) (g 10 (by decide) (by decide)) (g 73 (by decide) (by decide)) (g 89 (by decide) (by decide)) (g 92 (by decide) (by decide)) (g 93 (by decide) (by decide)) (g 94 (by decide) (by decide)) (g 95 (by decide) (by decide)) (g 96 (by decide) (by decide)) (f 26 (by decide)) (f 33 (by decide)) (f 30 (by decide))
  · refine (h6 i hi).fr (by rw [g 39 (by decide) (by decide)]) (by rw [g 98 (by decide) (by decide)]) (by rw [g 99 (by decide) (by decide)]) (f 10 (by decide)) (g 97 (by decide) (by decide)) (fun k k1 k2 => g k (fun hk => ?_) (by omega))
    simp only [zr_SC, List.mem_cons, List.not_mem_nil, or_false] at hk
    omega
theorem zr_Rl.up {n m E T : Nat} {c : zw_Ct} (hnm : n ≤ m) (h : zr_Rl n E T c) : zr_Rl m E T c := ⟨h.1.up hnm, h.2⟩
theorem zr_mono : ∀ n c, zr_Rel n c → zr_Rel (n + 1) c := fun n c ⟨h1, E, T, h2⟩ => ⟨h1, E, T, h2.up (Nat.le_succ n)⟩
/-- nothing but 'thrown' -/
theorem zr_thr {n : Nat} {c : zw_Ct} {v : Int32} (h : zr_Rel n c) : zr_Rel (n + 1) (zw_wI c 71 9 v) := by
  obtain ⟨h1, E, T, h2⟩ := h
  exact ⟨h1.fr (by rw [zw_wI_ne (by decide)]) (zw_wI_at (by decide)) rfl rfl, E, T, (h2.fr (zr_A.rf.wF (by decide))).up (Nat.le_succ n)⟩
/-! tests -/
theorem L_le (a b : Int32) : a.toInt64 ≤ b.toInt64 ↔ a ≤ b := by
  have ha := i_bd a
  have hb := i_bd b
  rw [iL, iL, lI_le ⟨by omega, by omega⟩ ⟨by omega, by omega⟩, Int32.le_iff_toInt_le]
theorem in_within (a lo hi : Int32) : fn_M_in a.toInt64 lo.toInt64 hi.toInt64 = fn_P_within a lo hi := by
  unfold fn_M_in fn_P_within
  by_cases h : lo ≤ a ∧ a ≤ hi
  · rw [if_pos h, if_pos ⟨(L_le _ _).mpr h.1, (L_le _ _).mpr h.2⟩]
  · rw [if_neg h, if_neg (fun q => h ⟨(L_le _ _).mp q.1, (L_le _ _).mp q.2⟩)]
theorem within_0 {a lo hi : Int32} (h : ¬ (¬ fn_P_within a lo hi = 0)) : ¬ (lo ≤ a ∧ a ≤ hi) := fun q => h (by unfold fn_P_within; rw [if_pos q]; decide)
theorem within_1 {a lo hi : Int32} (h : ¬ fn_P_within a lo hi = 0) : lo ≤ a ∧ a ≤ hi := by
  unfold fn_P_within at h
  by_cases q : lo ≤ a ∧ a ≤ hi
  · exact q
  · exact absurd (if_neg q) h
theorem within_n {a : Int32} {m : Nat} {hi : Int32} (hm : hi = nI m) (hm2 : m < 2 ^ 31) (h : 0 ≤ a ∧ a ≤ hi) : ∃ j, j ≤ m ∧ a = nI j := by
  obtain ⟨j, hj, e⟩ := nI_of (x := a) (fun q => by
    have h1 := Int32.lt_iff_toInt_lt.mp q
    have h2 := Int32.le_iff_toInt_le.mp h.1
    omega)
  refine ⟨j, ?_, e⟩
  have h2 := h.2
  rw [e, hm] at h2
  exact (nI_leI hj hm2).mp h2
theorem nI_ltl {i n : Nat} (m : Int32) (hm : m = nI n) (h : i < n) (hn : n < 2 ^ 31) : nI i < m := by rw [hm]; exact nI_lt h hn
theorem nI_nltl {n : Nat} (m : Int32) (hm : m = nI n) (hn : n < 2 ^ 31) : ¬ nI n < m := by rw [hm]; exact nI_nlt (Nat.le_refl _) hn
theorem sp_turnChanged (c : zw_Ct) : ∃ c2, fn_Pays_turnChanged c = some c2 ∧ (∀ k, k ≠ 58 → c2.1 k = c.1 k) ∧ c2.2 = c.2 ∧ ∀ p, p < 4 → c2.1 58 p = if c.1 46 p = 2 then 1 else 0 := by
  unfold fn_Pays_turnChanged
  obtain ⟨x, h1, h2⟩ := zp_up (f := fn_Pays_turnChanged_l1) (I := fun i t => t.1 = nI i ∧ (∀ k, k ≠ 58 → t.2.1 k = c.1 k) ∧ t.2.2 = c.2 ∧ ∀ p, p < i → t.2.1 58 p = if c.1 46 p = 2 then 1 else 0) (P := fun c2 => (∀ k, k ≠ 58 → c2.1 k = c.1 k) ∧ c2.2 = c.2 ∧ ∀ p, p < 4 → c2.1 58 p = if c.1 46 p = 2 then 1 else 0) 4 (by unfold zw_F; omega) (fun i t hi h => by
      obtain ⟨t1, t2⟩ := t
      obtain ⟨h1, h2, h3, h4⟩ := h
      dsimp only at h1 h2 h3 h4
      subst h1
      refine Or.inl ⟨(nI (i + 1), zw_wI t2 58 i (if c.1 46 i = 2 then 1 else 0)), ?_, rfl, fun k hk => ?_, h3, fun p hp => ?_⟩
      · unfold fn_Pays_turnChanged_l1
        dsimp only
        rw [if_pos (nI_ltl 4 (n := 4) rfl hi (by omega)), zp_aI hi (by omega), zp_bs, h2 46 (by decide), zp_uI hi (by omega), zp_bs, nI_1]
      · dsimp only
        rw [zw_wI_ne hk]; exact h2 k hk
      · dsimp only
        by_cases e : p = i
        · rw [e, zw_wI_eq]
        · rw [zw_wI_at e]; exact h4 p (by omega)) (fun t h => by
      obtain ⟨t1, t2⟩ := t
      obtain ⟨h1, h2, h3, h4⟩ := h
      dsimp only at h1 h2 h3 h4
      subst h1
      refine ⟨t2, ?_, h2, h3, h4⟩
      unfold fn_Pays_turnChanged_l1
      dsimp only
      rw [if_neg (nI_nltl 4 (n := 4) rfl (by omega))]) 0 (0, c) (Nat.zero_le _) ⟨rfl, fun _ _ => rfl, rfl, fun p hp => by omega⟩
  exact ⟨x, by rw [h1, zp_bs], h2⟩
theorem zo_turn : zq_turn zr_Rel := by
  intro n c hn hRel a v
  have hRel0 := hRel
  obtain ⟨hR, E, T, hN, hX, hTab, hP, hH, hK⟩ := hRel
  unfold fn_P_turn fn_M_turn
  have e1 : fn_M_in a.toInt64 0 12 = fn_P_within a 0 12 := in_within a 0 12
  have e2 : fn_M_in v.toInt64 (-9999) 9999 = fn_P_within v (-9999) 9999 := in_within v (-9999) 9999
  rw [e1, e2]
  by_cases hc : ((¬ (¬ (fn_P_within a 0 12) = 0)) ∨ (¬ (¬ (fn_P_within v (-9999) 9999) = 0)))
  · exact ⟨-1, c, zw_wI c 71 9 0, by rw [if_pos hc], by rw [zp_bs, if_pos hc], zr_thr hRel0⟩
  · obtain ⟨j, hj, rfl⟩ := within_n (m := 12) rfl (by omega) (within_1 (a := a) (lo := 0) (hi := 12) (fun q => hc (Or.inl (fun z => z q))))
    obtain ⟨c8, t1, t2, t3, t4⟩ := sp_turnChanged (zw_wI c 4 j v)
    have ex : c8.1 73 j = c.1 4 j := by rw [t2 73 (by decide), zw_wI_ne (by decide)]; exact (hH.1 j (by omega)).symm
    refine ⟨c.1 4 j, c8, zw_wI (zw_wI c8 71 9 0) 73 j v, ?_, ?_, ?_⟩
    · rw [if_neg hc, zp_aI (by omega) (by omega), zp_bs, zp_uI (by omega) (by omega), zp_bs, t1, zp_bs]
    · rw [zp_bs, if_neg hc, zp_aI (by omega) (by omega), zp_bs, zp_uI (by omega) (by omega), zp_bs, zw_wI_ne (by decide), ex]
    · have g : ∀ k, k ≠ 4 → k ≠ 58 → k ≠ 71 → k ≠ 73 → (zw_wI (zw_wI c8 71 9 0) 73 j v).1 k = c.1 k := fun k h4 h58 h71 h73 => by
        rw [zw_wI_ne h73, zw_wI_ne h71, t2 k h58, zw_wI_ne h4]
      have f : ∀ i, i ≠ 9 → (zw_wI (zw_wI c8 71 9 0) 73 j v).1 71 i = c.1 71 i := fun i hi => by
        rw [zw_wI_ne (by decide), zw_wI_at hi, t2 71 (by decide), zw_wI_ne (by decide)]
      have g58 : ∀ p, p < 4 → (zw_wI (zw_wI c8 71 9 0) 73 j v).1 58 p = if c.1 46 p = 2 then 1 else 0 := fun p hp => by
        rw [zw_wI_ne (by decide), zw_wI_ne (by decide), t4 p hp, zw_wI_ne (by decide)]
      refine ⟨hR.fr (by rw [g 61 (by decide) (by decide) (by decide) (by decide)]) (f 8 (by decide)) (by show c8.2 62 = c.2 62; rw [t3]; rfl) (by show c8.2 75 = c.2 75; rw [t3]; rfl), E, T, (hN.fr (f 10 (by decide)) (g 98 (by decide) (by decide) (by decide) (by decide)) (g 99 (by decide) (by decide) (by decide) (by decide))).up (Nat.le_succ n), hX.fr (g 40 (by decide) (by decide) (by decide) (by decide)) (f 6 (by decide)) (g 41 (by decide) (by decide) (by decide) (by decide)) (g 74 (by decide) (by decide) (by decide) (by decide)), hTab.fr (g 1 (by decide) (by decide) (by decide) (by decide)) (g 2 (by decide) (by decide) (by decide) (by decide)) (g 72 (by decide) (by decide) (by decide) (by decide)) (f 0 (by decide)) (f 1 (by decide)) (f 2 (by decide)), fun p hp => ?_, ?_, fun i hi => ?_⟩
      · exact (hP p hp).tc (by rw [g 46 (by decide) (by decide) (by decide) (by decide)]) (by rw [g 82 (by decide) (by decide) (by decide) (by decide)]) (by rw [g 81 (by decide) (by decide) (by decide) (by decide)]) (g58 p hp) (g _ (by omega) (by omega) (by omega) (by omega)) (g 83 (by decide) (by decide) (by decide) (by decide)) (g _ (by omega) (by omega) (by omega) (by omega)) (by rw [g 52 (by decide) (by decide) (by decide) (by decide)]) (g _ (by omega) (by omega) (by omega) (by omega))
      · obtain ⟨q1, q2, q3, q4, q5, q6, q7, q8⟩ := hH
        unfold zr_H
        rw [g 3 (by decide) (by decide) (by decide) (by decide), g 5 (by decide) (by decide) (by decide) (by decide), g 6 (by decide) (by decide) (by decide) (by decide), g 7 (by decide) (by decide) (by decide) (by decide), g 8 (by decide) (by decide) (by decide) (by decide), g 9 (by decide) (by decide) (by decide) (by decide), g 10 (by decide) (by decide) (by decide) (by decide), g 89 (by decide) (by decide) (by decide) (by decide), g 92 (by decide) (by decide) (by decide) (by decide), g 93 (by decide) (by decide) (by decide) (by decide), g 94 (by decide) (by decide) (by decide) (by decide), g 95 (by decide) (by decide) (by decide) (by decide), g 96 (by decide) (by decide) (by decide) (by decide), f 26 (by decide), f 33 (by decide), f 30 (by decide)]
        refine ⟨fun i hi => ?_, q2, q3, q4, q5, q6, q7, q8⟩
        rw [zw_wI_ne (show (4 : Nat) ≠ 73 by decide), zw_wI_ne (by decide), t2 4 (by decide)]
        by_cases e : i = j
        · rw [e, zw_wI_eq, zw_wI_eq]
        · rw [zw_wI_at e, zw_wI_at e, zw_wI_ne (by decide), t2 73 (by decide), zw_wI_ne (by decide)]
          exact q1 i hi
      · exact (hK i hi).fr (by rw [g 39 (by decide) (by decide) (by decide) (by decide)]) (by rw [g 98 (by decide) (by decide) (by decide) (by decide)]) (by rw [g 99 (by decide) (by decide) (by decide) (by decide)]) (f 10 (by decide)) (g 97 (by decide) (by decide) (by decide) (by decide)) (fun k k1 k2 => g k (by omega) (by omega) (by omega) (by omega))
