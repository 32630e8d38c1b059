/-! table -/
def zl_S (E T : Nat) (l : List (Nat × Nat × Nat × Nat)) (x : zw_Ct) : Prop := x.1 1 0 = nI E ∧ x.1 1 1 = nI T ∧ x.1 1 2 = nI l.length ∧ ∀ s, s < l.length → ∀ e, e < 4 → x.1 2 (4 * s + e) = nI (zt_q (l.getD s (0, 0, 0, 0)) e)
def zl_M (E T : Nat) (l : List (Nat × Nat × Nat × Nat)) (x : zw_Ct) : Prop := x.1 71 0 = nI E ∧ x.1 71 1 = nI T ∧ x.1 71 2 = nI l.length ∧ ∀ s, s < l.length → ∀ e, e < 4 → x.1 72 (4 * s + e) = nI (zt_q (l.getD s (0, 0, 0, 0)) e)
theorem zl_sn {l : List (Nat × Nat × Nat × Nat)} {q : Nat × Nat × Nat × Nat} {s : Nat} (h : s < (l ++ [q]).length) : (l ++ [q]).getD s (0, 0, 0, 0) = if s < l.length then l.getD s (0, 0, 0, 0) else q := by
  rw [List.getD_eq_getElem?_getD, List.getD_eq_getElem?_getD, List.getElem?_append]
  by_cases h1 : s < l.length
  · rw [if_pos h1, if_pos h1]
  · rw [if_neg h1, if_neg h1]
    have e : s - l.length = 0 := by
      rw [List.length_append] at h
      simp only [List.length_cons, List.length_nil] at h
      omega
    rw [e]
    rfl
def zl_w (x : zw_Ct) (k n a b c d : Nat) : zw_Ct := zw_wI (zw_wI (zw_wI (zw_wI x k (4 * n) (nI a)) k (4 * n + 1) (nI b)) k (4 * n + 2) (nI c)) k (4 * n + 3) (nI d)
theorem zl_w_ne {x : zw_Ct} {k n a b c d j : Nat} (h : j ≠ k) : (zl_w x k n a b c d).1 j = x.1 j := by
  unfold zl_w
  rw [zw_wI_ne h, zw_wI_ne h, zw_wI_ne h, zw_wI_ne h]
theorem zl_w_old {x : zw_Ct} {k n a b c d i : Nat} (h : i < 4 * n) : (zl_w x k n a b c d).1 k i = x.1 k i := by
  unfold zl_w
  rw [zw_wI_at (by omega), zw_wI_at (by omega), zw_wI_at (by omega), zw_wI_at (by omega)]
theorem zl_w_new {x : zw_Ct} {k n a b c d e : Nat} (h : e < 4) : (zl_w x k n a b c d).1 k (4 * n + e) = nI (zt_q (a, b, c, d) e) := by
  unfold zl_w
  rcases (show e = 0 ∨ e = 1 ∨ e = 2 ∨ e = 3 by omega) with rfl | rfl | rfl | rfl
  · rw [zw_wI_at (by omega), zw_wI_at (by omega), zw_wI_at (by omega)]; exact zw_wI_eq
  · rw [zw_wI_at (by omega), zw_wI_at (by omega)]; exact zw_wI_eq
  · rw [zw_wI_at (by omega)]; exact zw_wI_eq
  · exact zw_wI_eq
theorem zl_writes {x : zw_Ct} {k n a b c d : Nat} (hn : n < 455) : ((zw_uI 1820 x k (nI (4 * n)) (nI a)).bind fun c16 => (zw_uI 1820 c16 k (nI (4 * n) + 1) (nI b)).bind fun c17 => (zw_uI 1820 c17 k (nI (4 * n) + 2) (nI c)).bind fun c18 => zw_uI 1820 c18 k (nI (4 * n) + 3) (nI d)) = some (zl_w x k n a b c d) := by
  have e1 : nI (4 * n) + 1 = nI (4 * n + 1) := nI_add _ 1
  have e2 : nI (4 * n) + 2 = nI (4 * n + 2) := nI_add _ 2
  have e3 : nI (4 * n) + 3 = nI (4 * n + 3) := nI_add _ 3
  rw [e1, e2, e3, zp_uI (by omega) (by omega), zp_bs, zp_uI (by omega) (by omega), zp_bs, zp_uI (by omega) (by omega), zp_bs, zp_uI (by omega) (by omega)]
  rfl
theorem sp_addIf {E T a b k : Nat} {l R : List (Nat × Nat × Nat × Nat)} {x : zw_Ct} (hET : zt_ET E T) (hl : zl_S E T l x) (hR : l ++ ((if (2 < E ∨ k = 0) ∧ (3 < E ∨ T - a - b - k = 0) then [(a, b, k, T - a - b - k)] else []) ++ R) = zt E T) (hk : k < T - a - b + 1) : ∃ y l', fn_Sayings_addIfThere x (nI a) (nI b) (nI k) (nI (T - a - b - k)) = some y ∧ l' ++ R = zt E T ∧ zl_S E T l' y ∧ (∀ j, j ≠ 1 → j ≠ 2 → y.1 j = x.1 j) ∧ y.2 = x.2 := by
  have hE4 := hET.2.1
  have hT12 := hET.2.2.2
  have hN : (zt E T).length ≤ 455 := (zt_ok hET).2.1
  obtain ⟨h1, h2, h3, h4⟩ := hl
  have c1 : ((2 < nI E) ∨ (nI k = 0)) ↔ (2 < E ∨ k = 0) := or_congr (nI_ltI (a := 2) (by omega) (by omega)) (nI_eq (b := 0) (by omega) (by omega))
  have c2 : ((3 < nI E) ∨ (nI (T - a - b - k) = 0)) ↔ (3 < E ∨ T - a - b - k = 0) := or_congr (nI_ltI (a := 3) (by omega) (by omega)) (nI_eq (b := 0) (by omega) (by omega))
  unfold fn_Sayings_addIfThere
  rw [h1, zp_bs]
  by_cases hc : (2 < E ∨ k = 0) ∧ (3 < E ∨ T - a - b - k = 0)
  · rw [if_pos hc] at hR
    have hlen : l.length < 455 := by
      have := congrArg List.length hR
      rw [List.length_append, List.length_append] at this
      simp only [List.length_cons, List.length_nil] at this
      omega
    have hcond : ¬ ((¬ (¬ (if (((2 < nI E) ∨ (nI k = 0)) ∧ ((3 < nI E) ∨ (nI (T - a - b - k) = 0))) then (1 : Int32) else 0) = 0)) ∨ (455 ≤ x.1 1 2)) := by
      rw [if_pos ⟨c1.mpr hc.1, c2.mpr hc.2⟩, h3]
      rintro (z | z)
      · exact z (by decide)
      · exact nI_ge hlen (by omega) z
    refine ⟨zw_wI (zl_w x 2 l.length a b k (T - a - b - k)) 1 2 (nI (l.length + 1)), l ++ [(a, b, k, T - a - b - k)], ?_, by rw [List.append_assoc]; exact hR, ⟨?_, ?_, ?_, fun s hs e he => ?_⟩, fun j j1 j2 => by rw [zw_wI_ne j1, zl_w_ne j2], rfl⟩
    · rw [if_neg hcond, h3, nI_4, zp_bs]
      have hw := zl_writes (x := x) (k := 2) (a := a) (b := b) (c := k) (d := T - a - b - k) hlen
      have e1 : nI (4 * l.length) + 1 = nI (4 * l.length + 1) := nI_add _ 1
      have e2 : nI (4 * l.length) + 2 = nI (4 * l.length + 2) := nI_add _ 2
      have e3 : nI (4 * l.length) + 3 = nI (4 * l.length + 3) := nI_add _ 3
      rw [e1, e2, e3, zp_uI (by omega) (by omega), zp_bs, zp_uI (by omega) (by omega), zp_bs, zp_uI (by omega) (by omega), zp_bs, zp_uI (by omega) (by omega), zp_bs, zw_wI_ne (show (1 : Nat) ≠ 2 by decide), zw_wI_ne (show (1 : Nat) ≠ 2 by decide), zw_wI_ne (show (1 : Nat) ≠ 2 by decide), zw_wI_ne (show (1 : Nat) ≠ 2 by decide), h3, nI_1, zp_bs]
      rfl
    · rw [zw_wI_at (by decide), zl_w_ne (by decide)]; exact h1
    · rw [zw_wI_at (by decide), zl_w_ne (by decide)]; exact h2
    · rw [zw_wI_eq, List.length_append]; rfl
    · rw [zw_wI_ne (by decide), zl_sn hs]
      by_cases h : s < l.length
      · rw [if_pos h, zl_w_old (by omega)]; exact h4 s h e he
      · rw [List.length_append] at hs
        simp only [List.length_cons, List.length_nil] at hs
        rw [if_neg h, show s = l.length by omega, zl_w_new he]
  · rw [if_neg hc] at hR
    refine ⟨x, l, ?_, hR, ⟨h1, h2, h3, h4⟩, fun _ _ _ => rfl, rfl⟩
    rw [if_pos]
    left
    rw [if_neg (fun z => hc ⟨c1.mp z.1, c2.mp z.2⟩)]
    exact fun z => z rfl
theorem sp_lay {E T : Nat} {c : zw_Ct} (hET : zt_ET E T) : ∃ c2, fn_Sayings_lay c (nI E) (nI T) = some c2 ∧ zr_S E T (zt_N E T) (zt_p E T) c2 ∧ (∀ j, j ≠ 1 → j ≠ 2 → c2.1 j = c.1 j) ∧ c2.2 = c.2 := by
  have hT12 := hET.2.2.2
  obtain ⟨c0, hc0⟩ : ∃ c0, c0 = zw_wI (zw_wI (zw_wI c 1 0 (nI E)) 1 1 (nI T)) 1 2 0 := ⟨_, rfl⟩
  have q0 : zl_S E T [] c0 := ⟨by rw [hc0, zw_wI_at (by decide), zw_wI_at (by decide), zw_wI_eq], by rw [hc0, zw_wI_at (by decide), zw_wI_eq], by rw [hc0, zw_wI_eq]; rfl, fun s hs => absurd hs (Nat.not_lt_zero s)⟩
  have f0 : ∀ j, j ≠ 1 → c0.1 j = c.1 j := fun j j1 => by rw [hc0, zw_wI_ne j1, zw_wI_ne j1, zw_wI_ne j1]
  obtain ⟨c2, h1, l, h2, h3, h4, h5⟩ := zp_up (f := fn_Sayings_lay_l1) (I := fun a t => ∃ x l, t = (nI a, x) ∧ l ++ zt_A E T (T + 1 - a) a = zt E T ∧ zl_S E T l x ∧ (∀ j, j ≠ 1 → j ≠ 2 → x.1 j = c.1 j) ∧ x.2 = c.2) (P := fun x => ∃ l, l ++ [] = zt E T ∧ zl_S E T l x ∧ (∀ j, j ≠ 1 → j ≠ 2 → x.1 j = c.1 j) ∧ x.2 = c.2) (T + 1) (by unfold zw_F; omega) (fun a t ha h => by
    obtain ⟨x, l, rfl, i1, i2, i3, i4⟩ := h
    have eA : zt_A E T (T + 1 - a) a = zt_B E T a (T - a + 1) 0 ++ zt_A E T (T + 1 - (a + 1)) (a + 1) := by rw [show T + 1 - a = (T + 1 - (a + 1)) + 1 by omega]; rfl
    rw [eA] at i1
    obtain ⟨R, hR⟩ : ∃ R, R = zt_A E T (T + 1 - (a + 1)) (a + 1) := ⟨_, rfl⟩
    rw [← hR] at i1
    obtain ⟨y, y1, l2, y2, y3, y4, y5⟩ := zp_up (f := fn_Sayings_lay_l2 (nI a)) (I := fun b t => ∃ x l, t = (nI b, x) ∧ l ++ (zt_B E T a (T - a + 1 - b) b ++ R) = zt E T ∧ zl_S E T l x ∧ (∀ j, j ≠ 1 → j ≠ 2 → x.1 j = c.1 j) ∧ x.2 = c.2) (P := fun x => ∃ l, l ++ R = zt E T ∧ zl_S E T l x ∧ (∀ j, j ≠ 1 → j ≠ 2 → x.1 j = c.1 j) ∧ x.2 = c.2) (T - a + 1) (by unfold zw_F; omega) (fun b t hb h => by
      obtain ⟨x, l, rfl, i1, i2, i3, i4⟩ := h
      have eB : zt_B E T a (T - a + 1 - b) b = zt_C E T a b (T - a - b + 1) 0 ++ zt_B E T a (T - a + 1 - (b + 1)) (b + 1) := by rw [show T - a + 1 - b = (T - a + 1 - (b + 1)) + 1 by omega]; rfl
      rw [eB, List.append_assoc] at i1
      obtain ⟨R2, hR2⟩ : ∃ R2, R2 = zt_B E T a (T - a + 1 - (b + 1)) (b + 1) ++ R := ⟨_, rfl⟩
      rw [← hR2] at i1
      obtain ⟨z, z1, l3, z2, z3, z4, z5⟩ := zp_up (f := fn_Sayings_lay_l3 (nI a) (nI b)) (I := fun k t => ∃ x l, t = (nI k, x) ∧ l ++ (zt_C E T a b (T - a - b + 1 - k) k ++ R2) = zt E T ∧ zl_S E T l x ∧ (∀ j, j ≠ 1 → j ≠ 2 → x.1 j = c.1 j) ∧ x.2 = c.2) (P := fun x => ∃ l, l ++ R2 = zt E T ∧ zl_S E T l x ∧ (∀ j, j ≠ 1 → j ≠ 2 → x.1 j = c.1 j) ∧ x.2 = c.2) (T - a - b + 1) (by unfold zw_F; omega) (fun k t hk h => by
        obtain ⟨x, l, rfl, i1, i2, i3, i4⟩ := h
        have eC : zt_C E T a b (T - a - b + 1 - k) k = (if (2 < E ∨ k = 0) ∧ (3 < E ∨ T - a - b - k = 0) then [(a, b, k, T - a - b - k)] else []) ++ zt_C E T a b (T - a - b + 1 - (k + 1)) (k + 1) := by rw [show T - a - b + 1 - k = (T - a - b + 1 - (k + 1)) + 1 by omega]; rfl
        rw [eC, List.append_assoc] at i1
        obtain ⟨y, l', g1, g2, g3, g4, g5⟩ := sp_addIf hET i2 i1 hk
        refine Or.inl ⟨(nI (k + 1), y), ?_, y, l', rfl, g2, g3, fun j j1 j2 => (g4 j j1 j2).trans (i3 j j1 j2), g5.trans i4⟩
        have e1 : nI T - nI a = nI (T - a) := nI_sub (by omega)
        have e2 : nI (T - a) - nI b = nI (T - a - b) := nI_sub (by omega)
        have e3 : nI (T - a - b) - nI k = nI (T - a - b - k) := nI_sub (by omega)
        unfold fn_Sayings_lay_l3
        dsimp only
        rw [i2.2.1, e1, e2, if_pos (nI_le (show k ≤ T - a - b by omega) (by omega)), e3, g1, zp_bs, nI_1]) (fun t h => by
        obtain ⟨x, l, rfl, i1, i2, i3, i4⟩ := h
        rw [Nat.sub_self] at i1
        refine ⟨x, ?_, l, i1, i2, i3, i4⟩
        have e1 : nI T - nI a = nI (T - a) := nI_sub (by omega)
        have e2 : nI (T - a) - nI b = nI (T - a - b) := nI_sub (by omega)
        unfold fn_Sayings_lay_l3
        dsimp only
        rw [i2.2.1, e1, e2, if_neg (nI_ge (by omega) (by omega))]) 0 (0, x) (Nat.zero_le _) ⟨x, l, rfl, i1, i2, i3, i4⟩
      rw [hR2] at z2
      refine Or.inl ⟨(nI (b + 1), z), ?_, z, l3, rfl, z2, z3, z4, z5⟩
      have e1 : nI T - nI a = nI (T - a) := nI_sub (by omega)
      unfold fn_Sayings_lay_l2
      dsimp only
      rw [i2.2.1, e1, if_pos (nI_le (show b ≤ T - a by omega) (by omega)), z1, zp_bs, nI_1]) (fun t h => by
      obtain ⟨x, l, rfl, i1, i2, i3, i4⟩ := h
      rw [Nat.sub_self] at i1
      refine ⟨x, ?_, l, i1, i2, i3, i4⟩
      have e1 : nI T - nI a = nI (T - a) := nI_sub (by omega)
      unfold fn_Sayings_lay_l2
      dsimp only
      rw [i2.2.1, e1, if_neg (nI_ge (by omega) (by omega))]) 0 (0, x) (Nat.zero_le _) ⟨x, l, rfl, i1, i2, i3, i4⟩
    rw [hR] at y2
    refine Or.inl ⟨(nI (a + 1), y), ?_, y, l2, rfl, y2, y3, y4, y5⟩
    unfold fn_Sayings_lay_l1
    dsimp only
    rw [i2.2.1, if_pos (nI_le (show a ≤ T by omega) (by omega)), y1, zp_bs, nI_1]) (fun t h => by
    obtain ⟨x, l, rfl, i1, i2, i3, i4⟩ := h
    rw [Nat.sub_self] at i1
    refine ⟨x, ?_, l, i1, i2, i3, i4⟩
    unfold fn_Sayings_lay_l1
    dsimp only
    rw [i2.2.1, if_neg (nI_ge (by omega) (by omega))]) 0 (0, c0) (Nat.zero_le _) ⟨c0, [], rfl, rfl, q0, fun j j1 _ => f0 j j1, by rw [hc0]; rfl⟩
  rw [List.append_nil] at h2
  subst h2
  refine ⟨c2, ?_, h3, h4, h5⟩
  unfold fn_Sayings_lay
  rw [zp_bs, zp_bs, zp_bs, ← hc0, h1, zp_bs]
theorem sp_Mlay {E T a b k : Nat} {l R : List (Nat × Nat × Nat × Nat)} {x : zw_Ct} (hET : zt_ET E T) (hl : zl_M E T l x) (hR : l ++ ((if (2 < E ∨ k = 0) ∧ (3 < E ∨ T - a - b - k = 0) then [(a, b, k, T - a - b - k)] else []) ++ R) = zt E T) (ha : a ≤ T) (hb : b ≤ T - a) (hk : k < T - a - b + 1) : ∃ y l', fn_M_layOut_l3 (nI a) (nI b) (nI k, x) = some (.inr (nI (k + 1), y)) ∧ l' ++ R = zt E T ∧ zl_M E T l' y ∧ (∀ j, j ≠ 71 → j ≠ 72 → y.1 j = x.1 j) ∧ (∀ j, j ≠ 2 → y.1 71 j = x.1 71 j) ∧ y.2 = x.2 := by
  have hE2 := hET.1
  have hE4 := hET.2.1
  have hT12 := hET.2.2.2
  have hN : (zt E T).length ≤ 455 := (zt_ok hET).2.1
  obtain ⟨h1, h2, h3, h4⟩ := hl
  have e1 : nI T - nI a = nI (T - a) := nI_sub (by omega)
  have e2 : nI (T - a) - nI b = nI (T - a - b) := nI_sub (by omega)
  have e3 : nI (T - a - b) - nI k = nI (T - a - b - k) := nI_sub (by omega)
  have hcond : ((((nI E) < 4) ∧ (0 < nI (T - a - b - k))) ∨ (((nI E) < 3) ∧ (0 < nI k))) ↔ ¬ ((2 < E ∨ k = 0) ∧ (3 < E ∨ T - a - b - k = 0)) := by
    have w1 : (nI E < 4) ↔ E < 4 := nI_ltI (b := 4) (by omega) (by omega)
    have w2 : ((0 : Int32) < nI (T - a - b - k)) ↔ 0 < T - a - b - k := nI_ltI (a := 0) (by omega) (by omega)
    have w3 : (nI E < 3) ↔ E < 3 := nI_ltI (b := 3) (by omega) (by omega)
    have w4 : ((0 : Int32) < nI k) ↔ 0 < k := nI_ltI (a := 0) (by omega) (by omega)
    rw [w1, w2, w3, w4]
    omega
  unfold fn_M_layOut_l3
  dsimp only
  rw [nI_add, nI_add, h2, if_pos (nI_le (show a + b + k ≤ T by omega) (by omega)), e1, e2, e3, zp_bs, h1, nI_1]
  by_cases hc : (2 < E ∨ k = 0) ∧ (3 < E ∨ T - a - b - k = 0)
  · rw [if_pos hc] at hR
    have hlen : l.length < 455 := by
      have := congrArg List.length hR
      rw [List.length_append, List.length_append] at this
      simp only [List.length_cons, List.length_nil] at this
      omega
    refine ⟨zw_wI (zl_w x 72 l.length a b k (T - a - b - k)) 71 2 (nI (l.length + 1)), l ++ [(a, b, k, T - a - b - k)], ?_, by rw [List.append_assoc]; exact hR, ⟨?_, ?_, ?_, fun s hs e he => ?_⟩, fun j j1 j2 => by rw [zw_wI_ne j1, zl_w_ne j2], fun j hj => by rw [zw_wI_at hj, zl_w_ne (by decide)], rfl⟩
    · have k1 : nI (4 * l.length) + 1 = nI (4 * l.length + 1) := nI_add _ 1
      have k2 : nI (4 * l.length) + 2 = nI (4 * l.length + 2) := nI_add _ 2
      have k3 : nI (4 * l.length) + 3 = nI (4 * l.length + 3) := nI_add _ 3
      rw [if_neg (fun z => hcond.mp z hc)]
      unfold fn_M_lay
      rw [h3, nI_4', zp_bs, k1, k2, k3, zp_uI (by omega) (by omega), zp_bs, zp_uI (by omega) (by omega), zp_bs, zp_uI (by omega) (by omega), zp_bs, zp_uI (by omega) (by omega), zp_bs, zw_wI_ne (show (71 : Nat) ≠ 72 by decide), zw_wI_ne (show (71 : Nat) ≠ 72 by decide), zw_wI_ne (show (71 : Nat) ≠ 72 by decide), zw_wI_ne (show (71 : Nat) ≠ 72 by decide), h3, nI_1, zp_bs, zp_bs]
      rfl
    · rw [zw_wI_at (by decide), zl_w_ne (by decide)]; exact h1
    · rw [zw_wI_at (by decide), zl_w_ne (by decide)]; exact h2
    · rw [zw_wI_eq, List.length_append]; rfl
    · rw [zw_wI_ne (by decide), zl_sn hs]
      by_cases h : s < l.length
      · rw [if_pos h, zl_w_old (by omega)]; exact h4 s h e he
      · rw [List.length_append] at hs
        simp only [List.length_cons, List.length_nil] at hs
        rw [if_neg h, show s = l.length by omega, zl_w_new he]
  · rw [if_neg hc] at hR
    exact ⟨x, l, by rw [if_pos (hcond.mpr hc)], hR, ⟨h1, h2, h3, h4⟩, fun _ _ _ => rfl, fun _ _ => rfl, rfl⟩
theorem sp_layOut {E T : Nat} {c : zw_Ct} (hET : zt_ET E T) (h0 : c.1 71 0 = nI E) (h1 : c.1 71 1 = nI T) : ∃ c2, fn_M_layOut c = some c2 ∧ zr_M E T (zt_N E T) (zt_p E T) c2 ∧ (∀ j, j ≠ 71 → j ≠ 72 → c2.1 j = c.1 j) ∧ (∀ j, j ≠ 2 → c2.1 71 j = c.1 71 j) ∧ c2.2 = c.2 := by
  have hT12 := hET.2.2.2
  obtain ⟨c0, hc0⟩ : ∃ c0, c0 = zw_wI c 71 2 0 := ⟨_, rfl⟩
  have q0 : zl_M E T [] c0 := ⟨by rw [hc0, zw_wI_at (by decide)]; exact h0, by rw [hc0, zw_wI_at (by decide)]; exact h1, by rw [hc0, zw_wI_eq]; rfl, fun s hs => absurd hs (Nat.not_lt_zero s)⟩
  obtain ⟨c2, h1, l, h2, h3, h4, h41, h5⟩ := zp_up (f := fn_M_layOut_l1) (I := fun a t => ∃ x l, t = (nI a, x) ∧ l ++ zt_A E T (T + 1 - a) a = zt E T ∧ zl_M E T l x ∧ (∀ j, j ≠ 71 → j ≠ 72 → x.1 j = c.1 j) ∧ (∀ j, j ≠ 2 → x.1 71 j = c.1 71 j) ∧ x.2 = c.2) (P := fun x => ∃ l, l ++ [] = zt E T ∧ zl_M E T l x ∧ (∀ j, j ≠ 71 → j ≠ 72 → x.1 j = c.1 j) ∧ (∀ j, j ≠ 2 → x.1 71 j = c.1 71 j) ∧ x.2 = c.2) (T + 1) (by unfold zw_F; omega) (fun a t ha h => by
    obtain ⟨x, l, rfl, i1, i2, i3, i31, i4⟩ := h
    have eA : zt_A E T (T + 1 - a) a = zt_B E T a (T - a + 1) 0 ++ zt_A E T (T + 1 - (a + 1)) (a + 1) := by rw [show T + 1 - a = (T + 1 - (a + 1)) + 1 by omega]; rfl
    rw [eA] at i1
    obtain ⟨R, hR⟩ : ∃ R, R = zt_A E T (T + 1 - (a + 1)) (a + 1) := ⟨_, rfl⟩
    rw [← hR] at i1
    obtain ⟨y, y1, l2, y2, y3, y4, y41, y5⟩ := zp_up (f := fn_M_layOut_l2 (nI a)) (I := fun b t => ∃ x l, t = (nI b, x) ∧ l ++ (zt_B E T a (T - a + 1 - b) b ++ R) = zt E T ∧ zl_M E T l x ∧ (∀ j, j ≠ 71 → j ≠ 72 → x.1 j = c.1 j) ∧ (∀ j, j ≠ 2 → x.1 71 j = c.1 71 j) ∧ x.2 = c.2) (P := fun x => ∃ l, l ++ R = zt E T ∧ zl_M E T l x ∧ (∀ j, j ≠ 71 → j ≠ 72 → x.1 j = c.1 j) ∧ (∀ j, j ≠ 2 → x.1 71 j = c.1 71 j) ∧ x.2 = c.2) (T - a + 1) (by unfold zw_F; omega) (fun b t hb h => by
      obtain ⟨x, l, rfl, i1, i2, i3, i31, i4⟩ := h
      have eB : zt_B E T a (T - a + 1 - b) b = zt_C E T a b (T - a - b + 1) 0 ++ zt_B E T a (T - a + 1 - (b + 1)) (b + 1) := by rw [show T - a + 1 - b = (T - a + 1 - (b + 1)) + 1 by omega]; rfl
      rw [eB, List.append_assoc] at i1
      obtain ⟨R2, hR2⟩ : ∃ R2, R2 = zt_B E T a (T - a + 1 - (b + 1)) (b + 1) ++ R := ⟨_, rfl⟩
      rw [← hR2] at i1
      obtain ⟨z, z1, l3, z2, z3, z4, z41, z5⟩ := zp_up (f := fn_M_layOut_l3 (nI a) (nI b)) (I := fun k t => ∃ x l, t = (nI k, x) ∧ l ++ (zt_C E T a b (T - a - b + 1 - k) k ++ R2) = zt E T ∧ zl_M E T l x ∧ (∀ j, j ≠ 71 → j ≠ 72 → x.1 j = c.1 j) ∧ (∀ j, j ≠ 2 → x.1 71 j = c.1 71 j) ∧ x.2 = c.2) (P := fun x => ∃ l, l ++ R2 = zt E T ∧ zl_M E T l x ∧ (∀ j, j ≠ 71 → j ≠ 72 → x.1 j = c.1 j) ∧ (∀ j, j ≠ 2 → x.1 71 j = c.1 71 j) ∧ x.2 = c.2) (T - a - b + 1) (by unfold zw_F; omega) (fun k t hk h => by
        obtain ⟨x, l, rfl, i1, i2, i3, i31, i4⟩ := h
        have eC : zt_C E T a b (T - a - b + 1 - k) k = (if (2 < E ∨ k = 0) ∧ (3 < E ∨ T - a - b - k = 0) then [(a, b, k, T - a - b - k)] else []) ++ zt_C E T a b (T - a - b + 1 - (k + 1)) (k + 1) := by rw [show T - a - b + 1 - k = (T - a - b + 1 - (k + 1)) + 1 by omega]; rfl
        rw [eC, List.append_assoc] at i1
        obtain ⟨y, l', g1, g2, g3, g4, g41, g5⟩ := sp_Mlay hET i2 i1 (by omega) (by omega) hk
        exact Or.inl ⟨(nI (k + 1), y), g1, y, l', rfl, g2, g3, fun j j1 j2 => (g4 j j1 j2).trans (i3 j j1 j2), fun j hj => (g41 j hj).trans (i31 j hj), g5.trans i4⟩) (fun t h => by
        obtain ⟨x, l, rfl, i1, i2, i3, i31, i4⟩ := h
        rw [Nat.sub_self] at i1
        refine ⟨x, ?_, l, i1, i2, i3, i31, i4⟩
        unfold fn_M_layOut_l3
        dsimp only
        rw [nI_add, nI_add, i2.2.1, if_neg (nI_ge (by omega) (by omega))]) 0 (0, x) (Nat.zero_le _) ⟨x, l, rfl, i1, i2, i3, i31, i4⟩
      rw [hR2] at z2
      refine Or.inl ⟨(nI (b + 1), z), ?_, z, l3, rfl, z2, z3, z4, z41, z5⟩
      unfold fn_M_layOut_l2
      dsimp only
      rw [nI_add, i2.2.1, if_pos (nI_le (show a + b ≤ T by omega) (by omega)), z1, zp_bs, nI_1]) (fun t h => by
      obtain ⟨x, l, rfl, i1, i2, i3, i31, i4⟩ := h
      rw [Nat.sub_self] at i1
      refine ⟨x, ?_, l, i1, i2, i3, i31, i4⟩
      unfold fn_M_layOut_l2
      dsimp only
      rw [nI_add, i2.2.1, if_neg (nI_ge (by omega) (by omega))]) 0 (0, x) (Nat.zero_le _) ⟨x, l, rfl, i1, i2, i3, i31, i4⟩
    rw [hR] at y2
    refine Or.inl ⟨(nI (a + 1), y), ?_, y, l2, rfl, y2, y3, y4, y41, y5⟩
    unfold fn_M_layOut_l1
    dsimp only
    rw [i2.2.1, if_pos (nI_le (show a ≤ T by omega) (by omega)), y1, zp_bs, nI_1]) (fun t h => by
    obtain ⟨x, l, rfl, i1, i2, i3, i31, i4⟩ := h
    rw [Nat.sub_self] at i1
    refine ⟨x, ?_, l, i1, i2, i3, i31, i4⟩
    unfold fn_M_layOut_l1
    dsimp only
    rw [i2.2.1, if_neg (nI_ge (by omega) (by omega))]) 0 (0, c0) (Nat.zero_le _) ⟨c0, [], rfl, rfl, q0, fun j j1 _ => by rw [hc0, zw_wI_ne j1], fun j hj => by rw [hc0, zw_wI_at hj], by rw [hc0]; rfl⟩
  rw [List.append_nil] at h2
  subst h2
  refine ⟨c2, ?_, h3, h4, h41, h5⟩
  unfold fn_M_layOut
  rw [zp_bs, ← hc0, h1, zp_bs]
theorem sp_dropMade (c : zw_Ct) : ∃ c2, fn_Pays_dropMade c = some c2 ∧ (∀ k, k ≠ 46 → k ≠ 58 → c2.1 k = c.1 k) ∧ c2.2 = c.2 ∧ (∀ p, p < 4 → c2.1 46 p = if c.1 46 p = 2 then 0 else c.1 46 p) ∧ ∀ p, p < 4 → c2.1 58 p = 0 := by
  obtain ⟨c1, a1, a2, a3, a4, a5⟩ := zp_detC (f := fn_Pays_dropMade_l1) (fun i c => (nI i, c)) (fun i x => (∀ k, k ≠ 46 → x.1 k = c.1 k) ∧ x.2 = c.2 ∧ (∀ p, p < i → x.1 46 p = if c.1 46 p = 2 then 0 else c.1 46 p) ∧ ∀ p, i ≤ p → x.1 46 p = c.1 46 p) (fun c => c) 4 0 (Nat.zero_le _) (by unfold zw_F; omega) (fun i x _ hi ⟨q1, q2, q3, q4⟩ => by
    have e : x.1 46 i = c.1 46 i := q4 i (Nat.le_refl _)
    by_cases h : c.1 46 i = 2
    · refine ⟨zw_wI x 46 i 0, ?_, fun k hk => by rw [zw_wI_ne hk]; exact q1 k hk, q2, fun p hp => ?_, fun p hp => by rw [zw_wI_at (by omega)]; exact q4 p (by omega)⟩
      · unfold fn_Pays_dropMade_l1 fn_Pays_drop
        dsimp only
        rw [if_pos (show nI i < (4 : Int32) from nI_lt (b := 4) hi (by omega)), zp_aI hi (by omega), zp_bs, e, if_pos h, zp_uI hi (by omega), zp_bs, zp_bs, zp_bs, nI_1]
      · by_cases ep : p = i
        · rw [ep, zw_wI_eq, if_pos h]
        · rw [zw_wI_at ep]; exact q3 p (by omega)
    · refine ⟨x, ?_, q1, q2, fun p hp => ?_, fun p hp => q4 p (by omega)⟩
      · unfold fn_Pays_dropMade_l1
        dsimp only
        rw [if_pos (show nI i < (4 : Int32) from nI_lt (b := 4) hi (by omega)), zp_aI hi (by omega), zp_bs, e, if_neg h, zp_bs, nI_1]
      · by_cases ep : p = i
        · rw [ep, e, if_neg h]
        · exact q3 p (by omega)) (fun x _ => by
    unfold fn_Pays_dropMade_l1
    dsimp only
    rw [if_neg (show ¬ nI 4 < (4 : Int32) by decide)]) c ⟨fun _ _ => rfl, rfl, fun p hp => absurd hp (Nat.not_lt_zero p), fun _ _ => rfl⟩
  have a1' : zw_whl fn_Pays_dropMade_l1 zw_F (0, c) = some c1 := a1
  obtain ⟨c2, t1, t2, t3, t4⟩ := sp_turnChanged c1
  refine ⟨c2, ?_, fun k k1 k2 => by rw [t2 k k2]; exact a2 k k1, by rw [t3, a3], fun p hp => by rw [t2 46 (by decide)]; exact a4 p hp, fun p hp => ?_⟩
  · unfold fn_Pays_dropMade
    rw [a1', zp_bs, t1, zp_bs]
  · rw [t4 p hp, a4 p hp]
    by_cases h : c.1 46 p = 2
    · rw [if_pos h]; rfl
    · rw [if_neg h, if_neg h]
theorem zo_table : zq_table zr_Rel := by
  intro n c hn hRel a b
  have hRel0 := hRel
  obtain ⟨hR, E0, T0, hRl⟩ := hRel
  have w1 : fn_M_in a.toInt64 2 4 = fn_P_within a 2 4 := in_within a 2 4
  have w2 : fn_M_in b.toInt64 1 12 = fn_P_within b 1 12 := in_within b 1 12
  unfold fn_P_table fn_M_table
  rw [w1, w2]
  by_cases hc : ((¬ (¬ (fn_P_within a 2 4) = 0)) ∨ (¬ (¬ (fn_P_within b 1 12) = 0)))
  · exact ⟨-1, c, zw_wI c 71 9 0, by rw [if_pos hc], by rw [zp_bs, if_pos hc], zr_thr hRel0⟩
  · have lift : ∀ (x lo hi : Int32) (m p : Nat), lo = nI p → hi = nI m → p < 100 → m < 100 → lo ≤ x ∧ x ≤ hi → ∃ j, p ≤ j ∧ j ≤ m ∧ x = nI j := fun x lo hi m p h1 h2 hp hm h => by
      obtain ⟨j, hj, e⟩ := within_n (a := x) (m := m) h2 (by omega) ⟨by
        have h3 := Int32.le_iff_toInt_le.mp h.1
        rw [h1, nI_toInt (by omega)] at h3
        rw [Int32.le_iff_toInt_le, show (0 : Int32).toInt = 0 by rfl]
        omega, h.2⟩
      refine ⟨j, ?_, hj, e⟩
      have h3 := h.1
      rw [h1, e] at h3
      exact (nI_leI (by omega) (by omega)).mp h3
    obtain ⟨E, hE2, hE4, rfl⟩ := lift a 2 4 4 2 rfl rfl (by omega) (by omega) (within_1 (fun q => hc (Or.inl (fun z => z q))))
    obtain ⟨T, hT1, hT12, rfl⟩ := lift b 1 12 12 1 rfl rfl (by omega) (by omega) (within_1 (fun q => hc (Or.inr (fun z => z q))))
    have hET : zt_ET E T := ⟨hE2, hE4, hT1, hT12⟩
    have hN := (zt_ok hET).2.1
    obtain ⟨c2, a1, a2, a3, a4⟩ := sp_lay (c := c) hET
    obtain ⟨c3, hc3⟩ : ∃ c3, c3 = zw_wI (zw_wI (zw_wI c2 3 2 0) 3 6 0) 3 9 0 := ⟨_, rfl⟩
    obtain ⟨c4, b1, b2, b3, b4, b5⟩ := sp_dropMade c3
    obtain ⟨c5, d1, d2, d3, d4⟩ := zp_detC (f := fn_P_table_l1) (fun i c => (nI i, c)) (fun i x => (∀ k, k ≠ 39 → x.1 k = c4.1 k) ∧ x.2 = c4.2 ∧ ∀ p, p < i → x.1 39 p = 0) (fun c => c) 3 0 (Nat.zero_le _) (by unfold zw_F; omega) (fun i x _ hi ⟨q1, q2, q3⟩ => by
      refine ⟨zw_wI x 39 i 0, ?_, fun k hk => by rw [zw_wI_ne hk]; exact q1 k hk, q2, fun p hp => ?_⟩
      · unfold fn_P_table_l1
        dsimp only
        rw [if_pos (show nI i < (3 : Int32) from nI_lt (b := 3) hi (by omega)), zp_uI hi (by omega), zp_bs, nI_1]
      · by_cases e : p = i
        · rw [e, zw_wI_eq]
        · rw [zw_wI_at e]; exact q3 p (by omega)) (fun x _ => by
      unfold fn_P_table_l1
      dsimp only
      rw [if_neg (show ¬ nI 3 < (3 : Int32) by decide)]) c4 ⟨fun _ _ => rfl, rfl, fun p hp => absurd hp (Nat.not_lt_zero p)⟩
    have d1' : zw_whl fn_P_table_l1 zw_F (0, c4) = some c5 := d1
    have f5 : ∀ k, k ≠ 1 → k ≠ 2 → k ≠ 3 → k ≠ 39 → k ≠ 46 → k ≠ 58 → c5.1 k = c.1 k := fun k k1 k2 k3 k4 k5 k6 => by rw [d2 k k4, b2 k k5 k6, hc3, zw_wI_ne k3, zw_wI_ne k3, zw_wI_ne k3]; exact a3 k k1 k2
    have S5 : zr_S E T (zt_N E T) (zt_p E T) c5 := by
      unfold zr_S
      rw [d2 1 (by decide), d2 2 (by decide), b2 1 (by decide) (by decide), b2 2 (by decide) (by decide), hc3, zw_wI_ne (show (1 : Nat) ≠ 3 by decide), zw_wI_ne (show (1 : Nat) ≠ 3 by decide), zw_wI_ne (show (1 : Nat) ≠ 3 by decide), zw_wI_ne (show (2 : Nat) ≠ 3 by decide), zw_wI_ne (show (2 : Nat) ≠ 3 by decide), zw_wI_ne (show (2 : Nat) ≠ 3 by decide)]
      exact a2
    have c53 : ∀ j, c5.1 3 j = if j = 9 then 0 else if j = 6 then 0 else if j = 2 then 0 else c.1 3 j := fun j => by
      rw [d2 3 (by decide), b2 3 (by decide) (by decide), hc3]
      by_cases h9 : j = 9
      · rw [h9, zw_wI_eq, if_pos rfl]
      · rw [zw_wI_at h9, if_neg h9]
        by_cases h6 : j = 6
        · rw [h6, zw_wI_eq, if_pos rfl]
        · rw [zw_wI_at h6, if_neg h6]
          by_cases h2 : j = 2
          · rw [h2, zw_wI_eq, if_pos rfl]
          · rw [zw_wI_at h2, if_neg h2, a3 3 (by decide) (by decide)]
    -- the Model
    obtain ⟨d0, hd0⟩ : ∃ d0, d0 = zw_wI (zw_wI (zw_wI c5 71 9 0) 71 0 (nI E)) 71 1 (nI T) := ⟨_, rfl⟩
    obtain ⟨e2, g1, g2, g3, g4, g5⟩ := sp_layOut (c := d0) hET (by rw [hd0, zw_wI_at (by decide), zw_wI_eq]) (by rw [hd0, zw_wI_eq])
    obtain ⟨e3, he3⟩ : ∃ e3, e3 = zw_wI (zw_wI (zw_wI e2 71 26 0) 71 33 0) 71 30 0 := ⟨_, rfl⟩
    obtain ⟨e4, i1, i2, i3, i4⟩ := zp_detC (f := fn_M_table_l1) (fun i c => (nI i, c)) (fun i x => (∀ k, k ≠ 82 → x.1 k = e3.1 k) ∧ x.2 = e3.2 ∧ ∀ p, p < i → x.1 82 p = 0) (fun c => c) 4 0 (Nat.zero_le _) (by unfold zw_F; omega) (fun i x _ hi ⟨q1, q2, q3⟩ => by
      refine ⟨zw_wI x 82 i 0, ?_, fun k hk => by rw [zw_wI_ne hk]; exact q1 k hk, q2, fun p hp => ?_⟩
      · unfold fn_M_table_l1
        dsimp only
        rw [if_pos (show nI i < (4 : Int32) from nI_lt (b := 4) hi (by omega)), zp_uI hi (by omega), zp_bs, nI_1]
      · by_cases e : p = i
        · rw [e, zw_wI_eq]
        · rw [zw_wI_at e]; exact q3 p (by omega)) (fun x _ => by
      unfold fn_M_table_l1
      dsimp only
      rw [if_neg (show ¬ nI 4 < (4 : Int32) by decide)]) e3 ⟨fun _ _ => rfl, rfl, fun p hp => absurd hp (Nat.not_lt_zero p)⟩
    have i1' : zw_whl fn_M_table_l1 zw_F (0, e3) = some e4 := i1
    obtain ⟨hNN, hX, hTab, hP, hH, hK⟩ := hRl
    obtain ⟨t, t1, t2, t3⟩ := hNN
    have e710 : e4.1 71 10 = nI t := by rw [i2 71 (by decide), he3, zw_wI_at (by decide), zw_wI_at (by decide), zw_wI_at (by decide), g4 10 (by decide), hd0, zw_wI_at (by decide), zw_wI_at (by decide), zw_wI_at (by decide), f5 71 (by decide) (by decide) (by decide) (by decide) (by decide) (by decide)]; exact t2
    obtain ⟨e5, he5⟩ : ∃ e5, e5 = zw_wI e4 71 10 (nI (t + 1)) := ⟨_, rfl⟩
    have k5 : ∀ k, k ≠ 71 → k ≠ 72 → k ≠ 82 → e5.1 k = c5.1 k := fun k k1 k2 k3 => by rw [he5, zw_wI_ne k1, i2 k k3, he3, zw_wI_ne k1, zw_wI_ne k1, zw_wI_ne k1, g3 k k1 k2, hd0, zw_wI_ne k1, zw_wI_ne k1, zw_wI_ne k1]
    have k5c : ∀ k, k ≠ 71 → k ≠ 72 → k ≠ 82 → k ≠ 1 → k ≠ 2 → k ≠ 3 → k ≠ 39 → k ≠ 46 → k ≠ 58 → e5.1 k = c.1 k := fun k k1 k2 k3 k4 k5' k6 k7 k8 k9 => by rw [k5 k k1 k2 k3, f5 k k4 k5' k6 k7 k8 k9]
    have f71 : ∀ j, j ≠ 0 → j ≠ 1 → j ≠ 2 → j ≠ 9 → j ≠ 10 → j ≠ 26 → j ≠ 33 → j ≠ 30 → e5.1 71 j = c.1 71 j := fun j j0 j1 j2 j9 j10 j26 j33 j30 => by rw [he5, zw_wI_at j10, i2 71 (by decide), he3, zw_wI_at j30, zw_wI_at j33, zw_wI_at j26, g4 j j2, hd0, zw_wI_at j1, zw_wI_at j0, zw_wI_at j9, f5 71 (by decide) (by decide) (by decide) (by decide) (by decide) (by decide)]
    have M5 : zr_M E T (zt_N E T) (zt_p E T) e5 := by
      have z : ∀ j, j < 3 → e5.1 71 j = e2.1 71 j := fun j hj => by rw [he5, zw_wI_at (by omega), i2 71 (by decide), he3, zw_wI_at (by omega), zw_wI_at (by omega), zw_wI_at (by omega)]
      have z72 : e5.1 72 = e2.1 72 := by rw [he5, zw_wI_ne (by decide), i2 72 (by decide), he3, zw_wI_ne (by decide), zw_wI_ne (by decide), zw_wI_ne (by decide)]
      unfold zr_M
      rw [z 0 (by omega), z 1 (by omega), z 2 (by omega), z72]
      exact g2
    have S5' : zr_S E T (zt_N E T) (zt_p E T) e5 := by
      unfold zr_S
      rw [k5 1 (by decide) (by decide) (by decide), k5 2 (by decide) (by decide) (by decide)]
      exact S5
    have d2e : e5.2 = c.2 := by
      have z1 : c3.2 = c2.2 := by rw [hc3]; rfl
      have z2 : e3.2 = e2.2 := by rw [he3]; rfl
      have z3 : d0.2 = c5.2 := by rw [hd0]; rfl
      have z4 : e5.2 = e4.2 := by rw [he5]; rfl
      rw [z4, i3, z2, g5, z3, d3, b3, z1, a4]
    refine ⟨nI (zt_N E T), c5, e5, ?_, ?_, ?_⟩
    · rw [if_neg hc, a1, zp_bs]
      unfold fn_Held_dropAllButTurn fn_Held_dropPeople
      rw [zp_bs, zp_bs, zp_bs, zp_bs, zp_bs, ← hc3, b1, zp_bs, d1', zp_bs, S5.2.2.1]
    · rw [zp_bs, if_neg hc, zp_bs, zp_bs, ← hd0, g1, zp_bs, zp_bs, zp_bs, zp_bs, ← he3, i1', zp_bs, e710, nI_1, ← he5, zp_bs, M5.2.2.1]
    · refine ⟨hR.fr (by rw [k5c 61 (by decide) (by decide) (by decide) (by decide) (by decide) (by decide) (by decide) (by decide) (by decide)]) (f71 8 (by decide) (by decide) (by decide) (by decide) (by decide) (by decide) (by decide) (by decide)) (by rw [d2e]) (by rw [d2e]), E, T, ?_⟩
      refine ⟨⟨t + 1, by omega, by rw [he5, zw_wI_eq], fun i hi => ?_⟩, hX.fr (k5c 40 (by decide) (by decide) (by decide) (by decide) (by decide) (by decide) (by decide) (by decide) (by decide)) (f71 6 (by decide) (by decide) (by decide) (by decide) (by decide) (by decide) (by decide) (by decide)) (k5c 41 (by decide) (by decide) (by decide) (by decide) (by decide) (by decide) (by decide) (by decide) (by decide)) (k5c 74 (by decide) (by decide) (by decide) (by decide) (by decide) (by decide) (by decide) (by decide) (by decide)), ⟨hET, S5', M5⟩, fun p hp => ?_, ?_, fun i hi => ?_⟩
      · rw [k5c 98 (by decide) (by decide) (by decide) (by decide) (by decide) (by decide) (by decide) (by decide) (by decide), k5c 99 (by decide) (by decide) (by decide) (by decide) (by decide) (by decide) (by decide) (by decide) (by decide)]
        rcases t3 i hi with h | ⟨h, u, hu, eu⟩
        · exact Or.inl h
        · exact Or.inr ⟨h, u, by omega, eu⟩
      · have e46 : e5.1 46 p = if c.1 46 p = 2 then 0 else c.1 46 p := by rw [k5 46 (by decide) (by decide) (by decide), d2 46 (by decide), b4 p hp, hc3, zw_wI_ne (by decide), zw_wI_ne (by decide), zw_wI_ne (by decide), a3 46 (by decide) (by decide)]
        have e58 : e5.1 58 p = 0 := by rw [k5 58 (by decide) (by decide) (by decide), d2 58 (by decide)]; exact b5 p hp
        have e82 : e5.1 82 p = 0 := by rw [he5, zw_wI_ne (by decide)]; exact i4 p hp
        have e81 : e5.1 81 p = c.1 81 p := by rw [k5c 81 (by decide) (by decide) (by decide) (by decide) (by decide) (by decide) (by decide) (by decide) (by decide)]
        rcases hP p hp with ⟨q1, q2, q3⟩ | ⟨q1, q2, q3, -⟩ | ⟨q1, q2, m, X, r1, r2, r3, r4, r5, r6, r7, -⟩
        · exact Or.inl ⟨by rw [e46, q1]; rfl, e82, e81.trans q3⟩
        · exact Or.inl ⟨by rw [e46, if_pos q1], e82, e81.trans q3⟩
        · refine Or.inr (Or.inr ⟨by rw [e46, q1]; rfl, e82, m, X, r1, r2, r3, e81.trans r4, ?_, ?_, ?_, Or.inl e58⟩)
          · rw [k5c (77 + p) (by omega) (by omega) (by omega) (by omega) (by omega) (by omega) (by omega) (by omega) (by omega)]; exact r5
          · rw [k5c 52 (by decide) (by decide) (by decide) (by decide) (by decide) (by decide) (by decide) (by decide) (by decide)]; exact r6
          · rw [k5c (48 + p) (by omega) (by omega) (by omega) (by omega) (by omega) (by omega) (by omega) (by omega) (by omega)]; exact r7
      · obtain ⟨q1, q2, q3, q4, q5, q6, q7, q8⟩ := hH
        have z26 : e5.1 71 26 = 0 := by rw [he5, zw_wI_at (by decide), i2 71 (by decide), he3, zw_wI_at (by decide), zw_wI_at (by decide), zw_wI_eq]
        have z33 : e5.1 71 33 = 0 := by rw [he5, zw_wI_at (by decide), i2 71 (by decide), he3, zw_wI_at (by decide), zw_wI_eq]
        have z30 : e5.1 71 30 = 0 := by rw [he5, zw_wI_at (by decide), i2 71 (by decide), he3, zw_wI_eq]
        have z32 : e5.1 3 2 = 0 := by rw [k5 3 (by decide) (by decide) (by decide), c53]; rfl
        have z36 : e5.1 3 6 = 0 := by rw [k5 3 (by decide) (by decide) (by decide), c53]; rfl
        have z39 : e5.1 3 9 = 0 := by rw [k5 3 (by decide) (by decide) (by decide), c53]; rfl
        have K : ∀ k, (4 ≤ k ∧ k ≤ 10) ∨ k = 73 ∨ (89 ≤ k ∧ k ≤ 96) → e5.1 k = c.1 k := fun k hk => k5c k (by omega) (by omega) (by omega) (by omega) (by omega) (by omega) (by omega) (by omega) (by omega)
        unfold zr_H
        rw [z26, z33, z30, z32, z36, z39, K 4 (by omega), K 5 (by omega), K 6 (by omega), K 7 (by omega), K 8 (by omega), K 9 (by omega), K 10 (by omega), K 73 (by omega), K 89 (by omega), K 92 (by omega), K 93 (by omega), K 94 (by omega), K 95 (by omega), K 96 (by omega)]
        exact ⟨q1, q2, rfl, q4, rfl, q6, rfl, 0, 0, rfl, by omega, rfl, by omega, fun i hi => absurd hi (Nat.not_lt_zero i), fun i hi => absurd hi (Nat.not_lt_zero i)⟩
      · refine ⟨false, ?_, fun _ => ?_, fun h => by cases h⟩
        · rw [k5 39 (by decide) (by decide) (by decide)]
          exact d4 i hi
        · rw [k5c 98 (by decide) (by decide) (by decide) (by decide) (by decide) (by decide) (by decide) (by decide) (by decide), k5c 99 (by decide) (by decide) (by decide) (by decide) (by decide) (by decide) (by decide) (by decide) (by decide), he5, zw_wI_eq]
          rcases t3 i hi with h | ⟨h, u, hu, eu⟩
          · exact Or.inl h
          · refine Or.inr (fun z => ?_)
            rw [eu] at z
            have := (nI_eq (by omega) (by omega)).mp z
            omega
/-! the beginning -/
theorem zz_ne {c : zw_Ct} {k j : Nat} (h : j ≠ k) : (zw_z c k).1 j = c.1 j := by
  funext i
  show (if j = k then 0 else c.1 j i) = c.1 j i
  rw [if_neg h]
def zz_s (c : zw_Ct) : List Nat → zw_Ct
  | [] => c
  | k :: ks => zz_s (zw_z c k) ks
theorem zz_sk : ∀ (ks : List Nat) (c : zw_Ct) (j : Nat), j ∉ ks → (zz_s c ks).1 j = c.1 j
  | [], _, _, _ => rfl
  | k :: ks, c, j, h => by
    show (zz_s (zw_z c k) ks).1 j = c.1 j
    rw [zz_sk ks (zw_z c k) j (fun q => h (List.mem_cons_of_mem _ q)), zz_ne (fun e => h (by rw [e]; exact List.mem_cons_self))]
theorem zz_s0 : ∀ (ks : List Nat) (c : zw_Ct) (j : Nat), c.1 j = (fun _ => 0) → (zz_s c ks).1 j = fun _ => 0
  | [], _, _, h => h
  | k :: ks, c, j, h => by
    show (zz_s (zw_z c k) ks).1 j = fun _ => 0
    by_cases e : j = k
    · exact zz_s0 ks _ j (by rw [e]; exact zw_z1)
    · exact zz_s0 ks _ j (by rw [zz_ne e]; exact h)
theorem sp_sheet0 (o : Nat) (c : zw_Ct) : ∃ r c2, fn_Held_readSheet o c 0 0 0 0 = some (r, c2) ∧ (∀ k, k ≠ o + 1 → c2.1 k = c.1 k) ∧ ∀ i, i < 13 → c2.1 (o + 1) i = nI i * nI i := by
  obtain ⟨c2, h1, h2, h3⟩ := zp_detC (f := fn_Held_readSheet_l1 o 0 0 0 0) (fun i c => (zs_sumI (fun i => nI i * nI i) i, nI i, c)) (fun i x => (∀ k, k ≠ o + 1 → x.1 k = c.1 k) ∧ ∀ j, j < i → x.1 (o + 1) j = nI j * nI j) (fun c => (zs_sumI (fun i => nI i * nI i) 13, c)) 13 0 (Nat.zero_le _) (by unfold zw_F; omega) (fun i x _ hi ⟨q1, q2⟩ => by
    refine ⟨zw_wI x (o + 1) i (nI i * nI i), ?_, fun k hk => by rw [zw_wI_ne hk]; exact q1 k hk, fun j hj => ?_⟩
    · unfold fn_Held_readSheet_l1
      dsimp only
      rw [if_pos (show nI i < (13 : Int32) from nI_lt (b := 13) hi (by omega)), if_neg (show ¬ nI i < (0 : Int32) from nI_pos (by omega)), zp_uI hi (by omega), zp_bs, zp_aI hi (by omega), zp_bs, zw_wI_eq, zp_bs, nI_1]
      rfl
    · by_cases e : j = i
      · rw [e, zw_wI_eq]
      · rw [zw_wI_at e]; exact q2 j (by omega)) (fun x _ => by
    unfold fn_Held_readSheet_l1
    dsimp only
    rw [if_neg (show ¬ nI 13 < (13 : Int32) by decide)]) c ⟨fun _ _ => rfl, fun j hj => absurd hj (Nat.not_lt_zero j)⟩
  have h1' : zw_whl (fn_Held_readSheet_l1 o 0 0 0 0) zw_F (0, 0, c) = some (zs_sumI (fun i => nI i * nI i) 13, c2) := h1
  refine ⟨zs_sumI (fun i => nI i * nI i) 13, c2, ?_, h2, h3⟩
  unfold fn_Held_readSheet
  rw [h1', zp_bs]
def zz_sq (x : zw_Ct) : zw_Ct := (zw_wI (zw_wI (zw_wI (zw_wI (zw_wI (zw_wI (zw_wI (zw_wI (zw_wI (zw_wI (zw_wI (zw_wI (zw_wI x 73 0 0) 73 1 1) 73 2 4) 73 3 9) 73 4 16) 73 5 25) 73 6 36) 73 7 49) 73 8 64) 73 9 81) 73 10 100) 73 11 121) 73 12 144)
theorem zz_sq_ne {x : zw_Ct} {k : Nat} (h : k ≠ 73) : (zz_sq x).1 k = x.1 k := by
  unfold zz_sq
  rw [zw_wI_ne h, zw_wI_ne h, zw_wI_ne h, zw_wI_ne h, zw_wI_ne h, zw_wI_ne h, zw_wI_ne h, zw_wI_ne h, zw_wI_ne h, zw_wI_ne h, zw_wI_ne h, zw_wI_ne h, zw_wI_ne h]
theorem zz_sq_at {x : zw_Ct} : ∀ i, i < 13 → (zz_sq x).1 73 i = nI i * nI i := by
  intro i hi
  rcases (show i = 0 ∨ i = 1 ∨ i = 2 ∨ i = 3 ∨ i = 4 ∨ i = 5 ∨ i = 6 ∨ i = 7 ∨ i = 8 ∨ i = 9 ∨ i = 10 ∨ i = 11 ∨ i = 12 by omega) with rfl | rfl | rfl | rfl | rfl | rfl | rfl | rfl | rfl | rfl | rfl | rfl | rfl <;> rfl
theorem zr_init : zq_Init zr_Rel := by
  have hET : zt_ET 2 4 := ⟨by omega, by omega, by omega, by omega⟩
  obtain ⟨c1, a1, a2, a3, a4⟩ := sp_lay (c := zz_s (fun _ _ => 0, fun _ _ => 0) [0, 1, 2]) hET
  obtain ⟨r3, c3, b1, b2, b3⟩ := sp_sheet0 3 (zz_s c1 [3, 4, 5, 6, 7, 8, 9, 10])
  obtain ⟨r15, c15, d1, d2, d3⟩ := sp_sheet0 15 (zz_s c3 [11, 12, 13, 14, 15, 16, 17, 18, 19, 20, 21, 22])
  obtain ⟨r23, c23, e1, e2, e3⟩ := sp_sheet0 23 (zz_s c15 [23, 24, 25, 26, 27, 28, 29, 30])
  obtain ⟨r31, c31, f1, f2, f3⟩ := sp_sheet0 31 (zz_s c23 [31, 32, 33, 34, 35, 36, 37, 38])
  obtain ⟨cP, hcP⟩ : ∃ cP, cP = zz_s c31 [39, 40, 41, 42, 43, 44, 45, 46, 47, 48, 49, 50, 51, 52, 53, 54, 55, 56, 57, 58, 59, 60, 61, 62, 63, 64, 65, 66, 67, 68, 69, 70] := ⟨_, rfl⟩
  obtain ⟨m0, hm0⟩ : ∃ m0, m0 = zz_sq (zz_s (zw_wI (zw_wI (zw_z cP 71) 71 0 2) 71 1 4) [72, 73, 74, 75, 76, 77, 78, 79, 80, 81, 82, 83, 84, 85, 86, 87, 88, 89, 90, 91, 92, 93, 94, 95, 96, 97, 98, 99]) := ⟨_, rfl⟩
  have z0 : ∀ k, (zz_s (fun _ _ => 0, fun _ _ => 0) [0, 1, 2]).1 k = fun _ => 0 := fun k => zz_s0 _ _ _ rfl
  have z1 : ∀ k, k ≠ 1 → k ≠ 2 → c1.1 k = fun _ => 0 := fun k k1 k2 => by rw [a3 k k1 k2]; exact z0 k
  have z3 : ∀ k, k ≠ 1 → k ≠ 2 → k ≠ 4 → c3.1 k = fun _ => 0 := fun k k1 k2 k4 => by rw [b2 k k4]; exact zz_s0 _ _ _ (z1 k k1 k2)
  have z15 : ∀ k, k ≠ 1 → k ≠ 2 → k ≠ 4 → k ≠ 16 → c15.1 k = fun _ => 0 := fun k k1 k2 k4 k5 => by rw [d2 k k5]; exact zz_s0 _ _ _ (z3 k k1 k2 k4)
  have z23 : ∀ k, k ≠ 1 → k ≠ 2 → k ≠ 4 → k ≠ 16 → k ≠ 24 → c23.1 k = fun _ => 0 := fun k k1 k2 k4 k5 k6 => by rw [e2 k k6]; exact zz_s0 _ _ _ (z15 k k1 k2 k4 k5)
  have z31 : ∀ k, k ≠ 1 → k ≠ 2 → k ≠ 4 → k ≠ 16 → k ≠ 24 → k ≠ 32 → c31.1 k = fun _ => 0 := fun k k1 k2 k4 k5 k6 k7 => by rw [f2 k k7]; exact zz_s0 _ _ _ (z23 k k1 k2 k4 k5 k6)
  have zP : ∀ k, k ≠ 1 → k ≠ 2 → k ≠ 4 → k ≠ 16 → k ≠ 24 → k ≠ 32 → cP.1 k = fun _ => 0 := fun k k1 k2 k4 k5 k6 k7 => by rw [hcP]; exact zz_s0 _ _ _ (z31 k k1 k2 k4 k5 k6 k7)
  have zM : ∀ k, k ≠ 1 → k ≠ 2 → k ≠ 4 → k ≠ 16 → k ≠ 24 → k ≠ 32 → k ≠ 71 → k ≠ 73 → m0.1 k = fun _ => 0 := fun k k1 k2 k4 k5 k6 k7 k8 k9 => by
    rw [hm0, zz_sq_ne k9]
    exact zz_s0 _ _ _ (by rw [zw_wI_ne k8, zw_wI_ne k8, zz_ne k8]; exact zP k k1 k2 k4 k5 k6 k7)
  have m71 : ∀ j, m0.1 71 j = if j = 1 then 4 else if j = 0 then 2 else 0 := fun j => by
    rw [hm0, zz_sq_ne (by decide), zz_sk _ _ _ (by decide)]
    by_cases h1 : j = 1
    · rw [h1, zw_wI_eq, if_pos rfl]
    · rw [zw_wI_at h1, if_neg h1]
      by_cases h0 : j = 0
      · rw [h0, zw_wI_eq, if_pos rfl]
      · rw [zw_wI_at h0, if_neg h0, zw_z1]
  have m73 : ∀ i, i < 13 → m0.1 73 i = nI i * nI i := fun i hi => by rw [hm0]; exact zz_sq_at i hi
  have low : ∀ k, k ≤ 2 → m0.1 k = c1.1 k := fun k hk => by
    rw [hm0, zz_sq_ne (by omega), zz_sk _ _ _ (fun q => by simp only [List.mem_cons, List.not_mem_nil, or_false] at q; omega), zw_wI_ne (by omega), zw_wI_ne (by omega), zz_ne (by omega), hcP, zz_sk _ _ _ (fun q => by simp only [List.mem_cons, List.not_mem_nil, or_false] at q; omega), f2 k (by omega), zz_sk _ _ _ (fun q => by simp only [List.mem_cons, List.not_mem_nil, or_false] at q; omega), e2 k (by omega), zz_sk _ _ _ (fun q => by simp only [List.mem_cons, List.not_mem_nil, or_false] at q; omega), d2 k (by omega), zz_sk _ _ _ (fun q => by simp only [List.mem_cons, List.not_mem_nil, or_false] at q; omega), b2 k (by omega), zz_sk _ _ _ (fun q => by simp only [List.mem_cons, List.not_mem_nil, or_false] at q; omega)]
  have m4 : ∀ i, i < 13 → m0.1 4 i = nI i * nI i := fun i hi => by
    rw [hm0, zz_sq_ne (by omega), zz_sk _ _ _ (by decide), zw_wI_ne (by omega), zw_wI_ne (by omega), zz_ne (by omega), hcP, zz_sk _ _ _ (by decide), f2 4 (by omega), zz_sk _ _ _ (by decide), e2 4 (by omega), zz_sk _ _ _ (by decide), d2 4 (by omega), zz_sk _ _ _ (by decide)]
    exact b3 i hi
  obtain ⟨d, g1, g2, g3, g4, g5⟩ := sp_layOut (c := m0) hET (m71 0) (m71 1)
  have fd : ∀ k, k ≠ 71 → k ≠ 72 → (zw_z d 100).1 k = if k = 100 then (fun _ => 0) else m0.1 k := fun k k1 k2 => by
    by_cases h : k = 100
    · rw [if_pos h, h]; exact zw_z1
    · rw [if_neg h, zz_ne h, g3 k k1 k2]
  have z : ∀ k, k ≠ 1 → k ≠ 2 → k ≠ 4 → k ≠ 16 → k ≠ 24 → k ≠ 32 → k ≠ 71 → k ≠ 72 → k ≠ 73 → (zw_z d 100).1 k = fun _ => 0 := fun k k1 k2 k4 k5 k6 k7 k8 k9 k10 => by
    rw [fd k k8 k9]
    by_cases h : k = 100
    · rw [if_pos h]
    · rw [if_neg h]; exact zM k k1 k2 k4 k5 k6 k7 k8 k10
  have z71 : ∀ j, j ≠ 0 → j ≠ 1 → j ≠ 2 → (zw_z d 100).1 71 j = 0 := fun j j0 j1 j2 => by rw [zz_ne (by decide), g4 j j2, m71, if_neg j1, if_neg j0]
  refine ⟨c1, c3, r3, c15, r15, c23, r23, c31, r31, a1, b1, d1, e1, f1, cP, hcP, d, by rw [← g1, hm0]; rfl, ?_⟩
  refine ⟨⟨0, by omega, by rw [z 61 (by decide) (by decide) (by decide) (by decide) (by decide) (by decide) (by decide) (by decide) (by decide)]; rfl, z71 8 (by decide) (by decide) (by decide), fun k hk => absurd hk (Nat.not_lt_zero k)⟩, 2, 4, ⟨0, by omega, z71 10 (by decide) (by decide) (by decide), fun i hi => Or.inl (by rw [z 98 (by decide) (by decide) (by decide) (by decide) (by decide) (by decide) (by decide) (by decide) (by decide)])⟩, ⟨0, by omega, by rw [z 40 (by decide) (by decide) (by decide) (by decide) (by decide) (by decide) (by decide) (by decide) (by decide)]; rfl, z71 6 (by decide) (by decide) (by decide), fun k hk => absurd hk (Nat.not_lt_zero k)⟩, ⟨hET, ?_, ?_⟩, fun p hp => Or.inl ⟨by rw [z 46 (by decide) (by decide) (by decide) (by decide) (by decide) (by decide) (by decide) (by decide) (by decide)], by rw [z 82 (by decide) (by decide) (by decide) (by decide) (by decide) (by decide) (by decide) (by decide) (by decide)], by rw [z 81 (by decide) (by decide) (by decide) (by decide) (by decide) (by decide) (by decide) (by decide) (by decide)]⟩, ?_, fun i hi => ⟨false, by rw [z 39 (by decide) (by decide) (by decide) (by decide) (by decide) (by decide) (by decide) (by decide) (by decide)]; rfl, fun _ => Or.inl (by rw [z 98 (by decide) (by decide) (by decide) (by decide) (by decide) (by decide) (by decide) (by decide) (by decide)]), fun h => by cases h⟩⟩
  · unfold zr_S
    rw [fd 1 (by decide) (by decide), fd 2 (by decide) (by decide), if_neg (by decide), if_neg (by decide), low 1 (by omega), low 2 (by omega)]
    exact a2
  · unfold zr_M
    rw [zz_ne (show (71 : Nat) ≠ 100 by decide), zz_ne (show (72 : Nat) ≠ 100 by decide)]
    exact g2
  · have K : ∀ k, (5 ≤ k ∧ k ≤ 10) ∨ k = 3 ∨ (89 ≤ k ∧ k ≤ 96) → (zw_z d 100).1 k = fun _ => 0 := fun k hk => z k (by omega) (by omega) (by omega) (by omega) (by omega) (by omega) (by omega) (by omega) (by omega)
    unfold zr_H
    rw [K 3 (by omega), K 5 (by omega), K 6 (by omega), K 7 (by omega), K 8 (by omega), K 9 (by omega), K 10 (by omega), K 89 (by omega), K 92 (by omega), K 93 (by omega), K 94 (by omega), K 95 (by omega), K 96 (by omega), z71 26 (by decide) (by decide) (by decide), z71 33 (by decide) (by decide) (by decide), z71 30 (by decide) (by decide) (by decide), fd 4 (by decide) (by decide), fd 73 (by decide) (by decide), if_neg (by decide), if_neg (by decide)]
    exact ⟨fun i hi => (m4 i hi).trans (m73 i hi).symm, fun _ _ => rfl, rfl, fun _ _ => ⟨rfl, rfl, rfl⟩, rfl, fun _ _ => ⟨rfl, rfl⟩, rfl, 0, 0, rfl, by omega, rfl, by omega, fun i hi => absurd hi (Nat.not_lt_zero i), fun i hi => absurd hi (Nat.not_lt_zero i)⟩
