/-! pay -/
theorem sp_Ptell {i : Nat} {x : zw_Ct} {X : List Int32} (hi : i < 4) (hX : X.length ≤ 60) (h3 : x.1 40 3 = nI X.length) (hk : zk X.reverse (x.1 42)) : ∃ y, fn_Pays_tell x (nI i) = some y ∧ (∀ k, k ≠ 48 + i → k ≠ 52 → k ≠ 46 → k ≠ 58 → y.1 k = x.1 k) ∧ y.2 = x.2 ∧ (∀ p, p ≠ i → y.1 46 p = x.1 46 p ∧ y.1 52 p = x.1 52 p ∧ y.1 58 p = x.1 58 p) ∧ y.1 46 i = 1 ∧ y.1 52 i = nI X.length ∧ y.1 58 i = 0 ∧ ∀ k, k < X.length → y.1 (48 + i) k = X.getD k 0 := by
  have cell48 : zw_len SH 0 (48 + i) = some 60 := by rcases (show i = 0 ∨ i = 1 ∨ i = 2 ∨ i = 3 by omega) with rfl | rfl | rfl | rfl <;> rfl
  obtain ⟨c2, q1, q2, q3, q4, -⟩ := sp_cp (n0 := 60) (n1 := 60) (n := X.length) (a0 := 42) (a1 := 48 + i) (c := x) hX hX (by omega)
  refine ⟨zw_wI (zw_wI (zw_wI c2 52 i (nI X.length)) 46 i 1) 58 i 0, ?_, fun k k1 k2 k3 k4 => ?_, q3, fun p hp => ⟨?_, ?_, ?_⟩, ?_, ?_, zw_wI_eq, fun k hk2 => ?_⟩
  · unfold fn_Pays_tell
    rw [zp_gr hi (by omega), zp_bs, cell48, zp_bs, h3, q1, zp_bs, q2 40 (by omega), h3, zp_uI hi (by omega), zp_bs, zp_uI hi (by omega), zp_bs, zp_uI hi (by omega), zp_bs]
  · rw [zw_wI_ne k4, zw_wI_ne k3, zw_wI_ne k2, q2 k k1]
  · rw [zw_wI_ne (by decide), zw_wI_at hp, zw_wI_ne (by decide), q2 46 (by omega)]
  · rw [zw_wI_ne (by decide), zw_wI_ne (by decide), zw_wI_at hp, q2 52 (by omega)]
  · rw [zw_wI_at hp, zw_wI_ne (by decide), zw_wI_ne (by decide), q2 58 (by omega)]
  · rw [zw_wI_ne (by decide), zw_wI_eq]
  · rw [zw_wI_ne (by decide), zw_wI_ne (by decide), zw_wI_eq]
  · rw [zw_wI_ne (by omega), zw_wI_ne (by omega), zw_wI_ne (by omega), q4 k hk2]
    have := zk_get hk k (by rw [List.length_reverse]; exact hk2)
    rw [List.reverse_reverse] at this
    exact this
theorem sp_Mkeep {i L : Nat} {d : zw_Ct} (hi : i < 4) (hL : L ≤ 60) (hb : ∀ k, k < L → ∃ u : Nat, u < 256 ∧ d.1 74 k = (nI u).toInt8.toInt32) : ∃ d', zw_whl (fn_M_pay_l2 (nI L) (nI i)) zw_F (0, d) = some d' ∧ (∀ k, k ≠ 77 + i → d'.1 k = d.1 k) ∧ d'.2 = d.2 ∧ ∀ k, k < L → d'.1 (77 + i) k = d.1 74 k := by
  have cell77 : zw_len SH 2 (77 + i) = some 60 := by rcases (show i = 0 ∨ i = 1 ∨ i = 2 ∨ i = 3 by omega) with rfl | rfl | rfl | rfl <;> rfl
  obtain ⟨d', a1, a2, a3, a4⟩ := zp_detC (f := fn_M_pay_l2 (nI L) (nI i)) (fun j c => (nI j, c)) (fun j x => (∀ k, k ≠ 77 + i → x.1 k = d.1 k) ∧ x.2 = d.2 ∧ ∀ k, k < j → x.1 (77 + i) k = d.1 74 k) (fun c => c) L 0 (Nat.zero_le _) (by unfold zw_F; omega) (fun j x _ hj ⟨q1, q2, q3⟩ => by
    refine ⟨zw_wI x (77 + i) j (d.1 74 j), ?_, fun k hk => by rw [zw_wI_ne hk]; exact q1 k hk, q2, fun k hk => ?_⟩
    · obtain ⟨u, u1, u2⟩ := hb j hj
      unfold fn_M_pay_l2
      dsimp only
      rw [if_pos (nI_lt hj (by omega)), zp_gr hi (by omega), zp_bs, zp_aI (by omega) (by omega), zp_bs, q1 74 (by omega), u2, zx_byte u u1, zp_eI cell77 (by omega) (by omega), zp_bs, nI_1]
    · by_cases e : k = j
      · rw [e, zw_wI_eq]
      · rw [zw_wI_at e]; exact q3 k (by omega)) (fun x _ => by
    unfold fn_M_pay_l2
    dsimp only
    rw [if_neg (nI_nlt (Nat.le_refl _) (by omega))]) d ⟨fun _ _ => rfl, rfl, fun k hk => absurd hk (Nat.not_lt_zero k)⟩
  exact ⟨d', a1, a2, a3, a4⟩
def zx_d (c1 : zw_Ct) (L : Nat) : zw_Ct := zw_wI (zw_wI (zw_wI (zw_wI (zw_wI (zw_wI (zw_wI c1 71 9 0) 71 6 0) 71 15 (nI 74)) 71 16 (nI L)) 71 17 0) 71 18 (-1)) 71 19 (-1)
theorem zx_d_ne {c1 : zw_Ct} {L k : Nat} (hk : k ≠ 71) : (zx_d c1 L).1 k = c1.1 k := by
  unfold zx_d
  rw [zw_wI_ne hk, zw_wI_ne hk, zw_wI_ne hk, zw_wI_ne hk, zw_wI_ne hk, zw_wI_ne hk, zw_wI_ne hk]
theorem zx_d_at {c1 : zw_Ct} {L j : Nat} (h6 : j ≠ 6) (h9 : j ≠ 9) (h15 : j ≠ 15) (h16 : j ≠ 16) (h17 : j ≠ 17) (h18 : j ≠ 18) (h19 : j ≠ 19) : (zx_d c1 L).1 71 j = c1.1 71 j := by
  unfold zx_d
  rw [zw_wI_at h19, zw_wI_at h18, zw_wI_at h17, zw_wI_at h16, zw_wI_at h15, zw_wI_at h6, zw_wI_at h9]
theorem zx_d6 {c1 : zw_Ct} {L : Nat} : (zx_d c1 L).1 71 6 = 0 := by
  unfold zx_d
  rw [zw_wI_at (by decide), zw_wI_at (by decide), zw_wI_at (by decide), zw_wI_at (by decide), zw_wI_at (by decide), zw_wI_eq]
theorem sp_Mread {L : Nat} {c1 : zw_Ct} (hL : L ≤ 80) : ∃ v c2, fn_M_rec 100 0 (zx_d c1 L) 0 = some (v, c2) ∧ zg_S (zx_d c1 L) (fun _ => 0) (zt_pp (zt_h (c1.1 74) L) 100 0 0 0) v c2 := by
  have hT : zg_T 74 L (zx_d c1 L) := ⟨by omega, by omega, ⟨80, rfl, hL, by omega⟩, by
    unfold zx_d
    rw [zw_wI_at (by decide), zw_wI_at (by decide), zw_wI_at (by decide), zw_wI_at (by decide), zw_wI_eq], by
    unfold zx_d
    rw [zw_wI_at (by decide), zw_wI_at (by decide), zw_wI_at (by decide), zw_wI_eq]⟩
  have h19 : (zx_d c1 L).1 71 19 = -1 := by unfold zx_d; rw [zw_wI_eq]
  have hH : zg_H (zx_d c1 L) (fun _ => 0) := fun c2 hG g _ => by
    rw [hG.2.1 19 (by decide) (by decide), h19, if_pos rfl]
  have hC : zg_C (zx_d c1 L) 0 (zx_d c1 L) := ⟨⟨fun _ _ => rfl, fun _ _ _ => rfl, rfl⟩, by
    unfold zx_d
    rw [zw_wI_at (by decide), zw_wI_at (by decide), zw_wI_eq]
    rfl, by
    unfold zx_d
    rw [zw_wI_at (by decide), zw_wI_eq], by omega⟩
  obtain ⟨v, c2, a1, a2, -⟩ := (zg_all hT hH 100).1 0 0 (zx_d c1 L) (by omega) (by omega) hC
  rw [zx_d_ne (by decide)] at a2
  exact ⟨v, c2, a1, a2⟩
theorem sp_Mpay {i L : Nat} {c1 : zw_Ct} (hi : i < 4) (hL : L ≤ 80) (hL0 : 0 < L) (h6 : c1.1 71 6 = nI L) (hb : ∀ k, k < L → ∃ u : Nat, u < 256 ∧ c1.1 74 k = (nI u).toInt8.toInt32) {r : List Int32 × Nat × Bool} (hr : r = zt_pp (zt_h (c1.1 74) L) 100 0 0 0) (hrL : r.2.1 ≤ L) : (r.2.2 = true ∧ r.2.1 = L → L ≤ 60 ∧ ∃ c2, fn_M_pay c1 (nI i) = some (0, c2) ∧ (∀ k, k ≠ 71 → k ≠ 81 → k ≠ 82 → k ≠ 77 + i → c2.1 k = c1.1 k) ∧ (∀ j, j ≠ 6 → j ≠ 9 → j ≠ 15 → j ≠ 16 → j ≠ 17 → j ≠ 18 → j ≠ 19 → c2.1 71 j = c1.1 71 j) ∧ c2.1 71 6 = 0 ∧ c2.2 = c1.2 ∧ (∀ p, p ≠ i → c2.1 81 p = c1.1 81 p ∧ c2.1 82 p = c1.1 82 p) ∧ c2.1 81 i = nI L ∧ c2.1 82 i = 0 ∧ ∀ k, k < L → c2.1 (77 + i) k = c1.1 74 k) ∧ (¬ (r.2.2 = true ∧ r.2.1 = L) → ∃ c2, fn_M_pay c1 (nI i) = some (-1 - nI r.2.1, c2) ∧ (∀ k, k ≠ 71 → c2.1 k = c1.1 k) ∧ (∀ j, j ≠ 6 → j ≠ 9 → j ≠ 15 → j ≠ 16 → j ≠ 17 → j ≠ 18 → j ≠ 19 → c2.1 71 j = c1.1 71 j) ∧ c2.1 71 6 = 0 ∧ c2.2 = c1.2) := by
  obtain ⟨v, c27, a1, a2⟩ := sp_Mread (c1 := c1) hL
  rw [← hr] at a2
  have w : fn_M_in (nI i).toInt64 0 3 = fn_P_within (nI i) 0 3 := in_within (nI i) 0 3
  have hw : fn_P_within (nI i) 0 3 = 1 := by
    unfold fn_P_within
    rw [if_pos ⟨nI_pos' (by omega), (nI_leI (a := i) (b := 3) (by omega) (by omega)).mpr (by omega)⟩]
  have h0L : (0 : Int32) < nI L := nI_lt (show 0 < L from hL0) (by omega)
  have ed : zw_wI (zw_wI (zw_wI (zw_wI (zw_wI (zw_wI (zw_wI c1 71 9 0) 71 6 0) 71 15 (nI 74)) 71 16 (nI L)) 71 17 0) 71 18 (-1)) 71 19 (-1) = zx_d c1 L := rfl
  have q60 := a2.2.2.2.1
  constructor
  · intro hok
    have hC := a2.C hok.1
    obtain ⟨d', b1, b2, b3, b4⟩ := sp_Mkeep (i := i) (L := L) (d := c27) hi (by omega) (fun k hk => by rw [hC.1.1 74 (by decide), zx_d_ne (by decide)]; exact hb k hk)
    refine ⟨by omega, zw_wI (zw_wI d' 81 i (nI L)) 82 i 0, ?_, fun k k1 k2 k3 k4 => ?_, fun j j1 j2 j3 j4 j5 j6 j7 => ?_, ?_, ?_, fun p hp => ⟨?_, ?_⟩, ?_, zw_wI_eq, fun k hk => ?_⟩
    · unfold fn_M_pay
      rw [zp_bs, zw_wI_at (by decide), h6, zp_bs, zp_bs, w, hw, if_neg (by decide), zp_bs, zp_bs, zp_bs, zp_bs, zp_bs, ed, if_pos h0L, a1, zp_bs]
      dsimp only
      rw [hC.2.1, hok.2, if_neg (nI_nlt (Nat.le_refl _) (by omega)), zp_bs, zg_fine hC, if_neg (by decide), b1, zp_bs, zp_uI hi (by omega), zp_bs, zp_uI hi (by omega), zp_bs]
    · rw [zw_wI_ne k3, zw_wI_ne k2, b2 k k4, hC.1.1 k k1, zx_d_ne k1]
    · rw [zw_wI_ne (by decide), zw_wI_ne (by decide), b2 71 (by omega), hC.1.2.1 j j5 j6, zx_d_at j1 j2 j3 j4 j5 j6 j7]
    · rw [zw_wI_ne (by decide), zw_wI_ne (by decide), b2 71 (by omega), hC.1.2.1 6 (by decide) (by decide), zx_d6]
    · exact b3.trans hC.1.2.2
    · rw [zw_wI_ne (by decide), zw_wI_at hp, b2 81 (by omega), hC.1.1 81 (by decide), zx_d_ne (by decide)]
    · rw [zw_wI_at hp, zw_wI_ne (by decide), b2 82 (by omega), hC.1.1 82 (by decide), zx_d_ne (by decide)]
    · rw [zw_wI_ne (by decide), zw_wI_eq]
    · rw [zw_wI_ne (by omega), zw_wI_ne (by omega), b4 k hk, hC.1.1 74 (by decide), zx_d_ne (by decide)]
  · intro hno
    obtain ⟨c28, e1, e2, e3⟩ : ∃ c28, (if (c27.1 71 17) < nI L then ((fn_M_isWrong c27).bind fun c31 => some c31) else (some c27)) = some c28 ∧ zg_G (zx_d c1 L) c28 ∧ c28.1 71 18 = nI r.2.1 := by
      by_cases hok : r.2.2 = true
      · have hq : r.2.1 < L := by
          by_cases q : r.2.1 = L
          · exact absurd ⟨hok, q⟩ hno
          · omega
        obtain ⟨c5, w1, w2⟩ := zg_wrong (th := fun _ => 0) (X := r.1) (v := v) (a2.C hok)
        refine ⟨c5, ?_, w2.1, w2.2.2.1⟩
        rw [a2.2.1, if_pos (nI_lt hq (by omega)), w1, zp_bs]
      · have hw : c27.1 71 18 = nI r.2.1 := by rw [a2.2.2.1, if_neg hok]
        have hnw : fn_M_isWrong c27 = some c27 := by
          unfold fn_M_isWrong fn_M_fine
          rw [hw, if_neg (nI_nm1 (by omega)), if_neg (by decide), zp_bs]
        refine ⟨c27, ?_, a2.1, hw⟩
        rw [hnw, zp_bs]
        by_cases q : c27.1 71 17 < nI L
        · rw [if_pos q]
        · rw [if_neg q]
    have hf : fn_M_fine c28 = 0 := by unfold fn_M_fine; rw [e3, if_neg (nI_nm1 (by omega))]
    refine ⟨c28, ?_, fun k k1 => ?_, fun j j1 j2 j3 j4 j5 j6 j7 => ?_, ?_, e2.2.2⟩
    · unfold fn_M_pay
      rw [zp_bs, zw_wI_at (by decide), h6, zp_bs, zp_bs, w, hw, if_neg (by decide), zp_bs, zp_bs, zp_bs, zp_bs, zp_bs, ed, if_pos h0L, a1, zp_bs]
      dsimp only
      rw [e1, zp_bs, hf, if_pos (by decide), e3]
    · rw [e2.1 k k1, zx_d_ne k1]
    · rw [e2.2.1 j j5 j6, zx_d_at j1 j2 j3 j4 j5 j6 j7]
    · rw [e2.2.1 6 (by decide) (by decide), zx_d6]
theorem zo_payC : zq_pay zr_Rel := by
  intro n c hn hRel a
  obtain ⟨hR, E, T, hRl⟩ := hRel
  obtain ⟨L, x1, x2, x3, x4⟩ := hRl.2.1
  have w : fn_M_in a.toInt64 0 3 = fn_P_within a 0 3 := in_within a 0 3
  by_cases hc : fn_P_within a 0 3 = 0
  · refine ⟨-100, zw_wI c 40 1 0, zw_wI (zw_wI (zw_wI c 40 1 0) 71 9 0) 71 6 0, ?_, ?_, zr_told (i := 99) (Or.inr rfl) hR hRl (fun k _ k1 _ _ _ _ _ _ k2 _ _ _ _ => ?_) (fun j j1 j2 _ _ _ _ _ => ?_) (fun p _ => ⟨?_, ?_, ?_, ?_, ?_⟩) ?_ zw_wI_eq rfl (fun q => absurd q (by decide))⟩
    · unfold fn_P_pay
      rw [if_neg (fun q => q hc)]
      rfl
    · unfold fn_M_pay
      rw [zp_bs, zp_bs, zp_bs, w, if_pos (fun q => q hc)]
    · rw [zw_wI_ne k2, zw_wI_ne k2, zw_wI_ne k1]
    · rw [zw_wI_at j1, zw_wI_at j2, zw_wI_ne (by decide)]
    · rw [zw_wI_ne (by decide), zw_wI_ne (by decide), zw_wI_ne (by decide)]
    · rw [zw_wI_ne (by decide), zw_wI_ne (by decide), zw_wI_ne (by decide)]
    · rw [zw_wI_ne (by decide), zw_wI_ne (by decide), zw_wI_ne (by decide)]
    · rw [zw_wI_ne (by decide), zw_wI_ne (by decide), zw_wI_ne (by decide)]
    · rw [zw_wI_ne (by decide), zw_wI_ne (by decide), zw_wI_ne (by decide)]
    · rw [zw_wI_ne (by decide), zw_wI_ne (by decide), zw_wI_eq]
  obtain ⟨i, hi3, rfl⟩ := within_n (a := a) (m := 3) rfl (by omega) (within_1 (a := a) (lo := 0) (hi := 3) hc)
  have hi : i < 4 := by omega
  by_cases hL0 : L = 0
  · subst hL0
    have hl : zw_whl (fn_M_pay_l1 (nI 0) (nI i)) zw_F (0, zx_d (zw_wI (zw_wI c 46 i 0) 40 1 0) 0) = some (zx_d (zw_wI (zw_wI c 46 i 0) 40 1 0) 0) := by
      show (fn_M_pay_l1 (nI 0) (nI i) (0, zx_d (zw_wI (zw_wI c 46 i 0) 40 1 0) 0)).bind _ = _
      have : fn_M_pay_l1 (nI 0) (nI i) (0, zx_d (zw_wI (zw_wI c 46 i 0) 40 1 0) 0) = some (.inl (zx_d (zw_wI (zw_wI c 46 i 0) 40 1 0) 0)) := by
        unfold fn_M_pay_l1
        dsimp only
        rw [if_neg (by decide)]
      rw [this]
      rfl
    have h6 : (zw_wI (zw_wI c 46 i 0) 40 1 0).1 71 6 = nI 0 := by rw [zw_wI_ne (by decide), zw_wI_ne (by decide)]; exact x3
    have ed : zw_wI (zw_wI (zw_wI (zw_wI (zw_wI (zw_wI (zw_wI (zw_wI (zw_wI c 46 i 0) 40 1 0) 71 9 0) 71 6 0) 71 15 (nI 74)) 71 16 (nI 0)) 71 17 0) 71 18 (-1)) 71 19 (-1) = zx_d (zw_wI (zw_wI c 46 i 0) 40 1 0) 0 := rfl
    refine ⟨0, zw_wI (zw_wI c 46 i 0) 40 1 0, zw_wI (zw_wI (zx_d (zw_wI (zw_wI c 46 i 0) 40 1 0) 0) 81 i (nI 0)) 82 i 0, ?_, ?_, zr_told (i := i) (Or.inl hi) hR hRl (fun k _ k1 _ _ _ k4 _ _ k5 k6 k7 _ _ => ?_) (fun j j1 j2 j3 j4 j5 j6 j7 => ?_) (fun p hp => ⟨?_, ?_, ?_, ?_, ?_⟩) ?_ ?_ rfl (fun _ => Or.inl ⟨?_, zw_wI_eq, ?_⟩)⟩
    · have ht : fn_P_tellPay c (nI i) = some (0, zw_wI c 46 i 0) := by
        unfold fn_P_tellPay fn_Pays_drop
        rw [x2, if_pos (show nI 0 = 0 by decide), zp_uI hi (by omega), zp_bs, zp_bs]
      unfold fn_P_pay
      rw [if_pos hc, ht, zp_bs]
      rfl
    · unfold fn_M_pay
      rw [zp_bs, zw_wI_at (by decide), h6, zp_bs, zp_bs, w, if_neg (fun q => q hc), zp_bs, zp_bs, zp_bs, zp_bs, zp_bs, ed, if_neg (by decide), hl, zp_bs, zp_uI hi (by omega), zp_bs, zp_uI hi (by omega), zp_bs]
    · rw [zw_wI_ne k7, zw_wI_ne k6, zx_d_ne k5, zw_wI_ne k1, zw_wI_ne k4]
    · rw [zw_wI_ne (by decide), zw_wI_ne (by decide), zx_d_at j1 j2 j3 j4 j5 j6 j7, zw_wI_ne (by decide), zw_wI_ne (by decide)]
    · rw [zw_wI_ne (by decide), zw_wI_ne (by decide), zx_d_ne (by decide), zw_wI_ne (by decide), zw_wI_at hp]
    · rw [zw_wI_ne (by decide), zw_wI_ne (by decide), zx_d_ne (by decide), zw_wI_ne (by decide), zw_wI_ne (by decide)]
    · rw [zw_wI_ne (by decide), zw_wI_ne (by decide), zx_d_ne (by decide), zw_wI_ne (by decide), zw_wI_ne (by decide)]
    · rw [zw_wI_ne (by decide), zw_wI_at hp, zx_d_ne (by decide), zw_wI_ne (by decide), zw_wI_ne (by decide)]
    · rw [zw_wI_at hp, zw_wI_ne (by decide), zx_d_ne (by decide), zw_wI_ne (by decide), zw_wI_ne (by decide)]
    · rw [zw_wI_ne (by decide), zw_wI_ne (by decide), zx_d_ne (by decide), zw_wI_eq]
    · rw [zw_wI_ne (by decide), zw_wI_ne (by decide), zx_d6]
    · rw [zw_wI_ne (by decide), zw_wI_ne (by decide), zx_d_ne (by decide), zw_wI_ne (by decide), zw_wI_eq]
    · rw [zw_wI_ne (by decide), zw_wI_eq]; rfl
  have hLpos : 0 < L := by omega
  have hLne : ¬ nI L = 0 := fun q => by have := (nI_eq (a := L) (b := 0) (by omega) (by omega)).mp q; omega
  obtain ⟨r, hr⟩ : ∃ r, r = zt_pp (zt_h (c.1 74) L) 100 0 0 0 := ⟨_, rfl⟩
  have hr41 : r = zt_pp (zt_h (c.1 41) L) 100 0 0 0 := hr.trans (zx_same x4 100 0 0 0).symm
  obtain ⟨f1, f2, x', f3, f4, f5⟩ := zx_first x1 x2 (fun k hk => by obtain ⟨u, u1, u2, u3⟩ := x4 k hk; exact ⟨u, u1, u2⟩) hr41
  have h60 : ∀ p, zt_h (c.1 41) L p ≠ -1 → p < 60 := fun p hp => by
    unfold zt_h at hp
    by_cases q : p < L ∧ p < 60
    · exact q.2
    · rw [if_neg q] at hp; exact absurd rfl hp
  by_cases hok : r.2.2 = true ∧ r.2.1 = L
  · obtain ⟨g1, g2, g3⟩ := f4 hok.1 hok.2
    have hlen : r.1.length ≤ 60 := by
      have := (zj_pp h60 100 0 0 0 (by omega)).2.2
      rw [← hr41] at this
      have := (this hok.1).1
      omega
    obtain ⟨y, t1, t2, t3, t4, t5, t6, t7, t8⟩ := sp_Ptell hi hlen g2 g3
    have y71 : y.1 71 = c.1 71 := (t2 71 (by omega) (by decide) (by decide) (by decide)).trans (f3.1 71 (by decide) (by decide) (by decide) (by decide))
    have y74 : y.1 74 = c.1 74 := (t2 74 (by omega) (by decide) (by decide) (by decide)).trans (f3.1 74 (by decide) (by decide) (by decide) (by decide))
    have z71 : (zw_wI y 40 1 0).1 71 = c.1 71 := (zw_wI_ne (by decide)).trans y71
    have z74 : (zw_wI y 40 1 0).1 74 = c.1 74 := (zw_wI_ne (by decide)).trans y74
    obtain ⟨hL60, c2, m1, m2, m3, m4, m5, m6, m7, m8, m9⟩ := (sp_Mpay (i := i) (c1 := zw_wI y 40 1 0) hi x1 hLpos (by rw [z71]; exact x3) (fun k hk => by obtain ⟨u, u1, u2, u3⟩ := x4 k hk; exact ⟨u, u1, by rw [z74]; exact u3⟩) (r := r) (by rw [z74]; exact hr) f1).1 hok
    have K : ∀ k, k ≠ 71 → k ≠ 81 → k ≠ 82 → k ≠ 77 + i → k ≠ 40 → c2.1 k = y.1 k := fun k k1 k2 k3 k4 k5 => (m2 k k1 k2 k3 k4).trans (zw_wI_ne k5)
    refine ⟨0, zw_wI y 40 1 0, c2, ?_, m1, zr_told (i := i) (Or.inl hi) hR hRl (fun k _ k1 k2 k3 k4 k5 k6 k7 k8 k9 k10 k11 k12 => ?_) (fun j j1 j2 j3 j4 j5 j6 j7 => ?_) (fun p hp => ⟨?_, ?_, ?_, ?_, ?_⟩) ?_ m4 ?_ (fun _ => Or.inr (Or.inr ⟨?_, m8, L, r.1, hLpos, hL60, hlen, m7, ?_, ?_, fun k hk => ?_, Or.inl ?_⟩))⟩
    · have ht : fn_P_tellPay c (nI i) = some (0, y) := by
        unfold fn_P_tellPay
        rw [x2, if_neg hLne, g1, zp_bs]
        dsimp only
        rw [if_neg (fun q => q rfl), t1, zp_bs]
      unfold fn_P_pay
      rw [if_pos hc, ht, zp_bs]
      rfl
    · rw [K k k8 k9 k10 k12 k1, t2 k k11 k6 k5 k7]
      exact f3.1 k k1 k2 k3 k4
    · rw [m3 j j1 j2 j3 j4 j5 j6 j7, z71]
    · rw [K 46 (by decide) (by decide) (by decide) (by omega) (by decide), (t4 p hp).1, f3.1 46 (by decide) (by decide) (by decide) (by decide)]
    · rw [K 52 (by decide) (by decide) (by decide) (by omega) (by decide), (t4 p hp).2.1, f3.1 52 (by decide) (by decide) (by decide) (by decide)]
    · rw [K 58 (by decide) (by decide) (by decide) (by omega) (by decide), (t4 p hp).2.2, f3.1 58 (by decide) (by decide) (by decide) (by decide)]
    · rw [(m6 p hp).1, zw_wI_ne (by decide), t2 81 (by omega) (by decide) (by decide) (by decide), f3.1 81 (by decide) (by decide) (by decide) (by decide)]
    · rw [(m6 p hp).2, zw_wI_ne (by decide), t2 82 (by omega) (by decide) (by decide) (by decide), f3.1 82 (by decide) (by decide) (by decide) (by decide)]
    · rw [m2 40 (by decide) (by decide) (by decide) (by omega), zw_wI_eq]
    · exact (m5.trans t3).trans f3.2.2
    · rw [K 46 (by decide) (by decide) (by decide) (by omega) (by decide), t5]
    · have eh : zt_h (c2.1 (77 + i)) L = zt_h (c.1 74) L := by
        funext p
        unfold zt_h
        by_cases q : p < L ∧ p < 60
        · rw [if_pos q, if_pos q, m9 p q.1, z74]
        · rw [if_neg q, if_neg q]
      unfold zt_code
      rw [eh, ← hr, if_pos hok]
    · rw [K 52 (by decide) (by decide) (by decide) (by omega) (by decide), t6]
    · rw [K (48 + i) (by omega) (by omega) (by omega) (by omega) (by omega), t8 k hk]
    · rw [K 58 (by decide) (by decide) (by decide) (by omega) (by decide), t7]
  · have g1 := f5 hok
    have z71 : (zw_wI x' 40 1 0).1 71 = c.1 71 := (zw_wI_ne (by decide)).trans (f3.1 71 (by decide) (by decide) (by decide) (by decide))
    have z74 : (zw_wI x' 40 1 0).1 74 = c.1 74 := (zw_wI_ne (by decide)).trans (f3.1 74 (by decide) (by decide) (by decide) (by decide))
    obtain ⟨c2, m1, m2, m3, m4, m5⟩ := (sp_Mpay (i := i) (c1 := zw_wI x' 40 1 0) hi x1 hLpos (by rw [z71]; exact x3) (fun k hk => by obtain ⟨u, u1, u2, u3⟩ := x4 k hk; exact ⟨u, u1, by rw [z74]; exact u3⟩) (r := r) (by rw [z74]; exact hr) f1).2 hok
    have K : ∀ k, k ≠ 71 ∧ k ≠ 40 ∧ k ≠ 42 ∧ k ≠ 43 ∧ k ≠ 44 → c2.1 k = c.1 k := fun k q => ((m2 k q.1).trans (zw_wI_ne q.2.1)).trans (f3.1 k q.2.1 q.2.2.1 q.2.2.2.1 q.2.2.2.2)
    refine ⟨-1 - nI r.2.1, zw_wI x' 40 1 0, c2, ?_, m1, zr_told (i := 99) (Or.inr rfl) hR hRl (fun k _ k1 k2 k3 k4 _ _ _ k8 _ _ _ _ => K k ⟨k8, k1, k2, k3, k4⟩) (fun j j1 j2 j3 j4 j5 j6 j7 => ?_) (fun p _ => ⟨by rw [K 46 (by decide)], by rw [K 52 (by decide)], by rw [K 58 (by decide)], by rw [K 81 (by decide)], by rw [K 82 (by decide)]⟩) ?_ m4 ?_ (fun q => absurd q (by decide))⟩
    · have ht : fn_P_tellPay c (nI i) = some (-1 - nI r.2.1, x') := by
        unfold fn_P_tellPay
        rw [x2, if_neg hLne, g1, zp_bs]
        dsimp only
        rw [if_pos (nI_nm1 (by omega))]
      unfold fn_P_pay
      rw [if_pos hc, ht, zp_bs]
      rfl
    · rw [m3 j j1 j2 j3 j4 j5 j6 j7, z71]
    · rw [m2 40 (by decide), zw_wI_eq]
    · exact m5.trans f3.2.2
