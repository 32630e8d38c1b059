/-! sign: four bytes of a number -/
theorem sg_bits (v : Int32) (k : Nat) (hk : k = 0 ∨ k = 8 ∨ k = 16 ∨ k = 24) : ((v.toUInt32 >>> (UInt32.ofNat k)).toInt32 &&& 255).toInt8 = (v >>> (Int32.ofNat k)).toInt8 := by
  apply Int8.toBitVec_inj.mp
  simp only [Int32.toBitVec_toInt8, Int32.toBitVec_and, UInt32.toBitVec_toInt32, UInt32.toBitVec_shiftRight, Int32.toBitVec_toUInt32, Int32.toBitVec_shiftRight]
  apply BitVec.eq_of_getLsbD_eq
  intro i hi
  simp only [BitVec.getLsbD_signExtend, BitVec.getLsbD_and]
  have e1 : v.toBitVec >>> ((UInt32.ofNat k).toBitVec % 32) = v.toBitVec >>> k := by rcases hk with rfl | rfl | rfl | rfl <;> rfl
  have e2 : v.toBitVec.sshiftRight' ((Int32.ofNat k).toBitVec.smod 32) = v.toBitVec.sshiftRight k := by rcases hk with rfl | rfl | rfl | rfl <;> rfl
  have e3 : (Int32.toBitVec 255).getLsbD i = true := by
    have : ∀ j, j < 8 → (Int32.toBitVec 255).getLsbD j = true := by decide
    exact this i hi
  rw [e1, e2, e3, if_pos (by omega), if_pos (by omega), BitVec.getLsbD_ushiftRight, BitVec.getLsbD_sshiftRight, Bool.and_true, if_pos (by omega)]
  simp [show ¬ 32 ≤ i by omega]
def sg_u (v : Int32) (i : Nat) : Nat := ((v.toUInt32 >>> (UInt32.ofNat (24 - 8 * i))).toInt32 &&& 255).toBitVec.toNat
theorem sg_u256 (v : Int32) (i : Nat) : sg_u v i < 256 := by
  unfold sg_u
  rw [Int32.toBitVec_and, BitVec.toNat_and]
  have h : (Int32.toBitVec 255).toNat = 255 := by decide
  rw [h]
  exact Nat.lt_of_le_of_lt Nat.and_le_right (by omega)
theorem sg_nI (x : Int32) : nI x.toBitVec.toNat = x := by
  apply Int32.toBitVec_inj.mp
  show BitVec.ofNat 32 x.toBitVec.toNat = x.toBitVec
  exact BitVec.ofNat_toNat 32 x.toBitVec |>.trans (BitVec.setWidth_eq _)
theorem sg_cls (v : Int32) {i : Nat} (hi : i < 4) : ((v.toUInt32 >>> ((24 - (8 * nI i)).toUInt32 &&& Int32.toUInt32 31)).toInt32 &&& 255) = nI (sg_u v i) := by
  unfold sg_u
  rw [sg_nI]
  rcases (show i = 0 ∨ i = 1 ∨ i = 2 ∨ i = 3 by omega) with rfl | rfl | rfl | rfl <;> rfl
theorem sg_mod (v : Int32) {i : Nat} (hi : i < 4) : vp_nar .byte (v >>> ((8 * nI (3 - i)) &&& 31)).toInt8.toInt32 = (nI (sg_u v i)).toInt8.toInt32 := by
  have h : (v >>> ((8 * nI (3 - i)) &&& 31)) = v >>> (Int32.ofNat (24 - 8 * i)) := by
    rcases (show i = 0 ∨ i = 1 ∨ i = 2 ∨ i = 3 by omega) with rfl | rfl | rfl | rfl <;> rfl
  unfold sg_u
  rw [h, sg_nI, sg_bits v (24 - 8 * i) (by omega)]
  show ((v >>> (Int32.ofNat (24 - 8 * i))).toInt8.toInt32).toInt8.toInt32 = _
  rw [Int8.toInt8_toInt32]
theorem sp_four (v : Int32) {L : Nat} {c : zw_Ct} (hL : L + 4 ≤ 80) (h : c.1 40 1 = nI L) : ∃ c2, zw_whl (fn_Text_addFour_l1 v) zw_F (0, c) = some c2 ∧ c2.1 40 1 = nI (L + 4) ∧ (∀ k, k ≠ 40 → k ≠ 41 → c2.1 k = c.1 k) ∧ (∀ j, j < L → c2.1 41 j = c.1 41 j) ∧ (∀ i, i < 4 → c2.1 41 (L + i) = nI (sg_u v i)) ∧ c2.2 = c.2 := by
  obtain ⟨x, h1, h2⟩ := zp_up (f := fn_Text_addFour_l1 v) (I := fun i t => ∃ c', t = (nI i, c') ∧ c'.1 40 1 = nI (L + i) ∧ (∀ k, k ≠ 40 → k ≠ 41 → c'.1 k = c.1 k) ∧ (∀ j, j < L → c'.1 41 j = c.1 41 j) ∧ (∀ q, q < i → c'.1 41 (L + q) = nI (sg_u v q)) ∧ c'.2 = c.2) (P := fun c2 => c2.1 40 1 = nI (L + 4) ∧ (∀ k, k ≠ 40 → k ≠ 41 → c2.1 k = c.1 k) ∧ (∀ j, j < L → c2.1 41 j = c.1 41 j) ∧ (∀ i, i < 4 → c2.1 41 (L + i) = nI (sg_u v i)) ∧ c2.2 = c.2) 4 (by unfold zw_F; omega) (fun i t hi h => by
      obtain ⟨c', rfl, e1, e2, e3, e4, e5⟩ := h
      refine Or.inl ⟨(nI (i + 1), zw_wI (zw_wI c' 41 (L + i) (nI (sg_u v i))) 40 1 (nI (L + i + 1))), ?_, _, rfl, by rw [zw_wI_eq]; rfl, fun k k1 k2 => by rw [zw_wI_ne k1, zw_wI_ne k2]; exact e2 k k1 k2, fun j hj => by rw [zw_wI_ne (by decide), zw_wI_at (by omega)]; exact e3 j hj, fun q hq => ?_, e5⟩
      · unfold fn_Text_addFour_l1
        dsimp only
        have e40 : (zw_wI c' 41 (L + i) (nI (sg_u v i))).1 40 1 = nI (L + i) := by rw [zw_wI_ne (by decide)]; exact e1
        rw [if_pos (show nI i < (4 : Int32) from nI_lt (b := 4) hi (by omega)), sg_cls v hi, e1, zp_uI (by omega) (by omega), zp_bs, e40, zp_bs, nI_1, nI_1]
      · rw [zw_wI_ne (by decide)]
        by_cases hqi : q = i
        · rw [hqi, zw_wI_eq]
        · rw [zw_wI_at (by omega)]; exact e4 q (by omega)) (fun t h => by
      obtain ⟨c', rfl, e1, e2, e3, e4, e5⟩ := h
      refine ⟨c', ?_, e1, e2, e3, e4, e5⟩
      unfold fn_Text_addFour_l1
      dsimp only
      rw [if_neg (show ¬ nI 4 < (4 : Int32) by decide)]) 0 (0, c) (Nat.zero_le _) ⟨c, rfl, h, fun _ _ _ => rfl, fun _ _ => rfl, fun q hq => by omega, rfl⟩
  exact ⟨x, h1, h2⟩
theorem sp_Mfour (v : Int32) {L : Nat} {c : zw_Ct} (hL : L + 4 ≤ 80) (h : c.1 71 6 = nI L) : ∃ c2, zw_whl (fn_M_sign_l1 v) zw_F (3, c) = some c2 ∧ c2.1 71 6 = nI (L + 4) ∧ (∀ k, k ≠ 71 → k ≠ 74 → c2.1 k = c.1 k) ∧ (∀ j, j ≠ 6 → c2.1 71 j = c.1 71 j) ∧ (∀ j, j < L → c2.1 74 j = c.1 74 j) ∧ (∀ i, i < 4 → c2.1 74 (L + i) = (nI (sg_u v i)).toInt8.toInt32) ∧ c2.2 = c.2 := by
  obtain ⟨x, h1, h2⟩ := zp_up (f := fn_M_sign_l1 v) (I := fun i t => ∃ c', t = (if i = 4 then -1 else nI (3 - i), c') ∧ c'.1 71 6 = nI (L + i) ∧ (∀ k, k ≠ 71 → k ≠ 74 → c'.1 k = c.1 k) ∧ (∀ j, j ≠ 6 → c'.1 71 j = c.1 71 j) ∧ (∀ j, j < L → c'.1 74 j = c.1 74 j) ∧ (∀ q, q < i → c'.1 74 (L + q) = (nI (sg_u v q)).toInt8.toInt32) ∧ c'.2 = c.2) (P := fun c2 => c2.1 71 6 = nI (L + 4) ∧ (∀ k, k ≠ 71 → k ≠ 74 → c2.1 k = c.1 k) ∧ (∀ j, j ≠ 6 → c2.1 71 j = c.1 71 j) ∧ (∀ j, j < L → c2.1 74 j = c.1 74 j) ∧ (∀ i, i < 4 → c2.1 74 (L + i) = (nI (sg_u v i)).toInt8.toInt32) ∧ c2.2 = c.2) 4 (by unfold zw_F; omega) (fun i t hi h => by
      obtain ⟨c', rfl, e1, e2, e6, e3, e4, e5⟩ := h
      refine Or.inl ⟨(if i + 1 = 4 then -1 else nI (3 - (i + 1)), zw_wI (zw_wI c' 71 6 (nI (L + i + 1))) 74 (L + i) (nI (sg_u v i)).toInt8.toInt32), ?_, _, rfl, by rw [zw_wI_ne (by decide), zw_wI_eq]; rfl, fun k k1 k2 => by rw [zw_wI_ne k2, zw_wI_ne k1]; exact e2 k k1 k2, fun j hj => by rw [zw_wI_ne (by decide), zw_wI_at hj]; exact e6 j hj, fun j hj => by rw [zw_wI_at (by omega), zw_wI_ne (by decide)]; exact e3 j hj, fun q hq => ?_, e5⟩
      · have k0 : (0 : Int32) ≤ nI (3 - i) := by rcases (show i = 0 ∨ i = 1 ∨ i = 2 ∨ i = 3 by omega) with rfl | rfl | rfl | rfl <;> decide
        have kn : nI (3 - i) + (-1) = if i + 1 = 4 then -1 else nI (3 - (i + 1)) := by rcases (show i = 0 ∨ i = 1 ∨ i = 2 ∨ i = 3 by omega) with rfl | rfl | rfl | rfl <;> rfl
        rw [if_neg (show ¬ i = 4 by omega)]
        unfold fn_M_sign_l1
        dsimp only
        rw [if_pos k0, zp_bs, sg_mod v hi, e1, zp_uI (by omega) (by omega), zp_bs, nI_1, kn]
      · by_cases hqi : q = i
        · rw [hqi, zw_wI_eq]
        · rw [zw_wI_at (by omega), zw_wI_ne (by decide)]; exact e4 q (by omega)) (fun t h => by
      obtain ⟨c', rfl, e1, e2, e6, e3, e4, e5⟩ := h
      refine ⟨c', ?_, e1, e2, e6, e3, e4, e5⟩
      rw [if_pos rfl]
      unfold fn_M_sign_l1
      dsimp only
      rw [if_neg (show ¬ (0 : Int32) ≤ -1 by decide)]) 0 (3, c) (Nat.zero_le _) ⟨c, rfl, h, fun _ _ _ => rfl, fun _ _ => rfl, fun _ _ => rfl, fun q hq => by omega, rfl⟩
  exact ⟨x, h1, h2⟩
theorem zo_sign : zq_sign zr_Rel := by
  intro n c hn hRel v
  have hRel0 := hRel
  obtain ⟨hR, E, T, hRl⟩ := hRel
  obtain ⟨L, x1, x2, x3, x4⟩ := hRl.2.1
  unfold fn_P_sign fn_Text_addFour fn_M_sign
  have e4 : nI L + 4 = nI (L + 4) := by rw [show (4 : Int32) = nI 4 by rfl, nI_add]
  by_cases hc : L + 4 ≤ 80
  · have hk : ¬ (80 : Int32) < nI (L + 4) := nI_nlt (a := 80) hc (by omega)
    obtain ⟨c2, a1, a2, a3, a4, a5, a6⟩ := sp_four v hc x2
    have m6 : (zw_wI c2 71 9 0).1 71 6 = nI L := by rw [zw_wI_at (by decide), a3 71 (by decide) (by decide), x3]
    obtain ⟨d, b1, b2, b3, b4, b5, b6, b7⟩ := sp_Mfour v hc m6
    refine ⟨nI (L + 4), c2, d, ?_, ?_, hR.fr ?_ ?_ ?_ ?_, E, T, (zr_Rl.text (c := c) (fun k k1 k2 k3 k4 => ?_) (fun j j1 j2 => ?_) ⟨L + 4, by omega, ?_, b2, fun k hk => ?_⟩ hRl).up (Nat.le_succ n)⟩
    · rw [x2, e4, if_neg hk, a1, zp_bs, a2, zp_bs]
    · rw [zp_bs, m6, e4, if_neg hk, b1, zp_bs, b2]
    · rw [b3 61 (by decide) (by decide), zw_wI_ne (by decide), a3 61 (by decide) (by decide)]
    · rw [b4 8 (by decide), zw_wI_at (by decide), a3 71 (by decide) (by decide)]
    · rw [b7, ← a6]; rfl
    · rw [b7, ← a6]; rfl
    · rw [b3 k k4 k3, zw_wI_ne k4, a3 k k1 k2]
    · rw [b4 j j1, zw_wI_at j2, a3 71 (by decide) (by decide)]
    · rw [b3 40 (by decide) (by decide), zw_wI_ne (by decide), a2]
    · by_cases h : k < L
      · obtain ⟨u, u1, u2, u3⟩ := x4 k h
        exact ⟨u, u1, by rw [b3 41 (by decide) (by decide), zw_wI_ne (by decide), a4 k h, u2], by rw [b5 k h, zw_wI_ne (by decide), a3 74 (by decide) (by decide), u3]⟩
      · obtain ⟨i, hi, rfl⟩ : ∃ i, i < 4 ∧ k = L + i := ⟨k - L, by omega, by omega⟩
        exact ⟨sg_u v i, sg_u256 v i, by rw [b3 41 (by decide) (by decide), zw_wI_ne (by decide), a5 i hi], b6 i hi⟩
  · have hk : (80 : Int32) < nI (L + 4) := nI_lt (a := 80) (by omega) (by omega)
    refine ⟨-1, c, zw_wI c 71 9 0, ?_, ?_, zr_thr hRel0⟩
    · rw [x2, e4, if_pos hk, zp_bs]
    · rw [zp_bs, zw_wI_at (by decide), x3, e4, if_pos hk]
