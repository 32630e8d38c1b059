/-! a pay on both sides -/
theorem zp_gr {B n p : Nat} (hp : p < n) (hn : n < 2 ^ 31) : zw_gr B n 1 (nI p) = some (B + p) := by
  unfold zw_gr
  rw [if_neg (nI_in hp hn), nI_clamp (by omega), Nat.one_mul]
theorem zt_th_congr {E T s e : Nat} {tn tn' : Nat → Int32} (h : zt_ET E T) (hs : s < zt_N E T) (he : e < E) (ht : ∀ i, i < 13 → tn i = tn' i) : zt_th E T (zt_p E T) tn s e = zt_th E T (zt_p E T) tn' s e := by
  have h12 := h.2.2.2
  have hE4 := h.2.1
  have hb : ∀ e, e < 4 → zt_p E T s e < 13 := fun e he => by have := zt_le h hs he; omega
  have hsum : ∀ n, n ≤ 4 → zs_sumI (fun e => tn (zt_p E T s e)) n = zs_sumI (fun e => tn' (zt_p E T s e)) n := by
    intro n
    induction n with
    | zero => intro _; rfl
    | succ n ih =>
      intro hn
      show zs_sumI (fun e => tn (zt_p E T s e)) n + tn (zt_p E T s n) = zs_sumI (fun e => tn' (zt_p E T s e)) n + tn' (zt_p E T s n)
      rw [ih (by omega), ht _ (hb n (by omega))]
  funext i
  match i with
  | 0 => rfl
  | 1 => rfl
  | 2 => rfl
  | 3 => rfl
  | 4 => exact ht _ (hb e (by omega))
  | 5 => exact hsum E (by omega)
  | 6 => rfl
  | 7 => rfl
  | i + 8 => rfl
/-- the Model's letters -/
theorem sp_letter {E T s e : Nat} {c : zw_Ct} (hET : zt_ET E T) (hM : zr_M E T (zt_N E T) (zt_p E T) c) (hs : s < zt_N E T) (he : e < E) (hs19 : c.1 71 19 = nI s) (he20 : c.1 71 20 = nI e) {g : Int32} {i : Nat} (hi : i ≤ 8) (hg : fn_ix g = nI i) : fn_M_letter c (g.toUInt32 % 65536).toInt32 = some (zt_th E T (zt_p E T) (c.1 73) s e i) := by
  have hT := zt_T hET
  have hE2 := hT.1
  have hE4 := hT.2.1
  have h12 := hT.2.2.2.1
  have hN := hT.2.2.2.2.2.1
  have hp : ∀ e, e < 4 → zt_p E T s e ≤ T := fun e he => zt_le hET hs he
  unfold fn_M_letter
  obtain ⟨x, h1, h2⟩ := zp_up (f := fn_M_letter_l1 c) (I := fun i t => t = (nI (zs_sumN (fun e => zt_p E T s e * zt_p E T s e) i), nI (zs_max (zt_p E T s) i), zs_sumI (fun e => c.1 73 (zt_p E T s e)) i, nI i)) (P := fun x => x = (nI (zs_sumN (fun e => zt_p E T s e * zt_p E T s e) E), nI (zs_max (zt_p E T s) E), zs_sumI (fun e => c.1 73 (zt_p E T s e)) E)) E (by unfold zw_F; omega) (fun i t hi h => by
      subst h
      refine Or.inl ⟨_, ?_, rfl⟩
      have b1 := hp i (by omega)
      have bm : ∀ n, n ≤ 4 → zs_max (zt_p E T s) n ≤ T := by
        intro n
        induction n with
        | zero => intro _; exact Nat.zero_le _
        | succ n ih => intro hn; exact Nat.max_le.mpr ⟨ih (by omega), hp n (by omega)⟩
      have bm1 := bm i (by omega)
      unfold fn_M_letter_l1
      dsimp only
      rw [hM.1, if_pos (nI_lt hi (by omega)), hs19, nI_at', zp_aI (by omega) (by omega), zp_bs, hM.2.2.2 s hs i (by omega), zp_bs, zp_bs, zp_aI (by omega) (by omega), zp_bs, zp_bs, nI_mul, nI_add, nI_1]
      have em : (if nI (zs_max (zt_p E T s) i) < nI (zt_p E T s i) then nI (zt_p E T s i) else nI (zs_max (zt_p E T s) i)) = nI (zs_max (zt_p E T s) (i + 1)) := by
        show _ = nI (max (zs_max (zt_p E T s) i) (zt_p E T s i))
        by_cases hc : zs_max (zt_p E T s) i < zt_p E T s i
        · rw [if_pos (nI_lt hc (by omega)), Nat.max_eq_right (by omega)]
        · rw [if_neg (nI_nlt (by omega) (by omega)), Nat.max_eq_left (by omega)]
      rw [em]
      rfl) (fun t h => by
      subst h
      refine ⟨_, ?_, rfl⟩
      unfold fn_M_letter_l1
      dsimp only
      rw [hM.1, if_neg (nI_nlt (Nat.le_refl _) (by omega))]) 0 (0, 0, 0, 0) (Nat.zero_le _) rfl
  rw [h1, h2, zp_bs]
  dsimp only
  have bmx : zs_max (zt_p E T s) E ≤ T := by rw [zs_max_top (zt_p E T s) (by omega)]; exact hp _ (by have := zs_top_lt (fun e => (zt_p E T s e : Int)) (n := E) (by omega); omega)
  have be := hp e (by omega)
  rw [hs19, he20, nI_at', zp_aI (by omega) (by omega), zp_bs, hM.2.2.2 s hs e (by omega)]
  have key : (g = 113 ∧ i = 0) ∨ (g = 115 ∧ i = 1) ∨ (g = 109 ∧ i = 2) ∨ (g = 120 ∧ i = 3) ∨ (g = 116 ∧ i = 4) ∨ (g = 117 ∧ i = 5) ∨ (g = 101 ∧ i = 6) ∨ (g = 110 ∧ i = 7) ∨ (g = 100 ∧ i = 8) := by
    have inj : ∀ (q : Int32) (j : Nat), j ≤ 8 → fn_ix q = nI j → g = q → i = j := fun q j hj h1 h2 => by
      rw [h2, h1] at hg
      exact ((nI_eq (by omega) (by omega)).mp hg).symm
    by_cases h0 : g = 113
    · exact Or.inl ⟨h0, inj 113 0 (by omega) (by decide) h0⟩
    by_cases h1 : g = 115
    · exact Or.inr (Or.inl ⟨h1, inj 115 1 (by omega) (by decide) h1⟩)
    by_cases h2 : g = 109
    · exact Or.inr (Or.inr (Or.inl ⟨h2, inj 109 2 (by omega) (by decide) h2⟩))
    by_cases h3 : g = 120
    · exact Or.inr (Or.inr (Or.inr (Or.inl ⟨h3, inj 120 3 (by omega) (by decide) h3⟩)))
    by_cases h4 : g = 116
    · exact Or.inr (Or.inr (Or.inr (Or.inr (Or.inl ⟨h4, inj 116 4 (by omega) (by decide) h4⟩))))
    by_cases h5 : g = 117
    · exact Or.inr (Or.inr (Or.inr (Or.inr (Or.inr (Or.inl ⟨h5, inj 117 5 (by omega) (by decide) h5⟩)))))
    by_cases h6 : g = 101
    · exact Or.inr (Or.inr (Or.inr (Or.inr (Or.inr (Or.inr (Or.inl ⟨h6, inj 101 6 (by omega) (by decide) h6⟩))))))
    by_cases h7 : g = 110
    · exact Or.inr (Or.inr (Or.inr (Or.inr (Or.inr (Or.inr (Or.inr (Or.inl ⟨h7, inj 110 7 (by omega) (by decide) h7⟩)))))))
    by_cases h8 : g = 100
    · exact Or.inr (Or.inr (Or.inr (Or.inr (Or.inr (Or.inr (Or.inr (Or.inr ⟨h8, inj 100 8 (by omega) (by decide) h8⟩)))))))
    exfalso
    unfold fn_ix at hg
    rw [if_neg h0, if_neg h1, if_neg h2, if_neg h3, if_neg h4, if_neg h5, if_neg h6, if_neg h7, if_neg h8] at hg
    exact nI_nm1 (n := i) (by omega) hg.symm
  rcases key with ⟨rfl, rfl⟩ | ⟨rfl, rfl⟩ | ⟨rfl, rfl⟩ | ⟨rfl, rfl⟩ | ⟨rfl, rfl⟩ | ⟨rfl, rfl⟩ | ⟨rfl, rfl⟩ | ⟨rfl, rfl⟩ | ⟨rfl, rfl⟩
  · rw [if_pos (by decide)]; rfl
  · rw [if_neg (by decide), if_pos (by decide)]; rfl
  · rw [if_neg (by decide), if_neg (by decide), if_pos (by decide)]; rfl
  · rw [if_neg (by decide), if_neg (by decide), if_neg (by decide), if_pos (by decide)]
    show some (if nI (zt_p E T s e) = nI (zs_max (zt_p E T s) E) then (1 : Int32) else 0) = some (if zt_p E T s e = zs_max (zt_p E T s) E then 1 else 0)
    by_cases hq : zt_p E T s e = zs_max (zt_p E T s) E
    · rw [if_pos hq, if_pos (by rw [hq])]
    · rw [if_neg hq, if_neg (fun q => hq ((nI_eq (by omega) (by omega)).mp q))]
  · rw [if_neg (by decide), if_neg (by decide), if_neg (by decide), if_neg (by decide), if_pos (by decide), zp_aI (by omega) (by omega), zp_bs]; rfl
  · rw [if_neg (by decide), if_neg (by decide), if_neg (by decide), if_neg (by decide), if_neg (by decide), if_pos (by decide)]; rfl
  · rw [if_neg (by decide), if_neg (by decide), if_neg (by decide), if_neg (by decide), if_neg (by decide), if_neg (by decide), if_pos (by decide)]; rfl
  · rw [if_neg (by decide), if_neg (by decide), if_neg (by decide), if_neg (by decide), if_neg (by decide), if_neg (by decide), if_neg (by decide), if_pos (by decide), hM.1]; rfl
  · rw [if_neg (by decide), if_neg (by decide), if_neg (by decide), if_neg (by decide), if_neg (by decide), if_neg (by decide), if_neg (by decide), if_neg (by decide), hM.2.1]; rfl
theorem zt_code_pp {tx : Nat → Int32} {n : Nat} {X : List Int32} (h : zt_code tx n = some X) : (zt_pp (zt_h tx n) 100 0 0 0).2.2 = true ∧ (zt_pp (zt_h tx n) 100 0 0 0).2.1 = n ∧ (zt_pp (zt_h tx n) 100 0 0 0).1 = X := by
  unfold zt_code at h
  by_cases hc : (zt_pp (zt_h tx n) 100 0 0 0).2.2 = true ∧ (zt_pp (zt_h tx n) 100 0 0 0).2.1 = n
  · rw [if_pos hc] at h
    exact ⟨hc.1, hc.2, Option.some.inj h⟩
  · rw [if_neg hc] at h; cases h
theorem zt_code_h {tx : Nat → Int32} {n : Nat} {X : List Int32} (h : zt_code tx n = some X) : zc_h X 0 = some 1 := by
  obtain ⟨h1, h2, h3⟩ := zt_code_pp h
  have hj := zj_pp (hf := zt_h tx n) (fun p hp => zg_h_lt hp) 100 0 0 0 (by omega)
  rw [← h3]
  exact (hj.2.2 h1).2 0
/-- the Model's answer of a told pay -/
theorem sp_told {E T n p s e : Nat} {X : List Int32} {d : zw_Ct} (hET : zt_ET E T) (hM : zr_M E T (zt_N E T) (zt_p E T) d) (hp : p < 4) (hs : s < zt_N E T) (he : e < E) (h82 : d.1 82 p = 0) (h81 : d.1 81 p = nI n) (hn60 : n ≤ 60) (hX : zt_code (d.1 (77 + p)) n = some X) : ∃ d', fn_M_payFor d (nI p) (nI s) (nI e) = some (ze_val (zt_th E T (zt_p E T) (d.1 73) s e) X, d') ∧ (∀ k, k ≠ 71 → d'.1 k = d.1 k) ∧ (∀ j, j ∉ zr_FS → d'.1 71 j = d.1 71 j) ∧ d'.2 = d.2 ∧ d'.1 71 9 = d.1 71 9 ∧ d'.1 71 8 = d.1 71 8 := by
  unfold fn_M_payFor
  rw [zp_aI hp (by omega), zp_bs, h82, if_neg (by decide), zp_gr hp (by omega), zp_bs, zp_bs]
  obtain ⟨c0, hc0⟩ : ∃ c0, c0 = zw_wI (zw_wI (zw_wI (zw_wI (zw_wI (zw_wI d 71 15 (nI (77 + p))) 71 16 (nI n)) 71 17 0) 71 18 (-1)) 71 19 (nI s)) 71 20 (nI e) := ⟨_, rfl⟩
  have n71 : ∀ k, k ≠ 71 → c0.1 k = d.1 k := fun k hk => by rw [hc0, zw_wI_ne hk, zw_wI_ne hk, zw_wI_ne hk, zw_wI_ne hk, zw_wI_ne hk, zw_wI_ne hk]
  have f71 : ∀ j, j ∉ zr_FS → c0.1 71 j = d.1 71 j := fun j hj => by
    rw [hc0, zw_wI_at (fun q => hj (by rw [q]; decide)), zw_wI_at (fun q => hj (by rw [q]; decide)), zw_wI_at (fun q => hj (by rw [q]; decide)), zw_wI_at (fun q => hj (by rw [q]; decide)), zw_wI_at (fun q => hj (by rw [q]; decide)), zw_wI_at (fun q => hj (by rw [q]; decide))]
  have r15 : c0.1 71 15 = nI (77 + p) := by rw [hc0, zw_wI_at (by decide), zw_wI_at (by decide), zw_wI_at (by decide), zw_wI_at (by decide), zw_wI_at (by decide), zw_wI_eq]
  have r16 : c0.1 71 16 = nI n := by rw [hc0, zw_wI_at (by decide), zw_wI_at (by decide), zw_wI_at (by decide), zw_wI_at (by decide), zw_wI_eq]
  have r17 : c0.1 71 17 = nI 0 := by rw [hc0, zw_wI_at (by decide), zw_wI_at (by decide), zw_wI_at (by decide), zw_wI_eq]; rfl
  have r18 : c0.1 71 18 = -1 := by rw [hc0, zw_wI_at (by decide), zw_wI_at (by decide), zw_wI_eq]
  have r19 : c0.1 71 19 = nI s := by rw [hc0, zw_wI_at (by decide), zw_wI_eq]
  have r20 : c0.1 71 20 = nI e := by rw [hc0, zw_wI_eq]
  have hM0 : ∀ c2, zg_G c0 c2 → zr_M E T (zt_N E T) (zt_p E T) c2 := fun c2 hG => by
    unfold zr_M
    rw [hG.2.1 0 (by decide) (by decide), hG.2.1 1 (by decide) (by decide), hG.2.1 2 (by decide) (by decide), hG.1 72 (by decide), f71 0 (by decide), f71 1 (by decide), f71 2 (by decide), n71 72 (by decide)]
    exact hM
  have hT : zg_T (77 + p) n c0 := by
    refine ⟨by omega, by omega, ⟨60, ?_, hn60, by omega⟩, r15, r16⟩
    rcases (show p = 0 ∨ p = 1 ∨ p = 2 ∨ p = 3 by omega) with rfl | rfl | rfl | rfl <;> rfl
  have hN455 : zt_N E T ≤ 455 := (zt_ok hET).2.1
  have hH : zg_H c0 (zt_th E T (zt_p E T) (d.1 73) s e) := by
    intro c2 hG g hg
    obtain ⟨i, hi, eg⟩ := hg
    have a19 : c2.1 71 19 = nI s := (hG.2.1 19 (by decide) (by decide)).trans r19
    have a20 : c2.1 71 20 = nI e := (hG.2.1 20 (by decide) (by decide)).trans r20
    rw [a19, if_neg (nI_nm1 (by omega)), sp_letter hET (hM0 c2 hG) hs he a19 a20 hi eg, zp_bs, eg, nI_clamp (by omega), hG.1 73 (by decide), n71 73 (by decide)]
  obtain ⟨v, c', z1, z2, z3⟩ := (zg_all hT hH 100).1 0 0 c0 (by omega) (by omega) ⟨⟨fun _ _ => rfl, fun _ _ _ => rfl, rfl⟩, r17, r18, by omega⟩
  have etx : c0.1 (77 + p) = d.1 (77 + p) := n71 _ (by omega)
  rw [etx] at z2
  obtain ⟨q1, q2, q3⟩ := zt_code_pp hX
  have hv : ze_val (zt_th E T (zt_p E T) (d.1 73) s e) X = v := by
    unfold ze_val
    have := z2.2.2.2.2 q1 []
    rw [q3] at this
    rw [this]
    rfl
  refine ⟨c', ?_, fun k hk => (z2.1.1 k hk).trans (n71 k hk), fun j hj => (z2.1.2.1 j (fun q => hj (by rw [q]; decide)) (fun q => hj (by rw [q]; decide))).trans (f71 j hj), by rw [z2.1.2.2, hc0]; rfl, (z2.1.2.1 9 (by decide) (by decide)).trans (by rw [hc0, zw_wI_at (by decide), zw_wI_at (by decide), zw_wI_at (by decide), zw_wI_at (by decide), zw_wI_at (by decide), zw_wI_at (by decide)]), (z2.1.2.1 8 (by decide) (by decide)).trans (by rw [hc0, zw_wI_at (by decide), zw_wI_at (by decide), zw_wI_at (by decide), zw_wI_at (by decide), zw_wI_at (by decide), zw_wI_at (by decide)])⟩
  have e81 : zw_aI 4 (zw_wI d 71 15 (nI (77 + p))) 81 (nI p) = some (nI n) := by rw [zp_aI hp (by omega), zw_wI_ne (by decide), h81]
  have z1' : fn_M_rec 100 0 c0 0 = some (v, c') := z1
  rw [e81, zp_bs, zp_bs, zp_bs, zp_bs, zp_bs, zp_bs, ← hc0, z1', zp_bs, hv]
