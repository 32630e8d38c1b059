/-! what a pay is: the class's valuesOf, the Model's payFor and layPay -/
theorem zp_eI {S : zw_Sh} {t a n k : Nat} {c : zw_Ct} {v : Int32} (h : zw_len S t a = some n) (hk : k < n) (hn : n < 2 ^ 31) : zw_eI S t c a (nI k) v = some (zw_wI c a k v) := by
  unfold zw_eI; rw [h]; exact zp_uI hk hn
theorem sp_partOf {E T N s e : Nat} {pt : Nat → Nat → Nat} {c : zw_Ct} (hT : zr_T E T N pt) (hS : zr_S E T N pt c) (hs : s < N) (he : e < 4) : fn_Sayings_partOf c (nI s) (nI e) = some (nI (pt s e)) := by
  have hN := hT.2.2.2.2.2.1
  unfold fn_Sayings_partOf
  rw [nI_at, zp_aI (by omega) (by omega), zp_bs, hS.2.2.2 s hs e he]
theorem zs_max_top (f : Nat → Nat) : ∀ {n : Nat}, 0 < n → zs_max f n = f (zs_top (fun e => (f e : Int)) n)
  | n + 1, _ => by
    show max (zs_max f n) (f n) = f (if (f (zs_top (fun e => (f e : Int)) n) : Int) < (f n : Int) then n else zs_top (fun e => (f e : Int)) n)
    cases n with
    | zero => simp [zs_max, zs_top]
    | succ n =>
      rw [zs_max_top f (n := n + 1) (by omega)]
      split <;> omega
theorem sp_mode {E T N s : Nat} {pt : Nat → Nat → Nat} {c : zw_Ct} (hT : zr_T E T N pt) (hS : zr_S E T N pt c) (hs : s < N) : fn_Sayings_mode c (nI s) = some (nI (zs_top (fun e => (pt s e : Int)) E)) := by
  have hE2 := hT.1
  have hE4 := hT.2.1
  have h12 := hT.2.2.2.1
  unfold fn_Sayings_mode
  obtain ⟨x, h1, h2⟩ := zp_up (f := fn_Sayings_mode_l1 c (nI s)) (I := fun i t => 1 ≤ i ∧ t = (nI (zs_top (fun e => (pt s e : Int)) i), nI i)) (P := fun x => x = nI (zs_top (fun e => (pt s e : Int)) E)) E (by unfold zw_F; omega) (fun i t hi h => by
      obtain ⟨hi1, h⟩ := h
      subst h
      have hk := zs_top_lt (fun e => (pt s e : Int)) (n := i) (by omega)
      have b1 := hT.2.2.2.2.2.2 s hs i (by omega)
      have b2 := hT.2.2.2.2.2.2 s hs _ (show zs_top (fun e => (pt s e : Int)) i < 4 by omega)
      refine Or.inl ⟨_, ?_, by omega, rfl⟩
      unfold fn_Sayings_mode_l1
      dsimp only
      rw [hS.1, if_pos (nI_lt hi (by omega)), sp_partOf hT hS hs (by omega), zp_bs, sp_partOf hT hS hs (by omega), zp_bs, nI_1]
      by_cases hc : pt s (zs_top (fun e => (pt s e : Int)) i) < pt s i
      · rw [if_pos (nI_lt hc (by omega)), zp_bs]
        have e : zs_top (fun e => (pt s e : Int)) (i + 1) = i := if_pos (by show (pt s _ : Int) < (pt s i : Int); omega)
        rw [e]
      · rw [if_neg (nI_nlt (by omega) (by omega)), zp_bs]
        have e : zs_top (fun e => (pt s e : Int)) (i + 1) = zs_top (fun e => (pt s e : Int)) i := if_neg (by show ¬ (pt s _ : Int) < (pt s i : Int); omega)
        rw [e]) (fun t h => by
      obtain ⟨hi1, h⟩ := h
      subst h
      refine ⟨_, ?_, rfl⟩
      unfold fn_Sayings_mode_l1
      dsimp only
      rw [hS.1, if_neg (nI_nlt (Nat.le_refl _) (by omega))]) 1 (0, 1) (by omega) ⟨Nat.le_refl _, by rw [zs_top_1]; rfl⟩
  rw [h1, zp_bs, h2]
theorem sp_squares {E T N s : Nat} {pt : Nat → Nat → Nat} {c : zw_Ct} (hT : zr_T E T N pt) (hS : zr_S E T N pt c) (hs : s < N) : fn_Sayings_sumOfSquares c (nI s) = some (nI (zs_sumN (fun e => pt s e * pt s e) E)) := by
  have hE4 := hT.2.1
  unfold fn_Sayings_sumOfSquares
  obtain ⟨x, h1, h2⟩ := zp_up (f := fn_Sayings_sumOfSquares_l1 c (nI s)) (I := fun i t => t = (nI (zs_sumN (fun e => pt s e * pt s e) i), nI i)) (P := fun x => x = nI (zs_sumN (fun e => pt s e * pt s e) E)) E (by unfold zw_F; omega) (fun i t hi h => by
      subst h
      refine Or.inl ⟨_, ?_, rfl⟩
      unfold fn_Sayings_sumOfSquares_l1
      dsimp only
      rw [hS.1, if_pos (nI_lt hi (by omega)), sp_partOf hT hS hs (by omega), zp_bs, zp_bs, zp_bs, nI_mul, nI_add, nI_1]
      rfl) (fun t h => by
      subst h
      refine ⟨_, ?_, rfl⟩
      unfold fn_Sayings_sumOfSquares_l1
      dsimp only
      rw [hS.1, if_neg (nI_nlt (Nat.le_refl _) (by omega))]) 0 (0, 0) (Nat.zero_le _) rfl
  rw [h1, zp_bs, h2]
theorem sp_turns {E T N s : Nat} {pt : Nat → Nat → Nat} {c : zw_Ct} (hT : zr_T E T N pt) (hS : zr_S E T N pt c) (hs : s < N) : fn_Pays_sumOfTurns c (nI s) = some (zs_sumI (fun e => c.1 4 (pt s e)) E) := by
  have hE4 := hT.2.1
  have h12 := hT.2.2.2.1
  unfold fn_Pays_sumOfTurns
  obtain ⟨x, h1, h2⟩ := zp_up (f := fn_Pays_sumOfTurns_l1 c (nI s)) (I := fun i t => t = (zs_sumI (fun e => c.1 4 (pt s e)) i, nI i)) (P := fun x => x = zs_sumI (fun e => c.1 4 (pt s e)) E) E (by unfold zw_F; omega) (fun i t hi h => by
      subst h
      refine Or.inl ⟨_, ?_, rfl⟩
      have b1 := hT.2.2.2.2.2.2 s hs i (by omega)
      unfold fn_Pays_sumOfTurns_l1
      dsimp only
      rw [hS.1, if_pos (nI_lt hi (by omega)), sp_partOf hT hS hs (by omega), zp_bs, zp_aI (by omega) (by omega), zp_bs, zp_bs, nI_1]
      rfl) (fun t h => by
      subst h
      refine ⟨_, ?_, rfl⟩
      unfold fn_Pays_sumOfTurns_l1
      dsimp only
      rw [hS.1, if_neg (nI_nlt (Nat.le_refl _) (by omega))]) 0 (0, 0) (Nat.zero_le _) rfl
  rw [h1, zp_bs, h2]
/-- a round of reckonAll: saying s done up to event i -/
def zv_I (E T N : Nat) (pt : Nat → Nat → Nat) (into : Nat) (X : List Int32) (c : zw_Ct) (s i : Nat) (d : zw_Ct) : Prop := (∀ k, k ≠ 59 → k ≠ 60 → k ≠ into → d.1 k = c.1 k) ∧ d.2 = c.2 ∧ d.1 59 7 = nI E ∧ d.1 59 8 = nI T ∧ (∀ q, q < s → ∀ e, e < E → d.1 into (4 * q + e) = ze_val (zt_th E T pt (c.1 4) q e) X) ∧ (∀ e, e < i → d.1 into (4 * s + e) = ze_val (zt_th E T pt (c.1 4) s e) X)
theorem sp_reckonAll {E T N cd into : Nat} {pt : Nat → Nat → Nat} {X : List Int32} {c : zw_Ct} (hT : zr_T E T N pt) (hS : zr_S E T N pt c) (hcd : 48 ≤ cd ∧ cd ≤ 51) (hcl : zw_len SH 0 cd = some 60) (hin : 54 ≤ into ∧ into ≤ 57) (hil : zw_len SH 0 into = some 1820) (hL : X.length ≤ 60) (hX : ∀ k, k < X.length → c.1 cd k = X.getD k 0) (hz : zc_h X 0 = some 1) : ∃ d, fn_Pays_reckonAll c cd (nI X.length) into = some d ∧ (∀ k, k ≠ 59 → k ≠ 60 → k ≠ into → d.1 k = c.1 k) ∧ d.2 = c.2 ∧ ∀ s, s < N → ∀ e, e < E → d.1 into (4 * s + e) = ze_val (zt_th E T pt (c.1 4) s e) X := by
  have hE2 := hT.1
  have hE4 := hT.2.1
  have h12 := hT.2.2.2.1
  have hN := hT.2.2.2.2.2.1
  have hSd : ∀ d : zw_Ct, (∀ k, k ≠ 59 → k ≠ 60 → k ≠ into → d.1 k = c.1 k) → zr_S E T N pt d := fun d hd => by
    unfold zr_S
    rw [hd 1 (by omega) (by omega) (by omega), hd 2 (by omega) (by omega) (by omega)]
    exact hS
  unfold fn_Pays_reckonAll
  have e0 : zw_uI 9 c 59 7 (c.1 1 0) = some (zw_wI c 59 7 (nI E)) := by rw [hS.1]; exact zp_uI (k := 7) (by omega) (by omega)
  have e1 : zw_uI 9 (zw_wI c 59 7 (nI E)) 59 8 ((zw_wI c 59 7 (nI E)).1 1 1) = some (zw_wI (zw_wI c 59 7 (nI E)) 59 8 (nI T)) := by rw [zw_wI_ne (by decide), hS.2.1]; exact zp_uI (k := 8) (by omega) (by omega)
  rw [e0, zp_bs, e1, zp_bs]
  obtain ⟨x, h1, h2⟩ := zp_up (f := fn_Pays_reckonAll_l1 cd (nI X.length) into) (I := fun s t => t.1 = nI s ∧ zv_I E T N pt into X c s 0 t.2) (P := fun d => zv_I E T N pt into X c N 0 d) N (by unfold zw_F; omega) (fun s t hs h => by
      obtain ⟨t1, d⟩ := t
      obtain ⟨ht, hd⟩ := h
      dsimp only at ht hd
      subst ht
      have hk := zs_top_lt (fun e => (pt s e : Int)) (n := E) (by omega)
      obtain ⟨g1, g2, g3, g4, g5, -⟩ := hd
      have hSd1 := hSd d g1
      have eN : d.1 1 2 = nI N := hSd1.2.2.1
      -- behind the three fixed things
      have w1 : zw_uI 9 d 59 1 (nI (zs_sumN (fun e => pt s e * pt s e) E)) = some (zw_wI d 59 1 (nI (zs_sumN (fun e => pt s e * pt s e) E))) := zp_uI (k := 1) (by omega) (by omega)
      obtain ⟨d1, hd1⟩ : ∃ d1, d1 = zw_wI d 59 1 (nI (zs_sumN (fun e => pt s e * pt s e) E)) := ⟨_, rfl⟩
      have w2 : zw_uI 9 d1 59 2 (nI (zs_max (pt s) E)) = some (zw_wI d1 59 2 (nI (zs_max (pt s) E))) := zp_uI (k := 2) (by omega) (by omega)
      obtain ⟨d2, hd2⟩ : ∃ d2, d2 = zw_wI d1 59 2 (nI (zs_max (pt s) E)) := ⟨_, rfl⟩
      have n2 : ∀ k, k ≠ 59 → d2.1 k = d.1 k := fun k hk => by rw [hd2, zw_wI_ne hk, hd1, zw_wI_ne hk]
      have hS2 : zr_S E T N pt d2 := hSd d2 (fun k k1 k2 k3 => (n2 k k1).trans (g1 k k1 k2 k3))
      have e4 : d2.1 4 = c.1 4 := (n2 4 (by decide)).trans (g1 4 (by decide) (by decide) (by omega))
      have w3 : zw_uI 9 d2 59 5 (zs_sumI (fun e => c.1 4 (pt s e)) E) = some (zw_wI d2 59 5 (zs_sumI (fun e => c.1 4 (pt s e)) E)) := zp_uI (k := 5) (by omega) (by omega)
      obtain ⟨d3, hd3⟩ : ∃ d3, d3 = zw_wI d2 59 5 (zs_sumI (fun e => c.1 4 (pt s e)) E) := ⟨_, rfl⟩
      have n3 : ∀ k, k ≠ 59 → d3.1 k = d.1 k := fun k hk => by rw [hd3, zw_wI_ne hk, n2 k hk]
      have f1 : d3.1 59 1 = nI (zs_sumN (fun e => pt s e * pt s e) E) := by rw [hd3, zw_wI_at (by decide), hd2, zw_wI_at (by decide), hd1, zw_wI_eq]
      have f2 : d3.1 59 2 = nI (zs_max (pt s) E) := by rw [hd3, zw_wI_at (by decide), hd2, zw_wI_eq]
      have f5 : d3.1 59 5 = zs_sumI (fun e => c.1 4 (pt s e)) E := by rw [hd3, zw_wI_eq]
      have f7 : d3.1 59 7 = nI E := by rw [hd3, zw_wI_at (by decide), hd2, zw_wI_at (by decide), hd1, zw_wI_at (by decide), g3]
      have f8 : d3.1 59 8 = nI T := by rw [hd3, zw_wI_at (by decide), hd2, zw_wI_at (by decide), hd1, zw_wI_at (by decide), g4]
      obtain ⟨y, y1, y2⟩ := zp_up (f := fn_Pays_reckonAll_l2 (nI s) (nI (zs_max (pt s) E)) cd (nI X.length) into) (I := fun i t => t.1 = nI i ∧ zv_I E T N pt into X c s i t.2 ∧ t.2.1 59 1 = nI (zs_sumN (fun e => pt s e * pt s e) E) ∧ t.2.1 59 2 = nI (zs_max (pt s) E) ∧ t.2.1 59 5 = zs_sumI (fun e => c.1 4 (pt s e)) E) (P := fun d => zv_I E T N pt into X c s E d) E (by unfold zw_F; omega) (fun i t hi h => by
          obtain ⟨t1, b⟩ := t
          obtain ⟨ht, ⟨b1, b2, b3, b4, b5, b6⟩, u1, u2, u5⟩ := h
          dsimp only at ht b1 b2 b3 b4 b5 b6 u1 u2 u5
          subst ht
          have hSb := hSd b b1
          have bp := hT.2.2.2.2.2.2 s hs i (by omega)
          have v0 : zw_uI 9 b 59 0 (nI (pt s i)) = some (zw_wI b 59 0 (nI (pt s i))) := zp_uI (k := 0) (by omega) (by omega)
          have v3 : ∀ (z : zw_Ct) (v : Int32), zw_uI 9 z 59 3 v = some (zw_wI z 59 3 v) := fun z v => zp_uI (k := 3) (by omega) (by omega)
          have v4 : ∀ (z : zw_Ct) (v : Int32), zw_uI 9 z 59 4 v = some (zw_wI z 59 4 v) := fun z v => zp_uI (k := 4) (by omega) (by omega)
          have v6 : ∀ (z : zw_Ct) (v : Int32), zw_uI 9 z 59 6 v = some (zw_wI z 59 6 v) := fun z v => zp_uI (k := 6) (by omega) (by omega)
          obtain ⟨m, hm⟩ : ∃ m, m = zw_wI (zw_wI (zw_wI (zw_wI b 59 0 (nI (pt s i))) 59 3 (if nI (pt s i) = nI (zs_max (pt s) E) then 1 else 0)) 59 4 (c.1 4 (pt s i))) 59 6 (nI i) := ⟨_, rfl⟩
          have nm : ∀ k, k ≠ 59 → m.1 k = b.1 k := fun k hk => by rw [hm, zw_wI_ne hk, zw_wI_ne hk, zw_wI_ne hk, zw_wI_ne hk]
          have hmax : zs_max (pt s) E ≤ T := by rw [zs_max_top (pt s) (by omega)]; exact hT.2.2.2.2.2.2 s hs _ (by omega)
          have hth : ∀ j, j < 9 → m.1 59 j = zt_th E T pt (c.1 4) s i j := fun j hj => by
            rcases (show j = 0 ∨ j = 1 ∨ j = 2 ∨ j = 3 ∨ j = 4 ∨ j = 5 ∨ j = 6 ∨ j = 7 ∨ j = 8 by omega) with rfl | rfl | rfl | rfl | rfl | rfl | rfl | rfl | rfl
            · rw [hm, zw_wI_at (by decide), zw_wI_at (by decide), zw_wI_at (by decide), zw_wI_eq]; rfl
            · rw [hm, zw_wI_at (by decide), zw_wI_at (by decide), zw_wI_at (by decide), zw_wI_at (by decide), u1]; rfl
            · rw [hm, zw_wI_at (by decide), zw_wI_at (by decide), zw_wI_at (by decide), zw_wI_at (by decide), u2]; rfl
            · rw [hm, zw_wI_at (by decide), zw_wI_at (by decide), zw_wI_eq]
              show (if nI (pt s i) = nI (zs_max (pt s) E) then (1 : Int32) else 0) = if pt s i = zs_max (pt s) E then 1 else 0
              by_cases hq : pt s i = zs_max (pt s) E
              · rw [if_pos hq, if_pos (by rw [hq])]
              · rw [if_neg hq, if_neg (fun q => hq ((nI_eq (by omega) (by omega)).mp q))]
            · rw [hm, zw_wI_at (by decide), zw_wI_eq]; rfl
            · rw [hm, zw_wI_at (by decide), zw_wI_at (by decide), zw_wI_at (by decide), zw_wI_at (by decide), u5]; rfl
            · rw [hm, zw_wI_eq]; rfl
            · rw [hm, zw_wI_at (by decide), zw_wI_at (by decide), zw_wI_at (by decide), zw_wI_at (by decide), b3]; rfl
            · rw [hm, zw_wI_at (by decide), zw_wI_at (by decide), zw_wI_at (by decide), zw_wI_at (by decide), b4]; rfl
          obtain ⟨r, r1, r2, r3⟩ := sp_reckon (th := zt_th E T pt (c.1 4) s i) (cd := cd) (X := X) (c := m) hcl (by omega) hL hth (fun k hk => by rw [nm cd (by omega), b1 cd (by omega) (by omega) (by omega)]; exact hX k hk) hz
          refine Or.inl ⟨(nI (i + 1), zw_wI r into (4 * s + i) (ze_val (zt_th E T pt (c.1 4) s i) X)), ?_, rfl, ⟨fun k k1 k2 k3 => ?_, ?_, ?_, ?_, fun q hq e he => ?_, fun e he => ?_⟩, ?_, ?_, ?_⟩
          · unfold fn_Pays_reckonAll_l2
            dsimp only
            rw [hSb.1, if_pos (nI_lt hi (by omega)), sp_partOf hT hSb hs (by omega), zp_bs, v0, zp_bs, v3, zp_bs, zp_aI (by omega) (by omega), zp_bs, zw_wI_ne (show (4 : Nat) ≠ 59 by decide), zw_wI_ne (show (4 : Nat) ≠ 59 by decide), b1 4 (by decide) (by decide) (by omega), v4, zp_bs, v6, zp_bs, ← hm, r1, zp_bs]
            dsimp only
            rw [nI_at, zp_eI hil (by omega) (by omega), zp_bs, nI_1]
          · dsimp only
            rw [zw_wI_ne k3, r2 k k2, nm k k1]; exact b1 k k1 k2 k3
          · show r.2 = c.2
            rw [r3, hm]; exact b2
          · dsimp only
            rw [zw_wI_ne (by omega), r2 59 (by decide), hth 7 (by omega)]; rfl
          · dsimp only
            rw [zw_wI_ne (by omega), r2 59 (by decide), hth 8 (by omega)]; rfl
          · dsimp only
            rw [zw_wI_at (by omega), r2 into (by omega), nm into (by omega)]; exact b5 q hq e he
          · dsimp only
            by_cases hq : e = i
            · rw [hq, zw_wI_eq]
            · rw [zw_wI_at (by omega), r2 into (by omega), nm into (by omega)]; exact b6 e (by omega)
          · dsimp only
            rw [zw_wI_ne (by omega), r2 59 (by decide), hth 1 (by omega)]; rfl
          · dsimp only
            rw [zw_wI_ne (by omega), r2 59 (by decide), hth 2 (by omega)]; rfl
          · dsimp only
            rw [zw_wI_ne (by omega), r2 59 (by decide), hth 5 (by omega)]; rfl) (fun t h => by
          obtain ⟨t1, b⟩ := t
          obtain ⟨ht, hb, -⟩ := h
          dsimp only at ht hb
          subst ht
          refine ⟨b, ?_, hb⟩
          unfold fn_Pays_reckonAll_l2
          dsimp only
          rw [(hSd b hb.1).1, if_neg (nI_nlt (Nat.le_refl _) (by omega))]) 0 (0, d3) (Nat.zero_le _) ⟨rfl, ⟨fun k k1 k2 k3 => (n3 k k1).trans (g1 k k1 k2 k3), by rw [hd3, hd2, hd1]; exact g2, f7, f8, fun q hq e he => by rw [n3 into (by omega)]; exact g5 q hq e he, fun e he => by omega⟩, f1, f2, f5⟩
      refine Or.inl ⟨(nI (s + 1), y), ?_, rfl, ⟨y2.1, y2.2.1, y2.2.2.1, y2.2.2.2.1, fun q hq e he => ?_, fun e he => by omega⟩⟩
      · unfold fn_Pays_reckonAll_l1
        dsimp only
        have e59 : pt s (zs_top (fun e => (pt s e : Int)) E) = zs_max (pt s) E := (zs_max_top (pt s) (by omega)).symm
        rw [eN, if_pos (nI_lt hs (by omega)), sp_mode hT hSd1 hs, zp_bs, sp_partOf hT hSd1 hs (by omega), zp_bs, e59, sp_squares hT hSd1 hs, zp_bs, w1, zp_bs, ← hd1, w2, zp_bs, ← hd2, sp_turns hT hS2 hs, zp_bs, e4, w3, zp_bs, ← hd3, y1, zp_bs, nI_1]
      · by_cases hq2 : q = s
        · rw [hq2]; exact y2.2.2.2.2.2 e he
        · exact y2.2.2.2.2.1 q (by omega) e he) (fun t h => by
      obtain ⟨t1, d⟩ := t
      obtain ⟨ht, hd⟩ := h
      dsimp only at ht hd
      subst ht
      refine ⟨d, ?_, hd⟩
      unfold fn_Pays_reckonAll_l1
      dsimp only
      rw [(hSd d hd.1).2.2.1, if_neg (nI_nlt (Nat.le_refl _) (by omega))]) 0 (0, zw_wI (zw_wI c 59 7 (nI E)) 59 8 (nI T)) (Nat.zero_le _) ⟨rfl, fun k k1 k2 k3 => by dsimp only; rw [zw_wI_ne k1, zw_wI_ne k1], rfl, by dsimp only; rw [zw_wI_at (by decide), zw_wI_eq], by dsimp only; rw [zw_wI_eq], fun q hq => by omega, fun e he => by omega⟩
  exact ⟨x, by rw [h1, zp_bs], h2.1, h2.2.1, h2.2.2.2.2.1⟩
