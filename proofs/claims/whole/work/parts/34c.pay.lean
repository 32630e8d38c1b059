/-! the same reading with the class's signs and with the Model's; the class's first wrong place; pay -/
def zx_B (g : Int32) : Prop := (((¬ g = 45 ∧ ¬ g = 40) ∧ ¬ (48 ≤ g ∧ g ≤ 57)) ∧ (¬ 0 ≤ fn_ix g ∧ ¬ g = 41)) ∧ (((¬ g = 60 ∧ ¬ g = 62) ∧ ¬ g = 61) ∧ ((¬ g = 43 ∧ ¬ g = 42) ∧ ¬ g = 47))
theorem zx_cn {h h' : Nat → Int32} (E : ∀ p, h p = h' p ∨ (zx_B (h p) ∧ zx_B (h' p))) : ∀ (m : Nat) (v : Int32) (p : Nat), zt_num h m v p = zt_num h' m v p
  | 0, _, _ => rfl
  | m + 1, v, p => by
    show (if 48 ≤ h p ∧ h p ≤ 57 then zt_num h m (10 * v + h p - 48) (p + 1) else (v, p)) = (if 48 ≤ h' p ∧ h' p ≤ 57 then zt_num h' m (10 * v + h' p - 48) (p + 1) else (v, p))
    rcases E p with e | ⟨e1, e2⟩
    · rw [e, zx_cn E m]
    · rw [if_neg e1.1.1.2, if_neg e2.1.1.2]
theorem zx_cl {h h' : Nat → Int32} {rc rc' : Nat → List Int32 × Nat × Bool} {a b : Int32} (E : ∀ p, h p = h' p ∨ ((¬ h p = a ∧ ¬ h p = b) ∧ (¬ h' p = a ∧ ¬ h' p = b))) (hrc : ∀ p, rc p = rc' p) : ∀ (m : Nat) (r : List Int32 × Nat × Bool), zt_l rc h a b m r = zt_l rc' h' a b m r
  | 0, _ => rfl
  | m + 1, r => by
    show (if r.2.2 = true ∧ (h r.2.1 = a ∨ h r.2.1 = b) then zt_l rc h a b m (r.1 ++ ((rc (r.2.1 + 1)).1 ++ [20000 + h r.2.1]), (rc (r.2.1 + 1)).2) else r) = (if r.2.2 = true ∧ (h' r.2.1 = a ∨ h' r.2.1 = b) then zt_l rc' h' a b m (r.1 ++ ((rc' (r.2.1 + 1)).1 ++ [20000 + h' r.2.1]), (rc' (r.2.1 + 1)).2) else r)
    rcases E r.2.1 with e | ⟨e1, e2⟩
    · rw [e, hrc, zx_cl E hrc m]
    · rw [if_neg (fun q => q.2.elim e1.1 e1.2), if_neg (fun q => q.2.elim e2.1 e2.2)]
theorem zx_cg {h h' : Nat → Int32} (E : ∀ p, h p = h' p ∨ (zx_B (h p) ∧ zx_B (h' p))) : ∀ (n k d p : Nat), zt_pp h n k d p = zt_pp h' n k d p
  | 0, _, _, _ => rfl
  | n + 1, 0, d, p => by
    show (if (zt_pp h n 1 d p).2.2 = true ∧ (h (zt_pp h n 1 d p).2.1 = 60 ∨ h (zt_pp h n 1 d p).2.1 = 62 ∨ h (zt_pp h n 1 d p).2.1 = 61) then ((zt_pp h n 1 d p).1 ++ ((zt_pp h n 1 d ((zt_pp h n 1 d p).2.1 + 1)).1 ++ [20000 + h (zt_pp h n 1 d p).2.1]), (zt_pp h n 1 d ((zt_pp h n 1 d p).2.1 + 1)).2) else zt_pp h n 1 d p) = (if (zt_pp h' n 1 d p).2.2 = true ∧ (h' (zt_pp h' n 1 d p).2.1 = 60 ∨ h' (zt_pp h' n 1 d p).2.1 = 62 ∨ h' (zt_pp h' n 1 d p).2.1 = 61) then ((zt_pp h' n 1 d p).1 ++ ((zt_pp h' n 1 d ((zt_pp h' n 1 d p).2.1 + 1)).1 ++ [20000 + h' (zt_pp h' n 1 d p).2.1]), (zt_pp h' n 1 d ((zt_pp h' n 1 d p).2.1 + 1)).2) else zt_pp h' n 1 d p)
    rw [zx_cg E n 1 d p, zx_cg E n 1 d _]
    rcases E (zt_pp h' n 1 d p).2.1 with e | ⟨e1, e2⟩
    · rw [e]
    · rw [if_neg (fun q => q.2.elim e1.2.1.1.1 (fun q => q.elim e1.2.1.1.2 e1.2.1.2)), if_neg (fun q => q.2.elim e2.2.1.1.1 (fun q => q.elim e2.2.1.1.2 e2.2.1.2))]
  | n + 1, 1, d, p => by
    show zt_l (fun p => zt_pp h n 2 d p) h 43 45 61 (zt_pp h n 2 d p) = zt_l (fun p => zt_pp h' n 2 d p) h' 43 45 61 (zt_pp h' n 2 d p)
    rw [zx_cg E n 2 d p]
    exact zx_cl (fun p => (E p).imp id (fun q => ⟨⟨q.1.2.2.1.1, q.1.1.1.1.1⟩, q.2.2.2.1.1, q.2.1.1.1.1⟩)) (fun p => zx_cg E n 2 d p) 61 _
  | n + 1, 2, d, p => by
    show zt_l (fun p => zt_pp h n 3 d p) h 42 47 61 (zt_pp h n 3 d p) = zt_l (fun p => zt_pp h' n 3 d p) h' 42 47 61 (zt_pp h' n 3 d p)
    rw [zx_cg E n 3 d p]
    exact zx_cl (fun p => (E p).imp id (fun q => ⟨⟨q.1.2.2.1.2, q.1.2.2.2⟩, q.2.2.2.1.2, q.2.2.2.2⟩)) (fun p => zx_cg E n 3 d p) 61 _
  | n + 1, k + 3, d, p => by
    show (if h p = 45 then ((zt_pp h n 3 d (p + 1)).1 ++ [20256], (zt_pp h n 3 d (p + 1)).2)
      else if h p = 40 ∧ d < 5 then (if (zt_pp h n 0 (d + 1) (p + 1)).2.2 = true ∧ h (zt_pp h n 0 (d + 1) (p + 1)).2.1 = 41 then ((zt_pp h n 0 (d + 1) (p + 1)).1, (zt_pp h n 0 (d + 1) (p + 1)).2.1 + 1, true) else ((zt_pp h n 0 (d + 1) (p + 1)).1, (zt_pp h n 0 (d + 1) (p + 1)).2.1, false))
      else if 48 ≤ h p ∧ h p ≤ 57 then ([(zt_num h 4 0 p).1], (zt_num h 4 0 p).2, true)
      else if 0 ≤ fn_ix (h p) then ([10000 + fn_ix (h p)], p + 1, true) else ([], p, false)) = (if h' p = 45 then ((zt_pp h' n 3 d (p + 1)).1 ++ [20256], (zt_pp h' n 3 d (p + 1)).2)
      else if h' p = 40 ∧ d < 5 then (if (zt_pp h' n 0 (d + 1) (p + 1)).2.2 = true ∧ h' (zt_pp h' n 0 (d + 1) (p + 1)).2.1 = 41 then ((zt_pp h' n 0 (d + 1) (p + 1)).1, (zt_pp h' n 0 (d + 1) (p + 1)).2.1 + 1, true) else ((zt_pp h' n 0 (d + 1) (p + 1)).1, (zt_pp h' n 0 (d + 1) (p + 1)).2.1, false))
      else if 48 ≤ h' p ∧ h' p ≤ 57 then ([(zt_num h' 4 0 p).1], (zt_num h' 4 0 p).2, true)
      else if 0 ≤ fn_ix (h' p) then ([10000 + fn_ix (h' p)], p + 1, true) else ([], p, false))
    rw [zx_cg E n 3 d (p + 1), zx_cg E n 0 (d + 1) (p + 1), zx_cn E 4 0 p]
    rcases E p with e | ⟨e1, e2⟩
    · rw [e]
      rcases E (zt_pp h' n 0 (d + 1) (p + 1)).2.1 with e | ⟨e1, e2⟩
      · rw [e]
      · rw [if_neg (fun q : (zt_pp h' n 0 (d + 1) (p + 1)).2.2 = true ∧ h (zt_pp h' n 0 (d + 1) (p + 1)).2.1 = 41 => e1.1.2.2 q.2), if_neg (fun q : (zt_pp h' n 0 (d + 1) (p + 1)).2.2 = true ∧ h' (zt_pp h' n 0 (d + 1) (p + 1)).2.1 = 41 => e2.1.2.2 q.2)]
    · rw [if_neg e1.1.1.1.1, if_neg (fun q : h p = 40 ∧ d < 5 => e1.1.1.1.2 q.1), if_neg e1.1.1.2, if_neg e1.1.2.1, if_neg e2.1.1.1.1, if_neg (fun q : h' p = 40 ∧ d < 5 => e2.1.1.1.2 q.1), if_neg e2.1.1.2, if_neg e2.1.2.1]
theorem zx_low : ∀ u, u < 128 → nI u = (nI u).toInt8.toInt32 := by decide +kernel
def zx_Bd (g : Int32) : Decidable (zx_B g) := by unfold zx_B; infer_instance
theorem zx_hi0 : ∀ u, u < 256 → (decide (u < 128) || (@decide (zx_B (nI u)) (zx_Bd _) && @decide (zx_B (nI u).toInt8.toInt32) (zx_Bd _))) = true := by decide +kernel
theorem zx_high (u : Nat) (h : u < 256) (h2 : 128 ≤ u) : zx_B (nI u) ∧ zx_B (nI u).toInt8.toInt32 := by
  have q := zx_hi0 u h
  rw [decide_eq_false (show ¬ u < 128 by omega), Bool.false_or, Bool.and_eq_true] at q
  exact ⟨@of_decide_eq_true _ (zx_Bd _) q.1, @of_decide_eq_true _ (zx_Bd _) q.2⟩
theorem zx_byte : ∀ u, u < 256 → vp_nar .byte (nI u).toInt8.toInt32 = (nI u).toInt8.toInt32 := by decide +kernel
theorem zx_same {L : Nat} {a b : Nat → Int32} (hX : ∀ k, k < L → ∃ u : Nat, u < 256 ∧ a k = nI u ∧ b k = (nI u).toInt8.toInt32) (n k d p : Nat) : zt_pp (zt_h a L) n k d p = zt_pp (zt_h b L) n k d p := by
  refine zx_cg (fun q => ?_) n k d p
  unfold zt_h
  by_cases hq : q < L ∧ q < 60
  · rw [if_pos hq, if_pos hq]
    obtain ⟨u, h1, h2, h3⟩ := hX q hq.1
    rw [h2, h3]
    by_cases hu : u < 128
    · exact Or.inl (zx_low u hu)
    · exact Or.inr (zx_high u h1 (by omega))
  · rw [if_neg hq, if_neg hq]; exact Or.inl rfl
theorem zk_get {f : Nat → Int32} : ∀ {Y : List Int32}, zk Y f → ∀ k, k < Y.length → f k = Y.reverse.getD k 0
  | [], _, k, hk => absurd hk (Nat.not_lt_zero k)
  | v :: st, ⟨h1, h2⟩, k, hk => by
    rw [List.reverse_cons, List.getD_eq_getElem?_getD]
    by_cases e : k < st.length
    · rw [List.getElem?_append_left (by rw [List.length_reverse]; exact e), ← List.getD_eq_getElem?_getD]
      exact zk_get h2 k e
    · have ek : k = st.length := by simp only [List.length_cons] at hk; omega
      have el : k = st.reverse.length := by rw [List.length_reverse]; exact ek
      rw [el, List.getElem?_concat_length, List.length_reverse, h1]
      rfl
theorem zx_first {L : Nat} {c : zw_Ct} {r : List Int32 × Nat × Bool} (hL : L ≤ 80) (h1 : c.1 40 1 = nI L) (hX : ∀ k, k < L → ∃ u : Nat, u < 256 ∧ c.1 41 k = nI u) (hr : r = zt_pp (zt_h (c.1 41) L) 100 0 0 0) : r.2.1 ≤ L ∧ r.2.1 ≤ 60 ∧ ∃ c', zx_G c c' ∧ (r.2.2 = true → r.2.1 = L → fn_Text_firstWrong c = some (-1, c') ∧ c'.1 40 3 = nI r.1.length ∧ zk r.1.reverse (c'.1 42)) ∧ (¬ (r.2.2 = true ∧ r.2.1 = L) → fn_Text_firstWrong c = some (nI r.2.1, c')) := by
  obtain ⟨en, hen⟩ : ∃ en, en = if 60 < L then 60 else L := ⟨_, rfl⟩
  have hen1 : en ≤ L ∧ en ≤ 60 ∧ (en = 60 ∨ en = L) ∧ (60 < L → en = 60) ∧ (¬ 60 < L → en = L) := by
    by_cases q : 60 < L
    · rw [if_pos q] at hen; omega
    · rw [if_neg q] at hen; omega
  have hU : zx_U c en (zt_h (c.1 41) L) := ⟨fun p hp => by
    obtain ⟨u, u1, u2⟩ := hX p (by omega)
    unfold zt_h
    rw [if_pos ⟨by omega, by omega⟩]
    exact ⟨rfl, u, u1, u2⟩, fun p hp => by
    unfold zt_h
    rw [if_neg (fun q => by omega)], hen1.2.1⟩
  obtain ⟨x0, s1, s2⟩ : ∃ x0, fn_Text_startReading c = some x0 ∧ zx_M c [] [] 0 0 1 (fun _ => 0) x0 := by
    have g0 : zx_G c c := ⟨fun _ _ _ _ _ => rfl, fun _ _ _ _ _ _ => rfl, rfl⟩
    refine ⟨zw_wI (zw_wI (zw_wI (zw_wI (zw_wI (zw_wI c 40 3 0) 40 5 0) 40 7 0) 40 8 0) 44 0 0) 40 9 1, ?_, ((((((g0.w40 (by decide)).w40 (by decide)).w40 (by decide)).w40 (by decide)).wA (by decide)).w40 (by decide)), ?_, trivial, ?_, trivial, ?_, ?_, ?_, ?_⟩
    · unfold fn_Text_startReading
      rw [zp_bs, zp_bs, zp_bs, zp_bs, show (0 : Int32) = nI 0 from rfl, zp_uI (by omega) (by omega), zp_bs, zp_bs]
    · rw [zw_wI_at (by decide), zw_wI_ne (by decide), zw_wI_at (by decide), zw_wI_at (by decide), zw_wI_at (by decide), zw_wI_eq]; rfl
    · rw [zw_wI_at (by decide), zw_wI_ne (by decide), zw_wI_at (by decide), zw_wI_at (by decide), zw_wI_eq]; rfl
    · rw [zw_wI_at (by decide), zw_wI_ne (by decide), zw_wI_at (by decide), zw_wI_eq]; rfl
    · rw [zw_wI_at (by decide), zw_wI_ne (by decide), zw_wI_eq]; rfl
    · rw [zw_wI_eq]
    · intro j hj
      rw [zw_wI_ne (by decide), show j = 0 by omega, zw_wI_eq]
  have e1 : x0.1 40 1 = nI L := (s2.1.2.1 1 (by decide) (by decide) (by decide) (by decide) (by decide)).trans h1
  have een : (if 60 < x0.1 40 1 then 60 else x0.1 40 1) = nI en := by
    rw [e1, hen]
    by_cases q : 60 < L
    · rw [if_pos (show (60 : Int32) < nI L from nI_lt (show 60 < L from q) (by omega)), if_pos q]; rfl
    · rw [if_neg (show ¬ (60 : Int32) < nI L from fun z => q ((nI_ltI (a := 60) (b := L) (by omega) (by omega)).mp z)), if_neg q]
  have start : fn_Text_firstWrong c = (zw_whl (fn_Text_firstWrong_l1 (nI en)) zw_F (0, x0)).bind fun q => match q with
    | .inl w => some w
    | .inr c7 =>
    if (((60 < (c7.1 40 1)) ∨ (¬ (c7.1 40 9) = 0)) ∨ (0 < (c7.1 40 7))) then
    (some (nI en, c7))
    else
    ((fn_Text_release c7 1).bind fun c27 =>
    some ((-1), c27)) := by
    unfold fn_Text_firstWrong
    rw [s1, zp_bs, een, zp_bs]
    rfl
  have run : ∀ (q : Nat) (x' : zw_Ct) (y : ((Int32 × zw_Ct) ⊕ zw_Ct)), q ≤ 60 → zx_go en 0 x0 q x' → fn_Text_firstWrong_l1 (nI en) (nI q, x') = some (.inl y) → zw_whl (fn_Text_firstWrong_l1 (nI en)) zw_F (0, x0) = some y := by
    intro q x' y hq hgo hy
    have := hgo.2 (zw_F - q - 1 + 1) y (by
      show (fn_Text_firstWrong_l1 (nI en) (nI q, x')).bind _ = _
      rw [hy]
      rfl)
    rw [show zw_F - q - 1 + 1 + (q - 0) = zw_F by unfold zw_F; omega] at this
    exact this
  have stop : ∀ x', fn_Text_firstWrong_l1 (nI en) (nI en, x') = some (.inl (.inr x')) := fun x' => by
    unfold fn_Text_firstWrong_l1
    dsimp only
    rw [if_neg (nI_nlt (Nat.le_refl _) (by omega))]
  have no : ∀ q, zx_no c en 0 x0 q → q ≤ en ∧ ∃ c', zx_G c c' ∧ fn_Text_firstWrong c = some (nI q, c') := by
    rintro q ⟨x', a1, a2, a3⟩
    rcases a3 with ⟨b1, x2, b2, b3⟩ | ⟨rfl, b2⟩
    · exact ⟨by omega, x2, b3, by rw [start, run q x' _ (by omega) a1 b2, zp_bs]⟩
    · refine ⟨Nat.le_refl _, x', a2, ?_⟩
      rw [start, run q x' _ (by omega) a1 (stop x'), zp_bs]
      dsimp only
      rw [if_pos]
      rcases b2 with b | b
      · exact Or.inl (Or.inr b)
      · exact Or.inr b
  obtain ⟨md, -, -, b3, b4⟩ := (zx_all hU 100).1 0 0 0 x0 [] [] (fun _ => 0) (by omega) (by omega) (Nat.le_refl _) (Nat.zero_le _) s2 (Or.inl rfl) (fun _ => rfl) (fun _ w t e => by cases e)
  rw [← hr] at b3 b4
  by_cases hok : r.2.2 = true
  · obtain ⟨x', P, C', g, m', c1, c2, c3, c4, c5, c6, c7, c8, c9⟩ := b3 hok
    refine ⟨by omega, by omega, ?_⟩
    by_cases hq : r.2.1 < en
    · obtain ⟨n1, c', n2, n3⟩ := no _ (zx_no.after c1 (zx_rejJ hU c9 (by omega) c2 (by rw [c6]; exact c7) (fun q => absurd q (by omega)) (fun q => absurd q (by omega))))
      exact ⟨c', n2, fun _ q => absurd q (by omega), fun _ => n3⟩
    · have hqe : r.2.1 = en := by omega
      have hgo : zw_whl (fn_Text_firstWrong_l1 (nI en)) zw_F (0, x0) = some (.inr x') := run r.2.1 x' _ (by omega) c1 (by rw [hqe]; exact stop x')
      have e1' : x'.1 40 1 = nI L := (c2.1.2.1 1 (by decide) (by decide) (by decide) (by decide) (by decide)).trans h1
      by_cases hL60 : 60 < L
      · refine ⟨x', c2.1, fun _ q => absurd q (by omega), fun _ => ?_⟩
        rw [start, hgo, zp_bs]
        dsimp only
        rw [e1', if_pos (Or.inl (Or.inl (show (60 : Int32) < nI L from nI_lt (show 60 < L from hL60) (by omega)))), hqe]
      · obtain ⟨x2, d1, d2⟩ := c2.release (P := P) (W := []) (b := 1) (fun w t e => by cases e) c3 (by omega) (by simp only [List.length_nil] at c8 ⊢; omega)
        have hrev : (P.map (fun w => 20000 + w)).reverse ++ C' = r.1.reverse := by rw [c4, List.append_nil]
        rw [hrev] at d2
        refine ⟨x2, d2.1, fun _ _ => ⟨?_, by rw [d2.2.1, List.length_reverse], d2.2.2.1⟩, fun q => absurd ⟨hok, by omega⟩ q⟩
        rw [start, hgo, zp_bs]
        dsimp only
        rw [e1', if_neg, d1, zp_bs]
        rw [c2.2.2.2.2.2.2.2.1, c2.2.2.2.2.2.1]
        rintro ((q | q) | q)
        · exact hL60 ((nI_ltI (a := 60) (b := L) (by omega) (by omega)).mp q)
        · exact q rfl
        · exact absurd q (by decide)
  · obtain ⟨n1, c', n2, n3⟩ := no _ (b4 hok)
    exact ⟨by omega, by omega, c', n2, fun q => absurd q hok, fun _ => n3⟩
theorem zr_told {n E T i : Nat} {c d : zw_Ct} (hi : i < 4 ∨ i = 99) (hR : zr_R c) (hRl : zr_Rl n E T c) (g : ∀ k, k < 101 → k ≠ 40 → k ≠ 42 → k ≠ 43 → k ≠ 44 → k ≠ 46 → k ≠ 52 → k ≠ 58 → k ≠ 71 → k ≠ 81 → k ≠ 82 → k ≠ 48 + i → k ≠ 77 + i → d.1 k = c.1 k) (f : ∀ j, j ≠ 6 → j ≠ 9 → j ≠ 15 → j ≠ 16 → j ≠ 17 → j ≠ 18 → j ≠ 19 → d.1 71 j = c.1 71 j) (o : ∀ p, p ≠ i → d.1 46 p = c.1 46 p ∧ d.1 52 p = c.1 52 p ∧ d.1 58 p = c.1 58 p ∧ d.1 81 p = c.1 81 p ∧ d.1 82 p = c.1 82 p) (h0 : d.1 40 1 = 0) (h6 : d.1 71 6 = 0) (hL : d.2 = c.2) (hP : i < 4 → zr_P E T i d) : zr_Rel (n + 1) d := by
  obtain ⟨h1, h2, h3, h4, h5, h6'⟩ := hRl
  have G : ∀ k, k < 101 ∧ k ≠ 40 ∧ k ≠ 42 ∧ k ≠ 43 ∧ k ≠ 44 ∧ k ≠ 46 ∧ (k < 48 ∨ 52 < k) ∧ k ≠ 58 ∧ k ≠ 71 ∧ (k < 77 ∨ 82 < k) → d.1 k = c.1 k := fun k q => g k q.1 q.2.1 q.2.2.1 q.2.2.2.1 q.2.2.2.2.1 q.2.2.2.2.2.1 (by omega) (by omega) (by omega) (by omega) (by omega) (by omega) (by omega)
  refine ⟨hR.fr (by rw [G 61 (by decide)]) (f 8 (by decide) (by decide) (by decide) (by decide) (by decide) (by decide) (by decide)) (by rw [hL]) (by rw [hL]), E, T, ?_⟩
  have F : ∀ j, (j ≠ 6 ∧ j ≠ 9 ∧ j ≠ 15 ∧ j ≠ 16 ∧ j ≠ 17 ∧ j ≠ 18 ∧ j ≠ 19) → d.1 71 j = c.1 71 j := fun j q => f j q.1 q.2.1 q.2.2.1 q.2.2.2.1 q.2.2.2.2.1 q.2.2.2.2.2.1 q.2.2.2.2.2.2
  refine zr_Rl.up (Nat.le_succ n) ⟨h1.fr (F 10 (by decide)) (G 98 (by decide)) (G 99 (by decide)), ⟨0, by omega, h0, h6, fun k hk => absurd hk (Nat.not_lt_zero k)⟩, h3.fr (G 1 (by decide)) (G 2 (by decide)) (G 72 (by decide)) (F 0 (by decide)) (F 1 (by decide)) (F 2 (by decide)), fun p hp => ?_, ?_, fun i hi => ?_⟩
  · by_cases e : p = i
    · subst e; exact hP hp
    · obtain ⟨o1, o2, o3, o4, o5⟩ := o p e
      exact (h4 p hp).fr o1 o5 o4 o3 (G _ (by omega)) (G 83 (by decide)) (g _ (by omega) (by omega) (by omega) (by omega) (by omega) (by omega) (by omega) (by omega) (by omega) (by omega) (by omega) (by omega) (by omega)) o2 (g _ (by omega) (by omega) (by omega) (by omega) (by omega) (by omega) (by omega) (by omega) (by omega) (by omega) (by omega) (by omega) (by omega)) (G 4 (by decide))
  · exact h5.fr (G 3 (by decide)) (G 4 (by decide)) (G 5 (by decide)) (G 6 (by decide)) (G 7 (by decide)) (G 8 (by decide)) (G 9 (by decide)) (G 10 (by decide)) (G 73 (by decide)) (G 89 (by decide)) (G 92 (by decide)) (G 93 (by decide)) (G 94 (by decide)) (G 95 (by decide)) (G 96 (by decide)) (F 26 (by decide)) (F 33 (by decide)) (F 30 (by decide))
  · exact (h6' i hi).fr (by rw [G 39 (by decide)]) (by rw [G 98 (by decide)]) (by rw [G 99 (by decide)]) (F 10 (by decide)) (G 97 (by decide)) (fun k k1 k2 => G k (by omega))
