/-! THE TEXT told to a pay: the class's machine, step by step -/
theorem zk_push {C : List Int32} {c : zw_Ct} {a : Nat} {v : Int32} (h : zk C (c.1 a)) : zk (v :: C) ((zw_wI c a C.length v).1 a) := ⟨zw_wI_eq, zk_congr (fun j hj => zw_wI_at (by omega)) h⟩
theorem nI_d1 (n : Nat) : nI (n + 1) - 1 = nI n := nI_sub (a := n + 1) (b := 1) (by omega)
def zx_G (c0 x : zw_Ct) : Prop := (∀ k, k ≠ 40 → k ≠ 42 → k ≠ 43 → k ≠ 44 → x.1 k = c0.1 k) ∧ (∀ j, j ≠ 3 → j ≠ 5 → j ≠ 7 → j ≠ 8 → j ≠ 9 → x.1 40 j = c0.1 40 j) ∧ x.2 = c0.2
theorem zx_G.w40 {c0 x : zw_Ct} (h : zx_G c0 x) {i : Nat} {v : Int32} (hi : i = 3 ∨ i = 5 ∨ i = 7 ∨ i = 8 ∨ i = 9) : zx_G c0 (zw_wI x 40 i v) := ⟨fun k a b d e => (zw_wI_ne a).trans (h.1 k a b d e), fun j a b d e f => (zw_wI_at (by rcases hi with rfl | rfl | rfl | rfl | rfl <;> assumption)).trans (h.2.1 j a b d e f), h.2.2⟩
theorem zx_G.wA {c0 x : zw_Ct} (h : zx_G c0 x) {a i : Nat} {v : Int32} (ha : a = 42 ∨ a = 43 ∨ a = 44) : zx_G c0 (zw_wI x a i v) := ⟨fun k q1 q2 q3 q4 => (zw_wI_ne (by rcases ha with rfl | rfl | rfl <;> assumption)).trans (h.1 k q1 q2 q3 q4), fun j q1 q2 q3 q4 q5 => by
  rw [zw_wI_ne (by rcases ha with rfl | rfl | rfl <;> decide)]; exact h.2.1 j q1 q2 q3 q4 q5, h.2.2⟩
/-- the machine's state: the code C and the waiting signs W (both last first), depth, digits, a thing is wanted, compared -/
def zx_M (c0 : zw_Ct) (C W : List Int32) (d g : Nat) (wt : Int32) (m : Nat → Int32) (x : zw_Ct) : Prop := zx_G c0 x ∧ x.1 40 3 = nI C.length ∧ zk C (x.1 42) ∧ x.1 40 5 = nI W.length ∧ zk W (x.1 43) ∧ x.1 40 7 = nI d ∧ x.1 40 8 = nI g ∧ x.1 40 9 = wt ∧ ∀ j, j ≤ d → x.1 44 j = m j
theorem zx_M.write {c0 x : zw_Ct} {C W : List Int32} {d g : Nat} {wt v : Int32} {m : Nat → Int32} (h : zx_M c0 C W d g wt m x) (hC : C.length < 60) : ∃ x', fn_Text_write x v = some x' ∧ zx_M c0 (v :: C) W d g wt m x' := by
  obtain ⟨h1, h2, h3, h4, h5, h6, h7, h8, h9⟩ := h
  refine ⟨zw_wI (zw_wI x 42 C.length v) 40 3 (nI (C.length + 1)), ?_, (h1.wA (Or.inl rfl)).w40 (Or.inl rfl), zw_wI_eq, ?_, ?_, ?_, ?_, ?_, ?_, ?_⟩
  · unfold fn_Text_write
    rw [h2, if_pos (nI_ltl 60 (n := 60) rfl hC (by omega)), zp_uI hC (by omega), zp_bs, zp_bs, zp_bs, zw_wI_ne (by decide), h2, nI_1]
  · rw [zw_wI_ne (by decide)]; exact zk_push h3
  · rw [zw_wI_at (by decide), zw_wI_ne (by decide)]; exact h4
  · rw [zw_wI_ne (by decide), zw_wI_ne (by decide)]; exact h5
  · rw [zw_wI_at (by decide), zw_wI_ne (by decide)]; exact h6
  · rw [zw_wI_at (by decide), zw_wI_ne (by decide)]; exact h7
  · rw [zw_wI_at (by decide), zw_wI_ne (by decide)]; exact h8
  · intro j hj; rw [zw_wI_ne (by decide), zw_wI_ne (by decide)]; exact h9 j hj
theorem zx_M.hold {c0 x : zw_Ct} {C W : List Int32} {d g : Nat} {wt s : Int32} {m : Nat → Int32} (h : zx_M c0 C W d g wt m x) (hW : W.length < 60) : ∃ x', fn_Text_hold x s = some x' ∧ zx_M c0 C (s :: W) d g wt m x' := by
  obtain ⟨h1, h2, h3, h4, h5, h6, h7, h8, h9⟩ := h
  refine ⟨zw_wI (zw_wI x 43 W.length s) 40 5 (nI (W.length + 1)), ?_, (h1.wA (Or.inr (Or.inl rfl))).w40 (Or.inr (Or.inl rfl)), ?_, ?_, zw_wI_eq, ?_, ?_, ?_, ?_, ?_⟩
  · unfold fn_Text_hold
    rw [h4, if_pos (nI_ltl 60 (n := 60) rfl hW (by omega)), zp_uI hW (by omega), zp_bs, zp_bs, zp_bs, zw_wI_ne (by decide), h4, nI_1]
  · rw [zw_wI_at (by decide), zw_wI_ne (by decide)]; exact h2
  · rw [zw_wI_ne (by decide), zw_wI_ne (by decide)]; exact h3
  · rw [zw_wI_ne (by decide)]; exact zk_push h5
  · rw [zw_wI_at (by decide), zw_wI_ne (by decide)]; exact h6
  · rw [zw_wI_at (by decide), zw_wI_ne (by decide)]; exact h7
  · rw [zw_wI_at (by decide), zw_wI_ne (by decide)]; exact h8
  · intro j hj; rw [zw_wI_ne (by decide), zw_wI_ne (by decide)]; exact h9 j hj
theorem zx_M.set8 {c0 x : zw_Ct} {C W : List Int32} {d g : Nat} {wt : Int32} {m : Nat → Int32} (h : zx_M c0 C W d g wt m x) (g' : Nat) : zx_M c0 C W d g' wt m (zw_wI x 40 8 (nI g')) := by
  obtain ⟨h1, h2, h3, h4, h5, h6, h7, h8, h9⟩ := h
  exact ⟨h1.w40 (by decide), (zw_wI_at (by decide)).trans h2, by rw [zw_wI_ne (by decide)]; exact h3, (zw_wI_at (by decide)).trans h4, by rw [zw_wI_ne (by decide)]; exact h5, (zw_wI_at (by decide)).trans h6, zw_wI_eq, (zw_wI_at (by decide)).trans h8, fun j hj => by rw [zw_wI_ne (by decide)]; exact h9 j hj⟩
theorem zx_M.set9 {c0 x : zw_Ct} {C W : List Int32} {d g : Nat} {wt : Int32} {m : Nat → Int32} (h : zx_M c0 C W d g wt m x) (w : Int32) : zx_M c0 C W d g w m (zw_wI x 40 9 w) := by
  obtain ⟨h1, h2, h3, h4, h5, h6, h7, h8, h9⟩ := h
  exact ⟨h1.w40 (by decide), (zw_wI_at (by decide)).trans h2, by rw [zw_wI_ne (by decide)]; exact h3, (zw_wI_at (by decide)).trans h4, by rw [zw_wI_ne (by decide)]; exact h5, (zw_wI_at (by decide)).trans h6, (zw_wI_at (by decide)).trans h7, zw_wI_eq, fun j hj => by rw [zw_wI_ne (by decide)]; exact h9 j hj⟩
theorem zx_M.pop {c0 x : zw_Ct} {C W : List Int32} {w : Int32} {d g : Nat} {wt : Int32} {m : Nat → Int32} (h : zx_M c0 C (w :: W) d g wt m x) : zx_M c0 C W d g wt m (zw_wI x 40 5 (nI W.length)) := by
  obtain ⟨h1, h2, h3, h4, h5, h6, h7, h8, h9⟩ := h
  exact ⟨h1.w40 (by decide), (zw_wI_at (by decide)).trans h2, by rw [zw_wI_ne (by decide)]; exact h3, zw_wI_eq, by rw [zw_wI_ne (by decide)]; exact h5.2, (zw_wI_at (by decide)).trans h6, (zw_wI_at (by decide)).trans h7, (zw_wI_at (by decide)).trans h8, fun j hj => by rw [zw_wI_ne (by decide)]; exact h9 j hj⟩
theorem zx_M.rel {c0 : zw_Ct} {W : List Int32} {d g : Nat} {wt b : Int32} {m : Nat → Int32} (hW : ∀ w t, W = w :: t → ¬ b ≤ fn_Text_bond w) : ∀ (P C : List Int32) (x : zw_Ct) (N : Nat), (∀ w ∈ P, b ≤ fn_Text_bond w) → C.length + P.length ≤ 60 → P.length + W.length ≤ 60 → P.length < N → zx_M c0 C (P ++ W) d g wt m x → ∃ x', zw_whl (fn_Text_release_l1 b) N x = some x' ∧ zx_M c0 ((P.map (fun w => 20000 + w)).reverse ++ C) W d g wt m x' := by
  intro P
  induction P with
  | nil =>
    intro C x N _ _ hl hN h
    cases N with
    | zero => exact absurd hN (Nat.not_lt_zero _)
    | succ N =>
      refine ⟨x, ?_, h⟩
      have key : fn_Text_release_l1 b x = some (.inl x) := by
        obtain ⟨h1, h2, h3, h4, h5, h6, h7, h8, h9⟩ := h
        unfold fn_Text_release_l1
        cases W with
        | nil =>
          have h4' : x.1 40 5 = 0 := h4
          rw [h4', if_neg (by decide), zp_bs, if_neg (by decide)]
        | cons w t =>
          have h4' : x.1 40 5 = nI (t.length + 1) := h4
          have ht : t.length < 60 := by simp only [List.length_cons, List.length_nil] at hl; omega
          have h5' : x.1 43 t.length = w := h5.1
          rw [h4', if_pos (show (0 : Int32) < nI (t.length + 1) from nI_lt (show 0 < t.length + 1 by omega) (by omega)), nI_d1, zp_aI ht (by omega), zp_bs, h5', zp_bs, if_neg (fun q => hW w t rfl (of_decide_eq_true q))]
      show (fn_Text_release_l1 b x).bind _ = _
      rw [key]
      rfl
  | cons w P ih =>
    intro C x N hP hC hl hN h
    simp only [List.length_cons] at hC hl hN
    cases N with
    | zero => exact absurd hN (Nat.not_lt_zero _)
    | succ N =>
      obtain ⟨x1, a1, a2⟩ := h.write (v := 20000 + w) (by omega)
      have a3 : zx_M c0 ((20000 + w) :: C) (P ++ W) d g wt m (zw_wI x1 40 5 (nI (P ++ W).length)) := zx_M.pop (w := w) a2
      obtain ⟨x', b1, b2⟩ := ih ((20000 + w) :: C) _ N (fun v hv => hP v (List.mem_cons_of_mem _ hv)) (by simp only [List.length_cons]; omega) (by omega) (by omega) a3
      refine ⟨x', ?_, by
        have e : ((w :: P).map (fun w => 20000 + w)).reverse ++ C = (P.map (fun w => 20000 + w)).reverse ++ ((20000 + w) :: C) := by
          rw [List.map_cons, List.reverse_cons, List.append_assoc]; rfl
        rw [e]; exact b2⟩
      have key : fn_Text_release_l1 b x = some (.inr (zw_wI x1 40 5 (nI (P ++ W).length))) := by
        have h4 : x.1 40 5 = nI ((P ++ W).length + 1) := h.2.2.2.1
        have h5 : x.1 43 (P ++ W).length = w := h.2.2.2.2.1.1
        have h4' : x1.1 40 5 = nI ((P ++ W).length + 1) := a2.2.2.2.1
        have hq : (P ++ W).length < 60 := by rw [List.length_append]; omega
        unfold fn_Text_release_l1
        rw [h4, if_pos (show (0 : Int32) < nI ((P ++ W).length + 1) from nI_lt (show 0 < (P ++ W).length + 1 by omega) (by omega)), nI_d1, zp_aI hq (by omega), zp_bs, h5, zp_bs, if_pos (decide_eq_true (hP w (List.mem_cons_self ..))), zp_bs, a1, zp_bs, zp_bs, h4', nI_d1]
      show (fn_Text_release_l1 b x).bind _ = _
      rw [key]
      exact b1
theorem zx_M.release {c0 x : zw_Ct} {P C W : List Int32} {d g : Nat} {wt b : Int32} {m : Nat → Int32} (h : zx_M c0 C (P ++ W) d g wt m x) (hW : ∀ w t, W = w :: t → ¬ b ≤ fn_Text_bond w) (hP : ∀ w ∈ P, b ≤ fn_Text_bond w) (hC : C.length + P.length ≤ 60) (hl : P.length + W.length ≤ 60) : ∃ x', fn_Text_release x b = some x' ∧ zx_M c0 ((P.map (fun w => 20000 + w)).reverse ++ C) W d g wt m x' := by
  obtain ⟨x', a1, a2⟩ := zx_M.rel hW P C x zw_F hP hC hl (by unfold zw_F; omega) h
  exact ⟨x', by unfold fn_Text_release; rw [a1, zp_bs], a2⟩
/-- the text as the class has it: h up to en, nothing after -/
def zx_U (c0 : zw_Ct) (en : Nat) (h : Nat → Int32) : Prop := (∀ p, p < en → c0.1 41 p = h p ∧ ∃ u : Nat, u < 256 ∧ h p = nI u) ∧ (∀ p, en ≤ p → h p = -1) ∧ en ≤ 60
theorem zx_U.lt {c0 : zw_Ct} {en p : Nat} {h : Nat → Int32} (hU : zx_U c0 en h) (hp : h p ≠ -1) : p < en := by
  by_cases q : p < en
  · exact q
  · exact absurd (hU.2.1 p (by omega)) hp
theorem zx_fT {c0 x x' : zw_Ct} {en p : Nat} {v : Int32} {h : Nat → Int32} (hU : zx_U c0 en h) (hp : p < en) (hG : zx_G c0 x) (h9 : x.1 40 9 = 1) (ht : fn_Text_takesThing x (h p) = some (v, x')) : fn_Text_firstWrong_l1 (nI en) (nI p, x) = if v = 0 then some (.inl (.inl (nI p, x'))) else some (.inr (nI (p + 1), x')) := by
  have h60 := hU.2.2
  unfold fn_Text_firstWrong_l1
  dsimp only
  rw [if_pos (nI_lt hp (by omega)), h9, if_pos (by decide), zp_aI (by omega) (by omega), zp_bs, hG.1 41 (by decide) (by decide) (by decide) (by decide), (hU.1 p hp).1, ht, zp_bs]
  dsimp only
  rw [zp_bs]
  dsimp only
  by_cases hv : v = 0
  · rw [if_pos (fun q => q hv), if_pos hv]
  · rw [if_neg (fun q => q hv), if_neg hv, nI_1]
theorem zx_fJ {c0 x x' : zw_Ct} {en p : Nat} {v : Int32} {h : Nat → Int32} (hU : zx_U c0 en h) (hp : p < en) (hG : zx_G c0 x) (h9 : x.1 40 9 = 0) (ht : fn_Text_takesJoin x (h p) = some (v, x')) : fn_Text_firstWrong_l1 (nI en) (nI p, x) = if v = 0 then some (.inl (.inl (nI p, x'))) else some (.inr (nI (p + 1), x')) := by
  have h60 := hU.2.2
  unfold fn_Text_firstWrong_l1
  dsimp only
  rw [if_pos (nI_lt hp (by omega)), h9, if_neg (by decide), zp_aI (by omega) (by omega), zp_bs, hG.1 41 (by decide) (by decide) (by decide) (by decide), (hU.1 p hp).1, ht, zp_bs]
  dsimp only
  rw [zp_bs]
  dsimp only
  by_cases hv : v = 0
  · rw [if_pos (fun q => q hv), if_pos hv]
  · rw [if_neg (fun q => q hv), if_neg hv, nI_1]
def zx_go (en p : Nat) (x : zw_Ct) (q : Nat) (x' : zw_Ct) : Prop := p ≤ q ∧ ∀ F y, zw_whl (fn_Text_firstWrong_l1 (nI en)) F (nI q, x') = some y → zw_whl (fn_Text_firstWrong_l1 (nI en)) (F + (q - p)) (nI p, x) = some y
theorem zx_go.refl (en p : Nat) (x : zw_Ct) : zx_go en p x p x := ⟨Nat.le_refl _, fun F y h => by rw [Nat.sub_self, Nat.add_zero]; exact h⟩
theorem zx_go.one {en p : Nat} {x x' : zw_Ct} (h : fn_Text_firstWrong_l1 (nI en) (nI p, x) = some (.inr (nI (p + 1), x'))) : zx_go en p x (p + 1) x' := ⟨by omega, fun F y hy => by
  rw [show F + (p + 1 - p) = F + 1 by omega]
  show (fn_Text_firstWrong_l1 (nI en) (nI p, x)).bind _ = _
  rw [h]
  exact hy⟩
theorem zx_go.trans {en p q r : Nat} {x y z : zw_Ct} (h1 : zx_go en p x q y) (h2 : zx_go en q y r z) : zx_go en p x r z := ⟨Nat.le_trans h1.1 h2.1, fun F w hw => by
  have a := h1.1
  have b := h2.1
  have := h1.2 _ _ (h2.2 F w hw)
  rw [show F + (r - q) + (q - p) = F + (r - p) by omega] at this
  exact this⟩
/-- the class is wrong at q -/
def zx_no (c0 : zw_Ct) (en p : Nat) (x : zw_Ct) (q : Nat) : Prop := ∃ x', zx_go en p x q x' ∧ zx_G c0 x' ∧ ((q < en ∧ ∃ x'', fn_Text_firstWrong_l1 (nI en) (nI q, x') = some (.inl (.inl (nI q, x''))) ∧ zx_G c0 x'') ∨ (q = en ∧ (¬ x'.1 40 9 = 0 ∨ 0 < x'.1 40 7)))
theorem zx_no.after {c0 x y : zw_Ct} {en p q r : Nat} (h1 : zx_go en p x q y) (h2 : zx_no c0 en q y r) : zx_no c0 en p x r := by
  obtain ⟨x', a, b⟩ := h2
  exact ⟨x', h1.trans a, b⟩
theorem zx_bz0 : zw_bz 0 = some 0 := by unfold zw_bz; rw [if_pos (Or.inl rfl)]
theorem zx_bz1 : zw_bz 1 = some 1 := by unfold zw_bz; rw [if_pos (Or.inr rfl)]
/-- a thing begins: - -/
theorem zx_neg {c0 x : zw_Ct} {C W : List Int32} {en p d g : Nat} {m h : Nat → Int32} (hU : zx_U c0 en h) (hp : p < en) (hl : C.length + W.length ≤ p) (hM : zx_M c0 C W d g 1 m x) (hs : h p = 45) : ∃ x', zx_go en p x (p + 1) x' ∧ zx_M c0 C (256 :: W) d g 1 m x' := by
  have h60 := hU.2.2
  obtain ⟨x', a1, a2⟩ := hM.hold (s := 256) (by omega)
  refine ⟨x', zx_go.one ?_, a2⟩
  rw [zx_fT hU hp hM.1 hM.2.2.2.2.2.2.2.1 (v := 1) (x' := x') (by unfold fn_Text_takesThing; rw [hs, if_pos rfl, a1, zp_bs]), if_neg (by decide)]
/-- a thing begins: ( -/
theorem zx_open {c0 x : zw_Ct} {C W : List Int32} {en p d g : Nat} {m h : Nat → Int32} (hU : zx_U c0 en h) (hp : p < en) (hl : C.length + W.length ≤ p) (hM : zx_M c0 C W d g 1 m x) (hs : h p = 40) (hd : d < 5) : ∃ x', zx_go en p x (p + 1) x' ∧ zx_M c0 C (40 :: W) (d + 1) g 1 (fun j => if j = d + 1 then 0 else m j) x' := by
  have h60 := hU.2.2
  have hM2 : zx_M c0 C W (d + 1) g 1 (fun j => if j = d + 1 then 0 else m j) (zw_wI (zw_wI x 40 7 (nI (d + 1))) 44 (d + 1) 0) := by
    obtain ⟨h1, h2, h3, h4, h5, h6, h7, h8, h9⟩ := hM
    refine ⟨(h1.w40 (by decide)).wA (by decide), ?_, ?_, ?_, ?_, ?_, ?_, ?_, ?_⟩
    · rw [zw_wI_ne (by decide), zw_wI_at (by decide)]; exact h2
    · rw [zw_wI_ne (by decide), zw_wI_ne (by decide)]; exact h3
    · rw [zw_wI_ne (by decide), zw_wI_at (by decide)]; exact h4
    · rw [zw_wI_ne (by decide), zw_wI_ne (by decide)]; exact h5
    · rw [zw_wI_ne (by decide), zw_wI_eq]
    · rw [zw_wI_ne (by decide), zw_wI_at (by decide)]; exact h7
    · rw [zw_wI_ne (by decide), zw_wI_at (by decide)]; exact h8
    · intro j hj
      dsimp only
      by_cases e : j = d + 1
      · rw [if_pos e, e, zw_wI_eq]
      · rw [if_neg e, zw_wI_at e, zw_wI_ne (by decide)]; exact h9 j (by omega)
  obtain ⟨x', a1, a2⟩ := hM2.hold (s := 40) (by omega)
  refine ⟨x', zx_go.one ?_, a2⟩
  have h7 := hM.2.2.2.2.2.1
  have ho : fn_Text_opens x = some (1, x') := by
    unfold fn_Text_opens
    rw [h7, if_neg (show ¬ (5 : Int32) ≤ nI d from fun q => by have := (nI_leI (a := 5) (b := d) (by omega) (by omega)).mp q; omega), zp_bs, nI_1, zw_wI_eq, zp_uI (by omega) (by omega), zp_bs, a1, zp_bs]
  rw [zx_fT hU hp hM.1 hM.2.2.2.2.2.2.2.1 (v := 1) (x' := x') (by
    unfold fn_Text_takesThing
    rw [hs, if_neg (by decide), if_pos rfl, ho, zp_bs]
    dsimp only
    rw [zx_bz1, zp_bs]), if_neg (by decide)]
theorem zx_u16 : ∀ u, u < 256 → ((nI u).toUInt32 % 65536).toInt32 = nI u := by decide +kernel
theorem zx_i16 {c0 : zw_Ct} {en p : Nat} {h : Nat → Int32} (hU : zx_U c0 en h) (hp : p < en) : ((h p).toUInt32 % 65536).toInt32 = h p := by
  obtain ⟨u, h1, h2⟩ := (hU.1 p hp).2
  rw [h2, zx_u16 u h1]
/-- a thing begins: a digit -/
theorem zx_dig {c0 x : zw_Ct} {C W : List Int32} {en p d g : Nat} {m h : Nat → Int32} (hU : zx_U c0 en h) (hp : p < en) (hl : C.length + W.length ≤ p) (hM : zx_M c0 C W d g 1 m x) (hs : 48 ≤ h p ∧ h p ≤ 57) : ∃ x', zx_go en p x (p + 1) x' ∧ zx_M c0 ((h p - 48) :: C) W d 1 0 m x' := by
  have h60 := hU.2.2
  obtain ⟨x1, a1, a2⟩ := hM.write (v := h p - 48) (by omega)
  refine ⟨_, zx_go.one ?_, (a2.set8 1).set9 0⟩
  have hd : fn_Text_isDigit (h p) = 1 := by unfold fn_Text_isDigit; rw [if_pos hs]
  rw [zx_fT hU hp hM.1 hM.2.2.2.2.2.2.2.1 (v := 1) (x' := zw_wI (zw_wI x1 40 8 (nI 1)) 40 9 0) (by
    unfold fn_Text_takesThing
    rw [if_neg (fun e => by rw [e] at hs; exact absurd hs.1 (by decide)), if_neg (fun e => by rw [e] at hs; exact absurd hs.1 (by decide)), hd, zp_bs, zp_bs, if_neg (fun q => q.1 (by decide)), if_pos (by decide), if_pos (by decide), a1, zp_bs, zp_bs, zp_bs]
    rfl), if_neg (by decide)]
/-- a thing begins: a letter -/
theorem zx_let {c0 x : zw_Ct} {C W : List Int32} {en p d g : Nat} {m h : Nat → Int32} (hU : zx_U c0 en h) (hp : p < en) (hl : C.length + W.length ≤ p) (hM : zx_M c0 C W d g 1 m x) (h45 : ¬ h p = 45) (h40 : ¬ h p = 40) (hs : ¬ (48 ≤ h p ∧ h p ≤ 57)) (hi : 0 ≤ fn_ix (h p)) : ∃ x', zx_go en p x (p + 1) x' ∧ zx_M c0 ((10000 + fn_ix (h p)) :: C) W d 0 0 m x' := by
  have h60 := hU.2.2
  obtain ⟨x1, a1, a2⟩ := hM.write (v := 10000 + fn_ix (h p)) (by omega)
  refine ⟨_, zx_go.one ?_, (a2.set8 0).set9 0⟩
  have hd : fn_Text_isDigit (h p) = 0 := by unfold fn_Text_isDigit; rw [if_neg hs]
  rw [zx_fT hU hp hM.1 hM.2.2.2.2.2.2.2.1 (v := 1) (x' := zw_wI (zw_wI x1 40 8 (nI 0)) 40 9 0) (by
    unfold fn_Text_takesThing
    rw [if_neg h45, if_neg h40, hd, zp_bs, zx_i16 hU hp, zp_bs, if_neg (fun q => absurd q.2 (Int32.not_lt.mpr hi)), if_neg (by decide), if_neg (by decide), a1, zp_bs, zp_bs, zp_bs]
    rfl), if_neg (by decide)]
/-- no thing -/
theorem zx_rejT {c0 x : zw_Ct} {C W : List Int32} {en p d g : Nat} {m h : Nat → Int32} (hU : zx_U c0 en h) (hp : p ≤ en) (hd5 : d ≤ 5) (hM : zx_M c0 C W d g 1 m x) (h45 : ¬ h p = 45) (h40 : ¬ (h p = 40 ∧ d < 5)) (hs : ¬ (48 ≤ h p ∧ h p ≤ 57)) (hi : ¬ 0 ≤ fn_ix (h p)) : zx_no c0 en p x p := by
  have h60 := hU.2.2
  refine ⟨x, zx_go.refl en p x, hM.1, ?_⟩
  by_cases hq : p < en
  · refine Or.inl ⟨hq, x, ?_, hM.1⟩
    have hd : fn_Text_isDigit (h p) = 0 := by unfold fn_Text_isDigit; rw [if_neg hs]
    rw [zx_fT hU hq hM.1 hM.2.2.2.2.2.2.2.1 (v := 0) (x' := x) (by
      unfold fn_Text_takesThing
      rw [if_neg h45]
      by_cases e : h p = 40
      · have h5 : d = 5 := by
          by_cases q : d < 5
          · exact absurd ⟨e, q⟩ h40
          · omega
        have ho : fn_Text_opens x = some (0, x) := by
          unfold fn_Text_opens
          rw [hM.2.2.2.2.2.1, h5, if_pos (by decide)]
        rw [if_pos e, ho, zp_bs]
        dsimp only
        rw [zx_bz0, zp_bs]
      · rw [if_neg e, hd, zp_bs, zx_i16 hU hq, zp_bs, if_pos ⟨fun q => q rfl, Int32.not_le.mp hi⟩]), if_pos rfl]
  · exact Or.inr ⟨by omega, Or.inl (by rw [hM.2.2.2.2.2.2.2.1]; decide)⟩
/-- further digits -/
theorem zx_num {c0 : zw_Ct} {C W : List Int32} {en d : Nat} {m h : Nat → Int32} (hU : zx_U c0 en h) : ∀ (k p : Nat) (v : Int32) (x : zw_Ct), k ≤ 3 → C.length + 1 + W.length ≤ p → p ≤ en → zx_M c0 (v :: C) W d (4 - k) 0 m x → ∃ x' g, zx_go en p x (zt_num h k v p).2 x' ∧ zx_M c0 ((zt_num h k v p).1 :: C) W d g 0 m x' ∧ ((48 ≤ h (zt_num h k v p).2 ∧ h (zt_num h k v p).2 ≤ 57) → g = 4) ∧ (zt_num h k v p).2 ≤ en := by
  intro k
  induction k with
  | zero => intro p v x hk hl hp hM; exact ⟨x, 4, zx_go.refl en p x, hM, fun _ => rfl, hp⟩
  | succ k ih =>
    intro p v x hk hl hp hM
    have h60 := hU.2.2
    by_cases hd : 48 ≤ h p ∧ h p ≤ 57
    · have e : zt_num h (k + 1) v p = zt_num h k (10 * v + h p - 48) (p + 1) := by
        show (if 48 ≤ h p ∧ h p ≤ 57 then _ else _) = _
        rw [if_pos hd]
      have hpe : p < en := hU.lt (fun e => by rw [e] at hd; exact absurd hd.1 (by decide))
      have hg : x.1 40 8 = nI (4 - (k + 1)) := hM.2.2.2.2.2.2.1
      have h3 : x.1 40 3 = nI (C.length + 1) := hM.2.1
      have hv : x.1 42 C.length = v := hM.2.2.1.1
      have hM1 : zx_M c0 ((10 * v + h p - 48) :: C) W d (4 - k) 0 m (zw_wI (zw_wI x 42 C.length (10 * v + h p - 48)) 40 8 (nI (4 - k))) := by
        refine zx_M.set8 (g := 4 - (k + 1)) ?_ _
        obtain ⟨q1, q2, q3, q4, q5, q6, q7, q8, q9⟩ := hM
        exact ⟨q1.wA (by decide), by rw [zw_wI_ne (by decide)]; exact q2, zk_push q3.2, by rw [zw_wI_ne (by decide)]; exact q4, by rw [zw_wI_ne (by decide)]; exact q5, by rw [zw_wI_ne (by decide)]; exact q6, by rw [zw_wI_ne (by decide)]; exact q7, by rw [zw_wI_ne (by decide)]; exact q8, fun j hj => by rw [zw_wI_ne (by decide)]; exact q9 j hj⟩
      have key : zx_go en p x (p + 1) (zw_wI (zw_wI x 42 C.length (10 * v + h p - 48)) 40 8 (nI (4 - k))) := by
        refine zx_go.one ?_
        rw [zx_fJ hU hpe hM.1 hM.2.2.2.2.2.2.2.1 (v := 1) (x' := zw_wI (zw_wI x 42 C.length (10 * v + h p - 48)) 40 8 (nI (4 - k))) (by
          have hi : fn_Text_isDigit (h p) = 1 := by unfold fn_Text_isDigit; rw [if_pos hd]
          have hgo : fn_Text_goesOn x (h p) = some (1, zw_wI (zw_wI x 42 C.length (10 * v + h p - 48)) 40 8 (nI (4 - k))) := by
            unfold fn_Text_goesOn
            rw [hg, h3, if_neg (by
              intro q
              rcases q with (q | q) | q
              · have := (nI_eq (a := 4 - (k + 1)) (b := 0) (by omega) (by omega)).mp q; omega
              · have := (nI_leI (a := 4) (b := 4 - (k + 1)) (by omega) (by omega)).mp q; omega
              · have := (nI_eq (a := C.length + 1) (b := 0) (by omega) (by omega)).mp q; omega), nI_d1, zp_aI (by omega) (by omega), zp_bs, hv, Int32.mul_comm v 10, zp_uI (by omega) (by omega), zp_bs, zw_wI_ne (by decide), hg, nI_1, zp_bs, show 4 - (k + 1) + 1 = 4 - k by omega]
          unfold fn_Text_takesJoin
          rw [hi, if_pos (by decide), hgo, zp_bs]
          dsimp only
          rw [zx_bz1, zp_bs]), if_neg (by decide)]
      obtain ⟨x', g, b1, b2, b3, b4⟩ := ih (p + 1) _ _ (by omega) (by omega) (by omega) hM1
      rw [e]
      exact ⟨x', g, key.trans b1, b2, b3, b4⟩
    · have e : zt_num h (k + 1) v p = (v, p) := by
        show (if 48 ≤ h p ∧ h p ≤ 57 then _ else _) = _
        rw [if_neg hd]
      rw [e]
      exact ⟨x, _, zx_go.refl en p x, hM, fun q => absurd q hd, hp⟩
/-- ) -/
theorem zx_close {c0 x : zw_Ct} {C P W : List Int32} {en p d g : Nat} {m h : Nat → Int32} (hU : zx_U c0 en h) (hl : C.length + (P.length + 1 + W.length) ≤ p) (hM : zx_M c0 C (P ++ (40 :: W)) (d + 1) g 0 m x) (hd : d < 5) (hP : ∀ w ∈ P, 1 ≤ fn_Text_bond w) (hs : h p = 41) : ∃ x', zx_go en p x (p + 1) x' ∧ zx_M c0 ((P.map (fun w => 20000 + w)).reverse ++ C) W d 0 0 m x' := by
  have h60 := hU.2.2
  have hp : p < en := hU.lt (by rw [hs]; decide)
  obtain ⟨x1, a1, a2⟩ := (hM.set8 0).release (b := 1) (fun w t e => by cases e; decide) hP (by omega) (by simp only [List.length_cons]; omega)
  have a3 := a2.pop
  have a4 : zx_M c0 ((P.map (fun w => 20000 + w)).reverse ++ C) W d 0 0 m (zw_wI (zw_wI x1 40 5 (nI W.length)) 40 7 (nI d)) := by
    obtain ⟨h1, h2, h3, h4, h5, h6, h7, h8, h9⟩ := a3
    exact ⟨h1.w40 (by decide), (zw_wI_at (by decide)).trans h2, by rw [zw_wI_ne (by decide)]; exact h3, (zw_wI_at (by decide)).trans h4, by rw [zw_wI_ne (by decide)]; exact h5, zw_wI_eq, (zw_wI_at (by decide)).trans h7, (zw_wI_at (by decide)).trans h8, fun j hj => by rw [zw_wI_ne (by decide)]; exact h9 j (by omega)⟩
  refine ⟨_, zx_go.one ?_, a4⟩
  rw [zx_fJ hU hp hM.1 hM.2.2.2.2.2.2.2.1 (v := 1) (x' := zw_wI (zw_wI x1 40 5 (nI W.length)) 40 7 (nI d)) (by
    have h5 : x1.1 40 5 = nI (W.length + 1) := a2.2.2.2.1
    have h7 : (zw_wI x1 40 5 (nI W.length)).1 40 7 = nI (d + 1) := a3.2.2.2.2.2.1
    have hc : fn_Text_closes (zw_wI x 40 8 0) = some (1, zw_wI (zw_wI x1 40 5 (nI W.length)) 40 7 (nI d)) := by
      unfold fn_Text_closes
      have a1' : fn_Text_release (zw_wI x 40 8 0) 1 = some x1 := a1
      rw [zw_wI_at (by decide), hM.2.2.2.2.2.1, if_neg (fun q => by have := (nI_eq (a := d + 1) (b := 0) (by omega) (by omega)).mp q; omega), a1', zp_bs, h5, nI_d1, zp_bs, h7, nI_d1, zp_bs]
    unfold fn_Text_takesJoin
    rw [hs, if_neg (by decide), zp_bs, if_pos rfl, hc, zp_bs]
    dsimp only
    rw [zx_bz1, zp_bs]), if_neg (by decide)]
/-- a sign that joins -/
theorem zx_join {c0 x : zw_Ct} {C P W : List Int32} {en p d g k : Nat} {m h : Nat → Int32} (hU : zx_U c0 en h) (hp : p < en) (hd5 : d ≤ 5) (hl : C.length + (P.length + W.length) ≤ p) (hM : zx_M c0 C (P ++ W) d g 0 m x) (hP : ∀ w ∈ P, nI (k + 1) ≤ fn_Text_bond w) (hW : ∀ w t, W = w :: t → ¬ nI (k + 1) ≤ fn_Text_bond w) (hk : k ≤ 2) (hs : fn_Text_bond (h p) = nI (k + 1)) (h41 : ¬ h p = 41) (hdg : ¬ (48 ≤ h p ∧ h p ≤ 57)) (hm : m d = 0 ∨ m d = 1) (hm0 : k = 0 → m d = 0) : ∃ x', zx_go en p x (p + 1) x' ∧ zx_M c0 ((P.map (fun w => 20000 + w)).reverse ++ C) (h p :: W) d 0 1 (fun j => if j = d then (if k = 0 then 1 else m d) else m j) x' := by
  have h60 := hU.2.2
  have e8 : zx_M c0 C (P ++ W) d 0 0 m (zw_wI x 40 8 0) := hM.set8 0
  have e44 : zx_M c0 C (P ++ W) d 0 0 (fun j => if j = d then (if k = 0 then 1 else m d) else m j) (zw_wI (zw_wI x 40 8 0) 44 d (if k = 0 then 1 else m d)) := by
    obtain ⟨h1, h2, h3, h4, h5, h6, h7, h8, h9⟩ := e8
    refine ⟨h1.wA (by decide), by rw [zw_wI_ne (by decide)]; exact h2, by rw [zw_wI_ne (by decide)]; exact h3, by rw [zw_wI_ne (by decide)]; exact h4, by rw [zw_wI_ne (by decide)]; exact h5, by rw [zw_wI_ne (by decide)]; exact h6, by rw [zw_wI_ne (by decide)]; exact h7, by rw [zw_wI_ne (by decide)]; exact h8, fun j hj => ?_⟩
    dsimp only
    by_cases e : j = d
    · rw [if_pos e, e, zw_wI_eq]
    · rw [if_neg e, zw_wI_at e]; exact h9 j hj
  obtain ⟨x1, a1, a2⟩ := e44.release hW hP (by omega) (by omega)
  obtain ⟨x2, b1, b2⟩ := a2.hold (s := h p) (by omega)
  refine ⟨_, zx_go.one ?_, b2.set9 1⟩
  rw [zx_fJ hU hp hM.1 hM.2.2.2.2.2.2.2.1 (v := 1) (x' := zw_wI x2 40 9 1) (by
    have hi : fn_Text_isDigit (h p) = 0 := by unfold fn_Text_isDigit; rw [if_neg hdg]
    have h7 : (zw_wI x 40 8 0).1 40 7 = nI d := e8.2.2.2.2.2.1
    have h44 : (zw_wI x 40 8 0).1 44 d = m d := e8.2.2.2.2.2.2.2.2 d (Nat.le_refl _)
    unfold fn_Text_takesJoin
    rw [hi, if_neg (fun q => q rfl), zp_bs, if_neg h41, hs, zp_bs, if_neg (fun q => by have := (nI_eq (a := k + 1) (b := 0) (by omega) (by omega)).mp q; omega), h7, zp_aI (by omega) (by omega), zp_bs, zp_bs, h44]
    by_cases hk0 : k = 0
    · subst hk0
      have hm' := hm0 rfl
      rw [if_pos rfl] at a1
      rw [hm', if_pos (by decide), zp_bs, if_neg (by decide), if_pos (by decide), show zw_bz (0 ||| 1) = some 1 from zx_bz1, zp_bs, zp_uI (by omega) (by omega), zp_bs, a1, zp_bs, b1, zp_bs, zp_bs]
    · rw [if_neg hk0] at a1
      have hk1 : ¬ nI (k + 1) = 1 := fun q => by have := (nI_eq (a := k + 1) (b := 1) (by omega) (by omega)).mp q; omega
      have hz : zw_bz (m d ||| 0) = some (m d) := by
        rcases hm with e | e
        · rw [e]; exact zx_bz0
        · rw [e]; exact zx_bz1
      rw [if_neg hk1, zp_bs, if_neg (by decide), if_neg hk1, hz, zp_bs, zp_uI (by omega) (by omega), zp_bs, a1, zp_bs, b1, zp_bs, zp_bs]), if_neg (by decide)]
