/-! the Model's reading of a text: places and code as zt_pp tells, the value as the code reckons (by program: wip/whole/gen/read.py) -/
theorem ze_app (th : Nat → Int32) (X Y : List Int32) (st : List Int32) : ze_run th (X ++ Y) st = ze_run th Y (ze_run th X st) := by
  unfold ze_run; rw [List.foldl_append]
theorem ze_one (th : Nat → Int32) (x : Int32) (st : List Int32) : ze_run th [x] st = ze_step th x st := rfl
def zg_G (c0 c : zw_Ct) : Prop := (∀ k, k ≠ 71 → c.1 k = c0.1 k) ∧ (∀ j, j ≠ 17 → j ≠ 18 → c.1 71 j = c0.1 71 j) ∧ c.2 = c0.2
def zg_C (c0 : zw_Ct) (p : Nat) (c : zw_Ct) : Prop := zg_G c0 c ∧ c.1 71 17 = nI p ∧ c.1 71 18 = -1 ∧ p ≤ 60
def zg_S (c0 : zw_Ct) (th : Nat → Int32) (r : List Int32 × Nat × Bool) (v : Int32) (c : zw_Ct) : Prop := zg_G c0 c ∧ c.1 71 17 = nI r.2.1 ∧ c.1 71 18 = (if r.2.2 = true then -1 else nI r.2.1) ∧ r.2.1 ≤ 60 ∧ (r.2.2 = true → ∀ st, ze_run th r.1 st = v :: st)
theorem zg_S.C {c0 c : zw_Ct} {th : Nat → Int32} {r : List Int32 × Nat × Bool} {v : Int32} (h : zg_S c0 th r v c) (hr : r.2.2 = true) : zg_C c0 r.2.1 c := ⟨h.1, h.2.1, by rw [h.2.2.1, if_pos hr], h.2.2.2.1⟩
theorem zg_C.at {c0 c : zw_Ct} {p q : Nat} (h : zg_C c0 p c) (hq : q ≤ 60) : zg_C c0 q (zw_wI c 71 17 (nI q)) := ⟨⟨fun k hk => (zw_wI_ne hk).trans (h.1.1 k hk), fun j j1 j2 => (zw_wI_at j1).trans (h.1.2.1 j j1 j2), h.1.2.2⟩, zw_wI_eq, (zw_wI_at (by decide)).trans h.2.2.1, hq⟩
/-- the text that is read: cell rd, sz signs -/
def zg_T (rd sz : Nat) (c0 : zw_Ct) : Prop := 0 < rd ∧ rd < 200 ∧ (∃ len, zw_len SH 2 rd = some len ∧ sz ≤ len ∧ len < 1000) ∧ c0.1 71 15 = nI rd ∧ c0.1 71 16 = nI sz
theorem zg_fine {c0 c : zw_Ct} {p : Nat} (h : zg_C c0 p c) : fn_M_fine c = 1 := by unfold fn_M_fine; rw [if_pos h.2.2.1]
theorem zg_here {rd sz p : Nat} {c0 c : zw_Ct} (hT : zg_T rd sz c0) (h : zg_C c0 p c) : fn_M_here c = some (zt_h (c0.1 rd) sz p) := by
  obtain ⟨t1, t2, ⟨len, t3, t4, t5⟩, t6, t7⟩ := hT
  obtain ⟨⟨g1, g2, g3⟩, h1, h2, h3⟩ := h
  unfold fn_M_here zt_h
  rw [h1, g2 16 (by decide) (by decide), g2 15 (by decide) (by decide), t6, t7]
  by_cases hc : p < sz ∧ p < 60
  · have e60 : nI p < 60 := nI_ltl 60 (n := 60) rfl hc.2 (by omega)
    rw [if_pos ⟨nI_lt hc.1 (by omega), e60⟩, if_pos hc, if_neg (nI_nle t1 (by omega)), zp_bs, nI_clamp (by omega), zp_dI t3 (by omega) (by omega), zp_bs, zp_bs, g1 rd (by
      intro e
      rw [e, show zw_len SH 2 71 = none from rfl] at t3
      cases t3)]
  · rw [if_neg (fun q => hc ⟨(nI_ltI (by omega) (by omega)).mp q.1, (nI_ltI (b := 60) (by omega) (by omega)).mp q.2⟩), if_neg hc, zp_bs]
theorem zg_h_lt {tx : Nat → Int32} {sz p : Nat} (h : zt_h tx sz p ≠ -1) : p < 60 := by
  unfold zt_h at h
  by_cases hc : p < sz ∧ p < 60
  · exact hc.2
  · rw [if_neg hc] at h; exact absurd rfl h
theorem zg_pass {rd sz p : Nat} {c0 c : zw_Ct} {g : Int32} (hg : g ≠ -1) (hT : zg_T rd sz c0) (h : zg_C c0 p c) : (zt_h (c0.1 rd) sz p = g ∧ ∃ c', fn_M_passes c g = some (1, c') ∧ zg_C c0 (p + 1) c') ∨ (¬ zt_h (c0.1 rd) sz p = g ∧ fn_M_passes c g = some (0, c)) := by
  unfold fn_M_passes
  rw [zg_fine h, if_neg (by decide), zg_here hT h, zp_bs]
  by_cases hc : zt_h (c0.1 rd) sz p = g
  · have hp : p < 60 := zg_h_lt (tx := c0.1 rd) (sz := sz) (by rw [hc]; exact hg)
    refine Or.inl ⟨hc, zw_wI c 71 17 (nI (p + 1)), ?_, h.at (by omega)⟩
    rw [if_neg (fun q => q hc), zp_bs, h.2.1, nI_1]
  · exact Or.inr ⟨hc, by rw [if_pos hc]⟩
theorem zg_nopass {c : zw_Ct} {p : Nat} {g : Int32} (h : c.1 71 18 = nI p) (hp : p ≤ 60) : fn_M_passes c g = some (0, c) := by
  unfold fn_M_passes fn_M_fine
  rw [h, if_neg (nI_nm1 (by omega)), if_pos (by decide)]
/-- where it is wrong, it stays -/
theorem zg_wrong {c0 c : zw_Ct} {p : Nat} {th : Nat → Int32} {X : List Int32} {v : Int32} (h : zg_C c0 p c) : ∃ c', fn_M_isWrong c = some c' ∧ zg_S c0 th (X, p, false) v c' := by
  obtain ⟨⟨g1, g2, g3⟩, h1, h2, h3⟩ := h
  refine ⟨zw_wI c 71 18 (nI p), ?_, ⟨fun k hk => (zw_wI_ne hk).trans (g1 k hk), fun j j1 j2 => (zw_wI_at j2).trans (g2 j j1 j2), g3⟩, (zw_wI_at (by decide)).trans h1, ?_, h3, fun q => by cases q⟩
  · unfold fn_M_isWrong fn_M_fine
    rw [h2, if_pos rfl, if_pos (by decide), zp_bs, zp_bs, h1]
  · rw [zw_wI_eq]; rfl
theorem zg_rec0 (n : Nat) (c : zw_Ct) (d : Int32) : fn_M_rec (n + 1) 0 c d = fn_M_held (fn_M_rec n) c d := rfl
theorem zg_rec1 (n : Nat) (c : zw_Ct) (d : Int32) : fn_M_rec (n + 1) 1 c d = fn_M_sum (fn_M_rec n) c d := rfl
theorem zg_rec2 (n : Nat) (c : zw_Ct) (d : Int32) : fn_M_rec (n + 1) 2 c d = fn_M_product (fn_M_rec n) c d := rfl
theorem zg_rec3 (n : Nat) (c : zw_Ct) (d : Int32) : fn_M_rec (n + 1) 3 c d = fn_M_thing (fn_M_rec n) c d := rfl
/-- what a reading at depth k of the grammar owes -/
def zg_R (rd sz : Nat) (c0 : zw_Ct) (th : Nat → Int32) (n k : Nat) : Prop := ∀ (d p : Nat) (c : zw_Ct), d ≤ 5 → 4 * (5 - d) + (61 - p) + (4 - k) ≤ n → zg_C c0 p c → ∃ v c', fn_M_rec n k c (nI d) = some (v, c') ∧ zg_S c0 th (zt_pp (zt_h (c0.1 rd) sz) n k d p) v c' ∧ p ≤ (zt_pp (zt_h (c0.1 rd) sz) n k d p).2.1
theorem ze_join_step {th : Nat → Int32} {g a b : Int32} {st : List Int32} (hg : g = 60 ∨ g = 62 ∨ g = 61 ∨ g = 43 ∨ g = 45 ∨ g = 42 ∨ g = 47) : ze_step th (20000 + g) (b :: a :: st) = ze_join g a b :: st := by
  unfold ze_step
  rcases hg with rfl | rfl | rfl | rfl | rfl | rfl | rfl
  all_goals (rw [if_neg (by decide), if_neg (by decide), if_neg (by decide)]; rfl)
theorem zg_sum_l {rd sz n d : Nat} {c0 : zw_Ct} {th : Nat → Int32} (hT : zg_T rd sz c0) (hd : d ≤ 5) (IH : zg_R rd sz c0 th n 2) : ∀ (m N : Nat) (r : List Int32 × Nat × Bool) (v : Int32) (c : zw_Ct), 60 - r.2.1 < m → m ≤ N → 4 * (5 - d) + (61 - r.2.1) + (4 - 2) ≤ n + 1 → zg_S c0 th r v c → ∃ v' c', zw_whl (fn_M_sum_l1 (fn_M_rec n) (nI d)) N (v, c) = some (v', c') ∧ zg_S c0 th (zt_l (fun p => zt_pp (zt_h (c0.1 rd) sz) n 2 d p) (zt_h (c0.1 rd) sz) 43 45 m r) v' c' ∧ r.2.1 ≤ (zt_l (fun p => zt_pp (zt_h (c0.1 rd) sz) n 2 d p) (zt_h (c0.1 rd) sz) 43 45 m r).2.1 := by
  intro m
  induction m with
  | zero => intro N r v c h; omega
  | succ m ih =>
    intro N r v c hm hN hn hS
    cases N with
    | zero => omega
    | succ N =>
      by_cases hr : r.2.2 = true
      · have hC := hS.C hr
        by_cases hq : zt_h (c0.1 rd) sz r.2.1 = 43 ∨ zt_h (c0.1 rd) sz r.2.1 = 45
        · have hp : r.2.1 < 60 := zg_h_lt (tx := c0.1 rd) (sz := sz) (by rcases hq with q | q <;> rw [q] <;> decide)
          obtain ⟨v2, c2, a1, a2, a3⟩ := IH d (r.2.1 + 1) _ hd (by omega) (hC.at (q := r.2.1 + 1) (by omega))
          have e : zt_l (fun p => zt_pp (zt_h (c0.1 rd) sz) n 2 d p) (zt_h (c0.1 rd) sz) 43 45 (m + 1) r = zt_l (fun p => zt_pp (zt_h (c0.1 rd) sz) n 2 d p) (zt_h (c0.1 rd) sz) 43 45 m (r.1 ++ ((zt_pp (zt_h (c0.1 rd) sz) n 2 d (r.2.1 + 1)).1 ++ [20000 + zt_h (c0.1 rd) sz r.2.1]), (zt_pp (zt_h (c0.1 rd) sz) n 2 d (r.2.1 + 1)).2) := by
            show (if r.2.2 = true ∧ (zt_h (c0.1 rd) sz r.2.1 = 43 ∨ zt_h (c0.1 rd) sz r.2.1 = 45) then _ else r) = _
            rw [if_pos ⟨hr, hq⟩]
          have hl : fn_M_sum_l1 (fn_M_rec n) (nI d) (v, c) = some (.inr (ze_join (zt_h (c0.1 rd) sz r.2.1) v v2, c2)) := by
            unfold fn_M_sum_l1
            dsimp only
            rw [zg_fine hC, if_pos (by decide), zg_here hT hC, zp_bs]
            rcases hq with q | q
            · rw [q, if_pos rfl, zp_bs, if_pos rfl, zp_bs, zp_bs, zp_bs, hC.2.1, nI_1, a1, zp_bs]
              dsimp only
              rfl
            · rw [q, if_neg (by decide), zp_bs, zp_bs, if_pos (by decide), zp_bs, zp_bs, zp_bs, hC.2.1, nI_1, a1, zp_bs]
              dsimp only
              rfl
          have hS2 : zg_S c0 th (r.1 ++ ((zt_pp (zt_h (c0.1 rd) sz) n 2 d (r.2.1 + 1)).1 ++ [20000 + zt_h (c0.1 rd) sz r.2.1]), (zt_pp (zt_h (c0.1 rd) sz) n 2 d (r.2.1 + 1)).2) (ze_join (zt_h (c0.1 rd) sz r.2.1) v v2) c2 := by
            obtain ⟨b1, b2, b3, b4, b5⟩ := a2
            refine ⟨b1, b2, b3, b4, fun hb st => ?_⟩
            dsimp only at hb ⊢
            rw [ze_app, ze_app, ze_one, hS.2.2.2.2 hr st, b5 hb, ze_join_step (by rcases hq with q | q <;> rw [q] <;> decide)]
          obtain ⟨v', c', z1, z2, z3⟩ := ih N _ _ c2 (by (try dsimp only); omega) (by omega) (by (try dsimp only); omega) hS2
          refine ⟨v', c', ?_, by rw [e]; exact z2, by rw [e]; dsimp only at z3; omega⟩
          show (fn_M_sum_l1 (fn_M_rec n) (nI d) (v, c)).bind _ = _
          rw [hl]
          exact z1
        · have e : zt_l (fun p => zt_pp (zt_h (c0.1 rd) sz) n 2 d p) (zt_h (c0.1 rd) sz) 43 45 (m + 1) r = r := by
            show (if r.2.2 = true ∧ (zt_h (c0.1 rd) sz r.2.1 = 43 ∨ zt_h (c0.1 rd) sz r.2.1 = 45) then _ else r) = r
            rw [if_neg (fun q => hq q.2)]
          refine ⟨v, c, ?_, by rw [e]; exact hS, by rw [e]; exact Nat.le_refl _⟩
          have hl : fn_M_sum_l1 (fn_M_rec n) (nI d) (v, c) = some (.inl (v, c)) := by
            unfold fn_M_sum_l1
            dsimp only
            rw [zg_fine hC, if_pos (by decide), zg_here hT hC, zp_bs, if_neg (fun q => hq (Or.inl q)), zp_bs, zp_bs, if_neg (fun q => hq (Or.inr (of_decide_eq_true q)))]
          show (fn_M_sum_l1 (fn_M_rec n) (nI d) (v, c)).bind _ = _
          rw [hl]
          rfl
      · have e : zt_l (fun p => zt_pp (zt_h (c0.1 rd) sz) n 2 d p) (zt_h (c0.1 rd) sz) 43 45 (m + 1) r = r := by
          show (if r.2.2 = true ∧ (zt_h (c0.1 rd) sz r.2.1 = 43 ∨ zt_h (c0.1 rd) sz r.2.1 = 45) then _ else r) = r
          rw [if_neg (fun q => hr q.1)]
        refine ⟨v, c, ?_, by rw [e]; exact hS, by rw [e]; exact Nat.le_refl _⟩
        have hl : fn_M_sum_l1 (fn_M_rec n) (nI d) (v, c) = some (.inl (v, c)) := by
          unfold fn_M_sum_l1 fn_M_fine
          dsimp only
          rw [hS.2.2.1, if_neg hr, if_neg (nI_nm1 (by have := hS.2.2.2.1; omega)), if_neg (by decide), zp_bs, if_neg (by decide)]
        show (fn_M_sum_l1 (fn_M_rec n) (nI d) (v, c)).bind _ = _
        rw [hl]
        rfl
theorem zg_sum {rd sz n : Nat} {c0 : zw_Ct} {th : Nat → Int32} (hT : zg_T rd sz c0) (IH : zg_R rd sz c0 th n 2) : zg_R rd sz c0 th (n + 1) 1 := by
  intro d p c hd hn hC
  obtain ⟨v1, c1, a1, a2, a3⟩ := IH d p c hd (by omega) hC
  have h60 := a2.2.2.2.1
  obtain ⟨v', c', z1, z2, z3⟩ := zg_sum_l hT hd IH 61 zw_F (zt_pp (zt_h (c0.1 rd) sz) n 2 d p) v1 c1 (by omega) (by unfold zw_F; omega) (by omega) a2
  refine ⟨v', c', ?_, z2, Nat.le_trans a3 z3⟩
  rw [zg_rec1]
  unfold fn_M_sum
  rw [a1, zp_bs]
  dsimp only
  rw [z1, zp_bs]
theorem zg_product_l {rd sz n d : Nat} {c0 : zw_Ct} {th : Nat → Int32} (hT : zg_T rd sz c0) (hd : d ≤ 5) (IH : zg_R rd sz c0 th n 3) : ∀ (m N : Nat) (r : List Int32 × Nat × Bool) (v : Int32) (c : zw_Ct), 60 - r.2.1 < m → m ≤ N → 4 * (5 - d) + (61 - r.2.1) + (4 - 3) ≤ n + 1 → zg_S c0 th r v c → ∃ v' c', zw_whl (fn_M_product_l1 (fn_M_rec n) (nI d)) N (v, c) = some (v', c') ∧ zg_S c0 th (zt_l (fun p => zt_pp (zt_h (c0.1 rd) sz) n 3 d p) (zt_h (c0.1 rd) sz) 42 47 m r) v' c' ∧ r.2.1 ≤ (zt_l (fun p => zt_pp (zt_h (c0.1 rd) sz) n 3 d p) (zt_h (c0.1 rd) sz) 42 47 m r).2.1 := by
  intro m
  induction m with
  | zero => intro N r v c h; omega
  | succ m ih =>
    intro N r v c hm hN hn hS
    cases N with
    | zero => omega
    | succ N =>
      by_cases hr : r.2.2 = true
      · have hC := hS.C hr
        by_cases hq : zt_h (c0.1 rd) sz r.2.1 = 42 ∨ zt_h (c0.1 rd) sz r.2.1 = 47
        · have hp : r.2.1 < 60 := zg_h_lt (tx := c0.1 rd) (sz := sz) (by rcases hq with q | q <;> rw [q] <;> decide)
          obtain ⟨v2, c2, a1, a2, a3⟩ := IH d (r.2.1 + 1) _ hd (by omega) (hC.at (q := r.2.1 + 1) (by omega))
          have e : zt_l (fun p => zt_pp (zt_h (c0.1 rd) sz) n 3 d p) (zt_h (c0.1 rd) sz) 42 47 (m + 1) r = zt_l (fun p => zt_pp (zt_h (c0.1 rd) sz) n 3 d p) (zt_h (c0.1 rd) sz) 42 47 m (r.1 ++ ((zt_pp (zt_h (c0.1 rd) sz) n 3 d (r.2.1 + 1)).1 ++ [20000 + zt_h (c0.1 rd) sz r.2.1]), (zt_pp (zt_h (c0.1 rd) sz) n 3 d (r.2.1 + 1)).2) := by
            show (if r.2.2 = true ∧ (zt_h (c0.1 rd) sz r.2.1 = 42 ∨ zt_h (c0.1 rd) sz r.2.1 = 47) then _ else r) = _
            rw [if_pos ⟨hr, hq⟩]
          have hl : fn_M_product_l1 (fn_M_rec n) (nI d) (v, c) = some (.inr (ze_join (zt_h (c0.1 rd) sz r.2.1) v v2, c2)) := by
            unfold fn_M_product_l1
            dsimp only
            rw [zg_fine hC, if_pos (by decide), zg_here hT hC, zp_bs]
            rcases hq with q | q
            · rw [q, if_pos rfl, zp_bs, if_pos rfl, zp_bs, zp_bs, zp_bs, hC.2.1, nI_1, a1, zp_bs]
              dsimp only
              rfl
            · rw [q, if_neg (by decide), zp_bs, zp_bs, if_pos (by decide), zp_bs, zp_bs, zp_bs, hC.2.1, nI_1, a1, zp_bs]
              dsimp only
              by_cases z : v2 = 0
              · rw [if_neg (by decide), if_pos z, zp_bs, zp_bs, z]; rfl
              · rw [if_neg (by decide), if_neg z]
                unfold zw_dvI
                rw [if_neg z, zp_bs, zp_bs, zp_bs]
                unfold ze_join
                rw [if_neg (by decide), if_neg (by decide), if_neg (by decide), if_neg (by decide), if_neg (by decide), if_neg (by decide), if_neg z]
          have hS2 : zg_S c0 th (r.1 ++ ((zt_pp (zt_h (c0.1 rd) sz) n 3 d (r.2.1 + 1)).1 ++ [20000 + zt_h (c0.1 rd) sz r.2.1]), (zt_pp (zt_h (c0.1 rd) sz) n 3 d (r.2.1 + 1)).2) (ze_join (zt_h (c0.1 rd) sz r.2.1) v v2) c2 := by
            obtain ⟨b1, b2, b3, b4, b5⟩ := a2
            refine ⟨b1, b2, b3, b4, fun hb st => ?_⟩
            dsimp only at hb ⊢
            rw [ze_app, ze_app, ze_one, hS.2.2.2.2 hr st, b5 hb, ze_join_step (by rcases hq with q | q <;> rw [q] <;> decide)]
          obtain ⟨v', c', z1, z2, z3⟩ := ih N _ _ c2 (by (try dsimp only); omega) (by omega) (by (try dsimp only); omega) hS2
          refine ⟨v', c', ?_, by rw [e]; exact z2, by rw [e]; dsimp only at z3; omega⟩
          show (fn_M_product_l1 (fn_M_rec n) (nI d) (v, c)).bind _ = _
          rw [hl]
          exact z1
        · have e : zt_l (fun p => zt_pp (zt_h (c0.1 rd) sz) n 3 d p) (zt_h (c0.1 rd) sz) 42 47 (m + 1) r = r := by
            show (if r.2.2 = true ∧ (zt_h (c0.1 rd) sz r.2.1 = 42 ∨ zt_h (c0.1 rd) sz r.2.1 = 47) then _ else r) = r
            rw [if_neg (fun q => hq q.2)]
          refine ⟨v, c, ?_, by rw [e]; exact hS, by rw [e]; exact Nat.le_refl _⟩
          have hl : fn_M_product_l1 (fn_M_rec n) (nI d) (v, c) = some (.inl (v, c)) := by
            unfold fn_M_product_l1
            dsimp only
            rw [zg_fine hC, if_pos (by decide), zg_here hT hC, zp_bs, if_neg (fun q => hq (Or.inl q)), zp_bs, zp_bs, if_neg (fun q => hq (Or.inr (of_decide_eq_true q)))]
          show (fn_M_product_l1 (fn_M_rec n) (nI d) (v, c)).bind _ = _
          rw [hl]
          rfl
      · have e : zt_l (fun p => zt_pp (zt_h (c0.1 rd) sz) n 3 d p) (zt_h (c0.1 rd) sz) 42 47 (m + 1) r = r := by
          show (if r.2.2 = true ∧ (zt_h (c0.1 rd) sz r.2.1 = 42 ∨ zt_h (c0.1 rd) sz r.2.1 = 47) then _ else r) = r
          rw [if_neg (fun q => hr q.1)]
        refine ⟨v, c, ?_, by rw [e]; exact hS, by rw [e]; exact Nat.le_refl _⟩
        have hl : fn_M_product_l1 (fn_M_rec n) (nI d) (v, c) = some (.inl (v, c)) := by
          unfold fn_M_product_l1 fn_M_fine
          dsimp only
          rw [hS.2.2.1, if_neg hr, if_neg (nI_nm1 (by have := hS.2.2.2.1; omega)), if_neg (by decide), zp_bs, if_neg (by decide)]
        show (fn_M_product_l1 (fn_M_rec n) (nI d) (v, c)).bind _ = _
        rw [hl]
        rfl
theorem zg_product {rd sz n : Nat} {c0 : zw_Ct} {th : Nat → Int32} (hT : zg_T rd sz c0) (IH : zg_R rd sz c0 th n 3) : zg_R rd sz c0 th (n + 1) 2 := by
  intro d p c hd hn hC
  obtain ⟨v1, c1, a1, a2, a3⟩ := IH d p c hd (by omega) hC
  have h60 := a2.2.2.2.1
  obtain ⟨v', c', z1, z2, z3⟩ := zg_product_l hT hd IH 61 zw_F (zt_pp (zt_h (c0.1 rd) sz) n 3 d p) v1 c1 (by omega) (by unfold zw_F; omega) (by omega) a2
  refine ⟨v', c', ?_, z2, Nat.le_trans a3 z3⟩
  rw [zg_rec2]
  unfold fn_M_product
  rw [a1, zp_bs]
  dsimp only
  rw [z1, zp_bs]
theorem zg_ix (g : Int32) : (∃ i, i ≤ 8 ∧ fn_ix g = nI i ∧ ¬ (((((((((¬ g = 113) ∧ (¬ g = 115)) ∧ (¬ g = 109)) ∧ (¬ g = 120)) ∧ (¬ g = 116)) ∧ (¬ g = 117)) ∧ (¬ g = 101)) ∧ (¬ g = 110)) ∧ (¬ g = 100))) ∨ (fn_ix g = -1 ∧ (((((((((¬ g = 113) ∧ (¬ g = 115)) ∧ (¬ g = 109)) ∧ (¬ g = 120)) ∧ (¬ g = 116)) ∧ (¬ g = 117)) ∧ (¬ g = 101)) ∧ (¬ g = 110)) ∧ (¬ g = 100))) := by
  by_cases h0 : g = 113
  · subst h0; exact Or.inl ⟨0, by omega, by decide, by decide⟩
  by_cases h1 : g = 115
  · subst h1; exact Or.inl ⟨1, by omega, by decide, by decide⟩
  by_cases h2 : g = 109
  · subst h2; exact Or.inl ⟨2, by omega, by decide, by decide⟩
  by_cases h3 : g = 120
  · subst h3; exact Or.inl ⟨3, by omega, by decide, by decide⟩
  by_cases h4 : g = 116
  · subst h4; exact Or.inl ⟨4, by omega, by decide, by decide⟩
  by_cases h5 : g = 117
  · subst h5; exact Or.inl ⟨5, by omega, by decide, by decide⟩
  by_cases h6 : g = 101
  · subst h6; exact Or.inl ⟨6, by omega, by decide, by decide⟩
  by_cases h7 : g = 110
  · subst h7; exact Or.inl ⟨7, by omega, by decide, by decide⟩
  by_cases h8 : g = 100
  · subst h8; exact Or.inl ⟨8, by omega, by decide, by decide⟩
  refine Or.inr ⟨?_, ⟨⟨⟨⟨⟨⟨⟨⟨h0, h1⟩, h2⟩, h3⟩, h4⟩, h5⟩, h6⟩, h7⟩, h8⟩⟩
  unfold fn_ix
  rw [if_neg h0, if_neg h1, if_neg h2, if_neg h3, if_neg h4, if_neg h5, if_neg h6, if_neg h7, if_neg h8]
theorem zg_num {rd sz : Nat} {c0 : zw_Ct} (hT : zg_T rd sz c0) : ∀ (m N k a p : Nat) (c : zw_Ct), k + m = 4 → m < N → (m = 4 → a = 0) → a < 10 ^ (4 - m) → zg_C c0 p c → ∃ b c', zw_whl fn_M_thing_l1 N (nI a, nI k, c) = some (nI b, c') ∧ (zt_num (zt_h (c0.1 rd) sz) m (nI a) p).1 = nI b ∧ b < 10000 ∧ zg_C c0 (zt_num (zt_h (c0.1 rd) sz) m (nI a) p).2 c' ∧ p ≤ (zt_num (zt_h (c0.1 rd) sz) m (nI a) p).2 := by
  intro m
  induction m with
  | zero =>
    intro N k a p c hk hN h0 ha hC
    cases N with
    | zero => omega
    | succ N =>
      refine ⟨a, c, ?_, rfl, by simpa using ha, hC, Nat.le_refl _⟩
      have hl : fn_M_thing_l1 (nI a, nI k, c) = some (.inl (nI a, c)) := by
        unfold fn_M_thing_l1
        dsimp only
        rw [show k = 4 by omega, if_neg (nI_nltl 4 (n := 4) rfl (by omega)), zp_bs, if_neg (by decide)]
      show (fn_M_thing_l1 (nI a, nI k, c)).bind _ = _
      rw [hl]
      rfl
  | succ m ih =>
    intro N k a p c hk hN h0 ha hC
    cases N with
    | zero => omega
    | succ N =>
      have w : ∀ g : Int32, fn_M_in g.toInt64 48 57 = fn_P_within g 48 57 := fun g => in_within g 48 57
      by_cases hd : 48 ≤ zt_h (c0.1 rd) sz p ∧ zt_h (c0.1 rd) sz p ≤ 57
      · have hne : zt_h (c0.1 rd) sz p ≠ -1 := fun e => by rw [e] at hd; exact absurd hd.1 (by decide)
        have hp := zg_h_lt (tx := c0.1 rd) (sz := sz) hne
        obtain ⟨x, hx, ex⟩ := within_n (m := 57) (hi := 57) (a := zt_h (c0.1 rd) sz p) rfl (by omega) ⟨Int32.le_trans (by decide) hd.1, hd.2⟩
        have hx48 : 48 ≤ x := by
          have := hd.1
          rw [ex] at this
          exact (nI_leI (a := 48) (by omega) (by omega)).mp this
        have ev : (10 * nI a + zt_h (c0.1 rd) sz p - 48) = nI (10 * a + x - 48) := by
          rw [ex, show (10 : Int32) = nI 10 by decide, nI_mul, nI_add, show (48 : Int32) = nI 48 by decide, nI_sub (by omega)]
        have e4 : 10 ^ (4 - m) = 10 * 10 ^ (4 - (m + 1)) := by
          rw [show 4 - m = (4 - (m + 1)) + 1 by omega, Nat.pow_succ, Nat.mul_comm]
        obtain ⟨b, c', z1, z2, z3, z4, z5⟩ := ih N (k + 1) (10 * a + x - 48) (p + 1) _ (by omega) (by omega) (by omega) (by rw [e4]; omega) (hC.at (q := p + 1) (by omega))
        have en : zt_num (zt_h (c0.1 rd) sz) (m + 1) (nI a) p = zt_num (zt_h (c0.1 rd) sz) m (nI (10 * a + x - 48)) (p + 1) := by
          show (if 48 ≤ zt_h (c0.1 rd) sz p ∧ zt_h (c0.1 rd) sz p ≤ 57 then _ else _) = _
          rw [if_pos hd, ev]
        refine ⟨b, c', ?_, by rw [en]; exact z2, z3, by rw [en]; exact z4, by rw [en]; omega⟩
        have hl : fn_M_thing_l1 (nI a, nI k, c) = some (.inr (nI (10 * a + x - 48), nI (k + 1), zw_wI c 71 17 (nI (p + 1)))) := by
          unfold fn_M_thing_l1
          dsimp only
          rw [if_pos (nI_ltl 4 (n := 4) rfl (by omega) (by omega)), zg_here hT hC, zp_bs, w, zp_bs, if_pos (decide_eq_true (by unfold fn_P_within; rw [if_pos hd]; decide)), zp_bs, ev, zp_bs, hC.2.1, nI_1, nI_1]
          rfl
        show (fn_M_thing_l1 (nI a, nI k, c)).bind _ = _
        rw [hl]
        exact z1
      · have en : zt_num (zt_h (c0.1 rd) sz) (m + 1) (nI a) p = (nI a, p) := by
          show (if 48 ≤ zt_h (c0.1 rd) sz p ∧ zt_h (c0.1 rd) sz p ≤ 57 then _ else _) = _
          rw [if_neg hd]
        refine ⟨a, c, ?_, by rw [en], Nat.lt_of_lt_of_le ha (Nat.le_trans (Nat.pow_le_pow_right (by omega) (show 4 - (m + 1) ≤ 4 by omega)) (by decide)), by rw [en]; exact hC, by rw [en]; exact Nat.le_refl _⟩
        have hl : fn_M_thing_l1 (nI a, nI k, c) = some (.inl (nI a, c)) := by
          unfold fn_M_thing_l1
          dsimp only
          rw [if_pos (nI_ltl 4 (n := 4) rfl (by omega) (by omega)), zg_here hT hC, zp_bs, w, zp_bs, if_neg (fun q => (of_decide_eq_true q : ¬ fn_P_within (zt_h (c0.1 rd) sz p) 48 57 = 0) (by unfold fn_P_within; rw [if_neg hd]))]
        show (fn_M_thing_l1 (nI a, nI k, c)).bind _ = _
        rw [hl]
        rfl
/-- the letters' values -/
def zg_H (c0 : zw_Ct) (th : Nat → Int32) : Prop := ∀ c2 : zw_Ct, zg_G c0 c2 → ∀ g : Int32, (∃ i, i ≤ 8 ∧ fn_ix g = nI i) → (if (c2.1 71 19) = (-1) then (some (0 : Int32)) else ((fn_M_letter c2 (g.toUInt32 % 65536).toInt32).bind fun r38 => some (r38 : Int32))) = some (th (fn_ix g).toNatClampNeg)
theorem zg_thing {rd sz n : Nat} {c0 : zw_Ct} {th : Nat → Int32} (hT : zg_T rd sz c0) (hH : zg_H c0 th) (IH3 : zg_R rd sz c0 th n 3) (IH0 : zg_R rd sz c0 th n 0) : zg_R rd sz c0 th (n + 1) 3 := by
  intro d p c hd hn hC
  have hp60 := hC.2.2.2
  rw [zg_rec3]
  unfold fn_M_thing
  have epp : zt_pp (zt_h (c0.1 rd) sz) (n + 1) 3 d p = (if zt_h (c0.1 rd) sz p = 45 then ((zt_pp (zt_h (c0.1 rd) sz) n 3 d (p + 1)).1 ++ [20256], (zt_pp (zt_h (c0.1 rd) sz) n 3 d (p + 1)).2)
      else if zt_h (c0.1 rd) sz p = 40 ∧ d < 5 then (if (zt_pp (zt_h (c0.1 rd) sz) n 0 (d + 1) (p + 1)).2.2 = true ∧ zt_h (c0.1 rd) sz (zt_pp (zt_h (c0.1 rd) sz) n 0 (d + 1) (p + 1)).2.1 = 41 then ((zt_pp (zt_h (c0.1 rd) sz) n 0 (d + 1) (p + 1)).1, (zt_pp (zt_h (c0.1 rd) sz) n 0 (d + 1) (p + 1)).2.1 + 1, true) else ((zt_pp (zt_h (c0.1 rd) sz) n 0 (d + 1) (p + 1)).1, (zt_pp (zt_h (c0.1 rd) sz) n 0 (d + 1) (p + 1)).2.1, false))
      else if 48 ≤ zt_h (c0.1 rd) sz p ∧ zt_h (c0.1 rd) sz p ≤ 57 then ([(zt_num (zt_h (c0.1 rd) sz) 4 0 p).1], (zt_num (zt_h (c0.1 rd) sz) 4 0 p).2, true)
      else if 0 ≤ fn_ix (zt_h (c0.1 rd) sz p) then ([10000 + fn_ix (zt_h (c0.1 rd) sz p)], p + 1, true) else ([], p, false)) := rfl
  rcases zg_pass (g := 45) (by decide) hT hC with ⟨h45, c3, p1, p2⟩ | ⟨h45, p1⟩
  · obtain ⟨v, c', a1, a2, a3⟩ := IH3 d (p + 1) c3 hd (by omega) p2
    rw [epp, if_pos h45]
    refine ⟨-v, c', ?_, ⟨a2.1, a2.2.1, a2.2.2.1, a2.2.2.2.1, fun hb st => ?_⟩, by (try dsimp only); omega⟩
    · rw [p1, zp_bs]
      dsimp only
      rw [if_pos (by decide), a1, zp_bs]
    · dsimp only at hb ⊢
      rw [ze_app, a2.2.2.2.2 hb, ze_one]
      rfl
  · rw [epp, if_neg h45, p1, zp_bs]
    dsimp only
    rw [if_neg (by decide), zg_fine hC, if_neg (by decide), zg_here hT hC, zp_bs]
    by_cases h40 : zt_h (c0.1 rd) sz p = 40 ∧ d < 5
    · have hp : p < 60 := zg_h_lt (tx := c0.1 rd) (sz := sz) (by rw [h40.1]; decide)
      have hd5 : nI d < 5 := nI_ltl 5 (n := 5) rfl h40.2 (by omega)
      obtain ⟨v, c', a1, a2, a3⟩ := IH0 (d + 1) (p + 1) _ (by omega) (by omega) (hC.at (q := p + 1) (by omega))
      rw [if_pos h40, if_pos ⟨h40.1, hd5⟩, zp_bs, hC.2.1, nI_1, nI_1, a1, zp_bs]
      dsimp only
      by_cases hq : (zt_pp (zt_h (c0.1 rd) sz) n 0 (d + 1) (p + 1)).2.2 = true
      · rcases zg_pass (g := 41) (by decide) hT (a2.C hq) with ⟨h41, c4, s1, s2⟩ | ⟨h41, s1⟩
        · rw [if_pos ⟨hq, h41⟩, s1, zp_bs]
          dsimp only
          rw [if_neg (by decide), zp_bs]
          exact ⟨v, c4, rfl, ⟨s2.1, s2.2.1, by rw [s2.2.2.1]; rfl, s2.2.2.2, fun _ st => a2.2.2.2.2 hq st⟩, by (try dsimp only); omega⟩
        · rw [if_neg (fun q => h41 q.2), s1, zp_bs]
          dsimp only
          obtain ⟨c5, w1, w2⟩ := zg_wrong (th := th) (X := (zt_pp (zt_h (c0.1 rd) sz) n 0 (d + 1) (p + 1)).1) (v := v) (a2.C hq)
          rw [if_pos (by decide), w1, zp_bs, zp_bs]
          exact ⟨v, c5, rfl, w2, by (try dsimp only); omega⟩
      · have hw : c'.1 71 18 = nI (zt_pp (zt_h (c0.1 rd) sz) n 0 (d + 1) (p + 1)).2.1 := by rw [a2.2.2.1, if_neg hq]
        rw [if_neg (fun q => hq q.1), zg_nopass hw a2.2.2.2.1, zp_bs]
        dsimp only
        have hnw : fn_M_isWrong c' = some c' := by
          unfold fn_M_isWrong fn_M_fine
          rw [hw, if_neg (nI_nm1 (by have := a2.2.2.2.1; omega)), if_neg (by decide), zp_bs]
        rw [if_pos (by decide), hnw, zp_bs, zp_bs]
        exact ⟨v, c', rfl, ⟨a2.1, a2.2.1, by rw [hw]; rfl, a2.2.2.2.1, fun z => by cases z⟩, by (try dsimp only); omega⟩
    · rw [if_neg h40, if_neg (fun q => h40 ⟨q.1, by
        have := q.2
        rw [show (5 : Int32) = nI 5 by decide] at this
        exact (nI_ltI (by omega) (by omega)).mp this⟩)]
      have w : fn_M_in (zt_h (c0.1 rd) sz p).toInt64 48 57 = fn_P_within (zt_h (c0.1 rd) sz p) 48 57 := in_within _ 48 57
      rw [w]
      by_cases h9 : 48 ≤ zt_h (c0.1 rd) sz p ∧ zt_h (c0.1 rd) sz p ≤ 57
      · obtain ⟨b, c', z1, z2, z3, z4, z5⟩ := zg_num hT 4 zw_F 0 0 p c (by omega) (by unfold zw_F; omega) (fun _ => rfl) (by decide) hC
        have z1' : zw_whl fn_M_thing_l1 zw_F (0, 0, c) = some (nI b, c') := z1
        have z2' : (zt_num (zt_h (c0.1 rd) sz) 4 0 p).1 = nI b := z2
        rw [if_pos h9, if_pos (by unfold fn_P_within; rw [if_pos h9]; decide), z1', zp_bs]
        refine ⟨nI b, c', rfl, ⟨z4.1, z4.2.1, by rw [z4.2.2.1]; rfl, z4.2.2.2, fun _ st => ?_⟩, z5⟩
        dsimp only
        rw [z2', ze_one]
        unfold ze_step
        rw [if_pos (nI_ltl 10000 (n := 10000) rfl z3 (by omega))]
      · rw [if_neg h9, if_neg (by unfold fn_P_within; rw [if_neg h9]; decide)]
        rcases zg_ix (zt_h (c0.1 rd) sz p) with ⟨i, i1, i2, i3⟩ | ⟨i2, i3⟩
        · have hne : zt_h (c0.1 rd) sz p ≠ -1 := by
            intro e
            rw [e] at i2
            have e2 : fn_ix (-1) = -1 := by decide
            exact nI_nm1 (n := i) (by omega) (i2.symm.trans e2)
          have hp : p < 60 := zg_h_lt (tx := c0.1 rd) (sz := sz) hne
          have hC1 := hC.at (q := p + 1) (by omega)
          rw [if_neg i3, if_pos (by rw [i2]; exact nI_pos' (by omega)), zp_bs, hC.2.1, nI_1, hH _ hC1.1 _ ⟨i, i1, i2⟩, zp_bs]
          refine ⟨_, _, rfl, ⟨hC1.1, hC1.2.1, by rw [hC1.2.2.1]; rfl, hC1.2.2.2, fun _ st => ?_⟩, by (try dsimp only); omega⟩
          dsimp only
          rw [ze_one, i2]
          unfold ze_step
          have ea : (10000 : Int32) + nI i = nI (10000 + i) := nI_add 10000 i
          rw [ea, if_neg (by rw [show (10000 : Int32) = nI 10000 by decide]; exact nI_nlt (by omega) (by omega)), if_pos (nI_ltl 20000 (n := 20000) rfl (by omega) (by omega)), show (10000 : Int32) = nI 10000 by decide, nI_sub (by omega), show 10000 + i - 10000 = i by omega]
        · obtain ⟨c5, w1, w2⟩ := zg_wrong (th := th) (X := []) (v := 0) hC
          rw [if_pos i3, if_neg (by rw [i2]; decide), w1, zp_bs]
          exact ⟨0, c5, rfl, w2, Nat.le_refl _⟩
theorem zg_held {rd sz n : Nat} {c0 : zw_Ct} {th : Nat → Int32} (hT : zg_T rd sz c0) (IH : zg_R rd sz c0 th n 1) : zg_R rd sz c0 th (n + 1) 0 := by
  intro d p c hd hn hC
  obtain ⟨v1, c1, a1, a2, a3⟩ := IH d p c hd (by omega) hC
  have epp : zt_pp (zt_h (c0.1 rd) sz) (n + 1) 0 d p = (if (zt_pp (zt_h (c0.1 rd) sz) n 1 d p).2.2 = true ∧ (zt_h (c0.1 rd) sz (zt_pp (zt_h (c0.1 rd) sz) n 1 d p).2.1 = 60 ∨ zt_h (c0.1 rd) sz (zt_pp (zt_h (c0.1 rd) sz) n 1 d p).2.1 = 62 ∨ zt_h (c0.1 rd) sz (zt_pp (zt_h (c0.1 rd) sz) n 1 d p).2.1 = 61) then ((zt_pp (zt_h (c0.1 rd) sz) n 1 d p).1 ++ ((zt_pp (zt_h (c0.1 rd) sz) n 1 d ((zt_pp (zt_h (c0.1 rd) sz) n 1 d p).2.1 + 1)).1 ++ [20000 + zt_h (c0.1 rd) sz (zt_pp (zt_h (c0.1 rd) sz) n 1 d p).2.1]), (zt_pp (zt_h (c0.1 rd) sz) n 1 d ((zt_pp (zt_h (c0.1 rd) sz) n 1 d p).2.1 + 1)).2) else zt_pp (zt_h (c0.1 rd) sz) n 1 d p) := rfl
  rw [zg_rec0]
  unfold fn_M_held
  rw [a1, zp_bs]
  dsimp only
  rw [epp]
  generalize hr : zt_pp (zt_h (c0.1 rd) sz) n 1 d p = r at a2 a3 ⊢
  by_cases hf : r.2.2 = true
  · have hC1 := a2.C hf
    have fin : ∀ (g : Int32) (c5 : zw_Ct), (g = 60 ∨ g = 62 ∨ g = 61) → zt_h (c0.1 rd) sz r.2.1 = g → zg_C c0 (r.2.1 + 1) c5 → ∃ v2 c2, fn_M_rec n 1 c5 (nI d) = some (v2, c2) ∧ zg_S c0 th (r.1 ++ ((zt_pp (zt_h (c0.1 rd) sz) n 1 d (r.2.1 + 1)).1 ++ [20000 + zt_h (c0.1 rd) sz r.2.1]), (zt_pp (zt_h (c0.1 rd) sz) n 1 d (r.2.1 + 1)).2) (ze_join g v1 v2) c2 ∧ r.2.1 + 1 ≤ (zt_pp (zt_h (c0.1 rd) sz) n 1 d (r.2.1 + 1)).2.1 := by
      intro g c5 hg e hC5
      have h60 := hC5.2.2.2
      obtain ⟨v2, c2, b1, b2, b3⟩ := IH d (r.2.1 + 1) c5 hd (by omega) hC5
      refine ⟨v2, c2, b1, ⟨b2.1, b2.2.1, b2.2.2.1, b2.2.2.2.1, fun hb st => ?_⟩, b3⟩
      dsimp only at hb ⊢
      rw [ze_app, ze_app, ze_one, a2.2.2.2.2 hf st, b2.2.2.2.2 hb, e, ze_join_step (by rcases hg with q | q | q <;> rw [q] <;> decide)]
    rcases zg_pass (g := 60) (by decide) hT hC1 with ⟨e, c5, p1, p2⟩ | ⟨e1, p1⟩
    · obtain ⟨v2, c2, b1, b2, b3⟩ := fin 60 c5 (Or.inl rfl) e p2
      rw [if_pos ⟨hf, Or.inl e⟩, p1, zp_bs]
      dsimp only
      rw [if_pos (by decide), b1, zp_bs]
      exact ⟨_, c2, rfl, b2, by (try dsimp only); omega⟩
    rw [p1, zp_bs]
    dsimp only
    rw [if_neg (by decide)]
    rcases zg_pass (g := 62) (by decide) hT hC1 with ⟨e, c5, p1, p2⟩ | ⟨e2, p1⟩
    · obtain ⟨v2, c2, b1, b2, b3⟩ := fin 62 c5 (Or.inr (Or.inl rfl)) e p2
      rw [if_pos ⟨hf, Or.inr (Or.inl e)⟩, p1, zp_bs]
      dsimp only
      rw [if_pos (by decide), b1, zp_bs]
      exact ⟨_, c2, rfl, b2, by (try dsimp only); omega⟩
    rw [p1, zp_bs]
    dsimp only
    rw [if_neg (by decide)]
    rcases zg_pass (g := 61) (by decide) hT hC1 with ⟨e, c5, p1, p2⟩ | ⟨e3, p1⟩
    · obtain ⟨v2, c2, b1, b2, b3⟩ := fin 61 c5 (Or.inr (Or.inr rfl)) e p2
      rw [if_pos ⟨hf, Or.inr (Or.inr e)⟩, p1, zp_bs]
      dsimp only
      rw [if_pos (by decide), b1, zp_bs]
      exact ⟨_, c2, rfl, b2, by (try dsimp only); omega⟩
    rw [p1, zp_bs]
    dsimp only
    rw [if_neg (by decide), if_neg (fun q => q.2.elim e1 (fun q => q.elim e2 e3))]
    exact ⟨v1, c1, rfl, a2, a3⟩
  · have hw : c1.1 71 18 = nI r.2.1 := by rw [a2.2.2.1, if_neg hf]
    have np : ∀ g, fn_M_passes c1 g = some (0, c1) := fun g => zg_nopass hw a2.2.2.2.1
    rw [if_neg (fun q => hf q.1), np, zp_bs]
    dsimp only
    rw [if_neg (by decide), np, zp_bs]
    dsimp only
    rw [if_neg (by decide), np, zp_bs]
    dsimp only
    rw [if_neg (by decide)]
    exact ⟨v1, c1, rfl, a2, a3⟩
theorem zg_all {rd sz : Nat} {c0 : zw_Ct} {th : Nat → Int32} (hT : zg_T rd sz c0) (hH : zg_H c0 th) : ∀ n, zg_R rd sz c0 th n 0 ∧ zg_R rd sz c0 th n 1 ∧ zg_R rd sz c0 th n 2 ∧ zg_R rd sz c0 th n 3 := by
  intro n
  induction n with
  | zero => exact ⟨fun d p c hd h hC => absurd h (by have := hC.2.2.2; omega), fun d p c hd h hC => absurd h (by have := hC.2.2.2; omega), fun d p c hd h hC => absurd h (by have := hC.2.2.2; omega), fun d p c hd h hC => absurd h (by have := hC.2.2.2; omega)⟩
  | succ n ih => exact ⟨zg_held hT ih.2.1, zg_sum hT ih.2.2.1, zg_product hT ih.2.2.2, zg_thing hT hH ih.2.2.2 ih.1⟩
