/-! the class's reckoning of code; codes that never go below -/
def zc_h : List Int32 → Nat → Option Nat
  | [], h => some h
  | x :: X, h => if x < 10000 then zc_h X (h + 1) else if x < 20000 then (if x < 10009 then zc_h X (h + 1) else none) else if x = 20256 then (if 1 ≤ h then zc_h X h else none) else if 2 ≤ h then zc_h X (h - 1) else none
theorem zc_app : ∀ (X Y : List Int32) (h : Nat), zc_h (X ++ Y) h = (zc_h X h).bind (zc_h Y)
  | [], Y, h => rfl
  | x :: X, Y, h => by
    show zc_h (x :: (X ++ Y)) h = _
    unfold zc_h
    by_cases h1 : x < 10000
    · rw [if_pos h1, if_pos h1]; exact zc_app X Y _
    · rw [if_neg h1, if_neg h1]
      by_cases h2 : x < 20000
      · rw [if_pos h2, if_pos h2]
        by_cases h3 : x < 10009
        · rw [if_pos h3, if_pos h3]; exact zc_app X Y _
        · rw [if_neg h3, if_neg h3]; rfl
      · rw [if_neg h2, if_neg h2]
        by_cases h3 : x = 20256
        · rw [if_pos h3, if_pos h3]
          by_cases h4 : 1 ≤ h
          · rw [if_pos h4, if_pos h4]; exact zc_app X Y _
          · rw [if_neg h4, if_neg h4]; rfl
        · rw [if_neg h3, if_neg h3]
          by_cases h4 : 2 ≤ h
          · rw [if_pos h4, if_pos h4]; exact zc_app X Y _
          · rw [if_neg h4, if_neg h4]; rfl
def zj_R (p : Nat) (r : List Int32 × Nat × Bool) : Prop := p ≤ r.2.1 ∧ r.2.1 ≤ 60 ∧ (r.2.2 = true → r.1.length + p ≤ r.2.1 ∧ ∀ h, zc_h r.1 h = some (h + 1))
theorem zc_join {g : Int32} {h : Nat} (hg : g = 60 ∨ g = 62 ∨ g = 61 ∨ g = 43 ∨ g = 45 ∨ g = 42 ∨ g = 47) : zc_h [20000 + g] (h + 2) = some (h + 1) := by
  unfold zc_h
  rcases hg with rfl | rfl | rfl | rfl | rfl | rfl | rfl
  all_goals (rw [if_neg (by decide), if_neg (by decide), if_neg (by decide), if_pos (by omega)]; rfl)
theorem zj_two {p : Nat} {r q : List Int32 × Nat × Bool} {g : Int32} (hg : g = 60 ∨ g = 62 ∨ g = 61 ∨ g = 43 ∨ g = 45 ∨ g = 42 ∨ g = 47) (hr : zj_R p r) (hok : r.2.2 = true) (hq : zj_R (r.2.1 + 1) q) : zj_R p (r.1 ++ (q.1 ++ [20000 + g]), q.2) := by
  obtain ⟨r1, r2, r3⟩ := hr
  obtain ⟨q1, q2, q3⟩ := hq
  obtain ⟨r4, r5⟩ := r3 hok
  refine ⟨by dsimp only; omega, q2, fun hb => ?_⟩
  obtain ⟨q4, q5⟩ := q3 hb
  refine ⟨?_, fun h => ?_⟩
  · dsimp only
    rw [List.length_append, List.length_append]
    simp only [List.length_cons, List.length_nil]
    omega
  · dsimp only
    rw [zc_app, r5, Option.bind_some, zc_app, q5, Option.bind_some]
    exact zc_join hg
theorem zj_l {hf : Nat → Int32} (hh : ∀ p, hf p ≠ -1 → p < 60) {rc : Nat → List Int32 × Nat × Bool} {a b : Int32} (ha : a = 60 ∨ a = 62 ∨ a = 61 ∨ a = 43 ∨ a = 45 ∨ a = 42 ∨ a = 47) (hb : b = 60 ∨ b = 62 ∨ b = 61 ∨ b = 43 ∨ b = 45 ∨ b = 42 ∨ b = 47) (ha1 : a ≠ -1) (hb1 : b ≠ -1) (hrc : ∀ p, p ≤ 60 → zj_R p (rc p)) : ∀ (m p : Nat) (r : List Int32 × Nat × Bool), zj_R p r → zj_R p (zt_l rc hf a b m r)
  | 0, p, r, h => h
  | m + 1, p, r, h => by
    unfold zt_l
    by_cases hc : r.2.2 = true ∧ (hf r.2.1 = a ∨ hf r.2.1 = b)
    · rw [if_pos hc]
      have hp : r.2.1 < 60 := hh _ (by rcases hc.2 with q | q <;> rw [q] <;> assumption)
      exact zj_l hh ha hb ha1 hb1 hrc m p _ (zj_two (by rcases hc.2 with q | q <;> rw [q] <;> assumption) h hc.1 (hrc _ (by omega)))
    · rw [if_neg hc]; exact h
theorem zj_num {hf : Nat → Int32} (hh : ∀ p, hf p ≠ -1 → p < 60) : ∀ (m p : Nat) (v : Int32), p ≤ 60 → p ≤ (zt_num hf m v p).2 ∧ (zt_num hf m v p).2 ≤ 60
  | 0, p, v, h => ⟨Nat.le_refl _, h⟩
  | m + 1, p, v, h => by
    unfold zt_num
    by_cases hc : 48 ≤ hf p ∧ hf p ≤ 57
    · rw [if_pos hc]
      have hp : p < 60 := hh _ (fun e => by rw [e] at hc; exact absurd hc.1 (by decide))
      have := zj_num hh m (p + 1) (10 * v + hf p - 48) (by omega)
      omega
    · rw [if_neg hc]; exact ⟨Nat.le_refl _, h⟩
theorem zj_numv {hf : Nat → Int32} : ∀ (m a p : Nat), m ≤ 4 → a < 10 ^ (4 - m) → ∃ b, b < 10000 ∧ (zt_num hf m (nI a) p).1 = nI b
  | 0, a, p, _, h => ⟨a, by simpa using h, rfl⟩
  | m + 1, a, p, hm, h => by
    unfold zt_num
    by_cases hc : 48 ≤ hf p ∧ hf p ≤ 57
    · rw [if_pos hc]
      obtain ⟨x, hx, ex⟩ := within_n (m := 57) (hi := 57) (a := hf p) rfl (by omega) ⟨Int32.le_trans (by decide) hc.1, hc.2⟩
      have hx48 : 48 ≤ x := by
        have := hc.1
        rw [ex] at this
        exact (nI_leI (a := 48) (by omega) (by omega)).mp this
      have e4 : 10 ^ (4 - m) = 10 * 10 ^ (4 - (m + 1)) := by
        rw [show 4 - m = (4 - (m + 1)) + 1 by omega, Nat.pow_succ, Nat.mul_comm]
      have hle : 10 ^ (4 - (m + 1)) ≤ 1000 := Nat.le_trans (Nat.pow_le_pow_right (by omega) (show 4 - (m + 1) ≤ 3 by omega)) (by decide)
      have ev : (10 * nI a + hf p - 48) = nI (10 * a + x - 48) := by
        rw [ex, show (10 : Int32) = nI 10 by decide, nI_mul, nI_add, show (48 : Int32) = nI 48 by decide, nI_sub (by omega)]
      rw [ev]
      exact zj_numv m (10 * a + x - 48) (p + 1) (by omega) (by rw [e4]; omega)
    · rw [if_neg hc]
      exact ⟨a, Nat.lt_of_lt_of_le h (Nat.le_trans (Nat.pow_le_pow_right (by omega) (show 4 - (m + 1) ≤ 4 by omega)) (by decide)), rfl⟩
theorem zj_pp {hf : Nat → Int32} (hh : ∀ p, hf p ≠ -1 → p < 60) : ∀ (n k d p : Nat), p ≤ 60 → zj_R p (zt_pp hf n k d p)
  | 0, k, d, p, h => ⟨Nat.le_refl _, h, fun q => by cases q⟩
  | n + 1, 0, d, p, h => by
    have h1 := zj_pp hh n 1 d p h
    show zj_R p (if (zt_pp hf n 1 d p).2.2 = true ∧ (hf (zt_pp hf n 1 d p).2.1 = 60 ∨ hf (zt_pp hf n 1 d p).2.1 = 62 ∨ hf (zt_pp hf n 1 d p).2.1 = 61) then ((zt_pp hf n 1 d p).1 ++ ((zt_pp hf n 1 d ((zt_pp hf n 1 d p).2.1 + 1)).1 ++ [20000 + hf (zt_pp hf n 1 d p).2.1]), (zt_pp hf n 1 d ((zt_pp hf n 1 d p).2.1 + 1)).2) else zt_pp hf n 1 d p)
    by_cases hc : (zt_pp hf n 1 d p).2.2 = true ∧ (hf (zt_pp hf n 1 d p).2.1 = 60 ∨ hf (zt_pp hf n 1 d p).2.1 = 62 ∨ hf (zt_pp hf n 1 d p).2.1 = 61)
    · rw [if_pos hc]
      have hp : (zt_pp hf n 1 d p).2.1 < 60 := hh _ (by rcases hc.2 with q | q | q <;> rw [q] <;> decide)
      refine zj_two ?_ h1 hc.1 (zj_pp hh n 1 d _ (by omega))
      rcases hc.2 with q | q | q
      · exact Or.inl q
      · exact Or.inr (Or.inl q)
      · exact Or.inr (Or.inr (Or.inl q))
    · rw [if_neg hc]; exact h1
  | n + 1, 1, d, p, h => zj_l hh (by decide) (by decide) (by decide) (by decide) (fun q hq => zj_pp hh n 2 d q hq) 61 p _ (zj_pp hh n 2 d p h)
  | n + 1, 2, d, p, h => zj_l hh (by decide) (by decide) (by decide) (by decide) (fun q hq => zj_pp hh n 3 d q hq) 61 p _ (zj_pp hh n 3 d p h)
  | n + 1, k + 3, d, p, h => by
    show zj_R p (if hf p = 45 then ((zt_pp hf n 3 d (p + 1)).1 ++ [20256], (zt_pp hf n 3 d (p + 1)).2)
      else if hf p = 40 ∧ d < 5 then (if (zt_pp hf n 0 (d + 1) (p + 1)).2.2 = true ∧ hf (zt_pp hf n 0 (d + 1) (p + 1)).2.1 = 41 then ((zt_pp hf n 0 (d + 1) (p + 1)).1, (zt_pp hf n 0 (d + 1) (p + 1)).2.1 + 1, true) else ((zt_pp hf n 0 (d + 1) (p + 1)).1, (zt_pp hf n 0 (d + 1) (p + 1)).2.1, false))
      else if 48 ≤ hf p ∧ hf p ≤ 57 then ([(zt_num hf 4 0 p).1], (zt_num hf 4 0 p).2, true)
      else if 0 ≤ fn_ix (hf p) then ([10000 + fn_ix (hf p)], p + 1, true) else ([], p, false))
    by_cases h45 : hf p = 45
    · rw [if_pos h45]
      have hp : p < 60 := hh _ (by rw [h45]; decide)
      obtain ⟨a1, a2, a3⟩ := zj_pp hh n 3 d (p + 1) (by omega)
      refine ⟨by dsimp only; omega, a2, fun hb => ?_⟩
      obtain ⟨a4, a5⟩ := a3 hb
      refine ⟨?_, fun x => ?_⟩
      · dsimp only
        rw [List.length_append]
        simp only [List.length_cons, List.length_nil]
        omega
      · dsimp only
        rw [zc_app, a5, Option.bind_some]
        unfold zc_h
        rw [if_neg (by decide), if_neg (by decide), if_pos rfl, if_pos (by omega)]
        rfl
    · rw [if_neg h45]
      by_cases h40 : hf p = 40 ∧ d < 5
      · rw [if_pos h40]
        have hp : p < 60 := hh _ (by rw [h40.1]; decide)
        obtain ⟨a1, a2, a3⟩ := zj_pp hh n 0 (d + 1) (p + 1) (by omega)
        by_cases h41 : (zt_pp hf n 0 (d + 1) (p + 1)).2.2 = true ∧ hf (zt_pp hf n 0 (d + 1) (p + 1)).2.1 = 41
        · rw [if_pos h41]
          have hp2 : (zt_pp hf n 0 (d + 1) (p + 1)).2.1 < 60 := hh _ (by rw [h41.2]; decide)
          obtain ⟨a4, a5⟩ := a3 h41.1
          exact ⟨by dsimp only; omega, by dsimp only; omega, fun _ => ⟨by dsimp only; omega, a5⟩⟩
        · rw [if_neg h41]
          exact ⟨by dsimp only; omega, a2, fun q => by cases q⟩
      · rw [if_neg h40]
        by_cases h9 : 48 ≤ hf p ∧ hf p ≤ 57
        · rw [if_pos h9]
          have hp : p < 60 := hh _ (fun e => by rw [e] at h9; exact absurd h9.1 (by decide))
          have e1 : zt_num hf 4 0 p = zt_num hf 3 (10 * 0 + hf p - 48) (p + 1) := by
            show (if 48 ≤ hf p ∧ hf p ≤ 57 then _ else _) = _
            rw [if_pos h9]
          obtain ⟨b1, b2⟩ := zj_num hh 3 (p + 1) (10 * 0 + hf p - 48) (by omega)
          obtain ⟨b, b3, b4⟩ := zj_numv (hf := hf) 4 0 p (by omega) (by decide)
          have b4' : (zt_num hf 4 0 p).1 = nI b := b4
          refine ⟨by dsimp only; rw [e1]; omega, by dsimp only; rw [e1]; omega, fun _ => ⟨by dsimp only; rw [e1]; simp only [List.length_cons, List.length_nil]; omega, fun x => ?_⟩⟩
          dsimp only
          rw [b4']
          unfold zc_h
          rw [if_pos (nI_ltl 10000 (n := 10000) rfl b3 (by omega))]
          rfl
        · rw [if_neg h9]
          by_cases hx : 0 ≤ fn_ix (hf p)
          · rw [if_pos hx]
            rcases zg_ix (hf p) with ⟨i, i1, i2, i3⟩ | ⟨i2, i3⟩
            · have hp : p < 60 := hh _ (fun e => by
                rw [e] at i2
                have e2 : fn_ix (-1) = -1 := by decide
                exact nI_nm1 (n := i) (by omega) (i2.symm.trans e2))
              refine ⟨by dsimp only; omega, by dsimp only; omega, fun _ => ⟨by dsimp only; simp only [List.length_cons, List.length_nil]; omega, fun x => ?_⟩⟩
              dsimp only
              have ea : (10000 : Int32) + nI i = nI (10000 + i) := nI_add 10000 i
              rw [i2, ea]
              unfold zc_h
              rw [if_neg (by rw [show (10000 : Int32) = nI 10000 by decide]; exact nI_nlt (by omega) (by omega)), if_pos (nI_ltl 20000 (n := 20000) rfl (by omega) (by omega)), if_pos (nI_ltl 10009 (n := 10009) rfl (by omega) (by omega))]
              rfl
            · rw [i2] at hx
              exact absurd hx (by decide)
          · rw [if_neg hx]
            exact ⟨Nat.le_refl _, h, fun q => by cases q⟩
/-! the stack -/
def zk : List Int32 → (Nat → Int32) → Prop
  | [], _ => True
  | v :: st, f => f st.length = v ∧ zk st f
theorem zk_congr {f g : Nat → Int32} : ∀ {st : List Int32}, (∀ j, j < st.length → g j = f j) → zk st f → zk st g
  | [], _, _ => trivial
  | v :: st, h, ⟨h1, h2⟩ => ⟨(h _ (by simp)).trans h1, zk_congr (fun j hj => h j (by simp only [List.length_cons]; omega)) h2⟩
theorem sp_join (g a b : Int32) : fn_Pays_join g a b = some (ze_join g a b) := by
  unfold fn_Pays_join ze_join
  by_cases h1 : g = 60
  · rw [if_pos h1, if_pos h1]
  rw [if_neg h1, if_neg h1]
  by_cases h2 : g = 62
  · rw [if_pos h2, if_pos h2]
  rw [if_neg h2, if_neg h2]
  by_cases h3 : g = 61
  · rw [if_pos h3, if_pos h3]
  rw [if_neg h3, if_neg h3]
  by_cases h4 : g = 43
  · rw [if_pos h4, if_pos h4]
  rw [if_neg h4, if_neg h4]
  by_cases h5 : g = 45
  · rw [if_pos h5, if_pos h5]
  rw [if_neg h5, if_neg h5]
  by_cases h6 : g = 42
  · rw [if_pos h6, if_pos h6]
  rw [if_neg h6, if_neg h6]
  by_cases h7 : b = 0
  · rw [if_pos h7, if_pos h7, zp_bs]
  · rw [if_neg h7, if_neg h7]
    unfold zw_dvI
    rw [if_neg h7, zp_bs, zp_bs]
theorem nI_m1 (n : Nat) : nI (n + 1) + (-1) = nI n := by
  rw [← nI_1, Int32.add_assoc, show (1 : Int32) + (-1) = 0 by decide, Int32.add_zero]
theorem sp_reckon_l {th : Nat → Int32} {cd L : Nat} {c : zw_Ct} (hcd : zw_len SH 0 cd = some 60) (hne : cd ≠ 60) (hL : L ≤ 60) (hth : ∀ i, i < 9 → c.1 59 i = th i) : ∀ (Y : List Int32) (i : Nat) (st : List Int32) (c5 : zw_Ct) (N : Nat), (∀ k, k < Y.length → c.1 cd (i + k) = Y.getD k 0) → i + Y.length = L → zk st (c5.1 60) → st.length ≤ i → zc_h Y st.length = some 1 → (∀ k, k ≠ 60 → c5.1 k = c.1 k) → c5.2 = c.2 → Y.length < N → ∃ v c', zw_whl (fn_Pays_reckon_l1 (nI L) cd) N (nI st.length, nI i, c5) = some (nI 1, c') ∧ ze_run th Y st = [v] ∧ c'.1 60 0 = v ∧ (∀ k, k ≠ 60 → c'.1 k = c.1 k) ∧ c'.2 = c.2 := by
  intro Y
  induction Y with
  | nil =>
    intro i st c5 N hY hi hk hs hz hg hg2 hN
    cases N with
    | zero => omega
    | succ N =>
      have h1 : st.length = 1 := Option.some.inj hz
      match st, h1, hk with
      | [v], _, hk =>
        refine ⟨v, c5, ?_, rfl, hk.1, hg, hg2⟩
        have hl : fn_Pays_reckon_l1 (nI L) cd (nI [v].length, nI i, c5) = some (.inl (nI 1, c5)) := by
          unfold fn_Pays_reckon_l1
          dsimp only
          rw [if_neg (nI_nlt (by simp only [List.length_nil] at hi; omega) (by simp only [List.length_nil] at hi; omega))]
          rfl
        show (fn_Pays_reckon_l1 (nI L) cd (nI [v].length, nI i, c5)).bind _ = _
        rw [hl]
        rfl
  | cons x Y ih =>
    intro i st c5 N hY hi hk hs hz hg hg2 hN
    have hi' : i < L := by simp only [List.length_cons] at hi; omega
    have hx : c5.1 cd i = x := by rw [hg cd hne]; exact hY 0 (by simp)
    have hY' : ∀ k, k < Y.length → c.1 cd (i + 1 + k) = Y.getD k 0 := fun k hk => by
      have h := hY (k + 1) (by simp only [List.length_cons]; omega)
      rw [show i + 1 + k = i + (k + 1) by omega, h]
      rfl
    cases N with
    | zero => omega
    | succ N =>
      have hN' : Y.length < N := by simp only [List.length_cons] at hN; omega
      have hi2 : i + 1 + Y.length = L := by simp only [List.length_cons] at hi; omega
      -- one step with the new stack
      have go : ∀ (st2 : List Int32) (c6 : zw_Ct), fn_Pays_reckon_l1 (nI L) cd (nI st.length, nI i, c5) = some (.inr (nI st2.length, nI (i + 1), c6)) → ze_step th x st = st2 → zk st2 (c6.1 60) → st2.length ≤ i + 1 → zc_h Y st2.length = some 1 → (∀ k, k ≠ 60 → c6.1 k = c.1 k) → c6.2 = c.2 → ∃ v c', zw_whl (fn_Pays_reckon_l1 (nI L) cd) (N + 1) (nI st.length, nI i, c5) = some (nI 1, c') ∧ ze_run th (x :: Y) st = [v] ∧ c'.1 60 0 = v ∧ (∀ k, k ≠ 60 → c'.1 k = c.1 k) ∧ c'.2 = c.2 := by
        intro st2 c6 e1 e2 e3 e4 e5 e6 e7
        obtain ⟨v, c', z1, z2, z3⟩ := ih (i + 1) st2 c6 N hY' hi2 e3 e4 e5 e6 e7 hN'
        refine ⟨v, c', ?_, ?_, z3⟩
        · show (fn_Pays_reckon_l1 (nI L) cd (nI st.length, nI i, c5)).bind _ = _
          rw [e1]
          exact z1
        · show ze_run th Y (ze_step th x st) = [v]
          rw [e2]; exact z2
      have push : ∀ v : Int32, zk (v :: st) ((zw_wI c5 60 st.length v).1 60) := fun v => ⟨zw_wI_eq, zk_congr (fun j hj => zw_wI_at (by omega)) hk⟩
      unfold zc_h at hz
      by_cases h1 : x < 10000
      · rw [if_pos h1] at hz
        refine go (x :: st) (zw_wI c5 60 st.length x) ?_ (by unfold ze_step; rw [if_pos h1]) (push x) (by simp only [List.length_cons]; omega) (by simpa using hz) (fun k hk => (zw_wI_ne hk).trans (hg k hk)) hg2
        unfold fn_Pays_reckon_l1
        dsimp only
        rw [if_pos (nI_lt hi' (by omega)), zp_dI hcd (by omega) (by omega), zp_bs, hx, if_pos h1, zp_uI (by omega) (by omega), zp_bs, zp_bs]
        dsimp only
        rw [nI_1, nI_1]
        rfl
      · rw [if_neg h1] at hz
        by_cases h2 : x < 20000
        · rw [if_pos h2] at hz
          by_cases h3 : x < 10009
          · rw [if_pos h3] at hz
            obtain ⟨j, hj, ej⟩ : ∃ j, j < 9 ∧ x - 10000 = nI j := by
              have a1 : (10000 : Int32).toInt ≤ x.toInt := by
                have : ¬ x.toInt < (10000 : Int32).toInt := fun q => h1 (Int32.lt_iff_toInt_lt.mpr q)
                omega
              have a2 : x.toInt < (10009 : Int32).toInt := Int32.lt_iff_toInt_lt.mp h3
              rw [show (10000 : Int32).toInt = 10000 by decide] at a1
              rw [show (10009 : Int32).toInt = 10009 by decide] at a2
              have ex : x = nI x.toInt.toNat := Int32.toInt_inj.mp (by rw [nI_toInt (by omega)]; omega)
              refine ⟨x.toInt.toNat - 10000, by omega, ?_⟩
              rw [ex, show (10000 : Int32) = nI 10000 by decide, nI_sub (by omega), nI_toInt (by omega)]
              congr 1
            refine go (th j :: st) (zw_wI c5 60 st.length (th j)) ?_ (by unfold ze_step; rw [if_neg h1, if_pos h2, ej, nI_clamp (by omega)]) (push _) (by simp only [List.length_cons]; omega) (by simpa using hz) (fun k hk => (zw_wI_ne hk).trans (hg k hk)) hg2
            unfold fn_Pays_reckon_l1
            dsimp only
            rw [if_pos (nI_lt hi' (by omega)), zp_dI hcd (by omega) (by omega), zp_bs, hx, if_neg h1, if_pos h2, ej, zp_aI hj (by omega), zp_bs, hg 59 (by decide), hth j hj, zp_uI (by omega) (by omega), zp_bs, zp_bs]
            dsimp only
            rw [zp_bs]
            dsimp only
            rw [nI_1, nI_1]
            rfl
          · rw [if_neg h3] at hz; cases hz
        · rw [if_neg h2] at hz
          by_cases h3 : x = 20256
          · rw [if_pos h3] at hz
            by_cases h4 : 1 ≤ st.length
            · rw [if_pos h4] at hz
              rcases st with _ | ⟨a, r⟩
              · exact absurd h4 (by decide)
              · clear push
                simp only [List.length_cons] at hs hz
                refine go (-a :: r) (zw_wI c5 60 r.length (-a)) ?_ (by unfold ze_step; rw [if_neg h1, if_neg h2, if_pos h3]) ⟨zw_wI_eq, zk_congr (fun j hj => zw_wI_at (by omega)) hk.2⟩ (by simp only [List.length_cons]; omega) (by simpa using hz) (fun k hk => (zw_wI_ne hk).trans (hg k hk)) hg2
                have e1 : nI (a :: r).length - 1 = nI r.length := nI_pred r.length
                unfold fn_Pays_reckon_l1
                dsimp only
                rw [if_pos (nI_lt hi' (by omega)), zp_dI hcd (by omega) (by omega), zp_bs, hx, if_neg h1, if_neg h2, if_pos h3, e1, zp_aI (by omega) (by omega), zp_bs, hk.1, zp_uI (by omega) (by omega), zp_bs, zp_bs]
                dsimp only
                rw [zp_bs]
                dsimp only
                rw [zp_bs]
                dsimp only
                rw [nI_1]
                rfl
            · rw [if_neg h4] at hz; cases hz
          · rw [if_neg h3] at hz
            by_cases h4 : 2 ≤ st.length
            · rw [if_pos h4] at hz
              rcases st with _ | ⟨b, _ | ⟨a, r⟩⟩
              · exact absurd h4 (by decide)
              · exact absurd h4 (by simp only [List.length_cons, List.length_nil]; omega)
              · clear push
                simp only [List.length_cons] at hs hz
                refine go (ze_join (x - 20000) a b :: r) (zw_wI c5 60 r.length (ze_join (x - 20000) a b)) ?_ (by unfold ze_step; rw [if_neg h1, if_neg h2, if_neg h3]) ⟨zw_wI_eq, zk_congr (fun j hj => zw_wI_at (by omega)) hk.2.2⟩ (by simp only [List.length_cons]; omega) (by simpa using hz) (fun k hk => (zw_wI_ne hk).trans (hg k hk)) hg2
                have e1 : nI (b :: a :: r).length + (-1) = nI (r.length + 1) := nI_m1 (r.length + 1)
                have e2 : nI (r.length + 1) - 1 = nI r.length := nI_pred r.length
                have k1 : c5.1 60 (r.length + 1) = b := hk.1
                have k2 : c5.1 60 r.length = a := hk.2.1
                unfold fn_Pays_reckon_l1
                dsimp only
                rw [if_pos (nI_lt hi' (by omega)), zp_dI hcd (by omega) (by omega), zp_bs, hx, if_neg h1, if_neg h2, if_neg h3, e1, e2, zp_aI (by omega) (by omega), zp_bs, k2, zp_aI (by omega) (by omega), zp_bs, k1, sp_join, zp_bs, zp_uI (by omega) (by omega), zp_bs, zp_bs]
                dsimp only
                rw [zp_bs]
                dsimp only
                rw [zp_bs]
                dsimp only
                rw [nI_1]
                rfl
            · rw [if_neg h4] at hz; cases hz
theorem sp_reckon {th : Nat → Int32} {cd : Nat} {X : List Int32} {c : zw_Ct} (hcd : zw_len SH 0 cd = some 60) (hne : cd ≠ 60) (hL : X.length ≤ 60) (hth : ∀ i, i < 9 → c.1 59 i = th i) (hX : ∀ k, k < X.length → c.1 cd k = X.getD k 0) (hz : zc_h X 0 = some 1) : ∃ c', fn_Pays_reckon c cd (nI X.length) = some (ze_val th X, c') ∧ (∀ k, k ≠ 60 → c'.1 k = c.1 k) ∧ c'.2 = c.2 := by
  obtain ⟨v, c', z1, z2, z3, z4, z5⟩ := sp_reckon_l (th := th) hcd hne hL hth X 0 [] c zw_F (fun k hk => by rw [Nat.zero_add]; exact hX k hk) (Nat.zero_add _) trivial (Nat.zero_le _) hz (fun _ _ => rfl) rfl (by unfold zw_F; omega)
  have z1' : zw_whl (fn_Pays_reckon_l1 (nI X.length) cd) zw_F (0, 0, c) = some (nI 1, c') := z1
  refine ⟨c', ?_, z4, z5⟩
  unfold fn_Pays_reckon
  rw [z1', zp_bs]
  dsimp only
  rw [show (0 : Int32) = nI 0 by rfl, zp_aI (by omega) (by omega), zp_bs, z3]
  unfold ze_val
  rw [z2]
  rfl
