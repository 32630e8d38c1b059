/-! the sayings' list, a pay's text as code, and the relation between class and Model -/
def zt_C (E T a b : Nat) : Nat → Nat → List (Nat × Nat × Nat × Nat)
  | 0, _ => []
  | n + 1, k => (if (2 < E ∨ k = 0) ∧ (3 < E ∨ T - a - b - k = 0) then [(a, b, k, T - a - b - k)] else []) ++ zt_C E T a b n (k + 1)
def zt_B (E T a : Nat) : Nat → Nat → List (Nat × Nat × Nat × Nat)
  | 0, _ => []
  | n + 1, b => zt_C E T a b (T - a - b + 1) 0 ++ zt_B E T a n (b + 1)
def zt_A (E T : Nat) : Nat → Nat → List (Nat × Nat × Nat × Nat)
  | 0, _ => []
  | n + 1, a => zt_B E T a (T - a + 1) 0 ++ zt_A E T n (a + 1)
def zt (E T : Nat) : List (Nat × Nat × Nat × Nat) := zt_A E T (T + 1) 0
def zt_N (E T : Nat) : Nat := (zt E T).length
def zt_q (q : Nat × Nat × Nat × Nat) (e : Nat) : Nat := match e with
  | 0 => q.1
  | 1 => q.2.1
  | 2 => q.2.2.1
  | _ => q.2.2.2
def zt_p (E T s e : Nat) : Nat := zt_q ((zt E T).getD s (0, 0, 0, 0)) e
def zt_ET (E T : Nat) : Prop := 2 ≤ E ∧ E ≤ 4 ∧ 1 ≤ T ∧ T ≤ 12
theorem zt_chk : ∀ E, E < 5 → 2 ≤ E → ∀ T, T < 13 → 1 ≤ T → (2 ≤ (zt E T).length ∧ (zt E T).length ≤ 455 ∧ (zt E T).all (fun q => decide (q.1 + q.2.1 + q.2.2.1 + q.2.2.2 = T ∧ (E < 4 → q.2.2.2 = 0) ∧ (E < 3 → q.2.2.1 = 0))) = true) := by decide +kernel
theorem zt_ok {E T : Nat} (h : zt_ET E T) : 2 ≤ zt_N E T ∧ zt_N E T ≤ 455 ∧ ∀ q ∈ zt E T, q.1 + q.2.1 + q.2.2.1 + q.2.2.2 = T ∧ (E < 4 → q.2.2.2 = 0) ∧ (E < 3 → q.2.2.1 = 0) := by
  obtain ⟨h1, h2, h3⟩ := zt_chk E (by have := h.2.1; omega) h.1 T (by have := h.2.2.2; omega) h.2.2.1
  exact ⟨h1, h2, fun q hq => of_decide_eq_true (List.all_eq_true.mp h3 q hq)⟩
theorem zt_mem {E T s : Nat} (hs : s < zt_N E T) : (zt E T).getD s (0, 0, 0, 0) ∈ zt E T := by
  rw [List.getD_eq_getElem?_getD, List.getElem?_eq_getElem hs]
  exact List.getElem_mem hs
theorem zt_sum {E T s : Nat} (h : zt_ET E T) (hs : s < zt_N E T) : zt_p E T s 0 + zt_p E T s 1 + zt_p E T s 2 + zt_p E T s 3 = T ∧ (∀ e, E ≤ e → e < 4 → zt_p E T s e = 0) := by
  obtain ⟨h1, h2, h3⟩ := (zt_ok h).2.2 _ (zt_mem hs)
  refine ⟨h1, fun e he he4 => ?_⟩
  have := h.1
  rcases (show e = 2 ∨ e = 3 by omega) with rfl | rfl
  · exact h3 (by omega)
  · exact h2 (by omega)
theorem zt_le {E T s e : Nat} (h : zt_ET E T) (hs : s < zt_N E T) (he : e < 4) : zt_p E T s e ≤ T := by
  have := (zt_sum h hs).1
  rcases (show e = 0 ∨ e = 1 ∨ e = 2 ∨ e = 3 by omega) with rfl | rfl | rfl | rfl <;> omega
theorem zt_T {E T : Nat} (h : zt_ET E T) : zr_T E T (zt_N E T) (zt_p E T) := ⟨h.1, h.2.1, h.2.2.1, h.2.2.2, (zt_ok h).1, (zt_ok h).2.1, fun s hs e he => zt_le h hs he⟩
/-! a text's reading: code, where it ended, whether it stood -/
def zt_h (tx : Nat → Int32) (n p : Nat) : Int32 := if p < n ∧ p < 60 then tx p else -1
def zt_l (rc : Nat → List Int32 × Nat × Bool) (h : Nat → Int32) (a b : Int32) : Nat → List Int32 × Nat × Bool → List Int32 × Nat × Bool
  | 0, r => r
  | n + 1, r => if r.2.2 = true ∧ (h r.2.1 = a ∨ h r.2.1 = b) then zt_l rc h a b n (r.1 ++ ((rc (r.2.1 + 1)).1 ++ [20000 + h r.2.1]), (rc (r.2.1 + 1)).2) else r
def zt_num (h : Nat → Int32) : Nat → Int32 → Nat → Int32 × Nat
  | 0, v, p => (v, p)
  | n + 1, v, p => if 48 ≤ h p ∧ h p ≤ 57 then zt_num h n (10 * v + h p - 48) (p + 1) else (v, p)
def zt_pp (h : Nat → Int32) : Nat → Nat → Nat → Nat → List Int32 × Nat × Bool
  | 0, _, _, p => ([], p, false)
  | n + 1, k, d, p => match k with
    | 0 => if (zt_pp h n 1 d p).2.2 = true ∧ (h (zt_pp h n 1 d p).2.1 = 60 ∨ h (zt_pp h n 1 d p).2.1 = 62 ∨ h (zt_pp h n 1 d p).2.1 = 61) then ((zt_pp h n 1 d p).1 ++ ((zt_pp h n 1 d ((zt_pp h n 1 d p).2.1 + 1)).1 ++ [20000 + h (zt_pp h n 1 d p).2.1]), (zt_pp h n 1 d ((zt_pp h n 1 d p).2.1 + 1)).2) else zt_pp h n 1 d p
    | 1 => zt_l (fun p => zt_pp h n 2 d p) h 43 45 61 (zt_pp h n 2 d p)
    | 2 => zt_l (fun p => zt_pp h n 3 d p) h 42 47 61 (zt_pp h n 3 d p)
    | _ => if h p = 45 then ((zt_pp h n 3 d (p + 1)).1 ++ [20256], (zt_pp h n 3 d (p + 1)).2)
      else if h p = 40 ∧ d < 5 then (if (zt_pp h n 0 (d + 1) (p + 1)).2.2 = true ∧ h (zt_pp h n 0 (d + 1) (p + 1)).2.1 = 41 then ((zt_pp h n 0 (d + 1) (p + 1)).1, (zt_pp h n 0 (d + 1) (p + 1)).2.1 + 1, true) else ((zt_pp h n 0 (d + 1) (p + 1)).1, (zt_pp h n 0 (d + 1) (p + 1)).2.1, false))
      else if 48 ≤ h p ∧ h p ≤ 57 then ([(zt_num h 4 0 p).1], (zt_num h 4 0 p).2, true)
      else if 0 ≤ fn_ix (h p) then ([10000 + fn_ix (h p)], p + 1, true) else ([], p, false)
def zt_code (tx : Nat → Int32) (n : Nat) : Option (List Int32) := if (zt_pp (zt_h tx n) 100 0 0 0).2.2 = true ∧ (zt_pp (zt_h tx n) 100 0 0 0).2.1 = n then some (zt_pp (zt_h tx n) 100 0 0 0).1 else none
/-! code reckoned -/
def ze_join (g a b : Int32) : Int32 := if g = 60 then (if a < b then 1 else 0) else if g = 62 then (if b < a then 1 else 0) else if g = 61 then (if a = b then 1 else 0) else if g = 43 then a + b else if g = 45 then a - b else if g = 42 then a * b else if b = 0 then 0 else a / b
def ze_step (th : Nat → Int32) (x : Int32) (st : List Int32) : List Int32 := if x < 10000 then x :: st else if x < 20000 then th (x - 10000).toNatClampNeg :: st else if x = 20256 then (match st with
  | a :: r => -a :: r
  | [] => []) else (match st with
  | b :: a :: r => ze_join (x - 20000) a b :: r
  | _ => [])
def ze_run (th : Nat → Int32) (X : List Int32) (st : List Int32) : List Int32 := X.foldl (fun st x => ze_step th x st) st
def ze_val (th : Nat → Int32) (X : List Int32) : Int32 := (ze_run th X []).headD 0
def zs_max (f : Nat → Nat) : Nat → Nat
  | 0 => 0
  | n + 1 => max (zs_max f n) (f n)
def zs_sumN (f : Nat → Nat) : Nat → Nat
  | 0 => 0
  | n + 1 => zs_sumN f n + f n
def zs_sumI (f : Nat → Int32) : Nat → Int32
  | 0 => 0
  | n + 1 => zs_sumI f n + f n
def zt_th (E T : Nat) (pt : Nat → Nat → Nat) (tn : Nat → Int32) (s e : Nat) (i : Nat) : Int32 := match i with
  | 0 => nI (pt s e)
  | 1 => nI (zs_sumN (fun e => pt s e * pt s e) E)
  | 2 => nI (zs_max (pt s) E)
  | 3 => if pt s e = zs_max (pt s) E then 1 else 0
  | 4 => tn (pt s e)
  | 5 => zs_sumI (fun e => tn (pt s e)) E
  | 6 => nI e
  | 7 => nI E
  | _ => nI T
/-! the relation -/
def zr_Tab (E T : Nat) (c : zw_Ct) : Prop := zt_ET E T ∧ zr_S E T (zt_N E T) (zt_p E T) c ∧ zr_M E T (zt_N E T) (zt_p E T) c
/-- a pay -/
def zr_P (E T p : Nat) (c : zw_Ct) : Prop :=
  (c.1 46 p = 0 ∧ c.1 82 p = 0 ∧ c.1 81 p = 0) ∨
  (c.1 46 p = 2 ∧ c.1 82 p = 1 ∧ c.1 81 p = 0 ∧ c.1 58 p = 1 ∧ ∀ s, s < zt_N E T → ∀ e, e < E → c.1 (54 + p) (4 * s + e) = c.1 83 (4 * (455 * p + s) + e)) ∨
  (c.1 46 p = 1 ∧ c.1 82 p = 0 ∧ ∃ (n : Nat) (X : List Int32), 0 < n ∧ n ≤ 60 ∧ X.length ≤ 60 ∧ c.1 81 p = nI n ∧ zt_code (c.1 (77 + p)) n = some X ∧ c.1 52 p = nI X.length ∧ (∀ k, k < X.length → c.1 (48 + p) k = X.getD k 0) ∧
    (c.1 58 p = 0 ∨ (c.1 58 p = 1 ∧ ∀ s, s < zt_N E T → ∀ e, e < E → c.1 (54 + p) (4 * s + e) = ze_val (zt_th E T (zt_p E T) (c.1 4) s e) X)))
/-- people and evenings that are there -/
def zr_HV (E N : Nat) (crowd ev : Int32) (pe who said came : Nat → Int32) : Prop := ∃ P Q : Nat, crowd = nI P ∧ P ≤ 6 ∧ ev = nI Q ∧ Q ≤ 40 ∧ (∀ i, i < P → ∃ t, t < N ∧ pe i = nI t) ∧ ∀ k, k < Q → ∃ w s e, w < P ∧ s < N ∧ e < E ∧ who k = nI w ∧ said k = nI s ∧ came k = nI e
def zr_H (E T : Nat) (c : zw_Ct) : Prop := (∀ i, i < 13 → c.1 4 i = c.1 73 i) ∧ (∀ i, i < 6 → c.1 5 i = c.1 89 i) ∧ c.1 3 2 = c.1 71 26 ∧ (∀ i, i < 40 → c.1 6 i = c.1 94 i ∧ c.1 7 i = c.1 95 i ∧ c.1 8 i = c.1 96 i) ∧ c.1 3 6 = c.1 71 33 ∧ (∀ i, i < 6 → c.1 9 i = c.1 92 i ∧ c.1 10 i = c.1 93 i) ∧ c.1 3 9 = c.1 71 30 ∧ zr_HV E (zt_N E T) (c.1 3 2) (c.1 3 6) (c.1 5) (c.1 6) (c.1 7) (c.1 8)
/-- what is kept under i -/
def zr_K (E T i : Nat) (c : zw_Ct) : Prop := ∃ b : Bool, c.1 39 i = (if b then 1 else 0) ∧ (b = false → c.1 98 i = 0 ∨ ¬ c.1 99 i = c.1 71 10) ∧ (b = true → c.1 98 i = 1 ∧ c.1 99 i = c.1 71 10 ∧
  (∀ j, j < 13 → c.1 (16 + 8 * i) j = c.1 97 (154 * i + j)) ∧ c.1 (15 + 8 * i) 2 = c.1 97 (154 * i + 13) ∧ (∀ j, j < 6 → c.1 (17 + 8 * i) j = c.1 97 (154 * i + (14 + j))) ∧ c.1 (15 + 8 * i) 6 = c.1 97 (154 * i + 20) ∧
  (∀ j, j < 40 → c.1 (18 + 8 * i) j = c.1 97 (154 * i + (21 + 3 * j)) ∧ c.1 (19 + 8 * i) j = c.1 97 (154 * i + (22 + 3 * j)) ∧ c.1 (20 + 8 * i) j = c.1 97 (154 * i + (23 + 3 * j))) ∧ c.1 (15 + 8 * i) 9 = c.1 97 (154 * i + 141) ∧
  (∀ j, j < 6 → c.1 (21 + 8 * i) j = c.1 97 (154 * i + (142 + 2 * j)) ∧ c.1 (22 + 8 * i) j = c.1 97 (154 * i + (143 + 2 * j))) ∧ zr_HV E (zt_N E T) (c.1 (15 + 8 * i) 2) (c.1 (15 + 8 * i) 6) (c.1 (17 + 8 * i)) (c.1 (18 + 8 * i)) (c.1 (19 + 8 * i)) (c.1 (20 + 8 * i)))
/-- how often table() was taken, and what the kept ones remember of it -/
def zr_N (n : Nat) (c : zw_Ct) : Prop := ∃ t : Nat, t ≤ n ∧ c.1 71 10 = nI t ∧ ∀ i, i < 3 → (c.1 98 i = 0 ∨ (c.1 98 i = 1 ∧ ∃ u : Nat, u ≤ t ∧ c.1 99 i = nI u))
/-- THE TEXT -/
def zr_X (c : zw_Ct) : Prop := ∃ L : Nat, L ≤ 80 ∧ c.1 40 1 = nI L ∧ c.1 71 6 = nI L ∧ ∀ k, k < L → ∃ u : Nat, u < 256 ∧ c.1 41 k = nI u ∧ c.1 74 k = (nI u).toInt8.toInt32
/-- THE ROW -/
def zr_R (c : zw_Ct) : Prop := ∃ r : Nat, r ≤ 16 ∧ c.1 61 1 = nI r ∧ c.1 71 8 = nI r ∧ ∀ k, k < r → c.2 62 k = c.2 75 k
def zr_Rl (n E T : Nat) (c : zw_Ct) : Prop := zr_N n c ∧ zr_X c ∧ zr_Tab E T c ∧ (∀ p, p < 4 → zr_P E T p c) ∧ zr_H E T c ∧ ∀ i, i < 3 → zr_K E T i c
def zr_Rel (n : Nat) (c : zw_Ct) : Prop := zr_R c ∧ ∃ E T : Nat, zr_Rl n E T c
