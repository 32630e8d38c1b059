/-! numbers as whole numbers; sums, greatest ones, counts; loops that count up -/
def lI (z : Int) : Int64 := Int64.ofInt z
theorem lI_add (a b : Int) : lI a + lI b = lI (a + b) := (Int64.ofInt_add a b).symm
theorem lI_sub (a b : Int) : lI a - lI b = lI (a - b) := (Int64.ofInt_sub a b).symm
theorem lI_mul (a b : Int) : lI a * lI b = lI (a * b) := (Int64.ofInt_mul a b).symm
theorem lI_neg (a : Int) : -lI a = lI (-a) := (Int64.ofInt_neg a).symm
/-- far from where a long wraps -/
def zb (z : Int) : Prop := -4611686018427387904 ≤ z ∧ z ≤ 4611686018427387904
theorem lI_toInt {z : Int} (h : zb z) : (lI z).toInt = z := by
  obtain ⟨h1, h2⟩ := h
  unfold lI
  rw [Int64.toInt_ofInt, show Int64.size = 18446744073709551616 from rfl]
  exact Int.bmod_eq_of_le (by omega) (by omega)
theorem lI_lt {a b : Int} (ha : zb a) (hb : zb b) : lI a < lI b ↔ a < b := by rw [Int64.lt_iff_toInt_lt, lI_toInt ha, lI_toInt hb]
theorem lI_le {a b : Int} (ha : zb a) (hb : zb b) : lI a ≤ lI b ↔ a ≤ b := by rw [Int64.le_iff_toInt_le, lI_toInt ha, lI_toInt hb]
theorem lI_eq {a b : Int} (ha : zb a) (hb : zb b) : lI a = lI b ↔ a = b := ⟨fun h => by rw [← lI_toInt ha, h, lI_toInt hb], fun h => by rw [h]⟩
theorem i_bd (x : Int32) : -2147483648 ≤ x.toInt ∧ x.toInt ≤ 2147483647 := by
  have h1 := Int32.le_toInt x
  have h2 := Int32.toInt_lt x
  omega
theorem iL (x : Int32) : x.toInt64 = lI x.toInt := by
  have h := i_bd x
  exact Int64.toInt_inj.mp (by rw [Int32.toInt_toInt64, lI_toInt ⟨by omega, by omega⟩])
theorem nL {n : Nat} (h : n < 2 ^ 31) : (nI n).toInt64 = lI n := by rw [iL, nI_toInt h]
theorem lI_z : (0 : Int64) = lI 0 := rfl
theorem lI_ite {P : Prop} [Decidable P] (a b : Int) : (if P then lI a else lI b) = lI (if P then a else b) := by split <;> rfl
theorem nI_ite {P : Prop} [Decidable P] (a b : Nat) : (if P then nI a else nI b) = nI (if P then a else b) := by split <;> rfl
theorem nI_mul (a b : Nat) : nI a * nI b = nI (a * b) := (Int32.ofNat_mul a b).symm
theorem nI_sub {a b : Nat} (h : b ≤ a) : nI a - nI b = nI (a - b) := by
  rw [show a = (a - b) + b by omega, ← nI_add, Int32.add_sub_cancel, Nat.add_sub_cancel]
/-- the index of saying s, event e -/
theorem nI_at (s e : Nat) : nI s * 4 + nI e = nI (4 * s + e) := by rw [show (4 : Int32) = nI 4 by rfl, nI_mul, nI_add, Nat.mul_comm]
theorem nI_at' (s e : Nat) : 4 * nI s + nI e = nI (4 * s + e) := by rw [show (4 : Int32) = nI 4 by rfl, nI_mul, nI_add]
theorem nI_4 (s : Nat) : nI s * 4 = nI (4 * s) := by rw [show (4 : Int32) = nI 4 by rfl, nI_mul, Nat.mul_comm]
theorem nI_4' (s : Nat) : 4 * nI s = nI (4 * s) := by rw [show (4 : Int32) = nI 4 by rfl, nI_mul]
/-! sums -/
def zs_sum (f : Nat → Int) : Nat → Int
  | 0 => 0
  | n + 1 => zs_sum f n + f n
theorem zs_sum_congr {f g : Nat → Int} : ∀ {n : Nat}, (∀ i, i < n → f i = g i) → zs_sum f n = zs_sum g n
  | 0, _ => rfl
  | n + 1, h => by
    show zs_sum f n + f n = zs_sum g n + g n
    rw [zs_sum_congr (fun i hi => h i (by omega)), h n (by omega)]
theorem zs_sum_add (f g : Nat → Int) : ∀ n : Nat, zs_sum (fun i => f i + g i) n = zs_sum f n + zs_sum g n
  | 0 => rfl
  | n + 1 => by
    show zs_sum (fun i => f i + g i) n + (f n + g n) = zs_sum f n + f n + (zs_sum g n + g n)
    rw [zs_sum_add f g n]; omega
theorem zs_sum_mul (k : Int) (f : Nat → Int) : ∀ n : Nat, zs_sum (fun i => k * f i) n = k * zs_sum f n
  | 0 => (Int.mul_zero k).symm
  | n + 1 => by
    show zs_sum (fun i => k * f i) n + k * f n = k * (zs_sum f n + f n)
    rw [zs_sum_mul k f n, Int.mul_add]
theorem zs_sum_bd {f : Nat → Int} {B : Int} : ∀ {n : Nat}, (∀ i, i < n → -B ≤ f i ∧ f i ≤ B) → -(n * B) ≤ zs_sum f n ∧ zs_sum f n ≤ n * B
  | 0, _ => by simp [zs_sum]
  | n + 1, h => by
    obtain ⟨a1, a2⟩ := zs_sum_bd (n := n) (fun i hi => h i (by omega))
    obtain ⟨b1, b2⟩ := h n (by omega)
    have e : ((n + 1 : Nat) : Int) * B = n * B + B := by push_cast; rw [Int.add_mul, Int.one_mul]
    rw [e]
    show -(n * B + B) ≤ zs_sum f n + f n ∧ zs_sum f n + f n ≤ n * B + B
    omega
/-! the first of the greatest -/
def zs_top (f : Nat → Int) : Nat → Nat
  | 0 => 0
  | n + 1 => if f (zs_top f n) < f n then n else zs_top f n
theorem zs_top_lt (f : Nat → Int) : ∀ {n : Nat}, 0 < n → zs_top f n < n
  | n + 1, _ => by
    unfold zs_top
    split
    · omega
    · cases n with
      | zero => exact Nat.zero_lt_one
      | succ n => exact Nat.lt_succ_of_lt (zs_top_lt f (by omega))
theorem zs_top_max (f : Nat → Int) : ∀ {n i : Nat}, i < n → f i ≤ f (zs_top f n)
  | n + 1, i, h => by
    unfold zs_top
    by_cases hi : i = n
    · subst hi
      split <;> omega
    · have := zs_top_max f (n := n) (i := i) (by omega)
      split <;> omega
theorem zs_top_first (f : Nat → Int) : ∀ {n i : Nat}, i < zs_top f n → f i < f (zs_top f n)
  | 0, i, h => by simp [zs_top] at h
  | n + 1, i, h => by
    unfold zs_top at h ⊢
    split
    · rename_i hc
      rw [if_pos hc] at h
      have := zs_top_max f (n := n) (i := i) h
      omega
    · rename_i hc
      rw [if_neg hc] at h
      exact zs_top_first f h
theorem zs_top_eq (f : Nat → Int) {n k : Nat} (hk : k < n) (h1 : ∀ i, i < n → f i ≤ f k) (h2 : ∀ i, i < k → f i < f k) : zs_top f n = k := by
  have a := zs_top_max f hk
  have b := h1 _ (zs_top_lt f (n := n) (by omega))
  rcases Nat.lt_trichotomy (zs_top f n) k with h | h | h
  · have := h2 _ h; omega
  · exact h
  · have := zs_top_first f h; omega
theorem zs_top_congr {f g : Nat → Int} : ∀ {n : Nat}, (∀ i, i < n → f i = g i) → zs_top f n = zs_top g n
  | 0, _ => rfl
  | n + 1, h => by
    have e := zs_top_congr (n := n) (fun i hi => h i (by omega))
    unfold zs_top
    rw [e]
    cases n with
    | zero => simp [zs_top]
    | succ n => rw [h (zs_top g (n + 1)) (Nat.lt_succ_of_lt (zs_top_lt g (n := n + 1) (by omega))), h (n + 1) (by omega)]
/-! counts -/
def zs_cnt (p : Nat → Bool) : Nat → Nat
  | 0 => 0
  | n + 1 => zs_cnt p n + if p n then 1 else 0
theorem zs_cnt_le (p : Nat → Bool) : ∀ n : Nat, zs_cnt p n ≤ n
  | 0 => Nat.le_refl _
  | n + 1 => by
    have := zs_cnt_le p n
    unfold zs_cnt
    split <;> omega
theorem zs_cnt_congr {p q : Nat → Bool} : ∀ {n : Nat}, (∀ i, i < n → p i = q i) → zs_cnt p n = zs_cnt q n
  | 0, _ => rfl
  | n + 1, h => by
    unfold zs_cnt
    rw [zs_cnt_congr (fun i hi => h i (by omega)), h n (by omega)]
/-! loops that count up to N -/
theorem zp_up {τ ρ : Type} {f : τ → Option (ρ ⊕ τ)} {I : Nat → τ → Prop} {P : ρ → Prop} (N : Nat) (hN : N < zw_F) (step : ∀ i t, i < N → I i t → (∃ t', f t = some (.inr t') ∧ I (i + 1) t') ∨ (∃ x, f t = some (.inl x) ∧ P x)) (stop : ∀ t, I N t → ∃ x, f t = some (.inl x) ∧ P x) (i : Nat) (t : τ) (hi : i ≤ N) (h : I i t) : ∃ x, zw_whl f zw_F t = some x ∧ P x := by
  refine zp_whl (I := fun n t => n ≤ N ∧ I (N - n) t) (P := P) (fun n t h => ?_) (N - i) zw_F t (by omega) ⟨by omega, by rw [show N - (N - i) = i by omega]; exact h⟩
  obtain ⟨hn, h⟩ := h
  cases n with
  | zero =>
    obtain ⟨x, h1, h2⟩ := stop t h
    exact Or.inl ⟨x, h1, h2⟩
  | succ n =>
    rcases step (N - (n + 1)) t (by omega) h with ⟨t', h1, h2⟩ | ⟨x, h1, h2⟩
    · refine Or.inr ⟨n, t', rfl, h1, by omega, ?_⟩
      rw [show N - n = N - (n + 1) + 1 by omega]; exact h2
    · exact Or.inl ⟨x, h1, h2⟩
theorem zp_up2 {τ ρ τ' ρ' : Type} {f : τ → Option (ρ ⊕ τ)} {g : τ' → Option (ρ' ⊕ τ')} {I : Nat → τ → τ' → Prop} {P : ρ → ρ' → Prop} (N : Nat) (hN : N < zw_F) (step : ∀ i t u, i < N → I i t u → (∃ t' u', f t = some (.inr t') ∧ g u = some (.inr u') ∧ I (i + 1) t' u') ∨ (∃ x y, f t = some (.inl x) ∧ g u = some (.inl y) ∧ P x y)) (stop : ∀ t u, I N t u → ∃ x y, f t = some (.inl x) ∧ g u = some (.inl y) ∧ P x y) (i : Nat) (t : τ) (u : τ') (hi : i ≤ N) (h : I i t u) : ∃ x y, zw_whl f zw_F t = some x ∧ zw_whl g zw_F u = some y ∧ P x y := by
  refine zp_whl2 (I := fun n t u => n ≤ N ∧ I (N - n) t u) (P := P) (fun n t u h => ?_) (N - i) zw_F t u (by omega) ⟨by omega, by rw [show N - (N - i) = i by omega]; exact h⟩
  obtain ⟨hn, h⟩ := h
  cases n with
  | zero =>
    obtain ⟨x, y, h1, h2, h3⟩ := stop t u h
    exact Or.inl ⟨x, y, h1, h2, h3⟩
  | succ n =>
    rcases step (N - (n + 1)) t u (by omega) h with ⟨t', u', h1, h2, h3⟩ | ⟨x, y, h1, h2, h3⟩
    · refine Or.inr ⟨n, t', u', rfl, h1, h2, by omega, ?_⟩
      rw [show N - n = N - (n + 1) + 1 by omega]; exact h3
    · exact Or.inl ⟨x, y, h1, h2, h3⟩
/-! reading behind writing -/
theorem zp_rI (c : zw_Ct) (k i : Nat) (v : Int32) (k' i' : Nat) : (zw_wI c k i v).1 k' i' = if k' = k ∧ i' = i then v else c.1 k' i' := rfl
theorem zp_rL (c : zw_Ct) (k i : Nat) (v : Int64) (k' i' : Nat) : (zw_wL c k i v).2 k' i' = if k' = k ∧ i' = i then v else c.2 k' i' := rfl
theorem zp_rIL (c : zw_Ct) (k i : Nat) (v : Int32) : (zw_wI c k i v).2 = c.2 := rfl
theorem zp_rLI (c : zw_Ct) (k i : Nat) (v : Int64) : (zw_wL c k i v).1 = c.1 := rfl
theorem zp_bs {α β : Type} (a : α) (f : α → Option β) : (some a).bind f = f a := rfl
theorem zp_ri {k n i : Nat} {c c' : zw_Ct} {v : Int32} (h : zw_uI n c k (nI i) v = some c') (hi : i < 2 ^ 31) : c' = zw_wI c k i v := by
  obtain ⟨-, h⟩ := zw_uI_of h
  rw [nI_clamp hi] at h
  exact h.symm
