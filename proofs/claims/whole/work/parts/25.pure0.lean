/-! the functions of the methods, taken as functions: loops, places, frames -/
theorem zp_whl {τ ρ : Type} {f : τ → Option (ρ ⊕ τ)} {I : Nat → τ → Prop} {P : ρ → Prop} (step : ∀ n t, I n t → (∃ x, f t = some (.inl x) ∧ P x) ∨ (∃ n' t', n = n' + 1 ∧ f t = some (.inr t') ∧ I n' t')) : ∀ n N t, n < N → I n t → ∃ x, zw_whl f N t = some x ∧ P x := by
  intro n
  induction n with
  | zero =>
    intro N t hN hI
    cases N with
    | zero => omega
    | succ N =>
      rcases step 0 t hI with ⟨x, h1, h2⟩ | ⟨n', t', h1, _⟩
      · exact ⟨x, by simp only [zw_whl, h1, Option.bind_some], h2⟩
      · omega
  | succ n ih =>
    intro N t hN hI
    cases N with
    | zero => omega
    | succ N =>
      rcases step (n + 1) t hI with ⟨x, h1, h2⟩ | ⟨n', t', h0, h1, h2⟩
      · exact ⟨x, by simp only [zw_whl, h1, Option.bind_some], h2⟩
      · obtain rfl : n' = n := by omega
        obtain ⟨x, h3, h4⟩ := ih N t' (by omega) h2
        exact ⟨x, by simp only [zw_whl, h1, Option.bind_some, h3], h4⟩
theorem zp_whl2 {τ ρ τ' ρ' : Type} {f : τ → Option (ρ ⊕ τ)} {g : τ' → Option (ρ' ⊕ τ')} {I : Nat → τ → τ' → Prop} {P : ρ → ρ' → Prop} (step : ∀ n t u, I n t u → (∃ x y, f t = some (.inl x) ∧ g u = some (.inl y) ∧ P x y) ∨ (∃ n' t' u', n = n' + 1 ∧ f t = some (.inr t') ∧ g u = some (.inr u') ∧ I n' t' u')) : ∀ n N t u, n < N → I n t u → ∃ x y, zw_whl f N t = some x ∧ zw_whl g N u = some y ∧ P x y := by
  intro n
  induction n with
  | zero =>
    intro N t u hN hI
    cases N with
    | zero => omega
    | succ N =>
      rcases step 0 t u hI with ⟨x, y, h1, h2, h3⟩ | ⟨n', t', u', h1, _⟩
      · exact ⟨x, y, by simp only [zw_whl, h1, Option.bind_some], by simp only [zw_whl, h2, Option.bind_some], h3⟩
      · omega
  | succ n ih =>
    intro N t u hN hI
    cases N with
    | zero => omega
    | succ N =>
      rcases step (n + 1) t u hI with ⟨x, y, h1, h2, h3⟩ | ⟨n', t', u', h0, h1, h2, h3⟩
      · exact ⟨x, y, by simp only [zw_whl, h1, Option.bind_some], by simp only [zw_whl, h2, Option.bind_some], h3⟩
      · obtain rfl : n' = n := by omega
        obtain ⟨x, y, h4, h5, h6⟩ := ih N t' u' (by omega) h3
        exact ⟨x, y, by simp only [zw_whl, h1, Option.bind_some, h4], by simp only [zw_whl, h2, Option.bind_some, h5], h6⟩
theorem zp_aI {n k a : Nat} {c : zw_Ct} (h : k < n) (hn : n < 2 ^ 31) : zw_aI n c a (nI k) = some (c.1 a k) := by
  unfold zw_aI; rw [if_neg (nI_in h hn), nI_clamp (by omega)]
theorem zp_aL {n k a : Nat} {c : zw_Ct} (h : k < n) (hn : n < 2 ^ 31) : zw_aL n c a (nI k) = some (c.2 a k) := by
  unfold zw_aL; rw [if_neg (nI_in h hn), nI_clamp (by omega)]
theorem zp_uI {n k a : Nat} {c : zw_Ct} {v : Int32} (h : k < n) (hn : n < 2 ^ 31) : zw_uI n c a (nI k) v = some (zw_wI c a k v) := by
  unfold zw_uI; rw [if_neg (nI_in h hn), nI_clamp (by omega)]
theorem zp_uL {n k a : Nat} {c : zw_Ct} {v : Int64} (h : k < n) (hn : n < 2 ^ 31) : zw_uL n c a (nI k) v = some (zw_wL c a k v) := by
  unfold zw_uL; rw [if_neg (nI_in h hn), nI_clamp (by omega)]
/-- contents that agree outside these cells -/
def zp_E (S : List Nat) (c c' : zw_Ct) : Prop := ∀ k, k ∉ S → c'.1 k = c.1 k ∧ c'.2 k = c.2 k
theorem zp_E.rf {S : List Nat} {c : zw_Ct} : zp_E S c c := fun _ _ => ⟨rfl, rfl⟩
theorem zp_E.tr {S : List Nat} {c c' c'' : zw_Ct} (h : zp_E S c c') (h' : zp_E S c' c'') : zp_E S c c'' := fun k hk => ⟨(h' k hk).1.trans (h k hk).1, (h' k hk).2.trans (h k hk).2⟩
theorem zp_E.mono {S S' : List Nat} {c c' : zw_Ct} (h : zp_E S c c') (hs : ∀ k ∈ S, k ∈ S') : zp_E S' c c' := fun k hk => h k (fun z => hk (hs k z))
theorem zp_E.wI {S : List Nat} {c c' : zw_Ct} (h : zp_E S c c') {k i : Nat} {v : Int32} (hk : k ∈ S) : zp_E S c (zw_wI c' k i v) := fun j hj => ⟨(zw_wI_ne (fun z => hj (by rw [z]; exact hk))).trans (h j hj).1, (h j hj).2⟩
theorem zp_E.wL {S : List Nat} {c c' : zw_Ct} (h : zp_E S c c') {k i : Nat} {v : Int64} (hk : k ∈ S) : zp_E S c (zw_wL c' k i v) := fun j hj => ⟨(h j hj).1, (zw_wL_ne (fun z => hj (by rw [z]; exact hk))).trans (h j hj).2⟩
