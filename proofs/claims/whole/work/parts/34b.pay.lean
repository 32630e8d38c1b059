/-! the class's machine against the reading, by the reading's fuel -/
def zx_ex (h : Nat → Int32) (k q g : Nat) (md : Int32) : Prop := ((48 ≤ h q ∧ h q ≤ 57) → g = 0 ∨ g = 4) ∧ (k ≤ 2 → ¬ h q = 42 ∧ ¬ h q = 47) ∧ (k ≤ 1 → ¬ h q = 43 ∧ ¬ h q = 45) ∧ (k = 0 → (h q = 60 ∨ h q = 62 ∨ h q = 61) → md = 1)
def zx_ok (c0 : zw_Ct) (en : Nat) (h : Nat → Int32) (kb ke d p : Nat) (x : zw_Ct) (C W : List Int32) (m : Nat → Int32) (md : Int32) (r : List Int32 × Nat × Bool) : Prop := ∃ (x' : zw_Ct) (P C' : List Int32) (g : Nat) (m' : Nat → Int32), zx_go en p x r.2.1 x' ∧ zx_M c0 C' (P ++ W) d g 0 m' x' ∧ (∀ w ∈ P, nI (kb + 1) ≤ fn_Text_bond w) ∧ (P.map (fun w => 20000 + w)).reverse ++ C' = r.1.reverse ++ C ∧ (∀ j, j < d → m' j = m j) ∧ m' d = md ∧ zx_ex h ke r.2.1 g md ∧ C'.length + (P.length + W.length) ≤ r.2.1 ∧ r.2.1 ≤ en
theorem zx_ok.ex {c0 x : zw_Ct} {en kb ke ke' d p : Nat} {h m : Nat → Int32} {C W : List Int32} {md : Int32} {r : List Int32 × Nat × Bool} (H : zx_ok c0 en h kb ke d p x C W m md r) (f : ∀ g, zx_ex h ke r.2.1 g md → zx_ex h ke' r.2.1 g md) : zx_ok c0 en h kb ke' d p x C W m md r := by
  obtain ⟨x', P, C', g, m', c1, c2, c3, c4, c5, c6, c7, c8⟩ := H
  exact ⟨x', P, C', g, m', c1, c2, c3, c4, c5, c6, f g c7, c8⟩
theorem zx_ok.kb {c0 x : zw_Ct} {en k ke d p : Nat} {h m : Nat → Int32} {C W : List Int32} {md : Int32} {r : List Int32 × Nat × Bool} (hk : k ≤ 5) (H : zx_ok c0 en h (k + 1) ke d p x C W m md r) : zx_ok c0 en h k ke d p x C W m md r := by
  obtain ⟨x', P, C', g, m', c1, c2, c3, c4⟩ := H
  exact ⟨x', P, C', g, m', c1, c2, fun w hw => Int32.le_trans ((nI_leI (a := k + 1) (b := k + 1 + 1) (by omega) (by omega)).mpr (by omega)) (c3 w hw), c4⟩
def zx_P (c0 : zw_Ct) (en : Nat) (h : Nat → Int32) (kb ke d p : Nat) (x : zw_Ct) (C W : List Int32) (m : Nat → Int32) (md : Int32) (r : List Int32 × Nat × Bool) : Prop := (r.2.2 = true → zx_ok c0 en h kb ke d p x C W m md r) ∧ (¬ r.2.2 = true → zx_no c0 en p x r.2.1)
theorem zx_P.le {c0 x : zw_Ct} {en kb ke d p : Nat} {h m : Nat → Int32} {C W : List Int32} {md : Int32} {r : List Int32 × Nat × Bool} (H : zx_P c0 en h kb ke d p x C W m md r) : p ≤ r.2.1 := by
  by_cases q : r.2.2 = true
  · obtain ⟨x', P, C', g, m', c1, c2⟩ := H.1 q
    exact c1.1
  · obtain ⟨x', c1, c2⟩ := H.2 q
    exact c1.1
def zx_R (c0 : zw_Ct) (en : Nat) (h : Nat → Int32) (n k : Nat) : Prop := ∀ (d p g : Nat) (x : zw_Ct) (C W : List Int32) (m : Nat → Int32), d ≤ 5 → 4 * (5 - d) + (61 - p) + (4 - k) ≤ n → C.length + W.length ≤ p → p ≤ en → zx_M c0 C W d g 1 m x → (m d = 0 ∨ m d = 1) → (k = 0 → m d = 0) → (k < 3 → ∀ w t, W = w :: t → ¬ nI (k + 1) ≤ fn_Text_bond w) → ∃ md, (0 < k → md = m d) ∧ (md = 0 ∨ md = 1) ∧ zx_P c0 en h k k d p x C W m md (zt_pp h n k d p)
/-- after a whole expression, what is neither ) nor the end is wrong -/
theorem zx_rejJ {c0 x : zw_Ct} {C W : List Int32} {en p d g : Nat} {m h : Nat → Int32} (hU : zx_U c0 en h) (hp : p ≤ en) (hd5 : d ≤ 5) (hM : zx_M c0 C W d g 0 m x) (hE : zx_ex h 0 p g (m d)) (h41 : 0 < d → ¬ h p = 41) (hen : p = en → 0 < d) : zx_no c0 en p x p := by
  have h60 := hU.2.2
  obtain ⟨E1, E2, E3, E4⟩ := hE
  refine ⟨x, zx_go.refl en p x, hM.1, ?_⟩
  by_cases hq : p < en
  · obtain ⟨x2, t1, t2⟩ : ∃ x2, fn_Text_takesJoin x (h p) = some (0, x2) ∧ zx_G c0 x2 := by
      unfold fn_Text_takesJoin
      by_cases hdg : 48 ≤ h p ∧ h p ≤ 57
      · refine ⟨x, ?_, hM.1⟩
        have hi : fn_Text_isDigit (h p) = 1 := by unfold fn_Text_isDigit; rw [if_pos hdg]
        have hgo : fn_Text_goesOn x (h p) = some (0, x) := by
          unfold fn_Text_goesOn
          rw [hM.2.2.2.2.2.2.1]
          rcases E1 hdg with e | e
          · rw [if_pos (Or.inl (Or.inl (show nI g = 0 by rw [e]; rfl)))]
          · rw [if_pos (Or.inl (Or.inr (show (4 : Int32) ≤ nI g by rw [e]; decide)))]
        rw [hi, if_pos (by decide), hgo, zp_bs]
        dsimp only
        rw [zx_bz0, zp_bs]
      · have hi : fn_Text_isDigit (h p) = 0 := by unfold fn_Text_isDigit; rw [if_neg hdg]
        have e8 : zx_M c0 C W d 0 0 m (zw_wI x 40 8 0) := hM.set8 0
        refine ⟨zw_wI x 40 8 0, ?_, e8.1⟩
        rw [hi, if_neg (fun q => q rfl), zp_bs]
        by_cases e41 : h p = 41
        · have hd0 : d = 0 := by
            by_cases q : 0 < d
            · exact absurd e41 (h41 q)
            · omega
          have hc : fn_Text_closes (zw_wI x 40 8 0) = some (0, zw_wI x 40 8 0) := by
            unfold fn_Text_closes
            rw [e8.2.2.2.2.2.1, hd0, if_pos (show nI 0 = 0 by decide)]
          rw [if_pos e41, hc, zp_bs]
          dsimp only
          rw [zx_bz0, zp_bs]
        · rw [if_neg e41, zp_bs]
          by_cases hb : fn_Text_bond (h p) = 0
          · rw [if_pos hb]
          · have hcmp : h p = 60 ∨ h p = 62 ∨ h p = 61 := by
              by_cases q1 : h p = 60 ∨ h p = 62 ∨ h p = 61
              · exact q1
              · refine absurd ?_ hb
                have e2 := E2 (by omega)
                have e3 := E3 (by omega)
                obtain ⟨u, hu, e⟩ := (hU.1 p hq).2
                unfold fn_Text_bond
                rw [if_neg q1, if_neg (fun q => q.elim e3.1 e3.2), if_neg (fun q => q.elim e2.1 e2.2), if_neg (fun q => by
                  rw [e] at q
                  have := (nI_eq (a := u) (b := 256) (by omega) (by omega)).mp q
                  omega)]
            have hb1 : fn_Text_bond (h p) = 1 := by unfold fn_Text_bond; rw [if_pos hcmp]
            rw [hb1, if_neg (by decide), if_pos rfl, e8.2.2.2.2.2.1, zp_aI (by omega) (by omega), zp_bs, e8.2.2.2.2.2.2.2.2 d (Nat.le_refl _), E4 rfl hcmp, zp_bs, if_pos (by decide)]
    refine Or.inl ⟨hq, x2, ?_, t2⟩
    rw [zx_fJ hU hq hM.1 hM.2.2.2.2.2.2.2.1 t1, if_pos rfl]
  · have hpe : p = en := by omega
    refine Or.inr ⟨hpe, Or.inr ?_⟩
    rw [hM.2.2.2.2.2.1]
    exact nI_lt (hen hpe) (by omega)
theorem zx_thing {c0 : zw_Ct} {en n : Nat} {h : Nat → Int32} (hU : zx_U c0 en h) (IH3 : zx_R c0 en h n 3) (IH0 : zx_R c0 en h n 0) : zx_R c0 en h (n + 1) 3 := by
  intro d p g x C W m hd hn hl hp hM hm hm0 hW
  have h60 := hU.2.2
  refine ⟨m d, fun _ => rfl, hm, ?_⟩
  have epp : zt_pp h (n + 1) 3 d p = (if h p = 45 then ((zt_pp h n 3 d (p + 1)).1 ++ [20256], (zt_pp h n 3 d (p + 1)).2)
      else if h p = 40 ∧ d < 5 then (if (zt_pp h n 0 (d + 1) (p + 1)).2.2 = true ∧ h (zt_pp h n 0 (d + 1) (p + 1)).2.1 = 41 then ((zt_pp h n 0 (d + 1) (p + 1)).1, (zt_pp h n 0 (d + 1) (p + 1)).2.1 + 1, true) else ((zt_pp h n 0 (d + 1) (p + 1)).1, (zt_pp h n 0 (d + 1) (p + 1)).2.1, false))
      else if 48 ≤ h p ∧ h p ≤ 57 then ([(zt_num h 4 0 p).1], (zt_num h 4 0 p).2, true)
      else if 0 ≤ fn_ix (h p) then ([10000 + fn_ix (h p)], p + 1, true) else ([], p, false)) := rfl
  rw [epp]
  by_cases h45 : h p = 45
  · have hpe : p < en := hU.lt (by rw [h45]; decide)
    obtain ⟨x1, a1, a2⟩ := zx_neg hU hpe hl hM h45
    obtain ⟨md, b1, b2, b3, b4⟩ := IH3 d (p + 1) g x1 C (256 :: W) m hd (by omega) (by simp only [List.length_cons]; omega) (by omega) a2 hm (fun e => absurd e (by decide)) (fun e => absurd e (by decide))
    have hmd : md = m d := b1 (by decide)
    rw [hmd] at b3
    rw [if_pos h45]
    refine ⟨fun hr => ?_, fun hr => zx_no.after a1 (b4 hr)⟩
    obtain ⟨x', P, C', g', m', c1, c2, c3, c4, c5, c6, c7, c8, c9⟩ := b3 hr
    refine ⟨x', P ++ [256], C', g', m', a1.trans c1, by rw [List.append_assoc]; exact c2, ?_, ?_, c5, c6, c7, ?_, c9⟩
    · intro w hw
      rcases List.mem_append.mp hw with q | q
      · exact c3 w q
      · rw [List.mem_singleton.mp q]; decide
    · dsimp only
      rw [List.map_append, List.reverse_append, List.reverse_append, List.append_assoc, List.append_assoc, c4]
      show (20000 + 256 : Int32) :: _ = 20256 :: _
      rw [show (20000 + 256 : Int32) = 20256 by decide]
    · simp only [List.length_append, List.length_cons, List.length_nil] at c8 ⊢
      omega
  rw [if_neg h45]
  by_cases h40 : h p = 40 ∧ d < 5
  · have hpe : p < en := hU.lt (by rw [h40.1]; decide)
    obtain ⟨x1, a1, a2⟩ := zx_open hU hpe hl hM h40.1 h40.2
    obtain ⟨md, b1, b2, b3, b4⟩ := IH0 (d + 1) (p + 1) g x1 C (40 :: W) _ (by omega) (by omega) (by simp only [List.length_cons]; omega) (by omega) a2 (Or.inl (if_pos rfl)) (fun _ => if_pos rfl) (fun _ w t e => by cases e; decide)
    rw [if_pos h40]
    by_cases hr0 : (zt_pp h n 0 (d + 1) (p + 1)).2.2 = true
    · obtain ⟨x', P, C', g', m', c1, c2, c3, c4, c5, c6, c7, c8, c9⟩ := b3 hr0
      by_cases h41 : h (zt_pp h n 0 (d + 1) (p + 1)).2.1 = 41
      · rw [if_pos ⟨hr0, h41⟩]
        have hqe := hU.lt (p := (zt_pp h n 0 (d + 1) (p + 1)).2.1) (by rw [h41]; decide)
        simp only [List.length_cons] at c8
        obtain ⟨x2, d1, d2⟩ := zx_close (P := P) (W := W) (C := C') hU (by omega) c2 h40.2 c3 h41
        refine ⟨fun _ => ⟨x2, [], (P.map (fun w => 20000 + w)).reverse ++ C', 0, m', (a1.trans c1).trans d1, d2, fun w hw => absurd hw List.not_mem_nil, c4, fun j hj => (c5 j (by omega)).trans (if_neg (by omega)), (c5 d (by omega)).trans (if_neg (by omega)), ⟨fun _ => Or.inl rfl, fun e => absurd e (by decide), fun e => absurd e (by decide), fun e => absurd e (by decide)⟩, ?_, ?_⟩, fun q => absurd rfl q⟩
        · dsimp only
          rw [List.length_append, List.length_reverse, List.length_map, List.length_nil]
          omega
        · dsimp only
          omega
      · rw [if_neg (fun q => h41 q.2)]
        refine ⟨fun q => (by cases q), fun _ => zx_no.after (a1.trans c1) (zx_rejJ hU c9 (by omega) c2 (by rw [c6]; exact c7) (fun _ => h41) (fun _ => by omega))⟩
    · rw [if_neg (fun q => hr0 q.1)]
      exact ⟨fun q => (by cases q), fun _ => zx_no.after a1 (b4 hr0)⟩
  rw [if_neg h40]
  by_cases h9 : 48 ≤ h p ∧ h p ≤ 57
  · have hpe : p < en := hU.lt (fun e => by rw [e] at h9; exact absurd h9.1 (by decide))
    obtain ⟨x1, a1, a2⟩ := zx_dig hU hpe hl hM h9
    obtain ⟨x', g', b1, b2, b3, b4⟩ := zx_num hU 3 (p + 1) (h p - 48) x1 (Nat.le_refl _) (by omega) (by omega) a2
    have ez : zt_num h 4 0 p = zt_num h 3 (h p - 48) (p + 1) := by
      show (if 48 ≤ h p ∧ h p ≤ 57 then zt_num h 3 (10 * 0 + h p - 48) (p + 1) else _) = _
      rw [if_pos h9, show (10 : Int32) * 0 = 0 by decide, Int32.zero_add]
    rw [if_pos h9, ez]
    have hle := b1.1
    refine ⟨fun _ => ⟨x', [], _, g', m, a1.trans b1, b2, fun w hw => absurd hw List.not_mem_nil, rfl, fun _ _ => rfl, rfl, ⟨fun q => Or.inr (b3 q), fun e => absurd e (by decide), fun e => absurd e (by decide), fun e => absurd e (by decide)⟩, ?_, b4⟩, fun q => absurd rfl q⟩
    simp only [List.length_cons, List.length_nil]
    omega
  rw [if_neg h9]
  by_cases hi : 0 ≤ fn_ix (h p)
  · have hpe : p < en := hU.lt (fun e => by rw [e] at hi; exact absurd hi (by decide))
    obtain ⟨x1, a1, a2⟩ := zx_let hU hpe hl hM h45 (fun e => by
      by_cases q : d < 5
      · exact h40 ⟨e, q⟩
      · rw [e] at hi; exact absurd hi (by decide)) h9 hi
    rw [if_pos hi]
    refine ⟨fun _ => ⟨x1, [], _, 0, m, a1, a2, fun w hw => absurd hw List.not_mem_nil, rfl, fun _ _ => rfl, rfl, ⟨fun _ => Or.inl rfl, fun e => absurd e (by decide), fun e => absurd e (by decide), fun e => absurd e (by decide)⟩, ?_, by dsimp only; omega⟩, fun q => absurd rfl q⟩
    simp only [List.length_cons, List.length_nil]
    omega
  · rw [if_neg hi]
    exact ⟨fun q => (by cases q), fun _ => zx_rejT hU hp hd hM h45 h40 h9 hi⟩
theorem zx_more {c0 x : zw_Ct} {en n k d p : Nat} {h m : Nat → Int32} {C W : List Int32} {r : List Int32 × Nat × Bool} (hU : zx_U c0 en h) (hk : k ≤ 2) (hd : d ≤ 5) (IH : zx_R c0 en h n (k + 1)) (hf : 4 * (5 - d) + (61 - (r.2.1 + 1)) + (4 - (k + 1)) ≤ n) (hP : zx_ok c0 en h k (k + 1) d p x C W m (m d) r) (hm : m d = 0 ∨ m d = 1) (hm0 : k = 0 → m d = 0) (hW : ∀ w t, W = w :: t → ¬ nI (k + 1) ≤ fn_Text_bond w) (hs : fn_Text_bond (h r.2.1) = nI (k + 1)) (h41 : ¬ h r.2.1 = 41) (hdg : ¬ (48 ≤ h r.2.1 ∧ h r.2.1 ≤ 57)) (hne : h r.2.1 ≠ -1) : r.2.1 + 1 ≤ (zt_pp h n (k + 1) d (r.2.1 + 1)).2.1 ∧ zx_P c0 en h k (k + 1) d p x C W m (if k = 0 then 1 else m d) (r.1 ++ ((zt_pp h n (k + 1) d (r.2.1 + 1)).1 ++ [20000 + h r.2.1]), (zt_pp h n (k + 1) d (r.2.1 + 1)).2) := by
  have h60 := hU.2.2
  obtain ⟨x', P, C', g', m', c1, c2, c3, c4, c5, c6, c7, c8, c9⟩ := hP
  have hpe : r.2.1 < en := hU.lt hne
  obtain ⟨x1, a1, a2⟩ := zx_join hU hpe hd c8 c2 c3 hW hk hs h41 hdg (by rw [c6]; exact hm) (fun e => c6.trans (hm0 e))
  obtain ⟨md, b1, b2, b3⟩ := IH d (r.2.1 + 1) 0 x1 _ _ _ hd hf (by
    rw [List.length_append, List.length_reverse, List.length_map, List.length_cons]
    omega) (by omega) a2 (by
    (try dsimp only)
    rw [if_pos rfl]
    by_cases e : k = 0
    · rw [if_pos e]; exact Or.inr rfl
    · rw [if_neg e, c6]; exact hm) (fun e => absurd e (by omega)) (fun e w t e2 => by
    cases e2
    rw [hs]
    intro q
    have := (nI_leI (a := k + 1 + 1) (b := k + 1) (by omega) (by omega)).mp q
    omega)
  have hmd : md = if k = 0 then 1 else m d := by
    rw [b1 (by omega)]
    (try dsimp only)
    rw [if_pos rfl, c6]
  rw [hmd] at b3
  refine ⟨b3.le, fun hq => ?_, fun hq => zx_no.after (c1.trans a1) (b3.2 hq)⟩
  obtain ⟨y, P2, C2, g2, m2, e1, e2, e3, e4, e5, e6, e7, e8, e9⟩ := b3.1 hq
  refine ⟨y, P2 ++ [h r.2.1], C2, g2, m2, (c1.trans a1).trans e1, by rw [List.append_assoc]; exact e2, ?_, ?_, fun j hj => ((e5 j hj).trans (if_neg (by omega))).trans (c5 j hj), e6, e7, ?_, e9⟩
  · intro w hw
    rcases List.mem_append.mp hw with q | q
    · exact Int32.le_trans ((nI_leI (a := k + 1) (b := k + 1 + 1) (by omega) (by omega)).mpr (by omega)) (e3 w q)
    · rw [List.mem_singleton.mp q, hs]; exact Int32.le_refl _
  · simp only [List.map_append, List.reverse_append, List.map_cons, List.map_nil, List.reverse_cons, List.reverse_nil, List.nil_append, List.append_assoc, List.cons_append]
    rw [e4, c4]
  · simp only [List.length_append, List.length_cons, List.length_nil] at e8 ⊢
    omega
theorem zx_loop {c0 x : zw_Ct} {en n k d p : Nat} {a b : Int32} {h m : Nat → Int32} {C W : List Int32} (hU : zx_U c0 en h) (hk : (k = 1 ∧ a = 43 ∧ b = 45) ∨ (k = 2 ∧ a = 42 ∧ b = 47)) (hd : d ≤ 5) (IH : zx_R c0 en h n (k + 1)) (hf : 4 * (5 - d) + (61 - p) + (4 - k) ≤ n + 1) (hm : m d = 0 ∨ m d = 1) (hW : ∀ w t, W = w :: t → ¬ nI (k + 1) ≤ fn_Text_bond w) : ∀ (m0 : Nat) (r : List Int32 × Nat × Bool), 60 - r.2.1 < m0 → p ≤ r.2.1 → zx_P c0 en h k (k + 1) d p x C W m (m d) r → zx_P c0 en h k k d p x C W m (m d) (zt_l (fun p => zt_pp h n (k + 1) d p) h a b m0 r) := by
  have hk12 : k = 1 ∨ k = 2 := hk.elim (fun q => Or.inl q.1) (fun q => Or.inr q.1)
  intro m0
  induction m0 with
  | zero => intro r h0; omega
  | succ m0 ih =>
    intro r h0 hp hP
    by_cases hc : r.2.2 = true ∧ (h r.2.1 = a ∨ h r.2.1 = b)
    · have e : zt_l (fun p => zt_pp h n (k + 1) d p) h a b (m0 + 1) r = zt_l (fun p => zt_pp h n (k + 1) d p) h a b m0 (r.1 ++ ((zt_pp h n (k + 1) d (r.2.1 + 1)).1 ++ [20000 + h r.2.1]), (zt_pp h n (k + 1) d (r.2.1 + 1)).2) := by
        show (if r.2.2 = true ∧ (h r.2.1 = a ∨ h r.2.1 = b) then _ else r) = _
        rw [if_pos hc]
      have hall : fn_Text_bond (h r.2.1) = nI (k + 1) ∧ ¬ h r.2.1 = 41 ∧ ¬ (48 ≤ h r.2.1 ∧ h r.2.1 ≤ 57) ∧ h r.2.1 ≠ -1 := by
        rcases hk with ⟨rfl, rfl, rfl⟩ | ⟨rfl, rfl, rfl⟩ <;> rcases hc.2 with q | q <;> rw [q] <;> decide
      obtain ⟨z1, z2⟩ := zx_more hU (by omega) hd IH (by omega) (hP.1 hc.1) hm (fun e => absurd e (by omega)) hW hall.1 hall.2.1 hall.2.2.1 hall.2.2.2
      rw [if_neg (show ¬ k = 0 by omega)] at z2
      have h60 : r.2.1 < 60 := Nat.lt_of_lt_of_le (hU.lt hall.2.2.2) hU.2.2
      rw [e]
      exact ih _ (by dsimp only; omega) (by dsimp only; omega) z2
    · have e : zt_l (fun p => zt_pp h n (k + 1) d p) h a b (m0 + 1) r = r := by
        show (if r.2.2 = true ∧ (h r.2.1 = a ∨ h r.2.1 = b) then _ else r) = r
        rw [if_neg hc]
      rw [e]
      refine ⟨fun hr => (hP.1 hr).ex (fun g E => ?_), hP.2⟩
      have na : ¬ h r.2.1 = a := fun q => hc ⟨hr, Or.inl q⟩
      have nb : ¬ h r.2.1 = b := fun q => hc ⟨hr, Or.inr q⟩
      obtain ⟨E1, E2, E3, E4⟩ := E
      rcases hk with ⟨rfl, rfl, rfl⟩ | ⟨rfl, rfl, rfl⟩
      · exact ⟨E1, fun _ => E2 (by decide), fun _ => ⟨na, nb⟩, fun e => absurd e (by decide)⟩
      · exact ⟨E1, fun _ => ⟨na, nb⟩, fun e => absurd e (by decide), fun e => absurd e (by decide)⟩
theorem zx_mid {c0 : zw_Ct} {en n k : Nat} {a b : Int32} {h : Nat → Int32} (hU : zx_U c0 en h) (hk : (k = 1 ∧ a = 43 ∧ b = 45) ∨ (k = 2 ∧ a = 42 ∧ b = 47)) (hz : ∀ d p, zt_pp h (n + 1) k d p = zt_l (fun p => zt_pp h n (k + 1) d p) h a b 61 (zt_pp h n (k + 1) d p)) (IH : zx_R c0 en h n (k + 1)) : zx_R c0 en h (n + 1) k := by
  have hk12 : k = 1 ∨ k = 2 := hk.elim (fun q => Or.inl q.1) (fun q => Or.inr q.1)
  intro d p g x C W m hd hn hl hp hM hm hm0 hW
  obtain ⟨md, b1, b2, b3⟩ := IH d p g x C W m hd (by omega) hl hp hM hm (fun e => absurd e (by omega)) (fun _ w t e q => hW (by omega) w t e (Int32.le_trans ((nI_leI (a := k + 1) (b := k + 1 + 1) (by omega) (by omega)).mpr (by omega)) q))
  have hmd : md = m d := b1 (by omega)
  rw [hmd] at b3
  refine ⟨m d, fun _ => rfl, hm, ?_⟩
  rw [hz]
  exact zx_loop hU hk hd IH hn hm (hW (by omega)) 61 _ (by omega) b3.le ⟨fun hr => (b3.1 hr).kb (by omega), b3.2⟩
theorem zx_held {c0 : zw_Ct} {en n : Nat} {h : Nat → Int32} (hU : zx_U c0 en h) (IH : zx_R c0 en h n 1) : zx_R c0 en h (n + 1) 0 := by
  intro d p g x C W m hd hn hl hp hM hm hm0 hW
  have hmd0 := hm0 rfl
  obtain ⟨md, b1, b2, b3⟩ := IH d p g x C W m hd (by omega) hl hp hM hm (fun e => absurd e (by decide)) (fun _ w t e q => hW (by decide) w t e (Int32.le_trans ((nI_leI (a := 0 + 1) (b := 0 + 1 + 1) (by omega) (by omega)).mpr (by omega)) q))
  have hmd : md = m d := b1 (by omega)
  rw [hmd] at b3
  have hle := b3.le
  have epp : zt_pp h (n + 1) 0 d p = (if (zt_pp h n 1 d p).2.2 = true ∧ (h (zt_pp h n 1 d p).2.1 = 60 ∨ h (zt_pp h n 1 d p).2.1 = 62 ∨ h (zt_pp h n 1 d p).2.1 = 61) then ((zt_pp h n 1 d p).1 ++ ((zt_pp h n 1 d ((zt_pp h n 1 d p).2.1 + 1)).1 ++ [20000 + h (zt_pp h n 1 d p).2.1]), (zt_pp h n 1 d ((zt_pp h n 1 d p).2.1 + 1)).2) else zt_pp h n 1 d p) := rfl
  rw [epp]
  by_cases hc : (zt_pp h n 1 d p).2.2 = true ∧ (h (zt_pp h n 1 d p).2.1 = 60 ∨ h (zt_pp h n 1 d p).2.1 = 62 ∨ h (zt_pp h n 1 d p).2.1 = 61)
  · have hall : fn_Text_bond (h (zt_pp h n 1 d p).2.1) = nI (0 + 1) ∧ ¬ h (zt_pp h n 1 d p).2.1 = 41 ∧ ¬ (48 ≤ h (zt_pp h n 1 d p).2.1 ∧ h (zt_pp h n 1 d p).2.1 ≤ 57) ∧ h (zt_pp h n 1 d p).2.1 ≠ -1 := by
      rcases hc.2 with q | q | q <;> rw [q] <;> decide
    obtain ⟨z1, z2⟩ := zx_more (k := 0) hU (by omega) hd IH (by omega) ((b3.1 hc.1).kb (by omega)) hm hm0 (hW (by decide)) hall.1 hall.2.1 hall.2.2.1 hall.2.2.2
    rw [if_pos rfl] at z2
    rw [if_pos hc]
    refine ⟨1, fun e => absurd e (by decide), Or.inr rfl, fun hr => (z2.1 hr).ex (fun g E => ?_), z2.2⟩
    obtain ⟨E1, E2, E3, E4⟩ := E
    exact ⟨E1, fun _ => E2 (by decide), fun _ => E3 (by decide), fun _ _ => rfl⟩
  · rw [if_neg hc]
    refine ⟨m d, fun _ => rfl, hm, fun hr => ((b3.1 hr).kb (by omega)).ex (fun g E => ?_), b3.2⟩
    obtain ⟨E1, E2, E3, E4⟩ := E
    exact ⟨E1, fun _ => E2 (by decide), fun _ => E3 (by decide), fun _ q => absurd ⟨hr, q⟩ hc⟩
theorem zx_all {c0 : zw_Ct} {en : Nat} {h : Nat → Int32} (hU : zx_U c0 en h) : ∀ n, zx_R c0 en h n 0 ∧ zx_R c0 en h n 1 ∧ zx_R c0 en h n 2 ∧ zx_R c0 en h n 3 := by
  have h60 := hU.2.2
  intro n
  induction n with
  | zero => exact ⟨fun d p g x C W m hd h1 hl hp => absurd h1 (by omega), fun d p g x C W m hd h1 hl hp => absurd h1 (by omega), fun d p g x C W m hd h1 hl hp => absurd h1 (by omega), fun d p g x C W m hd h1 hl hp => absurd h1 (by omega)⟩
  | succ n ih => exact ⟨zx_held hU ih.2.1, zx_mid hU (Or.inl ⟨rfl, rfl, rfl⟩) (fun _ _ => rfl) ih.2.2.1, zx_mid hU (Or.inr ⟨rfl, rfl, rfl⟩) (fun _ _ => rfl) ih.2.2.2, zx_thing hU ih.2.2.2 ih.1⟩
