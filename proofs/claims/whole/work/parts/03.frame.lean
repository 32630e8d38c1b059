/-! the world of the whole system: cells by their numbers; the judgement ZW: one walk's goal over numbers instead of addresses -/
abbrev zw_Kd : Type := (Nat × Nat) ⊕ Nat
abbrev zw_Sh : Type := List zw_Kd
abbrev zw_Ct : Type := (Nat → Nat → Int32) × (Nat → Nat → Int64)
abbrev zw_RR : Type := Nat → Nat → Option Nat
abbrev zw_Lc : Type := List (Option Value)
abbrev zw_G : Type := va_G × (Nat → ClassId) × Nat × (Nat → Nat) × (Nat → Nat)
def zw_ov (o : Option Nat) : Value := match o with
  | none => .null
  | some r => .ref r
def zw_cv (b : Nat) (v : Value) : Value := match v with
  | .ref r => .ref (b + r)
  | v => v
theorem zw_cv_cat (b : Nat) (v : Value) : (zw_cv b v).category = v.category := by cases v <;> rfl
def zw_fv (b : Nat) (rr : zw_RR) (c : zw_Ct) (k i : Nat) (t : Nat) : Value := match t with
  | 0 => .int (c.1 k i)
  | 1 => .long (c.2 k i)
  | 2 => zw_cv b (zw_ov (rr k i))
  | _ => if c.1 k i ≤ 0 then .null else .ref (b + (c.1 k i).toNatClampNeg)
def zw_flds (b : Nat) (rr : zw_RR) (c : zw_Ct) (k ci : Nat) : List Value := (zw_ft ci).mapIdx (fun i t => zw_fv b rr c k i t)
def zw_ac (b : Nat) (rr : zw_RR) (c : zw_Ct) (k : Nat) (t : Nat) : (Nat → Int32) ⊕ (Nat → Int64) ⊕ (Nat → UInt32) ⊕ (Nat → UInt64) ⊕ (Nat → Option Nat) := match t with
  | 0 => .inl (c.1 k)
  | 1 => .inr (.inl (c.2 k))
  | 2 => .inl (c.1 k)
  | 3 => .inl (c.1 k)
  | _ => .inr (.inr (.inr (.inr (fun i => (rr k i).map (fun r => b + r)))))
def zw_cell (ta : Nat → ClassId) (b : Nat) (rr : zw_RR) (c : zw_Ct) (k : Nat) (K : zw_Kd) : va_E := match K with
  | .inl q => .inl (ta q.1, q.2, zw_ac b rr c k q.1)
  | .inr ci => .inr (ci, zw_flds b rr c k ci)
def zw_ws (g : zw_G) (rr : zw_RR) (c : zw_Ct) (sh : zw_Sh) : va_W := sh.mapIdx (fun k K => (g.2.2.1 + k, zw_cell g.2.1 g.2.2.1 rr c k K))
theorem zw_ws_get {g : zw_G} {rr : zw_RR} {c : zw_Ct} {sh : zw_Sh} {k : Nat} {K : zw_Kd} (h : sh[k]? = some K) : (zw_ws g rr c sh)[k]? = some (g.2.2.1 + k, zw_cell g.2.1 g.2.2.1 rr c k K) := by
  rw [zw_ws, List.getElem?_mapIdx, h]; rfl
theorem zw_ws_at {g : zw_G} {rr : zw_RR} {c : zw_Ct} {sh : zw_Sh} {k : Nat} {q : Nat × va_E} (h : (zw_ws g rr c sh)[k]? = some q) : ∃ K, sh[k]? = some K ∧ q = (g.2.2.1 + k, zw_cell g.2.1 g.2.2.1 rr c k K) := by
  rw [zw_ws, List.getElem?_mapIdx] at h
  cases hk : sh[k]? with
  | none => rw [hk] at h; cases h
  | some K => rw [hk] at h; exact ⟨K, rfl, (Option.some.inj h).symm⟩
theorem zw_cell_congr {ta : Nat → ClassId} {b : Nat} {rr rr' : zw_RR} {c c' : zw_Ct} {k : Nat} (K : zw_Kd) (h1 : c'.1 k = c.1 k) (h2 : c'.2 k = c.2 k) (h3 : rr' k = rr k) : zw_cell ta b rr' c' k K = zw_cell ta b rr c k K := by
  have e1 : ∀ t, zw_ac b rr' c' k t = zw_ac b rr c k t := fun t => by unfold zw_ac; rw [h1, h2, h3]
  have e2 : ∀ i t, zw_fv b rr' c' k i t = zw_fv b rr c k i t := fun i t => by unfold zw_fv; rw [h1, h2, h3]
  cases K with
  | inl q => simp only [zw_cell, e1]
  | inr ci => simp only [zw_cell, zw_flds, e2]
theorem zw_set {g : zw_G} {rr : zw_RR} {c c' : zw_Ct} {sh : zw_Sh} {k : Nat} {K : zw_Kd} (h : sh[k]? = some K) (h1 : ∀ j, j ≠ k → c'.1 j = c.1 j) (h2 : ∀ j, j ≠ k → c'.2 j = c.2 j) : (zw_ws g rr c sh).set k (g.2.2.1 + k, zw_cell g.2.1 g.2.2.1 rr c' k K) = zw_ws g rr c' sh := by
  have hl : k < sh.length := (List.getElem?_eq_some_iff.mp h).1
  apply List.ext_getElem?
  intro j
  by_cases hj : j = k
  · subst hj
    rw [List.getElem?_set_self (by rw [zw_ws, List.length_mapIdx]; exact hl), zw_ws_get h]
  · rw [List.getElem?_set_ne (Ne.symm hj)]
    rw [zw_ws, zw_ws, List.getElem?_mapIdx, List.getElem?_mapIdx]
    cases sh[j]? with
    | none => rfl
    | some K' => simp only [Option.map_some]; rw [zw_cell_congr K' (h1 j hj) (h2 j hj) rfl]
theorem zw_D {g : zw_G} {rr : zw_RR} {c : zw_Ct} {sh : zw_Sh} : va_D (fun q => g.2.2.1 ≤ q) (zw_ws g rr c sh) := by
  refine ⟨fun i j p q hp hq e => ?_, fun k q hk => ?_⟩
  · obtain ⟨K, -, rfl⟩ := zw_ws_at hp
    obtain ⟨K', -, rfl⟩ := zw_ws_at hq
    exact Nat.add_left_cancel e
  · obtain ⟨K, -, rfl⟩ := zw_ws_at hk
    exact Nat.le_add_right _ _
def zw_wI (c : zw_Ct) (k i : Nat) (v : Int32) : zw_Ct := (fun k' i' => if k' = k ∧ i' = i then v else c.1 k' i', c.2)
def zw_wL (c : zw_Ct) (k i : Nat) (v : Int64) : zw_Ct := (c.1, fun k' i' => if k' = k ∧ i' = i then v else c.2 k' i')
theorem zw_wI_ne {c : zw_Ct} {k i j : Nat} {v : Int32} (h : j ≠ k) : (zw_wI c k i v).1 j = c.1 j := by
  funext x; simp [zw_wI, h]
theorem zw_wL_ne {c : zw_Ct} {k i j : Nat} {v : Int64} (h : j ≠ k) : (zw_wL c k i v).2 j = c.2 j := by
  funext x; simp [zw_wL, h]
theorem zw_wI_self {c : zw_Ct} {k i : Nat} {v : Int32} : (zw_wI c k i v).1 k = upd (c.1 k) i v := by
  funext x; simp [zw_wI, upd]
theorem zw_wL_self {c : zw_Ct} {k i : Nat} {v : Int64} : (zw_wL c k i v).2 k = vp_updL (c.2 k) i v := by
  funext x; simp [zw_wL, vp_updL]
/-- the array classes -/
def zw_tys (ta : Nat → ClassId) : List (ClassId × FieldType) := [(ta 0, .int), (ta 1, .long), (ta 2, .byte), (ta 3, .boolean), (ta 4, .array .int), (ta 5, .array .byte), (ta 6, .object R_Held)]
/-- the text of the signs that are things, and the switch of compact texts -/
def zw_SC (g : zw_G) (U : State) (H : Heap) : Prop := vk_S 1 [9] [[113, 115, 109, 120, 116, 117, 101, 110, 100]] g.2.2.2.1 g.2.2.2.2 (fun q => g.2.2.1 ≤ q) U H ∧ vk_R "PaidForThinking$Text" 75 "qsmxtuend" (g.2.2.2.1 0) U ∧ va_Z "java/lang/String" "COMPACT_STRINGS" "Z" (.int 1) (fun q => g.2.2.1 ≤ q) U H
theorem zw_Nw_warm {s U : State} (hW : s.WarmedH U.vm) (h : ∀ w ∈ nwt, va_Nw w s) : ∀ w ∈ nwt, va_Nw w U := by
  intro w hw
  have hn := (List.mem_filter.mp hw).2
  cases w with
  | fieldLinkNest => exact va_Nw.warmF hW (h _ hw)
  | methodLinkNest => exact va_Nw.warmM hW (h _ hw)
  | arrayOver ty =>
    have e : (Cond.arrayOver ty).before #[] (s.setVm U.vm) = (Cond.arrayOver ty).before #[] U := rfl
    show (Cond.arrayOver ty).before #[] U = true
    rw [← e, Cond.arrayOver_setVmC hW.alike]
    exact h _ hw
  | _ => cases hn
theorem zw_SC_at {g : zw_G} {s U : State} {H : Heap} {locs : List Loc} (hW : s.WarmedH U.vm) (hS : va_S (fun q => g.2.2.1 ≤ q) s.heap H locs) (h : zw_SC g s s.heap) : zw_SC g U H := by
  obtain ⟨h1, h2, h3⟩ := h
  exact ⟨(h1.moved hW.alike).kept hS.2.1, h2.warm hW, (h3.moved hW.alike).kept hS.2.1⟩
/-- what a method finds, and leaves -/
def zw_HR (g : zw_G) (rr : zw_RR) (sh : zw_Sh) (c : zw_Ct) (U : State) : Prop := va_P g.1 classes (zw_ws g rr c sh) U.heap ∧ va_K g.1 classes (zw_tys g.2.1) U ∧ (∀ w ∈ nwt, va_Nw w U) ∧ g.2.2.1 ≤ U.heap.size ∧ zw_SC g U U.heap
/-- a walk's fixed facts -/
abbrev zw_FX (p : Program) (R : Room) (s : State) (m : MethodId) (args : Array Value) (meth : Method) (cd : Code) (cells slots : Nat) (g : zw_G) (cc : ByteArray) (own : String) (ret : Option FieldType) (nL : Nat) : Prop :=
  p.tables.exec = Jvm.exec ∧ cd.code = cc ∧ cd.maxLocals = nL ∧ s.vm.findClass own = some m.cls ∧ (∀ w ∈ ktG, w.before args s = true) ∧ va_K g.1 classes (zw_tys g.2.1) s ∧ (∀ w ∈ nwt, va_Nw w s) ∧ zw_SC g s s.heap ∧ g.2.2.1 ≤ s.heap.size ∧ meth.locks = false ∧ meth.sig.returnType = ret ∧ cells ≤ R.cells ∧ slots ≤ R.slots
def zw_LR (b nL : Nat) (L : zw_Lc) (ls : Array Slot) : Prop := ls.size = nL ∧ lv_wf ls ∧ ∀ (i : Nat) (v : Value), L[i]? = some (some v) → ls[i]? = some (.val (zw_cv b v))
/-- the judgement: from pc, with these locals, this world and this stack, the walk comes to Q -/
def ZW (p : Program) (l : Launch) (e : Env) (R : Room) (s : State) (m : MethodId) (args : Array Value) (below : List Frame) (meth : Method) (cd : Code) (cells slots : Nat) (Q : State → Prop) (g : zw_G) (nL : Nat) (sh : zw_Sh) (rr : zw_RR) (pc : Nat) (L : zw_Lc) (c : zw_Ct) (st : List Value) : Prop :=
  ∀ (ls : Array Slot) (H : Heap) (locs : List Loc), zw_LR g.2.2.1 nL L ls → va_P g.1 classes (zw_ws g rr c sh) H → va_S (fun q => g.2.2.1 ≤ q) s.heap H locs → W p l e R s m args below meth cd H locs cells slots Q (F0 m pc ls (st.map (zw_cv g.2.2.1)))
theorem zw_HR_at {p : Program} {R : Room} {s : State} {m : MethodId} {args : Array Value} {meth : Method} {cd : Code} {cells slots : Nat} {g : zw_G} {cc : ByteArray} {own : String} {ret : Option FieldType} {nL : Nat} {sh : zw_Sh} {rr : zw_RR} {c : zw_Ct} {H : Heap} {locs : List Loc} (X : zw_FX p R s m args meth cd cells slots g cc own ret nL) (hP : va_P g.1 classes (zw_ws g rr c sh) H) (hS : va_S (fun q => g.2.2.1 ≤ q) s.heap H locs) {U : State} (hU : U.heap = H) (hW : s.WarmedH U.vm) : zw_HR g rr sh c U := by
  subst hU
  exact ⟨hP, va_K.moved hW.alike X.2.2.2.2.2.1, zw_Nw_warm hW X.2.2.2.2.2.2.1, Nat.le_trans X.2.2.2.2.2.2.2.2.1 hS.1, zw_SC_at hW hS X.2.2.2.2.2.2.2.1⟩
-- locals
def zw_clr (L : zw_Lc) (i : Nat) : zw_Lc := match i with
  | 0 => L
  | j + 1 => match L[j]? with
    | some (some w) => if w.category = 2 then L.set j none else L
    | _ => L
def zw_s1 (L : zw_Lc) (i : Nat) (v : Value) : zw_Lc := (zw_clr L i).set i (some v)
def zw_s2 (L : zw_Lc) (i : Nat) (v : Value) : zw_Lc := ((zw_clr L i).set i (some v)).set (i + 1) none
def zw_as (b : Nat) (L : zw_Lc) : List (Nat × Value) := (L.mapIdx (fun i o => o.map (fun v => (i, zw_cv b v)))).filterMap id
theorem zw_as_mem {b : Nat} {L : zw_Lc} {q : Nat × Value} : q ∈ zw_as b L ↔ ∃ v, L[q.1]? = some (some v) ∧ q.2 = zw_cv b v := by
  unfold zw_as
  rw [List.mem_filterMap]
  constructor
  · rintro ⟨o, ho, h⟩
    obtain ⟨i, hi⟩ := List.getElem?_of_mem ho
    rw [List.getElem?_mapIdx] at hi
    cases hL : L[i]? with
    | none => rw [hL] at hi; cases hi
    | some w =>
      rw [hL] at hi
      simp only [Option.map_some, Option.some.injEq] at hi
      subst hi
      cases w with
      | none => cases h
      | some v =>
        simp only [Option.map_some, id, Option.some.injEq] at h
        subst h
        exact ⟨v, hL, rfl⟩
  · rintro ⟨v, hv, h⟩
    refine ⟨some q, List.mem_of_getElem? (i := q.1) ?_, rfl⟩
    rw [List.getElem?_mapIdx, hv]
    simp only [Option.map_some]
    rw [← h]
theorem zw_LR_has {b nL : Nat} {L : zw_Lc} {ls : Array Slot} (h : zw_LR b nL L ls) : lv_has ls nL (zw_as b L) := by
  refine ⟨h.1, h.2.1, fun q hq => ?_⟩
  obtain ⟨v, hv, e⟩ := zw_as_mem.mp hq
  rw [e]
  exact h.2.2 _ _ hv
theorem zw_clr_at {L : zw_Lc} {i j : Nat} {v : Value} (hj : j ≠ i) (h : (zw_clr L i)[j]? = some (some v)) : L[j]? = some (some v) ∧ ¬ (j + 1 = i ∧ v.category = 2) := by
  unfold zw_clr at h
  cases i with
  | zero => exact ⟨h, by omega⟩
  | succ k =>
    simp only at h
    cases hk : L[k]? with
    | none =>
      rw [hk] at h
      refine ⟨h, fun z => ?_⟩
      have : j = k := by omega
      subst this
      rw [hk] at h; cases h
    | some o =>
      cases o with
      | none =>
        rw [hk] at h
        refine ⟨h, fun z => ?_⟩
        have : j = k := by omega
        subst this
        rw [hk] at h; cases h
      | some w =>
        rw [hk] at h
        simp only at h
        by_cases hw : w.category = 2
        · rw [if_pos hw] at h
          by_cases hjk : j = k
          · subst hjk
            rw [List.getElem?_set_self ((List.getElem?_eq_some_iff.mp hk).1)] at h
            cases h
          · rw [List.getElem?_set_ne (Ne.symm hjk)] at h
            exact ⟨h, fun z => hjk (by omega)⟩
        · rw [if_neg hw] at h
          refine ⟨h, fun z => ?_⟩
          have : j = k := by omega
          subst this
          rw [hk] at h
          cases h
          exact hw z.2
theorem zw_LR_s1 {b nL : Nat} {L : zw_Lc} {ls' : Array Slot} {i : Nat} {v : Value} (h : lv_has ls' nL ((i, zw_cv b v) :: (zw_as b L).filter (fun q => !(q.1 == i) && !(q.1 + 1 == i && q.2.category == 2)))) : zw_LR b nL (zw_s1 L i v) ls' := by
  refine ⟨h.1, h.2.1, fun j w hj => ?_⟩
  unfold zw_s1 at hj
  by_cases hji : j = i
  · subst hji
    have hl : j < (zw_clr L j).length := by
      rcases Nat.lt_or_ge j (zw_clr L j).length with q | q
      · exact q
      · rw [List.getElem?_eq_none (by rw [List.length_set]; exact q)] at hj; cases hj
    rw [List.getElem?_set_self hl] at hj
    cases hj
    exact h.2.2 _ List.mem_cons_self
  · rw [List.getElem?_set_ne (Ne.symm hji)] at hj
    obtain ⟨h1, h2⟩ := zw_clr_at hji hj
    refine h.2.2 (j, zw_cv b w) (List.mem_cons_of_mem _ (List.mem_filter.mpr ⟨zw_as_mem.mpr ⟨w, h1, rfl⟩, ?_⟩))
    simp only [zw_cv_cat, Bool.and_eq_true, Bool.not_eq_true', beq_eq_false_iff_ne, ne_eq, Bool.and_eq_false_iff]
    refine ⟨hji, ?_⟩
    by_cases hc : w.category = 2
    · exact Or.inl (fun z => h2 ⟨z, hc⟩)
    · exact Or.inr hc
theorem zw_LR_s2 {b nL : Nat} {L : zw_Lc} {ls' : Array Slot} {i : Nat} {v : Value} (h : lv_has ls' nL ((i, zw_cv b v) :: (zw_as b L).filter (fun q => !(q.1 == i) && (!(q.1 == i + 1) && !(q.1 + 1 == i && q.2.category == 2))))) : zw_LR b nL (zw_s2 L i v) ls' := by
  refine ⟨h.1, h.2.1, fun j w hj => ?_⟩
  unfold zw_s2 at hj
  by_cases hj1 : j = i + 1
  · subst hj1
    rw [List.getElem?_set] at hj
    simp at hj
  rw [List.getElem?_set_ne (Ne.symm hj1)] at hj
  by_cases hji : j = i
  · subst hji
    have hl : j < (zw_clr L j).length := by
      rcases Nat.lt_or_ge j (zw_clr L j).length with q | q
      · exact q
      · rw [List.getElem?_eq_none (by rw [List.length_set]; exact q)] at hj; cases hj
    rw [List.getElem?_set_self hl] at hj
    cases hj
    exact h.2.2 _ List.mem_cons_self
  · rw [List.getElem?_set_ne (Ne.symm hji)] at hj
    obtain ⟨h1, h2⟩ := zw_clr_at hji hj
    refine h.2.2 (j, zw_cv b w) (List.mem_cons_of_mem _ (List.mem_filter.mpr ⟨zw_as_mem.mpr ⟨w, h1, rfl⟩, ?_⟩))
    simp only [zw_cv_cat, Bool.and_eq_true, Bool.not_eq_true', beq_eq_false_iff_ne, ne_eq, Bool.and_eq_false_iff]
    refine ⟨hji, hj1, ?_⟩
    by_cases hc : w.category = 2
    · exact Or.inl (fun z => h2 ⟨z, hc⟩)
    · exact Or.inr hc
def zw_ent : List Value → zw_Lc
  | [] => []
  | v :: vs => if v.category = 2 then some v :: none :: zw_ent vs else some v :: zw_ent vs
theorem zw_ent_mem {b : Nat} : ∀ (vs : List Value) (k i : Nat) (v : Value), (zw_ent vs)[i]? = some (some v) → (k + i, zw_cv b v) ∈ lv_args k (vs.map (zw_cv b))
  | [], k, i, v, h => by simp [zw_ent] at h
  | w :: vs, k, i, v, h => by
    unfold zw_ent at h
    by_cases hw : w.category = 2
    · rw [if_pos hw] at h
      show _ ∈ (k, zw_cv b w) :: lv_args (if (zw_cv b w).category = 2 then k + 2 else k + 1) (vs.map (zw_cv b))
      rw [zw_cv_cat, if_pos hw]
      match i, h with
      | 0, h => simp at h; subst h; exact List.mem_cons_self
      | 1, h => simp at h
      | i + 2, h =>
        have := zw_ent_mem (b := b) vs (k + 2) i v (by simpa using h)
        rw [show k + (i + 2) = k + 2 + i by omega]
        exact List.mem_cons_of_mem _ this
    · rw [if_neg hw] at h
      show _ ∈ (k, zw_cv b w) :: lv_args (if (zw_cv b w).category = 2 then k + 2 else k + 1) (vs.map (zw_cv b))
      rw [zw_cv_cat, if_neg hw]
      match i, h with
      | 0, h => simp at h; subst h; exact List.mem_cons_self
      | i + 1, h =>
        have := zw_ent_mem (b := b) vs (k + 1) i v (by simpa using h)
        rw [show k + (i + 1) = k + 1 + i by omega]
        exact List.mem_cons_of_mem _ this
def zw_entry (vs : List Value) (n : Nat) : zw_Lc := zw_ent vs ++ List.replicate (n - (zw_ent vs).length) none
theorem zw_LR_entry {b : Nat} (vs : List Value) (n : Nat) (h : (lg_sl (vs.map (zw_cv b))).length ≤ n) : zw_LR b n (zw_entry vs n) ((lg_sl (vs.map (zw_cv b)) ++ List.replicate (n - (lg_sl (vs.map (zw_cv b))).length) Slot.unset).toArray) := by
  obtain ⟨h1, h2, h3⟩ := lv_entry (vs.map (zw_cv b)) h
  refine ⟨h1, h2, fun i v hv => ?_⟩
  unfold zw_entry at hv
  rw [List.getElem?_append] at hv
  split at hv
  · have := zw_ent_mem (b := b) vs 0 i v hv
    rw [Nat.zero_add] at this
    exact h3 _ this
  · rw [List.getElem?_replicate] at hv
    split at hv
    · cases hv
    · cases hv
