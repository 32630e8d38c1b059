/-- the link of a field: its own class's, or a nest mate's -/
def zw_lk (own : String) (idx : Nat) (C : String) (T : u_T) (k : Nat) : Prop := (T k).1 = C ∧ (Cond.fieldLink own idx C (T k).2.1 (T k).2.2.1 ∈ ktG ∨ ∃ host, Cond.fieldLinkNest own idx C (T k).2.1 (T k).2.2.1 host ∈ nwt)
def zw_aI (n : Nat) (c : zw_Ct) (a : Nat) (i : Int32) : Option Int32 := if i < 0 ∨ n ≤ i.toNatClampNeg then none else some (c.1 a i.toNatClampNeg)
def zw_aL (n : Nat) (c : zw_Ct) (a : Nat) (i : Int32) : Option Int64 := if i < 0 ∨ n ≤ i.toNatClampNeg then none else some (c.2 a i.toNatClampNeg)
def zw_uI (n : Nat) (c : zw_Ct) (a : Nat) (i : Int32) (v : Int32) : Option zw_Ct := if i < 0 ∨ n ≤ i.toNatClampNeg then none else some (zw_wI c a i.toNatClampNeg v)
def zw_uL (n : Nat) (c : zw_Ct) (a : Nat) (i : Int32) (v : Int64) : Option zw_Ct := if i < 0 ∨ n ≤ i.toNatClampNeg then none else some (zw_wL c a i.toNatClampNeg v)
/-- the length of a cell that is an array of this kind -/
def zw_len (S : zw_Sh) (t a : Nat) : Option Nat := match S[a]? with
  | some (.inl q) => if q.1 = t then some q.2 else none
  | _ => none
def zw_dI (S : zw_Sh) (t : Nat) (c : zw_Ct) (a : Nat) (i : Int32) : Option Int32 := (zw_len S t a).bind fun n => zw_aI n c a i
def zw_eI (S : zw_Sh) (t : Nat) (c : zw_Ct) (a : Nat) (i : Int32) (v : Int32) : Option zw_Ct := (zw_len S t a).bind fun n => zw_uI n c a i v
def zw_bz (x : Int32) : Option Int32 := if x = 0 ∨ x = 1 then some x else none
def zw_dvI (x y : Int32) : Option Int32 := if y = 0 then none else some (x / y)
def zw_rmI (x y : Int32) : Option Int32 := if y = 0 then none else some (x - x / y * y)
def zw_dvL (x y : Int64) : Option Int64 := if y = 0 then none else some (x / y)
def zw_rmL (x y : Int64) : Option Int64 := if y = 0 then none else some (x - x / y * y)
theorem zw_aI_of {n : Nat} {c : zw_Ct} {a : Nat} {i x : Int32} (h : zw_aI n c a i = some x) : vp_in i n ∧ c.1 a i.toNatClampNeg = x := by
  unfold zw_aI at h
  split at h
  · cases h
  · exact ⟨by assumption, Option.some.inj h⟩
theorem zw_aL_of {n : Nat} {c : zw_Ct} {a : Nat} {i : Int32} {x : Int64} (h : zw_aL n c a i = some x) : vp_in i n ∧ c.2 a i.toNatClampNeg = x := by
  unfold zw_aL at h
  split at h
  · cases h
  · exact ⟨by assumption, Option.some.inj h⟩
theorem zw_uI_of {n : Nat} {c c' : zw_Ct} {a : Nat} {i x : Int32} (h : zw_uI n c a i x = some c') : vp_in i n ∧ zw_wI c a i.toNatClampNeg x = c' := by
  unfold zw_uI at h
  split at h
  · cases h
  · exact ⟨by assumption, Option.some.inj h⟩
theorem zw_uL_of {n : Nat} {c c' : zw_Ct} {a : Nat} {i : Int32} {x : Int64} (h : zw_uL n c a i x = some c') : vp_in i n ∧ zw_wL c a i.toNatClampNeg x = c' := by
  unfold zw_uL at h
  split at h
  · cases h
  · exact ⟨by assumption, Option.some.inj h⟩
theorem zw_len_of {S : zw_Sh} {t a n : Nat} (h : zw_len S t a = some n) : S[a]? = some (.inl (t, n)) := by
  unfold zw_len at h
  split at h
  · rename_i q hq
    split at h
    · rename_i ht
      obtain ⟨q1, q2⟩ := q
      cases h
      simp only at ht
      rw [hq, ht]
    · cases h
  · cases h
theorem zw_bz_of {x y : Int32} (h : zw_bz x = some y) : (x = 0 ∨ x = 1) ∧ x = y := by
  unfold zw_bz at h
  split at h
  · exact ⟨by assumption, Option.some.inj h⟩
  · cases h
theorem zw_bzn {x : Int32} (h : x = 0 ∨ x = 1) : narrow .boolean (.int x) = .int x ∧ fits .boolean (.int x) = true ∧ vp_nar .boolean x = x := by
  rcases h with rfl | rfl <;> exact ⟨by decide +kernel, by decide +kernel, by decide +kernel⟩
theorem zw_ite01 {P : Prop} [Decidable P] : (if P then (1 : Int32) else 0) = 0 ∨ (if P then (1 : Int32) else 0) = 1 := by
  by_cases h : P
  · exact Or.inr (if_pos h)
  · exact Or.inl (if_neg h)
theorem zw_bd {α β : Type} {o : Option α} {f : α → Option β} {y : β} (h : o.bind f = some y) : ∃ x, o = some x ∧ f x = some y := Option.bind_eq_some_iff.mp h
theorem zw_dvI_of {x y z : Int32} (h : zw_dvI x y = some z) : ¬ y = 0 ∧ x / y = z := by
  unfold zw_dvI at h
  split at h
  · cases h
  · exact ⟨by assumption, Option.some.inj h⟩
theorem zw_rmI_of {x y z : Int32} (h : zw_rmI x y = some z) : ¬ y = 0 ∧ x - x / y * y = z := by
  unfold zw_rmI at h
  split at h
  · cases h
  · exact ⟨by assumption, Option.some.inj h⟩
theorem zw_dvL_of {x y z : Int64} (h : zw_dvL x y = some z) : ¬ y = 0 ∧ x / y = z := by
  unfold zw_dvL at h
  split at h
  · cases h
  · exact ⟨by assumption, Option.some.inj h⟩
theorem zw_rmL_of {x y z : Int64} (h : zw_rmL x y = some z) : ¬ y = 0 ∧ x - x / y * y = z := by
  unfold zw_rmL at h
  split at h
  · cases h
  · exact ⟨by assumption, Option.some.inj h⟩
/-- a loop, at most so many rounds: a round ends it with an answer, or goes on -/
def zw_whl {τ ρ : Type} (f : τ → Option (ρ ⊕ τ)) : Nat → τ → Option ρ
  | 0, _ => none
  | n + 1, t => (f t).bind fun r => match r with
    | .inl x => some x
    | .inr t' => zw_whl f n t'
def zw_F : Nat := 1000000
theorem zw_loop {τ ρ : Type} {f : τ → Option (ρ ⊕ τ)} (P : τ → Prop) (K : ρ → Prop) (hit : ∀ t r, f t = some r → (∀ x, r = .inl x → K x) → (∀ t', r = .inr t' → P t') → P t) : ∀ (n : Nat) (t : τ) (x : ρ), zw_whl f n t = some x → K x → P t := by
  intro n
  induction n with
  | zero => intro t x h; cases h
  | succ n ih =>
    intro t x h hK
    obtain ⟨r, hr, h2⟩ := zw_bd h
    cases r with
    | inl y =>
      refine hit t _ hr (fun z hz => ?_) (fun t' ht => by cases ht)
      cases hz
      cases h2
      exact hK
    | inr t' =>
      refine hit t _ hr (fun z hz => by cases hz) (fun t'' ht => ?_)
      cases ht
      exact ih t' x h2 hK
section ZS
variable {p : Program} {l : Launch} {e : Env} {R : Room} {s : State} {m : MethodId} {args : Array Value} {below : List Frame} {meth : Method} {cd : Code} {cells slots : Nat} {Q : State → Prop} {g : zw_G} {cc : ByteArray} {own : String} {ret : Option FieldType} {nL : Nat} {sh : zw_Sh} {rr : zw_RR} {pc : Nat} {L : zw_Lc} {c : zw_Ct} {st : List Value}
theorem r_get0 (X : zw_FX p R s m args meth cd cells slots g cc own ret nL) {ci k N idx o : Nat} {C : String} {T : u_T} {ty : Nat → FieldType} (hci : zw_CI ci C T N ty) (ho : sh[o]? = some (.inr ci)) {t : Nat} (hk : (zw_ft ci)[k]? = some t) (hl : zw_lk own idx C T k) (d : decode cc pc = .ok (.getfield idx, 3)) {v : Value} (hv : zw_fv g.2.2.1 rr c o k t = zw_cv g.2.2.1 v) (kk : ZW p l e R s m args below meth cd cells slots Q g nL sh rr (pc + 3) L c (v :: st)) : ZW p l e R s m args below meth cd cells slots Q g nL sh rr pc L c (.ref o :: st) := by
  intro ls H locs h1 h2 h3
  obtain ⟨hc, hin, hty, hnm, hlen⟩ := hci
  obtain ⟨hT, hl⟩ := hl
  have hkN : k < N := by rw [← hlen]; exact (List.getElem?_eq_some_iff.mp hk).1
  have hf : (zw_flds g.2.2.1 rr c o ci)[k]? = some (zw_cv g.2.2.1 v) := by
    rw [zw_flds, List.getElem?_mapIdx, hk, ← hv]; rfl
  rcases hl with hl | ⟨host, hl⟩
  · exact va_get X.1 X.2.1 X.2.2.2.2.1 hin X.2.2.2.1 X.2.2.2.2.2.1 h2 o (zw_ws_get ho) hc k hkN (X.2.2.2.2.1 _ hl) (fun x hx => by rw [← hT]; exact hx) hf d (kk ls H locs h1 h2 h3)
  · exact va_getN X.1 X.2.1 X.2.2.2.2.1 hin X.2.2.2.1 X.2.2.2.2.2.1 h2 o (zw_ws_get ho) hc k hkN (va_Nw.use rfl (X.2.2.2.2.2.2.1 _ hl)) (fun x hx => by rw [← hT]; exact hx) hf d (kk ls H locs h1 h2 h3)
theorem r_getI (X : zw_FX p R s m args meth cd cells slots g cc own ret nL) {ci k N idx o : Nat} {C : String} {T : u_T} {ty : Nat → FieldType} (hci : zw_CI ci C T N ty) (ho : sh[o]? = some (.inr ci)) (hk : (zw_ft ci)[k]? = some 0)  (hl : zw_lk own idx C T k) (d : decode cc pc = .ok (.getfield idx, 3)) (kk : ZW p l e R s m args below meth cd cells slots Q g nL sh rr (pc + 3) L c (.int (c.1 o k) :: st)) : ZW p l e R s m args below meth cd cells slots Q g nL sh rr pc L c (.ref o :: st) := r_get0 X hci ho hk hl d (rfl) kk
theorem r_getL (X : zw_FX p R s m args meth cd cells slots g cc own ret nL) {ci k N idx o : Nat} {C : String} {T : u_T} {ty : Nat → FieldType} (hci : zw_CI ci C T N ty) (ho : sh[o]? = some (.inr ci)) (hk : (zw_ft ci)[k]? = some 1)  (hl : zw_lk own idx C T k) (d : decode cc pc = .ok (.getfield idx, 3)) (kk : ZW p l e R s m args below meth cd cells slots Q g nL sh rr (pc + 3) L c (.long (c.2 o k) :: st)) : ZW p l e R s m args below meth cd cells slots Q g nL sh rr pc L c (.ref o :: st) := r_get0 X hci ho hk hl d (rfl) kk
theorem r_getR (X : zw_FX p R s m args meth cd cells slots g cc own ret nL) {ci k N idx o : Nat} {C : String} {T : u_T} {ty : Nat → FieldType} (hci : zw_CI ci C T N ty) (ho : sh[o]? = some (.inr ci)) (hk : (zw_ft ci)[k]? = some 2) {r : Nat} (hr : rr o k = some r) (hl : zw_lk own idx C T k) (d : decode cc pc = .ok (.getfield idx, 3)) (kk : ZW p l e R s m args below meth cd cells slots Q g nL sh rr (pc + 3) L c (.ref r :: st)) : ZW p l e R s m args below meth cd cells slots Q g nL sh rr pc L c (.ref o :: st) := r_get0 X hci ho hk hl d (by unfold zw_fv; rw [hr]; rfl) kk
theorem r_getM (X : zw_FX p R s m args meth cd cells slots g cc own ret nL) {ci k N idx o : Nat} {C : String} {T : u_T} {ty : Nat → FieldType} (hci : zw_CI ci C T N ty) (ho : sh[o]? = some (.inr ci)) (hk : (zw_ft ci)[k]? = some 3)  (hl : zw_lk own idx C T k) (d : decode cc pc = .ok (.getfield idx, 3)) (kk : ZW p l e R s m args below meth cd cells slots Q g nL sh rr (pc + 3) L c (zw_ov (if c.1 o k ≤ 0 then none else some (c.1 o k).toNatClampNeg) :: st)) : ZW p l e R s m args below meth cd cells slots Q g nL sh rr pc L c (.ref o :: st) := r_get0 X hci ho hk hl d (by show (if c.1 o k ≤ 0 then Value.null else Value.ref (g.2.2.1 + (c.1 o k).toNatClampNeg)) = _; split <;> rfl) kk
theorem zw_mapIdx_set {α : Type} {l : List Nat} {f f2 : Nat → Nat → α} {k t : Nat} {v : α} (hk : l[k]? = some t) (hv : f2 k t = v) (e : ∀ i t, i ≠ k → f2 i t = f i t) : (l.mapIdx f).set k v = l.mapIdx f2 := by
  have hfl : k < (l.mapIdx f).length := by rw [List.length_mapIdx]; exact (List.getElem?_eq_some_iff.mp hk).1
  apply List.ext_getElem?
  intro j
  by_cases hj : j = k
  · subst hj
    rw [List.getElem?_set_self hfl, List.getElem?_mapIdx, hk, ← hv]
    rfl
  · rw [List.getElem?_set_ne (Ne.symm hj), List.getElem?_mapIdx, List.getElem?_mapIdx]
    cases l[j]? with
    | none => rfl
    | some t' => exact congrArg some (e j t' hj).symm
theorem zw_flds_set {b : Nat} {rr : zw_RR} {c c2 : zw_Ct} {o ci k t : Nat} {v : Value} (hk : (zw_ft ci)[k]? = some t) (hv : zw_fv b rr c2 o k t = v) (e3 : ∀ i, i ≠ k → c2.1 o i = c.1 o i ∧ c2.2 o i = c.2 o i) : (zw_flds b rr c o ci).set k v = zw_flds b rr c2 o ci := by
  refine zw_mapIdx_set hk hv (fun i t' hi => ?_)
  unfold zw_fv
  rw [(e3 i hi).1, (e3 i hi).2]
theorem zw_flds_ws {g : zw_G} {rr : zw_RR} {c c2 : zw_Ct} {sh : zw_Sh} {o ci k t : Nat} {v : Value} (ho : sh[o]? = some (.inr ci)) (hk : (zw_ft ci)[k]? = some t) (hv : zw_fv g.2.2.1 rr c2 o k t = v) (e1 : ∀ j, j ≠ o → c2.1 j = c.1 j) (e2 : ∀ j, j ≠ o → c2.2 j = c.2 j) (e3 : ∀ i, i ≠ k → c2.1 o i = c.1 o i ∧ c2.2 o i = c.2 o i) : (zw_ws g rr c sh).set o (g.2.2.1 + o, .inr (ci, (zw_flds g.2.2.1 rr c o ci).set k v)) = zw_ws g rr c2 sh := by
  rw [zw_flds_set hk hv e3]
  exact zw_set (K := .inr ci) ho e1 e2
set_option maxRecDepth 100000 in
theorem r_put0 (X : zw_FX p R s m args meth cd cells slots g cc own ret nL) {ci k N idx o : Nat} {C : String} {T : u_T} {ty : Nat → FieldType} (hci : zw_CI ci C T N ty) (ho : sh[o]? = some (.inr ci)) {t : Nat} (hk : (zw_ft ci)[k]? = some t) (hl : zw_lk own idx C T k) (hfin : (T k).2.2.2 = false) {c2 : zw_Ct} {v : Value} (hn : narrow (ty k) (zw_cv g.2.2.1 v) = zw_cv g.2.2.1 v) (hfit : fits (ty k) (zw_cv g.2.2.1 v) = true) (hv : zw_fv g.2.2.1 rr c2 o k t = zw_cv g.2.2.1 v) (e1 : ∀ j, j ≠ o → c2.1 j = c.1 j) (e2 : ∀ j, j ≠ o → c2.2 j = c.2 j) (e3 : ∀ i, i ≠ k → c2.1 o i = c.1 o i ∧ c2.2 o i = c.2 o i) (d : decode cc pc = .ok (.putfield idx, 3)) (kk : ZW p l e R s m args below meth cd cells slots Q g nL sh rr (pc + 3) L c2 st) : ZW p l e R s m args below meth cd cells slots Q g nL sh rr pc L c (v :: .ref o :: st) := by
  intro ls H locs h1 h2 h3
  obtain ⟨hc, hin, hty, hnm, hlen⟩ := hci
  obtain ⟨hT, hl⟩ := hl
  have hkN : k < N := by rw [← hlen]; exact (List.getElem?_eq_some_iff.mp hk).1
  have hfl : k < (zw_flds g.2.2.1 rr c o ci).length := by rw [zw_flds, List.length_mapIdx, hlen]; exact hkN
  have hws := zw_flds_ws (g := g) (rr := rr) (sh := sh) ho hk hv e1 e2 e3
  rcases hl with hl | ⟨host, hl⟩
  · refine va_put X.1 X.2.1 X.2.2.2.2.1 hin ty hty hnm X.2.2.2.1 X.2.2.2.2.2.1 h2 zw_D h3 o (zw_ws_get ho) hc k hkN (X.2.2.2.2.1 _ hl) (fun x hx => by rw [← hT]; exact hx) hfin (hty k hkN) hn hfit hfl d (fun H1 locs1 a1 _ a3 => ?_)
    rw [hws] at a1
    exact kk ls H1 locs1 h1 a1 a3
  · refine va_putN X.1 X.2.1 X.2.2.2.2.1 hin ty hty hnm X.2.2.2.1 X.2.2.2.2.2.1 h2 zw_D h3 o (zw_ws_get ho) hc k hkN (va_Nw.use rfl (X.2.2.2.2.2.2.1 _ hl)) (fun x hx => by rw [← hT]; exact hx) hfin (hty k hkN) hn hfit hfl d (fun H1 locs1 a1 _ a3 => ?_)
    rw [hws] at a1
    exact kk ls H1 locs1 h1 a1 a3
theorem r_putI (X : zw_FX p R s m args meth cd cells slots g cc own ret nL) {ci k N idx o : Nat} {C : String} {T : u_T} {ty : Nat → FieldType} (hci : zw_CI ci C T N ty) (ho : sh[o]? = some (.inr ci)) (hk : (zw_ft ci)[k]? = some 0) (hl : zw_lk own idx C T k) (hfin : (T k).2.2.2 = false) {x : Int32} (hn : narrow (ty k) (.int x) = .int x ∧ fits (ty k) (.int x) = true) (d : decode cc pc = .ok (.putfield idx, 3)) (kk : ZW p l e R s m args below meth cd cells slots Q g nL sh rr (pc + 3) L (zw_wI c o k x) st) : ZW p l e R s m args below meth cd cells slots Q g nL sh rr pc L c (.int x :: .ref o :: st) := r_put0 X hci ho hk hl hfin (c2 := zw_wI c o k x) (v := .int x) hn.1 hn.2 (by simp [zw_fv, zw_wI, zw_cv]) (fun j hj => zw_wI_ne hj) (fun _ _ => rfl) (fun i hi => ⟨by simp [zw_wI, hi], rfl⟩) d kk
theorem r_putL (X : zw_FX p R s m args meth cd cells slots g cc own ret nL) {ci k N idx o : Nat} {C : String} {T : u_T} {ty : Nat → FieldType} (hci : zw_CI ci C T N ty) (ho : sh[o]? = some (.inr ci)) (hk : (zw_ft ci)[k]? = some 1) (hl : zw_lk own idx C T k) (hfin : (T k).2.2.2 = false) {x : Int64} (hn : narrow (ty k) (.long x) = .long x ∧ fits (ty k) (.long x) = true) (d : decode cc pc = .ok (.putfield idx, 3)) (kk : ZW p l e R s m args below meth cd cells slots Q g nL sh rr (pc + 3) L (zw_wL c o k x) st) : ZW p l e R s m args below meth cd cells slots Q g nL sh rr pc L c (.long x :: .ref o :: st) := r_put0 X hci ho hk hl hfin (c2 := zw_wL c o k x) (v := .long x) hn.1 hn.2 (by simp [zw_fv, zw_wL, zw_cv]) (fun _ _ => rfl) (fun j hj => zw_wL_ne hj) (fun i hi => ⟨rfl, by simp [zw_wL, hi]⟩) d kk
theorem r_putM (X : zw_FX p R s m args meth cd cells slots g cc own ret nL) {ci k N idx o : Nat} {C : String} {T : u_T} {ty : Nat → FieldType} (hci : zw_CI ci C T N ty) (ho : sh[o]? = some (.inr ci)) (hk : (zw_ft ci)[k]? = some 3) (hl : zw_lk own idx C T k) (hfin : (T k).2.2.2 = false) {r : Nat} (hr : 0 < r ∧ r < 2 ^ 31) (hn : ∀ a, narrow (ty k) (.ref a) = .ref a ∧ fits (ty k) (.ref a) = true) (d : decode cc pc = .ok (.putfield idx, 3)) (kk : ZW p l e R s m args below meth cd cells slots Q g nL sh rr (pc + 3) L (zw_wI c o k (nI r)) st) : ZW p l e R s m args below meth cd cells slots Q g nL sh rr pc L c (.ref r :: .ref o :: st) := r_put0 X hci ho hk hl hfin (c2 := zw_wI c o k (nI r)) (v := .ref r) (hn _).1 (hn _).2 (by simp [zw_fv, zw_wI, zw_cv, nI_nle hr.1 hr.2, nI_clamp hr.2]) (fun j hj => zw_wI_ne hj) (fun _ _ => rfl) (fun i hi => ⟨by simp [zw_wI, hi], rfl⟩) d kk
theorem r_iald (X : zw_FX p R s m args meth cd cells slots g cc own ret nL) {a n : Nat} {i x : Int32} (ha : sh[a]? = some (.inl (0, n))) (h : zw_aI n c a i = some x) (d : decode cc pc = .ok (.iaload, 1)) (kk : ZW p l e R s m args below meth cd cells slots Q g nL sh rr (pc + 1) L c (.int x :: st)) : ZW p l e R s m args below meth cd cells slots Q g nL sh rr pc L c (.int i :: .ref a :: st) := by
  obtain ⟨hin, rfl⟩ := zw_aI_of h
  exact fun ls H locs h1 h2 h3 => va_iald X.1 X.2.1 X.2.2.2.2.2.1 h2 a 0 (zw_ws_get ha) rfl hin d (kk ls H locs h1 h2 h3)
theorem r_bald (X : zw_FX p R s m args meth cd cells slots g cc own ret nL) {a n : Nat} {i x : Int32} (ha : sh[a]? = some (.inl (2, n))) (h : zw_aI n c a i = some x) (d : decode cc pc = .ok (.baload, 1)) (kk : ZW p l e R s m args below meth cd cells slots Q g nL sh rr (pc + 1) L c (.int x :: st)) : ZW p l e R s m args below meth cd cells slots Q g nL sh rr pc L c (.int i :: .ref a :: st) := by
  obtain ⟨hin, rfl⟩ := zw_aI_of h
  exact fun ls H locs h1 h2 h3 => va_bald X.1 X.2.1 X.2.2.2.2.2.1 h2 a 2 (zw_ws_get ha) rfl hin d (kk ls H locs h1 h2 h3)
theorem r_zald (X : zw_FX p R s m args meth cd cells slots g cc own ret nL) {a n : Nat} {i x : Int32} (ha : sh[a]? = some (.inl (3, n))) (h : zw_aI n c a i = some x) (d : decode cc pc = .ok (.baload, 1)) (kk : ZW p l e R s m args below meth cd cells slots Q g nL sh rr (pc + 1) L c (.int x :: st)) : ZW p l e R s m args below meth cd cells slots Q g nL sh rr pc L c (.int i :: .ref a :: st) := by
  obtain ⟨hin, rfl⟩ := zw_aI_of h
  exact fun ls H locs h1 h2 h3 => va_zald X.1 X.2.1 X.2.2.2.2.2.1 h2 a 3 (zw_ws_get ha) rfl hin d (kk ls H locs h1 h2 h3)
theorem r_lald (X : zw_FX p R s m args meth cd cells slots g cc own ret nL) {a n : Nat} {i : Int32} {x : Int64} (ha : sh[a]? = some (.inl (1, n))) (h : zw_aL n c a i = some x) (d : decode cc pc = .ok (.laload, 1)) (kk : ZW p l e R s m args below meth cd cells slots Q g nL sh rr (pc + 1) L c (.long x :: st)) : ZW p l e R s m args below meth cd cells slots Q g nL sh rr pc L c (.int i :: .ref a :: st) := by
  obtain ⟨hin, rfl⟩ := zw_aL_of h
  exact fun ls H locs h1 h2 h3 => va_lald X.1 X.2.1 X.2.2.2.2.2.1 h2 a 1 (zw_ws_get ha) rfl hin d (kk ls H locs h1 h2 h3)
theorem r_iast (X : zw_FX p R s m args meth cd cells slots g cc own ret nL) {a n : Nat} {i x : Int32} {c2 : zw_Ct} (ha : sh[a]? = some (.inl (0, n))) (h : zw_uI n c a i x = some c2) (d : decode cc pc = .ok (.iastore, 1)) (kk : ZW p l e R s m args below meth cd cells slots Q g nL sh rr (pc + 1) L c2 st) : ZW p l e R s m args below meth cd cells slots Q g nL sh rr pc L c (.int x :: .int i :: .ref a :: st) := by
  obtain ⟨hin, rfl⟩ := zw_uI_of h
  intro ls H locs h1 h2 h3
  refine va_iast X.1 X.2.1 X.2.2.2.2.2.1 h2 zw_D h3 a 0 (zw_ws_get ha) rfl hin d (fun H1 locs1 a1 _ a3 => kk ls H1 locs1 h1 ?_ a3)
  have e : (zw_ws g rr c sh).set a (g.2.2.1 + a, zw_cell g.2.1 g.2.2.1 rr (zw_wI c a i.toNatClampNeg x) a (.inl (0, n))) = zw_ws g rr (zw_wI c a i.toNatClampNeg x) sh := zw_set ha (fun j hj => zw_wI_ne hj) (fun _ _ => rfl)
  rw [← e]
  have e2 : zw_cell g.2.1 g.2.2.1 rr (zw_wI c a i.toNatClampNeg x) a (.inl (0, n)) = .inl (g.2.1 0, n, .inl (upd (c.1 a) i.toNatClampNeg x)) := by show Sum.inl (_, _, Sum.inl _) = _; rw [zw_wI_self]
  rw [e2]
  exact a1
theorem r_bast (X : zw_FX p R s m args meth cd cells slots g cc own ret nL) {a n : Nat} {i x : Int32} {c2 : zw_Ct} (ha : sh[a]? = some (.inl (2, n))) (h : zw_uI n c a i (vp_nar .byte x) = some c2) (d : decode cc pc = .ok (.bastore, 1)) (kk : ZW p l e R s m args below meth cd cells slots Q g nL sh rr (pc + 1) L c2 st) : ZW p l e R s m args below meth cd cells slots Q g nL sh rr pc L c (.int x :: .int i :: .ref a :: st) := by
  obtain ⟨hin, rfl⟩ := zw_uI_of h
  intro ls H locs h1 h2 h3
  refine va_bast X.1 X.2.1 X.2.2.2.2.2.1 h2 zw_D h3 a 2 (zw_ws_get ha) rfl hin d (fun H1 locs1 a1 _ a3 => kk ls H1 locs1 h1 ?_ a3)
  have e : (zw_ws g rr c sh).set a (g.2.2.1 + a, zw_cell g.2.1 g.2.2.1 rr (zw_wI c a i.toNatClampNeg (vp_nar .byte x)) a (.inl (2, n))) = zw_ws g rr (zw_wI c a i.toNatClampNeg (vp_nar .byte x)) sh := zw_set ha (fun j hj => zw_wI_ne hj) (fun _ _ => rfl)
  rw [← e]
  have e2 : zw_cell g.2.1 g.2.2.1 rr (zw_wI c a i.toNatClampNeg (vp_nar .byte x)) a (.inl (2, n)) = .inl (g.2.1 2, n, .inl (upd (c.1 a) i.toNatClampNeg (vp_nar .byte x))) := by show Sum.inl (_, _, Sum.inl _) = _; rw [zw_wI_self]
  rw [e2]
  exact a1
theorem r_zast (X : zw_FX p R s m args meth cd cells slots g cc own ret nL) {a n : Nat} {i x : Int32} {c2 : zw_Ct} (ha : sh[a]? = some (.inl (3, n))) (h : zw_uI n c a i (vp_nar .boolean x) = some c2) (d : decode cc pc = .ok (.bastore, 1)) (kk : ZW p l e R s m args below meth cd cells slots Q g nL sh rr (pc + 1) L c2 st) : ZW p l e R s m args below meth cd cells slots Q g nL sh rr pc L c (.int x :: .int i :: .ref a :: st) := by
  obtain ⟨hin, rfl⟩ := zw_uI_of h
  intro ls H locs h1 h2 h3
  refine va_zast X.1 X.2.1 X.2.2.2.2.2.1 h2 zw_D h3 a 3 (zw_ws_get ha) rfl hin d (fun H1 locs1 a1 _ a3 => kk ls H1 locs1 h1 ?_ a3)
  have e : (zw_ws g rr c sh).set a (g.2.2.1 + a, zw_cell g.2.1 g.2.2.1 rr (zw_wI c a i.toNatClampNeg (vp_nar .boolean x)) a (.inl (3, n))) = zw_ws g rr (zw_wI c a i.toNatClampNeg (vp_nar .boolean x)) sh := zw_set ha (fun j hj => zw_wI_ne hj) (fun _ _ => rfl)
  rw [← e]
  have e2 : zw_cell g.2.1 g.2.2.1 rr (zw_wI c a i.toNatClampNeg (vp_nar .boolean x)) a (.inl (3, n)) = .inl (g.2.1 3, n, .inl (upd (c.1 a) i.toNatClampNeg (vp_nar .boolean x))) := by show Sum.inl (_, _, Sum.inl _) = _; rw [zw_wI_self]
  rw [e2]
  exact a1
theorem r_last (X : zw_FX p R s m args meth cd cells slots g cc own ret nL) {a n : Nat} {i : Int32} {x : Int64} {c2 : zw_Ct} (ha : sh[a]? = some (.inl (1, n))) (h : zw_uL n c a i x = some c2) (d : decode cc pc = .ok (.lastore, 1)) (kk : ZW p l e R s m args below meth cd cells slots Q g nL sh rr (pc + 1) L c2 st) : ZW p l e R s m args below meth cd cells slots Q g nL sh rr pc L c (.long x :: .int i :: .ref a :: st) := by
  obtain ⟨hin, rfl⟩ := zw_uL_of h
  intro ls H locs h1 h2 h3
  refine va_last X.1 X.2.1 X.2.2.2.2.2.1 h2 zw_D h3 a 1 (zw_ws_get ha) rfl hin d (fun H1 locs1 a1 _ a3 => kk ls H1 locs1 h1 ?_ a3)
  have e : (zw_ws g rr c sh).set a (g.2.2.1 + a, zw_cell g.2.1 g.2.2.1 rr (zw_wL c a i.toNatClampNeg x) a (.inl (1, n))) = zw_ws g rr (zw_wL c a i.toNatClampNeg x) sh := zw_set ha (fun _ _ => rfl) (fun j hj => zw_wL_ne hj)
  rw [← e]
  have e2 : zw_cell g.2.1 g.2.2.1 rr (zw_wL c a i.toNatClampNeg x) a (.inl (1, n)) = .inl (g.2.1 1, n, .inr (.inl (vp_updL (c.2 a) i.toNatClampNeg x))) := by show Sum.inl (_, _, Sum.inr (Sum.inl _)) = _; rw [zw_wL_self]
  rw [e2]
  exact a1
theorem r_aald (X : zw_FX p R s m args meth cd cells slots g cc own ret nL) {a n t r : Nat} {i : Int32} {fty : FieldType} (ha : sh[a]? = some (.inl (t, n))) (ht : 4 ≤ t) (htt : (zw_tys g.2.1)[t]? = some (g.2.1 t, fty)) (hr : fty.isReference = true) (hin : vp_in i n) (h : rr a i.toNatClampNeg = some r) (d : decode cc pc = .ok (.aaload, 1)) (kk : ZW p l e R s m args below meth cd cells slots Q g nL sh rr (pc + 1) L c (.ref r :: st)) : ZW p l e R s m args below meth cd cells slots Q g nL sh rr pc L c (.int i :: .ref a :: st) := by
  intro ls H locs h1 h2 h3
  have hlt : i.toNatClampNeg < n := Nat.not_le.mp fun q => hin (Or.inr q)
  have hac : zw_ac g.2.2.1 rr c a t = .inr (.inr (.inr (.inr (fun i => (rr a i).map (fun r => g.2.2.1 + r))))) := by
    unfold zw_ac
    match t, ht with
    | t + 4, _ => rfl
  have hcell : H[g.2.2.1 + a]? = some (vp_cell (g.2.1 t) (n, zw_ac g.2.2.1 rr c a t)) := h2 a _ (zw_ws_get ha)
  rw [hac] at hcell
  have hv : va_rf ((rr a i.toNatClampNeg).map (fun r => g.2.2.1 + r)) = .ref (g.2.2.1 + r) := by rw [h]; rfl
  refine W.aald (v := .ref (g.2.2.1 + r)) (ty := fty) X.1 X.2.1 hcell ((X.2.2.2.2.2.1.2 t _ htt).1 n (fun j => va_rf ((rr a j).map (fun r => g.2.2.1 + r)))) hr (fun q => by cases q) (by show ¬ (i < 0 ∨ (arrV _ _ _).slots.size ≤ _); rw [arrV_size]; exact hin) (by show (arrV _ _ _).slots[_]? = _; rw [arrV_read _ _ hlt, hv]) rfl rfl d (kk ls H locs h1 h2 h3)
theorem r_alen (X : zw_FX p R s m args meth cd cells slots g cc own ret nL) {a t n : Nat} {v : Int32} {fty : FieldType} (ha : sh[a]? = some (.inl (t, n))) (htt : (zw_tys g.2.1)[t]? = some (g.2.1 t, fty)) (hv : Int32.ofNat n = v) (d : decode cc pc = .ok (.arraylength, 1)) (kk : ZW p l e R s m args below meth cd cells slots Q g nL sh rr (pc + 1) L c (.int v :: st)) : ZW p l e R s m args below meth cd cells slots Q g nL sh rr pc L c (.ref a :: st) := fun ls H locs h1 h2 h3 => va_alen X.1 X.2.1 X.2.2.2.2.2.1 h2 a t (zw_ws_get ha) htt hv d (kk ls H locs h1 h2 h3)
end ZS
/-! contracts -/
def zw_rm (lv : Nat) : Room := { frames := lv, cells := 0, slots := 0, locals := 48 * lv }
def zw_Q (g : zw_G) (rr : zw_RR) (sh : zw_Sh) (r : Option Value) (c : zw_Ct) : Array Value → State → Outcome → State → Prop := fun _ st oc t => oc = .returned (r.map (zw_cv g.2.2.1)) ∧ zw_HR g rr sh c t ∧ va_F (fun q => g.2.2.1 ≤ q) st t
/-- method y, with these arguments and this world, answers r and leaves c' -/
def zw_Met (l : Launch) (g : zw_G) (y : MethodName) (bytes : ByteArray) (maxL : Nat) (ret : Option FieldType) (lv : Nat) (rr : zw_RR) (sh : zw_Sh) (avs : List Value) (c : zw_Ct) (r : Option Value) (c' : zw_Ct) : Prop :=
  Met l y (.code y bytes maxL ret :: ktG) (zw_rm lv) (va_Pc (avs.map (zw_cv g.2.2.1)) (zw_HR g rr sh c)) (zw_Q g rr sh r c') 0 0 (fun q => g.2.2.1 ≤ q)
theorem zw_HR_blind {g : zw_G} {rr : zw_RR} {sh : zw_Sh} {c : zw_Ct} {av : List Value} : FrameBlind (va_Pc av (zw_HR g rr sh c)) := by
  intro a U fr mk h
  obtain ⟨h0, h1, h2, h3, h4, h5⟩ := h
  have hh : (U.calling fr mk a).heap = U.heap := rfl
  have hvm : (U.calling fr mk a).vm = U.vm := rfl
  refine ⟨h0, h1, va_K.moved (u := U) (U := U.calling fr mk a) (Vm.Alike.refl U.vm) h2, fun w hw => ?_, h4, ?_⟩
  · have hn := (List.mem_filter.mp hw).2
    cases w with
    | fieldLinkNest => exact va_Nw.same rfl hvm.symm (h3 _ hw)
    | methodLinkNest => exact va_Nw.same rfl hvm.symm (h3 _ hw)
    | arrayOver ty => exact h3 _ hw
    | _ => cases hn
  · obtain ⟨a1, a2, a3⟩ := h5
    exact ⟨a1.moved (u := U) (U := U.calling fr mk a) (Vm.Alike.refl U.vm), a2.same hvm, a3.moved (u := U) (U := U.calling fr mk a) (Vm.Alike.refl U.vm)⟩
theorem zw_Met.of {l : Launch} {g : zw_G} {y : MethodName} {bytes : ByteArray} {maxL : Nat} {ret : Option FieldType} {lv : Nat} {rr : zw_RR} {sh : zw_Sh} {avs : List Value} {c : zw_Ct} {r : Option Value} {c' : zw_Ct} (hy : plainName y.cls = true) (hsl : (lg_sl (avs.map (zw_cv g.2.2.1))).length ≤ maxL)
    (body : ∀ (p : Program) (e : Env) (s : State) (m : MethodId) (args : Array Value) (below : List Frame) (meth : Method) (cd : Code), zw_FX p (zw_rm lv) s m args meth cd 0 0 g bytes y.cls ret maxL → ZW p l e (zw_rm lv) s m args below meth cd 0 0 (MQ below (zw_Q g rr sh r c') args s 0 0 (fun q => g.2.2.1 ≤ q)) g maxL sh rr 0 (zw_entry avs maxL) c []) : zw_Met l g y bytes maxL ret lv rr sh avs c r c' := by
  refine Met.ofW (cc := bytes) (maxL := maxL) (ret := ret) hy rfl ?_
  intro p e s m args below meth cd s₁ B hml hv
  obtain ⟨rfl, h1, h2, h3, h4, h5⟩ := hv
  have hts := atoms_spec (ws := .code y bytes maxL ret :: ktG) B.pre
  have X : zw_FX p (zw_rm lv) s m (avs.map (zw_cv g.2.2.1)).toArray meth cd 0 0 g bytes y.cls ret maxL := ⟨B.exec, B.bytes, hml, findClass_of_methodNamed B.named, fun w hw => hts w (List.mem_cons_of_mem _ hw), h2, h3, h5, h4, B.notSynchronized, B.returns, Nat.le_refl _, Nat.le_refl _⟩
  rw [lg_entry_eq]
  exact body p e s m _ below meth cd X _ s.heap [] (zw_LR_entry avs maxL hsl) h1 va_S.rf
theorem zw_Met.ofF {l : Launch} {g : zw_G} {y : MethodName} {bytes : ByteArray} {maxL : Nat} {ret : Option FieldType} {lv : Nat} {rr : zw_RR} {sh : zw_Sh} {avs : List Value} {c : zw_Ct} {r : Option Value} {c' : zw_Ct} (hy : plainFor y = true) (hsl : (lg_sl (avs.map (zw_cv g.2.2.1))).length ≤ maxL)
    (body : ∀ (p : Program) (e : Env) (s : State) (m : MethodId) (args : Array Value) (below : List Frame) (meth : Method) (cd : Code), zw_FX p (zw_rm lv) s m args meth cd 0 0 g bytes y.cls ret maxL → ZW p l e (zw_rm lv) s m args below meth cd 0 0 (MQ below (zw_Q g rr sh r c') args s 0 0 (fun q => g.2.2.1 ≤ q)) g maxL sh rr 0 (zw_entry avs maxL) c []) : zw_Met l g y bytes maxL ret lv rr sh avs c r c' := by
  unfold zw_Met Met
  refine MetFree.of_bodySF (code := bytes) (maxLocals := maxL) (ret := ret) hy ?_ ?_
  · intro args s m h hn
    obtain ⟨meth, c, h1, h2, h3, h4, h5, h6, -, -⟩ := Cond.code_spec hn (atoms_spec (ws := .code y bytes maxL ret :: ktG) h _ List.mem_cons_self)
    exact ⟨meth, c, h1, h2, h3, h4, h5, h6⟩
  intro p e s m args below meth cd s₁ B hml hv _
  have hh0 : s₁.heap = s.heap := by rw [B.state]; rfl
  suffices hW : W p l e (zw_rm lv) s m args below meth cd s.heap [] 0 0 (MQ below (zw_Q g rr sh r c') args s 0 0 (fun q => g.2.2.1 ≤ q)) (entryFrame m args maxL) by
    obtain ⟨t, a1, o, b1, b2, b3⟩ := hW s₁ hh0 (Stand.of_body B)
    exact ⟨t, o, a1, b1, b2, ⟨b3.1, b3.2⟩⟩
  obtain ⟨rfl, h1, h2, h3, h4, h5⟩ := hv
  have hts := atoms_spec (ws := .code y bytes maxL ret :: ktG) B.pre
  have X : zw_FX p (zw_rm lv) s m (avs.map (zw_cv g.2.2.1)).toArray meth cd 0 0 g bytes y.cls ret maxL := ⟨B.exec, B.bytes, hml, findClass_of_methodNamed B.named, fun w hw => hts w (List.mem_cons_of_mem _ hw), h2, h3, h5, h4, B.notSynchronized, B.returns, Nat.le_refl _, Nat.le_refl _⟩
  rw [lg_entry_eq]
  exact body p e s m _ below meth cd X _ s.heap [] (zw_LR_entry avs maxL hsl) h1 va_S.rf

section ZC
variable {p : Program} {l : Launch} {e : Env} {R : Room} {s : State} {m : MethodId} {args : Array Value} {below : List Frame} {meth : Method} {cd : Code} {cells slots : Nat} {Q : State → Prop} {g : zw_G} {cc : ByteArray} {own : String} {ret : Option FieldType} {nL : Nat} {sh : zw_Sh} {rr : zw_RR} {pc : Nat} {L : zw_Lc} {c : zw_Ct} {st : List Value}
theorem r_iret (X : zw_FX p R s m args meth cd cells slots g cc own ret nL) (hr : ret = some .int) {v : Int32} (d : decode cc pc = .ok (.ireturn, 1)) : ZW p l e R s m args below meth cd cells slots (MQ below (zw_Q g rr sh (some (.int v)) c) args s cells slots (fun q => g.2.2.1 ≤ q)) g nL sh rr pc L c ([.int v]) := fun ls H locs h1 h2 h3 => W.iret X.1 X.2.1 (by rw [X.2.2.2.2.2.2.2.2.2.2.1, hr]) (fun t ht hW => ⟨rfl, zw_HR_at X h2 h3 ht hW, h3.F ht⟩) (fun q hq => h3.2.2 q hq) d (hlocks := X.2.2.2.2.2.2.2.2.2.1)
theorem r_zret (X : zw_FX p R s m args meth cd cells slots g cc own ret nL) {rt : FieldType} (hr : ret = some rt) {v : Int32} (hn : narrow rt (.int v) = .int v) (d : decode cc pc = .ok (.ireturn, 1)) : ZW p l e R s m args below meth cd cells slots (MQ below (zw_Q g rr sh (some (.int v)) c) args s cells slots (fun q => g.2.2.1 ≤ q)) g nL sh rr pc L c ([.int v]) := fun ls H locs h1 h2 h3 => W.zret X.1 X.2.1 (by rw [X.2.2.2.2.2.2.2.2.2.2.1, hr]) hn (fun t ht hW => ⟨rfl, zw_HR_at X h2 h3 ht hW, h3.F ht⟩) (fun q hq => h3.2.2 q hq) d (hlocks := X.2.2.2.2.2.2.2.2.2.1)
theorem r_lret (X : zw_FX p R s m args meth cd cells slots g cc own ret nL) (hr : ret = some .long) {v : Int64} (d : decode cc pc = .ok (.lreturn, 1)) : ZW p l e R s m args below meth cd cells slots (MQ below (zw_Q g rr sh (some (.long v)) c) args s cells slots (fun q => g.2.2.1 ≤ q)) g nL sh rr pc L c ([.long v]) := fun ls H locs h1 h2 h3 => W.lret X.1 X.2.1 (by rw [X.2.2.2.2.2.2.2.2.2.2.1, hr]) (fun t ht hW => ⟨rfl, zw_HR_at X h2 h3 ht hW, h3.F ht⟩) (fun q hq => h3.2.2 q hq) d (hlocks := X.2.2.2.2.2.2.2.2.2.1)
theorem r_vret (X : zw_FX p R s m args meth cd cells slots g cc own ret nL) (hr : ret = none) (d : decode cc pc = .ok (.return_, 1)) : ZW p l e R s m args below meth cd cells slots (MQ below (zw_Q g rr sh none c) args s cells slots (fun q => g.2.2.1 ≤ q)) g nL sh rr pc L c ([]) := fun ls H locs h1 h2 h3 => W.vret X.1 X.2.1 (by rw [X.2.2.2.2.2.2.2.2.2.2.1, hr]) (fun t ht hW => ⟨rfl, zw_HR_at X h2 h3 ht hW, h3.F ht⟩) (fun q hq => h3.2.2 q hq) d (hlocks := X.2.2.2.2.2.2.2.2.2.1)
theorem r_aretO (X : zw_FX p R s m args meth cd cells slots g cc own ret nL) {t : FieldType} (hr : ret = some (.array t)) {x : Option Nat} (d : decode cc pc = .ok (.areturn, 1)) : ZW p l e R s m args below meth cd cells slots (MQ below (zw_Q g rr sh (some (zw_ov x)) c) args s cells slots (fun q => g.2.2.1 ≤ q)) g nL sh rr pc L c ([zw_ov x]) := by
  intro ls H locs h1 h2 h3
  refine W.aret (v := zw_cv g.2.2.1 (zw_ov x)) X.1 X.2.1 (by rw [X.2.2.2.2.2.2.2.2.2.2.1, hr]) (Or.inr ⟨t, rfl⟩) (by cases x with | none => exact Or.inl rfl | some r => exact Or.inr ⟨_, rfl⟩) (fun t ht hW => ⟨rfl, zw_HR_at X h2 h3 ht hW, h3.F ht⟩) (fun q hq => h3.2.2 q hq) d (hlocks := X.2.2.2.2.2.2.2.2.2.1)
theorem zw_call {own' : String} (X : zw_FX p R s m args meth cd cells slots g cc own' ret nL) {rest : List Value} {st0 : List Value} {ls : Array Slot} {H : Heap} {locs : List Loc} {a : Array Value} {r : Option Value} {c2 : zw_Ct} (hr : va_Run p l e R s m args below meth cd H locs cells slots 0 0 (F0 m pc ls st0) rest (zw_Q g rr sh r c2 a) (fun q => g.2.2.1 ≤ q)) (h1 : zw_LR g.2.2.1 nL L ls) (hS : va_S (fun q => g.2.2.1 ≤ q) s.heap H locs)
    (kk : ∀ (H1 : Heap) (locs1 : List Loc), va_P g.1 classes (zw_ws g rr c2 sh) H1 → va_S (fun q => g.2.2.1 ≤ q) s.heap H1 locs1 → W p l e R s m args below meth cd H1 locs1 cells slots Q (F0 m (pc + 3) ls ((r.map (zw_cv g.2.2.1)).toList ++ rest))) : W p l e R s m args below meth cd H locs cells slots Q (F0 m pc ls st0) := by
  intro T hT X'
  obtain ⟨v, st₀, t, T', L', h0, X2, hL, e1, e2, ⟨hv, hH, hz, hk⟩, st⟩ := hr T hT X'
  cases hv
  rw [h0] at hz hk
  obtain ⟨t2, a1, b1⟩ := kk T'.heap (locs ++ L') (by rw [e1]; exact hH.1)
    ⟨Nat.le_trans hS.1 (by rw [e1]; exact hz), fun q g1 g2 => by rw [e1, hk q (Nat.lt_of_lt_of_le g1 hS.1) g2]; exact hS.2.1 q g1 g2, fun q hq => by
      rcases List.mem_append.mp hq with h | h
      · exact hS.2.2 q h
      · exact hL q h⟩ T' rfl X2
  exact ⟨t2, st t2 a1, b1⟩
/-- what the tables say of a callee -/
def zw_ce (y : MethodName) (bytes : ByteArray) (maxL : Nat) (ret : Option FieldType) (n : Nat) : Prop := Cond.code y bytes maxL ret ∈ ktG ∧ Cond.initialized y.cls ∈ ktG ∧ (y.cls ≠ "java/lang/invoke/MethodHandle" ∧ y.cls ≠ "java/lang/invoke/VarHandle" ∧ (parseMethodDescriptor y.desc).map (fun d => d.parameters.length) = some n)
def zw_cev (y : MethodName) (bytes : ByteArray) (maxL : Nat) (ret : Option FieldType) (n : Nat) : Prop := zw_ce y bytes maxL ret n ∧ Cond.instanceMethod y ∈ ktG ∧ Cond.selects y.cls y y ∈ ktG
def zw_ces (y : MethodName) (bytes : ByteArray) (maxL : Nat) (ret : Option FieldType) (n : Nat) : Prop := zw_ce y bytes maxL ret n ∧ Cond.static y ∈ ktG
theorem zw_cats {b : Nat} {st : List Value} (h : (st.map fun v => v.category).sum ≤ 8) : ((st.map (zw_cv b)).map fun v => v.category).sum ≤ 8 := by
  rw [List.map_map]
  have e : ((fun v => v.category) ∘ zw_cv b) = fun v : Value => v.category := by funext v; exact zw_cv_cat b v
  rw [e]; exact h
theorem zw_stk {b : Nat} {As st : List Value} {v : Value} : (As.reverse ++ v :: st).map (zw_cv b) = (As.map (zw_cv b)).reverse ++ zw_cv b v :: st.map (zw_cv b) := by simp
theorem zw_ret_stk {b : Nat} {r : Option Value} {st : List Value} : (r.map (zw_cv b)).toList ++ st.map (zw_cv b) = (r.toList ++ st).map (zw_cv b) := by cases r <;> rfl
theorem r_callV (X : zw_FX p R s m args meth cd cells slots g cc own ret nL) {y : MethodName} {bytes : ByteArray} {maxL : Nat} {ret' : Option FieldType} {lv : Nat} {o : Nat} {As : List Value} {r : Option Value} {c2 : zw_Ct} {idx n : Nat} {ci N : Nat} {T : u_T} (hM : zw_Met l g y bytes maxL ret' lv rr sh (.ref o :: As) c r c2) (hce : zw_cev y bytes maxL ret' n) (hlk : Cond.methodLink own idx y ∈ ktG) (ho : sh[o]? = some (.inr ci)) (hc : classes[ci]? = some (y.cls, T, N)) (hn : As.length = n) (hR : lv + 1 ≤ R.frames ∧ 8 + (maxL + 11) + 48 * lv ≤ R.locals) (hst : (st.map fun v => v.category).sum ≤ 8) (d : decode cc pc = .ok (.invokevirtual idx, 3)) (kk : ZW p l e R s m args below meth cd cells slots Q g nL sh rr (pc + 3) L c2 (r.toList ++ st)) : ZW p l e R s m args below meth cd cells slots Q g nL sh rr pc L c (As.reverse ++ .ref o :: st) := by
  intro ls H locs h1 h2 h3
  obtain ⟨⟨hcode, hini, hd⟩, hinst, hsel⟩ := hce
  have hG : GoodIn ktG (wsV own idx y.cls y (.code y bytes maxL ret' :: ktG)) := fun w hw => by
    rcases List.mem_append.mp hw with h | h
    · have : w ∈ ktG := by
        rcases List.mem_cons.mp h with rfl | h
        · exact hlk
        rcases List.mem_cons.mp h with rfl | h
        · exact hinst
        rcases List.mem_cons.mp h with rfl | h
        · exact hsel
        rcases List.mem_cons.mp h with rfl | h
        · exact hini
        · cases h
      exact kt_good w this
    · exact kt_cons hcode w h
  rw [zw_stk]
  refine zw_call (own' := own) X (va_runV (As := As.map (zw_cv g.2.2.1)) (rest := st.map (zw_cv g.2.2.1)) (n := n) ⟨X.1, X.2.1, X.2.2.1, X.2.2.2.1, X.2.2.2.2.1⟩ hM (cwV n X.2.2.2.2.1 hG rfl rfl rfl ⟨rfl, hd⟩ hR) ⟨zw_HR_blind, va_recv X.2.2.2.2.2.1 h2 hc (zw_ws_get ho), fun U hU hW => ⟨rfl, zw_HR_at X h2 h3 hU hW⟩⟩ rfl ((List.length_map ..).trans hn) h1.1 rfl (lv_room (zw_cats hst)) d ⟨X.2.2.2.2.2.2.2.2.2.2.2.1, X.2.2.2.2.2.2.2.2.2.2.2.2⟩) h1 h3 (fun H1 locs1 a1 a2 => ?_)
  rw [zw_ret_stk]
  exact kk ls H1 locs1 h1 a1 a2
theorem r_callVN (X : zw_FX p R s m args meth cd cells slots g cc own ret nL) {y : MethodName} {bytes : ByteArray} {maxL : Nat} {ret' : Option FieldType} {lv : Nat} {o : Nat} {As : List Value} {r : Option Value} {c2 : zw_Ct} {idx n : Nat} {ci N : Nat} {T : u_T} {host : String} (hM : zw_Met l g y bytes maxL ret' lv rr sh (.ref o :: As) c r c2) (hce : zw_cev y bytes maxL ret' n) (hlk : Cond.methodLinkNest own idx y host ∈ nwt) (ho : sh[o]? = some (.inr ci)) (hc : classes[ci]? = some (y.cls, T, N)) (hn : As.length = n) (hR : lv + 1 ≤ R.frames ∧ 8 + (maxL + 11) + 48 * lv ≤ R.locals) (hst : (st.map fun v => v.category).sum ≤ 8) (d : decode cc pc = .ok (.invokevirtual idx, 3)) (kk : ZW p l e R s m args below meth cd cells slots Q g nL sh rr (pc + 3) L c2 (r.toList ++ st)) : ZW p l e R s m args below meth cd cells slots Q g nL sh rr pc L c (As.reverse ++ .ref o :: st) := by
  intro ls H locs h1 h2 h3
  obtain ⟨⟨hcode, hini, hd⟩, hinst, hsel⟩ := hce
  rw [zw_stk]
  refine zw_call (own' := own) X (va_runVN (As := As.map (zw_cv g.2.2.1)) (rest := st.map (zw_cv g.2.2.1)) (n := n) ⟨X.1, X.2.1, X.2.2.1, X.2.2.2.1, X.2.2.2.2.1⟩ hM ⟨va_cnB n X.2.2.2.2.1 (kt_cons hcode) rfl rfl rfl (X.2.2.2.2.2.2.1 _ hlk) (X.2.2.2.2.1 _ hini) hd hR, X.2.2.2.2.1 _ hinst, X.2.2.2.2.1 _ hsel⟩ ⟨zw_HR_blind, va_recv X.2.2.2.2.2.1 h2 hc (zw_ws_get ho), fun U hU hW => ⟨rfl, zw_HR_at X h2 h3 hU hW⟩⟩ rfl ((List.length_map ..).trans hn) h1.1 rfl (lv_room (zw_cats hst)) d ⟨X.2.2.2.2.2.2.2.2.2.2.2.1, X.2.2.2.2.2.2.2.2.2.2.2.2⟩) h1 h3 (fun H1 locs1 a1 a2 => ?_)
  rw [zw_ret_stk]
  exact kk ls H1 locs1 h1 a1 a2
theorem zw_stkS {b : Nat} {As st : List Value} : (As.reverse ++ st).map (zw_cv b) = (As.map (zw_cv b)).reverse ++ st.map (zw_cv b) := by simp
theorem r_callS (X : zw_FX p R s m args meth cd cells slots g cc own ret nL) {y : MethodName} {bytes : ByteArray} {maxL : Nat} {ret' : Option FieldType} {lv : Nat} {As : List Value} {r : Option Value} {c2 : zw_Ct} {idx n : Nat} (hM : zw_Met l g y bytes maxL ret' lv rr sh As c r c2) (hce : zw_ces y bytes maxL ret' n) (hlk : Cond.methodLink own idx y ∈ ktG) (hn : As.length = n) (hR : lv + 1 ≤ R.frames ∧ 8 + (maxL + 11) + 48 * lv ≤ R.locals) (hst : (st.map fun v => v.category).sum ≤ 8) (d : decode cc pc = .ok (.invokestatic idx, 3)) (kk : ZW p l e R s m args below meth cd cells slots Q g nL sh rr (pc + 3) L c2 (r.toList ++ st)) : ZW p l e R s m args below meth cd cells slots Q g nL sh rr pc L c (As.reverse ++ st) := by
  intro ls H locs h1 h2 h3
  obtain ⟨⟨hcode, hini, hd⟩, hstat⟩ := hce
  rw [zw_stkS]
  refine zw_call (own' := own) X (va_runS (As := As.map (zw_cv g.2.2.1)) (rest := st.map (zw_cv g.2.2.1)) (n := n) ⟨X.1, X.2.1, X.2.2.1, X.2.2.2.1, X.2.2.2.2.1⟩ hM ⟨callB_of n X.2.2.2.2.1 (kt_cons hcode) rfl rfl rfl (X.2.2.2.2.1 _ hini) (X.2.2.2.2.1 _ hlk) hd hR, X.2.2.2.2.1 _ hstat⟩ ⟨zw_HR_blind, fun U hU hW => ⟨rfl, zw_HR_at X h2 h3 hU hW⟩⟩ rfl ((List.length_map ..).trans hn) h1.1 rfl (lv_room (zw_cats hst)) d ⟨X.2.2.2.2.2.2.2.2.2.2.2.1, X.2.2.2.2.2.2.2.2.2.2.2.2⟩) h1 h3 (fun H1 locs1 a1 a2 => ?_)
  rw [zw_ret_stk]
  exact kk ls H1 locs1 h1 a1 a2
theorem r_callSN (X : zw_FX p R s m args meth cd cells slots g cc own ret nL) {y : MethodName} {bytes : ByteArray} {maxL : Nat} {ret' : Option FieldType} {lv : Nat} {As : List Value} {r : Option Value} {c2 : zw_Ct} {idx n : Nat} {host : String} (hM : zw_Met l g y bytes maxL ret' lv rr sh As c r c2) (hce : zw_ces y bytes maxL ret' n) (hlk : Cond.methodLinkNest own idx y host ∈ nwt) (hn : As.length = n) (hR : lv + 1 ≤ R.frames ∧ 8 + (maxL + 11) + 48 * lv ≤ R.locals) (hst : (st.map fun v => v.category).sum ≤ 8) (d : decode cc pc = .ok (.invokestatic idx, 3)) (kk : ZW p l e R s m args below meth cd cells slots Q g nL sh rr (pc + 3) L c2 (r.toList ++ st)) : ZW p l e R s m args below meth cd cells slots Q g nL sh rr pc L c (As.reverse ++ st) := by
  intro ls H locs h1 h2 h3
  obtain ⟨⟨hcode, hini, hd⟩, hstat⟩ := hce
  rw [zw_stkS]
  refine zw_call (own' := own) X (va_runSN (As := As.map (zw_cv g.2.2.1)) (rest := st.map (zw_cv g.2.2.1)) (n := n) ⟨X.1, X.2.1, X.2.2.1, X.2.2.2.1, X.2.2.2.2.1⟩ hM ⟨va_cnB n X.2.2.2.2.1 (kt_cons hcode) rfl rfl rfl (X.2.2.2.2.2.2.1 _ hlk) (X.2.2.2.2.1 _ hini) hd hR, X.2.2.2.2.1 _ hstat, trivial⟩ ⟨zw_HR_blind, fun U hU hW => ⟨rfl, zw_HR_at X h2 h3 hU hW⟩⟩ rfl ((List.length_map ..).trans hn) h1.1 rfl (lv_room (zw_cats hst)) d ⟨X.2.2.2.2.2.2.2.2.2.2.2.1, X.2.2.2.2.2.2.2.2.2.2.2.2⟩) h1 h3 (fun H1 locs1 a1 a2 => ?_)
  rw [zw_ret_stk]
  exact kk ls H1 locs1 h1 a1 a2
theorem r_mmax (X : zw_FX p R s m args meth cd cells slots g cc own ret nL) {idx : Nat} {x y : Int32} (hlk : Cond.methodLink own idx Lib.Math.max.name ∈ ktG) (hstat : Cond.static Lib.Math.max.name ∈ ktG) (hini : Cond.initialized "java/lang/Math" ∈ ktG) (hcode : Cond.code Lib.Math.max.name Lib.Math.max.code 2 (some .int) ∈ ktG) (hR : 1 ≤ R.frames ∧ 8 + 13 ≤ R.locals) (hst : (st.map fun v => v.category).sum ≤ 8) (d : decode cc pc = .ok (.invokestatic idx, 3)) (kk : ZW p l e R s m args below meth cd cells slots Q g nL sh rr (pc + 3) L c (.int (if x < y then y else x) :: st)) : ZW p l e R s m args below meth cd cells slots Q g nL sh rr pc L c (.int y :: .int x :: st) := fun ls H locs h1 h2 h3 => va_mmax X.1 X.2.1 (X.2.2.1.trans h1.1.symm) X.2.2.2.1 (X.2.2.2.2.1 _ hlk) (X.2.2.2.2.1 _ hstat) (X.2.2.2.2.1 _ hini) (X.2.2.2.2.1 _ hcode) hR.1 (Nat.le_trans (Nat.add_le_add_right (zw_cats hst) _) hR.2) X.2.2.2.2.2.2.2.2.2.2.2.1 X.2.2.2.2.2.2.2.2.2.2.2.2 d (kk ls H locs h1 h2 h3)
theorem r_mmin (X : zw_FX p R s m args meth cd cells slots g cc own ret nL) {idx : Nat} {x y : Int32} (hlk : Cond.methodLink own idx Lib.Math.min.name ∈ ktG) (hstat : Cond.static Lib.Math.min.name ∈ ktG) (hini : Cond.initialized "java/lang/Math" ∈ ktG) (hcode : Cond.code Lib.Math.min.name Lib.Math.min.code 2 (some .int) ∈ ktG) (hR : 1 ≤ R.frames ∧ 8 + 13 ≤ R.locals) (hst : (st.map fun v => v.category).sum ≤ 8) (d : decode cc pc = .ok (.invokestatic idx, 3)) (kk : ZW p l e R s m args below meth cd cells slots Q g nL sh rr (pc + 3) L c (.int (if y < x then y else x) :: st)) : ZW p l e R s m args below meth cd cells slots Q g nL sh rr pc L c (.int y :: .int x :: st) := fun ls H locs h1 h2 h3 => va_mmin X.1 X.2.1 (X.2.2.1.trans h1.1.symm) X.2.2.2.1 (X.2.2.2.2.1 _ hlk) (X.2.2.2.2.1 _ hstat) (X.2.2.2.2.1 _ hini) (X.2.2.2.2.1 _ hcode) hR.1 (Nat.le_trans (Nat.add_le_add_right (zw_cats hst) _) hR.2) X.2.2.2.2.2.2.2.2.2.2.2.1 X.2.2.2.2.2.2.2.2.2.2.2.2 d (kk ls H locs h1 h2 h3)
theorem r_mabs (X : zw_FX p R s m args meth cd cells slots g cc own ret nL) {idx : Nat} {x : Int32} (hlk : Cond.methodLink own idx Lib.Math.abs.name ∈ ktG) (hstat : Cond.static Lib.Math.abs.name ∈ ktG) (hini : Cond.initialized "java/lang/Math" ∈ ktG) (hcode : Cond.code Lib.Math.abs.name Lib.Math.abs.code 1 (some .int) ∈ ktG) (hR : 1 ≤ R.frames ∧ 8 + 13 ≤ R.locals) (hst : (st.map fun v => v.category).sum ≤ 8) (d : decode cc pc = .ok (.invokestatic idx, 3)) (kk : ZW p l e R s m args below meth cd cells slots Q g nL sh rr (pc + 3) L c (.int (if 0 ≤ x then x else 0 - x) :: st)) : ZW p l e R s m args below meth cd cells slots Q g nL sh rr pc L c (.int x :: st) := fun ls H locs h1 h2 h3 => va_mabs X.1 X.2.1 (X.2.2.1.trans h1.1.symm) X.2.2.2.1 (X.2.2.2.2.1 _ hlk) (X.2.2.2.2.1 _ hstat) (X.2.2.2.2.1 _ hini) (X.2.2.2.2.1 _ hcode) hR.1 (Nat.le_trans (Nat.add_le_add_right (zw_cats hst) _) hR.2) X.2.2.2.2.2.2.2.2.2.2.2.1 X.2.2.2.2.2.2.2.2.2.2.2.2 d (kk ls H locs h1 h2 h3)
theorem r_mmaxl (X : zw_FX p R s m args meth cd cells slots g cc own ret nL) {idx : Nat} {x y : Int64} (hlk : Cond.methodLink own idx Lib.MathLoose.max_long.x ∈ ktG) (hstat : Cond.static Lib.MathLoose.max_long.x ∈ ktG) (hini : Cond.initialized "java/lang/Math" ∈ ktG) (hcode : Cond.code Lib.MathLoose.max_long.x Lib.MathLoose.max_long.code 4 (some .long) ∈ ktG) (hR : 1 ≤ R.frames ∧ 8 + 15 ≤ R.locals) (hst : (st.map fun v => v.category).sum ≤ 8) (d : decode cc pc = .ok (.invokestatic idx, 3)) (kk : ZW p l e R s m args below meth cd cells slots Q g nL sh rr (pc + 3) L c (.long (if y < x then x else y) :: st)) : ZW p l e R s m args below meth cd cells slots Q g nL sh rr pc L c (.long y :: .long x :: st) := fun ls H locs h1 h2 h3 => va_mmax_long X.1 X.2.1 (X.2.2.1.trans h1.1.symm) X.2.2.2.1 (X.2.2.2.2.1 _ hlk) (X.2.2.2.2.1 _ hstat) (X.2.2.2.2.1 _ hini) (X.2.2.2.2.1 _ hcode) hR.1 (Nat.le_trans (Nat.add_le_add_right (zw_cats hst) _) hR.2) X.2.2.2.2.2.2.2.2.2.2.2.1 X.2.2.2.2.2.2.2.2.2.2.2.2 d (kk ls H locs h1 h2 h3)
theorem r_mminl (X : zw_FX p R s m args meth cd cells slots g cc own ret nL) {idx : Nat} {x y : Int64} (hlk : Cond.methodLink own idx Lib.MathLoose.min_long.x ∈ ktG) (hstat : Cond.static Lib.MathLoose.min_long.x ∈ ktG) (hini : Cond.initialized "java/lang/Math" ∈ ktG) (hcode : Cond.code Lib.MathLoose.min_long.x Lib.MathLoose.min_long.code 4 (some .long) ∈ ktG) (hR : 1 ≤ R.frames ∧ 8 + 15 ≤ R.locals) (hst : (st.map fun v => v.category).sum ≤ 8) (d : decode cc pc = .ok (.invokestatic idx, 3)) (kk : ZW p l e R s m args below meth cd cells slots Q g nL sh rr (pc + 3) L c (.long (if y < x then y else x) :: st)) : ZW p l e R s m args below meth cd cells slots Q g nL sh rr pc L c (.long y :: .long x :: st) := fun ls H locs h1 h2 h3 => va_mmin_long X.1 X.2.1 (X.2.2.1.trans h1.1.symm) X.2.2.2.1 (X.2.2.2.2.1 _ hlk) (X.2.2.2.2.1 _ hstat) (X.2.2.2.2.1 _ hini) (X.2.2.2.2.1 _ hcode) hR.1 (Nat.le_trans (Nat.add_le_add_right (zw_cats hst) _) hR.2) X.2.2.2.2.2.2.2.2.2.2.2.1 X.2.2.2.2.2.2.2.2.2.2.2.2 d (kk ls H locs h1 h2 h3)
theorem r_mabsl (X : zw_FX p R s m args meth cd cells slots g cc own ret nL) {idx : Nat} {x : Int64} (hlk : Cond.methodLink own idx Lib.MathLoose.abs_long.x ∈ ktG) (hstat : Cond.static Lib.MathLoose.abs_long.x ∈ ktG) (hini : Cond.initialized "java/lang/Math" ∈ ktG) (hcode : Cond.code Lib.MathLoose.abs_long.x Lib.MathLoose.abs_long.code 2 (some .long) ∈ ktG) (hR : 1 ≤ R.frames ∧ 8 + 13 ≤ R.locals) (hst : (st.map fun v => v.category).sum ≤ 8) (d : decode cc pc = .ok (.invokestatic idx, 3)) (kk : ZW p l e R s m args below meth cd cells slots Q g nL sh rr (pc + 3) L c (.long (if 0 < x then x else -x) :: st)) : ZW p l e R s m args below meth cd cells slots Q g nL sh rr pc L c (.long x :: st) := fun ls H locs h1 h2 h3 => va_mabs_long X.1 X.2.1 (X.2.2.1.trans h1.1.symm) X.2.2.2.1 (X.2.2.2.2.1 _ hlk) (X.2.2.2.2.1 _ hstat) (X.2.2.2.2.1 _ hini) (X.2.2.2.2.1 _ hcode) hR.1 (Nat.le_trans (Nat.add_le_add_right (zw_cats hst) _) hR.2) X.2.2.2.2.2.2.2.2.2.2.2.1 X.2.2.2.2.2.2.2.2.2.2.2.2 d (kk ls H locs h1 h2 h3)
def zw_cpw (c : zw_Ct) (a0 sp a1 dp n : Nat) : zw_Ct := (fun k i => if k = a1 then va_cpy (c.1 a0) (c.1 a1) sp dp n i else c.1 k i, c.2)
def zw_cp (n0 n1 : Nat) (c : zw_Ct) (a0 : Nat) (sp : Int32) (a1 : Nat) (dp n : Int32) : Option zw_Ct := if sp < 0 ∨ dp < 0 ∨ n < 0 ∨ n0 < sp.toNatClampNeg + n.toNatClampNeg ∨ n1 < dp.toNatClampNeg + n.toNatClampNeg then none else some (zw_cpw c a0 sp.toNatClampNeg a1 dp.toNatClampNeg n.toNatClampNeg)
theorem r_copy (X : zw_FX p R s m args meth cd cells slots g cc own ret nL) {idx a0 a1 n0 n1 : Nat} {sp dp n : Int32} {c2 : zw_Ct} (hlk : Cond.methodLink own idx arraycopyName ∈ ktG) (hnat : Cond.native arraycopyName ∈ ktG) (hstat : Cond.static arraycopyName ∈ ktG) (hini : Cond.initialized "java/lang/System" ∈ ktG) (ha0 : sh[a0]? = some (.inl (0, n0))) (ha1 : sh[a1]? = some (.inl (0, n1))) (h : zw_cp n0 n1 c a0 sp a1 dp n = some c2) (hR : 1 ≤ R.frames ∧ 8 + (nativeFrameWords "java/lang/System" "arraycopy" 5 + 11) ≤ R.locals) (hst : (st.map fun v => v.category).sum ≤ 8) (d : decode cc pc = .ok (.invokestatic idx, 3)) (kk : ZW p l e R s m args below meth cd cells slots Q g nL sh rr (pc + 3) L c2 st) : ZW p l e R s m args below meth cd cells slots Q g nL sh rr pc L c (.int n :: .int dp :: .ref a1 :: .int sp :: .ref a0 :: st) := by
  intro ls H locs h1 h2 h3
  unfold zw_cp at h
  split at h
  · cases h
  · rename_i hn
    simp only [not_or, Nat.not_lt] at hn
    obtain ⟨q1, q2, q3, q4, q5⟩ := hn
    cases h
    refine va_copyi X.1 X.2.1 (X.2.2.1.trans h1.1.symm) X.2.2.2.1 (X.2.2.2.2.1 _ hlk) (X.2.2.2.2.1 _ hnat) (X.2.2.2.2.1 _ hstat) (X.2.2.2.2.1 _ hini) X.2.2.2.2.2.1 h2 zw_D h3 a0 a1 0 0 (zw_ws_get ha0) (zw_ws_get ha1) rfl rfl rfl q1 q2 q3 q4 q5 (fun _ _ => rfl) hR.1 (Nat.le_trans (Nat.add_le_add_right (zw_cats hst) _) hR.2) d (fun H1 locs1 b1 _ b3 => kk ls H1 locs1 h1 ?_ b3)
    have e : (zw_ws g rr c sh).set a1 (g.2.2.1 + a1, zw_cell g.2.1 g.2.2.1 rr (zw_cpw c a0 sp.toNatClampNeg a1 dp.toNatClampNeg n.toNatClampNeg) a1 (.inl (0, n1))) = zw_ws g rr (zw_cpw c a0 sp.toNatClampNeg a1 dp.toNatClampNeg n.toNatClampNeg) sh := zw_set ha1 (fun j hj => by funext i; simp [zw_cpw, hj]) (fun _ _ => rfl)
    rw [← e]
    have e2 : zw_cell g.2.1 g.2.2.1 rr (zw_cpw c a0 sp.toNatClampNeg a1 dp.toNatClampNeg n.toNatClampNeg) a1 (.inl (0, n1)) = .inl (g.2.1 0, n1, .inl (va_cpy (c.1 a0) (c.1 a1) sp.toNatClampNeg dp.toNatClampNeg n.toNatClampNeg)) := by
      show Sum.inl (_, _, Sum.inl (fun i => if a1 = a1 then _ else _)) = _
      simp
    rw [e2]
    exact b1
theorem r_tableIn (X : zw_FX p R s m args meth cd cells slots g cc own ret nL) {dflt lo hi : Int} {offs : Array Int} {len : Nat} {x : Int32} {off : Int} {tgt : Nat} (d : decode cc pc = .ok (.tableswitch dflt lo hi offs, len)) (q1 : ¬ x.toInt < lo) (q2 : ¬ hi < x.toInt) (ho : offs[(x.toInt - lo).toNat]? = some off) (ht : (pc : Int) + off = (tgt : Int)) (k : ZW p l e R s m args below meth cd cells slots Q g nL sh rr tgt L c st) : ZW p l e R s m args below meth cd cells slots Q g nL sh rr pc L c (.int x :: st) := fun ls H locs h1 h2 h3 => lv_tableIn X.1 X.2.1 d q1 q2 ho ht (k ls H locs h1 h2 h3)
theorem r_tableOut (X : zw_FX p R s m args meth cd cells slots g cc own ret nL) {dflt lo hi : Int} {offs : Array Int} {len : Nat} {x : Int32} {tgt : Nat} (d : decode cc pc = .ok (.tableswitch dflt lo hi offs, len)) (q : x.toInt < lo ∨ hi < x.toInt) (ht : (pc : Int) + dflt = (tgt : Int)) (k : ZW p l e R s m args below meth cd cells slots Q g nL sh rr tgt L c st) : ZW p l e R s m args below meth cd cells slots Q g nL sh rr pc L c (.int x :: st) := fun ls H locs h1 h2 h3 => lv_tableOut X.1 X.2.1 d q ht (k ls H locs h1 h2 h3)
theorem r_lookup (X : zw_FX p R s m args meth cd cells slots g cc own ret nL) {dflt : Int} {ps : Array (Int × Int)} {len : Nat} {x : Int32} {off : Int} {tgt : Nat} (d : decode cc pc = .ok (.lookupswitch dflt ps, len)) (hp : (ps.toList.zip (ps.toList.drop 1)).all (fun (a, next) => a.1 < next.1) = true) (ho : Op.lookupswitch.offset ps.toList dflt x.toInt = off) (ht : (pc : Int) + off = (tgt : Int)) (k : ZW p l e R s m args below meth cd cells slots Q g nL sh rr tgt L c st) : ZW p l e R s m args below meth cd cells slots Q g nL sh rr pc L c (.int x :: st) := fun ls H locs h1 h2 h3 => lv_lookup X.1 X.2.1 d hp ho ht (k ls H locs h1 h2 h3)
theorem r_callVi (X : zw_FX p R s m args meth cd cells slots g cc own ret nL) {y : MethodName} {bytes : ByteArray} {maxL : Nat} {ret' : Option FieldType} {lv : Nat} {o : Nat} {As : List Value} {x : Int32} {c2 : zw_Ct} {idx n : Nat} {ci N : Nat} {T : u_T} (hM : zw_Met l g y bytes maxL ret' lv rr sh (.ref o :: As) c (some (.int x)) c2) (hce : zw_cev y bytes maxL ret' n) (hlk : Cond.methodLink own idx y ∈ ktG) (ho : sh[o]? = some (.inr ci)) (hc : classes[ci]? = some (y.cls, T, N)) (hn : As.length = n) (hR : lv + 1 ≤ R.frames ∧ 8 + (maxL + 11) + 48 * lv ≤ R.locals) (hst : (st.map fun v => v.category).sum ≤ 8) (d : decode cc pc = .ok (.invokevirtual idx, 3)) (kk : ZW p l e R s m args below meth cd cells slots Q g nL sh rr (pc + 3) L c2 (.int x :: st)) : ZW p l e R s m args below meth cd cells slots Q g nL sh rr pc L c (As.reverse ++ .ref o :: st) := r_callV X hM hce hlk ho hc hn hR hst d kk
theorem r_callVl (X : zw_FX p R s m args meth cd cells slots g cc own ret nL) {y : MethodName} {bytes : ByteArray} {maxL : Nat} {ret' : Option FieldType} {lv : Nat} {o : Nat} {As : List Value} {x : Int64} {c2 : zw_Ct} {idx n : Nat} {ci N : Nat} {T : u_T} (hM : zw_Met l g y bytes maxL ret' lv rr sh (.ref o :: As) c (some (.long x)) c2) (hce : zw_cev y bytes maxL ret' n) (hlk : Cond.methodLink own idx y ∈ ktG) (ho : sh[o]? = some (.inr ci)) (hc : classes[ci]? = some (y.cls, T, N)) (hn : As.length = n) (hR : lv + 1 ≤ R.frames ∧ 8 + (maxL + 11) + 48 * lv ≤ R.locals) (hst : (st.map fun v => v.category).sum ≤ 8) (d : decode cc pc = .ok (.invokevirtual idx, 3)) (kk : ZW p l e R s m args below meth cd cells slots Q g nL sh rr (pc + 3) L c2 (.long x :: st)) : ZW p l e R s m args below meth cd cells slots Q g nL sh rr pc L c (As.reverse ++ .ref o :: st) := r_callV X hM hce hlk ho hc hn hR hst d kk
theorem r_callVO (X : zw_FX p R s m args meth cd cells slots g cc own ret nL) {y : MethodName} {bytes : ByteArray} {maxL : Nat} {ret' : Option FieldType} {lv : Nat} {o : Nat} {As : List Value} {x : Option Nat} {c2 : zw_Ct} {idx n : Nat} {ci N : Nat} {T : u_T} (hM : zw_Met l g y bytes maxL ret' lv rr sh (.ref o :: As) c (some (zw_ov x)) c2) (hce : zw_cev y bytes maxL ret' n) (hlk : Cond.methodLink own idx y ∈ ktG) (ho : sh[o]? = some (.inr ci)) (hc : classes[ci]? = some (y.cls, T, N)) (hn : As.length = n) (hR : lv + 1 ≤ R.frames ∧ 8 + (maxL + 11) + 48 * lv ≤ R.locals) (hst : (st.map fun v => v.category).sum ≤ 8) (d : decode cc pc = .ok (.invokevirtual idx, 3)) (kk : ZW p l e R s m args below meth cd cells slots Q g nL sh rr (pc + 3) L c2 (zw_ov x :: st)) : ZW p l e R s m args below meth cd cells slots Q g nL sh rr pc L c (As.reverse ++ .ref o :: st) := r_callV X hM hce hlk ho hc hn hR hst d kk
theorem r_callVv (X : zw_FX p R s m args meth cd cells slots g cc own ret nL) {y : MethodName} {bytes : ByteArray} {maxL : Nat} {ret' : Option FieldType} {lv : Nat} {o : Nat} {As : List Value}  {c2 : zw_Ct} {idx n : Nat} {ci N : Nat} {T : u_T} (hM : zw_Met l g y bytes maxL ret' lv rr sh (.ref o :: As) c none c2) (hce : zw_cev y bytes maxL ret' n) (hlk : Cond.methodLink own idx y ∈ ktG) (ho : sh[o]? = some (.inr ci)) (hc : classes[ci]? = some (y.cls, T, N)) (hn : As.length = n) (hR : lv + 1 ≤ R.frames ∧ 8 + (maxL + 11) + 48 * lv ≤ R.locals) (hst : (st.map fun v => v.category).sum ≤ 8) (d : decode cc pc = .ok (.invokevirtual idx, 3)) (kk : ZW p l e R s m args below meth cd cells slots Q g nL sh rr (pc + 3) L c2 st) : ZW p l e R s m args below meth cd cells slots Q g nL sh rr pc L c (As.reverse ++ .ref o :: st) := r_callV X hM hce hlk ho hc hn hR hst d kk
theorem r_callVNi (X : zw_FX p R s m args meth cd cells slots g cc own ret nL) {y : MethodName} {bytes : ByteArray} {maxL : Nat} {ret' : Option FieldType} {lv : Nat} {o : Nat} {As : List Value} {x : Int32} {c2 : zw_Ct} {idx n : Nat} {ci N : Nat} {T : u_T} (hM : zw_Met l g y bytes maxL ret' lv rr sh (.ref o :: As) c (some (.int x)) c2) (hce : zw_cev y bytes maxL ret' n) {host : String} (hlk : Cond.methodLinkNest own idx y host ∈ nwt) (ho : sh[o]? = some (.inr ci)) (hc : classes[ci]? = some (y.cls, T, N)) (hn : As.length = n) (hR : lv + 1 ≤ R.frames ∧ 8 + (maxL + 11) + 48 * lv ≤ R.locals) (hst : (st.map fun v => v.category).sum ≤ 8) (d : decode cc pc = .ok (.invokevirtual idx, 3)) (kk : ZW p l e R s m args below meth cd cells slots Q g nL sh rr (pc + 3) L c2 (.int x :: st)) : ZW p l e R s m args below meth cd cells slots Q g nL sh rr pc L c (As.reverse ++ .ref o :: st) := r_callVN X hM hce hlk ho hc hn hR hst d kk
theorem r_callVNl (X : zw_FX p R s m args meth cd cells slots g cc own ret nL) {y : MethodName} {bytes : ByteArray} {maxL : Nat} {ret' : Option FieldType} {lv : Nat} {o : Nat} {As : List Value} {x : Int64} {c2 : zw_Ct} {idx n : Nat} {ci N : Nat} {T : u_T} (hM : zw_Met l g y bytes maxL ret' lv rr sh (.ref o :: As) c (some (.long x)) c2) (hce : zw_cev y bytes maxL ret' n) {host : String} (hlk : Cond.methodLinkNest own idx y host ∈ nwt) (ho : sh[o]? = some (.inr ci)) (hc : classes[ci]? = some (y.cls, T, N)) (hn : As.length = n) (hR : lv + 1 ≤ R.frames ∧ 8 + (maxL + 11) + 48 * lv ≤ R.locals) (hst : (st.map fun v => v.category).sum ≤ 8) (d : decode cc pc = .ok (.invokevirtual idx, 3)) (kk : ZW p l e R s m args below meth cd cells slots Q g nL sh rr (pc + 3) L c2 (.long x :: st)) : ZW p l e R s m args below meth cd cells slots Q g nL sh rr pc L c (As.reverse ++ .ref o :: st) := r_callVN X hM hce hlk ho hc hn hR hst d kk
theorem r_callVNO (X : zw_FX p R s m args meth cd cells slots g cc own ret nL) {y : MethodName} {bytes : ByteArray} {maxL : Nat} {ret' : Option FieldType} {lv : Nat} {o : Nat} {As : List Value} {x : Option Nat} {c2 : zw_Ct} {idx n : Nat} {ci N : Nat} {T : u_T} (hM : zw_Met l g y bytes maxL ret' lv rr sh (.ref o :: As) c (some (zw_ov x)) c2) (hce : zw_cev y bytes maxL ret' n) {host : String} (hlk : Cond.methodLinkNest own idx y host ∈ nwt) (ho : sh[o]? = some (.inr ci)) (hc : classes[ci]? = some (y.cls, T, N)) (hn : As.length = n) (hR : lv + 1 ≤ R.frames ∧ 8 + (maxL + 11) + 48 * lv ≤ R.locals) (hst : (st.map fun v => v.category).sum ≤ 8) (d : decode cc pc = .ok (.invokevirtual idx, 3)) (kk : ZW p l e R s m args below meth cd cells slots Q g nL sh rr (pc + 3) L c2 (zw_ov x :: st)) : ZW p l e R s m args below meth cd cells slots Q g nL sh rr pc L c (As.reverse ++ .ref o :: st) := r_callVN X hM hce hlk ho hc hn hR hst d kk
theorem r_callVNv (X : zw_FX p R s m args meth cd cells slots g cc own ret nL) {y : MethodName} {bytes : ByteArray} {maxL : Nat} {ret' : Option FieldType} {lv : Nat} {o : Nat} {As : List Value}  {c2 : zw_Ct} {idx n : Nat} {ci N : Nat} {T : u_T} (hM : zw_Met l g y bytes maxL ret' lv rr sh (.ref o :: As) c none c2) (hce : zw_cev y bytes maxL ret' n) {host : String} (hlk : Cond.methodLinkNest own idx y host ∈ nwt) (ho : sh[o]? = some (.inr ci)) (hc : classes[ci]? = some (y.cls, T, N)) (hn : As.length = n) (hR : lv + 1 ≤ R.frames ∧ 8 + (maxL + 11) + 48 * lv ≤ R.locals) (hst : (st.map fun v => v.category).sum ≤ 8) (d : decode cc pc = .ok (.invokevirtual idx, 3)) (kk : ZW p l e R s m args below meth cd cells slots Q g nL sh rr (pc + 3) L c2 st) : ZW p l e R s m args below meth cd cells slots Q g nL sh rr pc L c (As.reverse ++ .ref o :: st) := r_callVN X hM hce hlk ho hc hn hR hst d kk
theorem r_callSi (X : zw_FX p R s m args meth cd cells slots g cc own ret nL) {y : MethodName} {bytes : ByteArray} {maxL : Nat} {ret' : Option FieldType} {lv : Nat}  {As : List Value} {x : Int32} {c2 : zw_Ct} {idx n : Nat}  (hM : zw_Met l g y bytes maxL ret' lv rr sh As c (some (.int x)) c2) (hce : zw_ces y bytes maxL ret' n) (hlk : Cond.methodLink own idx y ∈ ktG) (hn : As.length = n) (hR : lv + 1 ≤ R.frames ∧ 8 + (maxL + 11) + 48 * lv ≤ R.locals) (hst : (st.map fun v => v.category).sum ≤ 8) (d : decode cc pc = .ok (.invokestatic idx, 3)) (kk : ZW p l e R s m args below meth cd cells slots Q g nL sh rr (pc + 3) L c2 (.int x :: st)) : ZW p l e R s m args below meth cd cells slots Q g nL sh rr pc L c (As.reverse ++ st) := r_callS X hM hce hlk hn hR hst d kk
theorem r_callSl (X : zw_FX p R s m args meth cd cells slots g cc own ret nL) {y : MethodName} {bytes : ByteArray} {maxL : Nat} {ret' : Option FieldType} {lv : Nat}  {As : List Value} {x : Int64} {c2 : zw_Ct} {idx n : Nat}  (hM : zw_Met l g y bytes maxL ret' lv rr sh As c (some (.long x)) c2) (hce : zw_ces y bytes maxL ret' n) (hlk : Cond.methodLink own idx y ∈ ktG) (hn : As.length = n) (hR : lv + 1 ≤ R.frames ∧ 8 + (maxL + 11) + 48 * lv ≤ R.locals) (hst : (st.map fun v => v.category).sum ≤ 8) (d : decode cc pc = .ok (.invokestatic idx, 3)) (kk : ZW p l e R s m args below meth cd cells slots Q g nL sh rr (pc + 3) L c2 (.long x :: st)) : ZW p l e R s m args below meth cd cells slots Q g nL sh rr pc L c (As.reverse ++ st) := r_callS X hM hce hlk hn hR hst d kk
theorem r_callSO (X : zw_FX p R s m args meth cd cells slots g cc own ret nL) {y : MethodName} {bytes : ByteArray} {maxL : Nat} {ret' : Option FieldType} {lv : Nat}  {As : List Value} {x : Option Nat} {c2 : zw_Ct} {idx n : Nat}  (hM : zw_Met l g y bytes maxL ret' lv rr sh As c (some (zw_ov x)) c2) (hce : zw_ces y bytes maxL ret' n) (hlk : Cond.methodLink own idx y ∈ ktG) (hn : As.length = n) (hR : lv + 1 ≤ R.frames ∧ 8 + (maxL + 11) + 48 * lv ≤ R.locals) (hst : (st.map fun v => v.category).sum ≤ 8) (d : decode cc pc = .ok (.invokestatic idx, 3)) (kk : ZW p l e R s m args below meth cd cells slots Q g nL sh rr (pc + 3) L c2 (zw_ov x :: st)) : ZW p l e R s m args below meth cd cells slots Q g nL sh rr pc L c (As.reverse ++ st) := r_callS X hM hce hlk hn hR hst d kk
theorem r_callSv (X : zw_FX p R s m args meth cd cells slots g cc own ret nL) {y : MethodName} {bytes : ByteArray} {maxL : Nat} {ret' : Option FieldType} {lv : Nat}  {As : List Value}  {c2 : zw_Ct} {idx n : Nat}  (hM : zw_Met l g y bytes maxL ret' lv rr sh As c none c2) (hce : zw_ces y bytes maxL ret' n) (hlk : Cond.methodLink own idx y ∈ ktG) (hn : As.length = n) (hR : lv + 1 ≤ R.frames ∧ 8 + (maxL + 11) + 48 * lv ≤ R.locals) (hst : (st.map fun v => v.category).sum ≤ 8) (d : decode cc pc = .ok (.invokestatic idx, 3)) (kk : ZW p l e R s m args below meth cd cells slots Q g nL sh rr (pc + 3) L c2 st) : ZW p l e R s m args below meth cd cells slots Q g nL sh rr pc L c (As.reverse ++ st) := r_callS X hM hce hlk hn hR hst d kk
theorem r_callSNi (X : zw_FX p R s m args meth cd cells slots g cc own ret nL) {y : MethodName} {bytes : ByteArray} {maxL : Nat} {ret' : Option FieldType} {lv : Nat}  {As : List Value} {x : Int32} {c2 : zw_Ct} {idx n : Nat}  (hM : zw_Met l g y bytes maxL ret' lv rr sh As c (some (.int x)) c2) (hce : zw_ces y bytes maxL ret' n) {host : String} (hlk : Cond.methodLinkNest own idx y host ∈ nwt) (hn : As.length = n) (hR : lv + 1 ≤ R.frames ∧ 8 + (maxL + 11) + 48 * lv ≤ R.locals) (hst : (st.map fun v => v.category).sum ≤ 8) (d : decode cc pc = .ok (.invokestatic idx, 3)) (kk : ZW p l e R s m args below meth cd cells slots Q g nL sh rr (pc + 3) L c2 (.int x :: st)) : ZW p l e R s m args below meth cd cells slots Q g nL sh rr pc L c (As.reverse ++ st) := r_callSN X hM hce hlk hn hR hst d kk
theorem r_callSNl (X : zw_FX p R s m args meth cd cells slots g cc own ret nL) {y : MethodName} {bytes : ByteArray} {maxL : Nat} {ret' : Option FieldType} {lv : Nat}  {As : List Value} {x : Int64} {c2 : zw_Ct} {idx n : Nat}  (hM : zw_Met l g y bytes maxL ret' lv rr sh As c (some (.long x)) c2) (hce : zw_ces y bytes maxL ret' n) {host : String} (hlk : Cond.methodLinkNest own idx y host ∈ nwt) (hn : As.length = n) (hR : lv + 1 ≤ R.frames ∧ 8 + (maxL + 11) + 48 * lv ≤ R.locals) (hst : (st.map fun v => v.category).sum ≤ 8) (d : decode cc pc = .ok (.invokestatic idx, 3)) (kk : ZW p l e R s m args below meth cd cells slots Q g nL sh rr (pc + 3) L c2 (.long x :: st)) : ZW p l e R s m args below meth cd cells slots Q g nL sh rr pc L c (As.reverse ++ st) := r_callSN X hM hce hlk hn hR hst d kk
theorem r_callSNO (X : zw_FX p R s m args meth cd cells slots g cc own ret nL) {y : MethodName} {bytes : ByteArray} {maxL : Nat} {ret' : Option FieldType} {lv : Nat}  {As : List Value} {x : Option Nat} {c2 : zw_Ct} {idx n : Nat}  (hM : zw_Met l g y bytes maxL ret' lv rr sh As c (some (zw_ov x)) c2) (hce : zw_ces y bytes maxL ret' n) {host : String} (hlk : Cond.methodLinkNest own idx y host ∈ nwt) (hn : As.length = n) (hR : lv + 1 ≤ R.frames ∧ 8 + (maxL + 11) + 48 * lv ≤ R.locals) (hst : (st.map fun v => v.category).sum ≤ 8) (d : decode cc pc = .ok (.invokestatic idx, 3)) (kk : ZW p l e R s m args below meth cd cells slots Q g nL sh rr (pc + 3) L c2 (zw_ov x :: st)) : ZW p l e R s m args below meth cd cells slots Q g nL sh rr pc L c (As.reverse ++ st) := r_callSN X hM hce hlk hn hR hst d kk
theorem r_callSNv (X : zw_FX p R s m args meth cd cells slots g cc own ret nL) {y : MethodName} {bytes : ByteArray} {maxL : Nat} {ret' : Option FieldType} {lv : Nat}  {As : List Value}  {c2 : zw_Ct} {idx n : Nat}  (hM : zw_Met l g y bytes maxL ret' lv rr sh As c none c2) (hce : zw_ces y bytes maxL ret' n) {host : String} (hlk : Cond.methodLinkNest own idx y host ∈ nwt) (hn : As.length = n) (hR : lv + 1 ≤ R.frames ∧ 8 + (maxL + 11) + 48 * lv ≤ R.locals) (hst : (st.map fun v => v.category).sum ≤ 8) (d : decode cc pc = .ok (.invokestatic idx, 3)) (kk : ZW p l e R s m args below meth cd cells slots Q g nL sh rr (pc + 3) L c2 st) : ZW p l e R s m args below meth cd cells slots Q g nL sh rr pc L c (As.reverse ++ st) := r_callSN X hM hce hlk hn hR hst d kk
end ZC
