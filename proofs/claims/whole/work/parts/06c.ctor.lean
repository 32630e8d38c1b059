/-! constructors: cells that are made -/
def zw_z (c : zw_Ct) (k : Nat) : zw_Ct := (fun k' i => if k' = k then 0 else c.1 k' i, fun k' i => if k' = k then 0 else c.2 k' i)
def zw_ur (rr : zw_RR) (k i r : Nat) : zw_RR := fun k' i' => if k' = k ∧ i' = i then some r else rr k' i'
theorem zw_z1 {c : zw_Ct} {k : Nat} : (zw_z c k).1 k = fun _ => 0 := by funext i; simp [zw_z]
theorem zw_z2 {c : zw_Ct} {k : Nat} : (zw_z c k).2 k = fun _ => 0 := by funext i; simp [zw_z]
theorem zw_zn1 {c : zw_Ct} {k j : Nat} (h : j ≠ k) : (zw_z c k).1 j = c.1 j := by funext i; simp [zw_z, h]
theorem zw_zn2 {c : zw_Ct} {k j : Nat} (h : j ≠ k) : (zw_z c k).2 j = c.2 j := by funext i; simp [zw_z, h]
theorem zw_ws_push {g : zw_G} {rr : zw_RR} {c : zw_Ct} {sh : zw_Sh} (K : zw_Kd) : zw_ws g rr c sh ++ [(g.2.2.1 + sh.length, zw_cell g.2.1 g.2.2.1 rr (zw_z c sh.length) sh.length K)] = zw_ws g rr (zw_z c sh.length) (sh ++ [K]) := by
  have hl : (zw_ws g rr c sh).length = sh.length := by rw [zw_ws, List.length_mapIdx]
  apply List.ext_getElem?
  intro j
  by_cases hj : j < sh.length
  · rw [List.getElem?_append_left (by rw [hl]; exact hj), zw_ws, zw_ws, List.getElem?_mapIdx, List.getElem?_mapIdx, List.getElem?_append_left hj]
    cases sh[j]? with
    | none => rfl
    | some K' => simp only [Option.map_some]; rw [zw_cell_congr K' (zw_zn1 (Nat.ne_of_lt hj)) (zw_zn2 (Nat.ne_of_lt hj)) rfl]
  · rw [List.getElem?_append_right (by rw [hl]; omega), hl, zw_ws, List.getElem?_mapIdx, List.getElem?_append_right (by omega)]
    by_cases he : j = sh.length
    · subst he; simp
    · rw [List.getElem?_eq_none (by simp; omega), List.getElem?_eq_none (by simp; omega)]; rfl
theorem zw_ws_rr {g : zw_G} {rr rr2 : zw_RR} {c : zw_Ct} {sh : zw_Sh} {k : Nat} {K : zw_Kd} (h : sh[k]? = some K) (h1 : ∀ j, j ≠ k → rr2 j = rr j) : (zw_ws g rr c sh).set k (g.2.2.1 + k, zw_cell g.2.1 g.2.2.1 rr2 c k K) = zw_ws g rr2 c sh := by
  have hl : k < sh.length := (List.getElem?_eq_some_iff.mp h).1
  apply List.ext_getElem?
  intro j
  by_cases hj : j = k
  · subst hj
    rw [List.getElem?_set_self (by rw [zw_ws, List.length_mapIdx]; exact hl), zw_ws_get h]
  · rw [List.getElem?_set_ne (Ne.symm hj), zw_ws, zw_ws, List.getElem?_mapIdx, List.getElem?_mapIdx]
    cases sh[j]? with
    | none => rfl
    | some K' => simp only [Option.map_some]; rw [zw_cell_congr K' rfl rfl (h1 j hj)]
theorem zw_ur_ne {rr : zw_RR} {k i r j : Nat} (h : j ≠ k) : zw_ur rr k i r j = rr j := by funext x; simp [zw_ur, h]
theorem zw_ur_self {rr : zw_RR} {k i r : Nat} : zw_ur rr k i r k = fun i' => if i' = i then some r else rr k i' := by funext x; simp [zw_ur]
section ZK
variable {p : Program} {l : Launch} {e : Env} {R : Room} {s : State} {m : MethodId} {args : Array Value} {below : List Frame} {meth : Method} {cd : Code} {cells slots : Nat} {Q : State → Prop} {g : zw_G} {cc : ByteArray} {own : String} {ret : Option FieldType} {nL : Nat} {sh : zw_Sh} {rr : zw_RR} {pc : Nat} {L : zw_Lc} {c : zw_Ct} {st : List Value}
theorem zw_size (hsz : s.heap.size + cells = g.2.2.1 + sh.length) (hb : g.2.2.1 ≤ s.heap.size) {H : Heap} {locs : List Loc} (hP : va_P g.1 classes (zw_ws g rr c sh) H) (hS : va_S (fun q => g.2.2.1 ≤ q) s.heap H locs) {T : State} (hT : T.heap = H) (St : Stand p l e R s m args below meth cd T locs cells slots) : H.size = g.2.2.1 + sh.length := by
  have hu : H.size ≤ s.heap.size + cells := by rw [← hT]; exact St.same.2.2.1
  have hlo : g.2.2.1 + sh.length ≤ H.size := by
    rcases Nat.eq_zero_or_pos sh.length with h0 | h0
    · have := hS.1; omega
    · have hk : sh.length - 1 < sh.length := by omega
      have := (hP _ _ (zw_ws_get (g := g) (rr := rr) (c := c) (List.getElem?_eq_getElem hk))).lt
      dsimp only at this
      omega
  omega
theorem r_newo (X : zw_FX p R s m args meth cd cells slots g cc own ret nL) {ci N idx : Nat} {C : String} {T : u_T} {ty : Nat → FieldType} (hci : zw_CI ci C T N ty) (hcl : Cond.classLink own idx C ∈ ktG) (hinst : Cond.instantiable C N ∈ ktG) (hini : Cond.initialized C ∈ ktG) (hsz : s.heap.size + cells = g.2.2.1 + sh.length) (hdef : ∀ j, j < N → defaultValue (ty j) = vp_V (zw_flds g.2.2.1 rr (zw_z c sh.length) sh.length ci) j) (hcells : cells + 1 ≤ R.cells) (hslots : slots + N ≤ R.slots) (d : decode cc pc = .ok (.new idx, 3)) (kk : zw_FX p R s m args meth cd (cells + 1) (slots + N) g cc own ret nL → ZW p l e R s m args below meth cd (cells + 1) (slots + N) Q g nL (sh ++ [.inr ci]) rr (pc + 3) L (zw_z c sh.length) (.ref sh.length :: st)) : ZW p l e R s m args below meth cd cells slots Q g nL sh rr pc L c st := by
  intro ls H locs h1 h2 h3 T' hT St
  have hH := zw_size (sh := sh) (rr := rr) (c := c) hsz X.2.2.2.2.2.2.2.2.1 h2 h3 hT St
  obtain ⟨hc, hin, hty, hnm, hlen⟩ := hci
  have hKn := X.2.2.2.2.2.1.1 ci _ hc
  refine W.newcK (g := F0 m pc ls (st.map (zw_cv g.2.2.1))) X.1 X.2.1 X.2.2.2.1 (X.2.2.2.2.1 _ hcl) (X.2.2.2.2.1 _ hinst) (X.2.2.2.2.1 _ hini) rfl d hcells hslots hKn.2.1 hH (fun H1 kC hkC e1 z1 o1 => ?_) T' hT St
  have hk : ∀ (k : Nat) (x : Nat × va_E), (zw_ws g rr c sh)[k]? = some x → H1[x.1]? = H[x.1]? := fun k x hx => o1 x.1 (by rw [← hH]; exact (h2 k x hx).lt)
  refine kk ⟨X.1, X.2.1, X.2.2.1, X.2.2.2.1, X.2.2.2.2.1, X.2.2.2.2.2.1, X.2.2.2.2.2.2.1, X.2.2.2.2.2.2.2.1, X.2.2.2.2.2.2.2.2.1, X.2.2.2.2.2.2.2.2.2.1, X.2.2.2.2.2.2.2.2.2.2.1, hcells, hslots⟩ ls H1 locs h1 ?_ ⟨Nat.le_trans h3.1 (by omega), fun x g1 g2 => (o1 x (by rw [← hH]; exact Nat.lt_of_lt_of_le g1 h3.1)).trans (h3.2.1 x g1 g2), h3.2.2⟩
  rw [← zw_ws_push]
  refine (h2.kept hk).app (fun k x hx => ?_)
  have hz : k < 1 := (List.getElem?_eq_some_iff.mp hx).1
  obtain rfl : k = 0 := by omega
  cases hx
  exact ⟨_, hc, (u_born ty X.2.2.2.2.1 hin hKn hkC e1 hty).to hdef⟩
theorem r_newa (X : zw_FX p R s m args meth cd cells slots g cc own ret nL) {t N : Nat} {atype : ArrayType} {fty : FieldType} {n : Int32} (hty : newarray.typeOf atype = fty) (hra : ∀ cA, va_RA s cA fty → s.vm.findClass ("[" ++ fty.toString) = some cA) (htt : (zw_tys g.2.1)[t]? = some (g.2.1 t, fty)) (harr : Cond.arrayClass (newarray.typeOf atype) ∈ ktG) (hac : ∀ cA : ClassId, vp_cell cA (N, zw_ac g.2.2.1 rr (zw_z c sh.length) sh.length t) = arrV cA N (fun _ => defaultValue (newarray.typeOf atype))) (hn : ¬ n < 0) (hN : n.toNatClampNeg = N) (hby : N * componentBytes (newarray.typeOf atype) ≤ 536870912) (hsz : s.heap.size + cells = g.2.2.1 + sh.length) (hcells : cells + 1 ≤ R.cells) (hslots : slots + N ≤ R.slots) (d : decode cc pc = .ok (.newarray atype, 2)) (kk : zw_FX p R s m args meth cd (cells + 1) (slots + N) g cc own ret nL → ZW p l e R s m args below meth cd (cells + 1) (slots + N) Q g nL (sh ++ [.inl (t, N)]) rr (pc + 2) L (zw_z c sh.length) (.ref sh.length :: st)) : ZW p l e R s m args below meth cd cells slots Q g nL sh rr pc L c (.int n :: st) := by
  intro ls H locs h1 h2 h3 T' hT St
  have hH := zw_size (sh := sh) (rr := rr) (c := c) hsz X.2.2.2.2.2.2.2.2.1 h2 h3 hT St
  refine va_newaK (g := F0 m pc ls (.int n :: st.map (zw_cv g.2.2.1))) X.1 X.2.1 (X.2.2.2.2.1 _ harr) rfl d rfl hn hN hby hcells hslots hH (fun H1 cA e1 z1 o1 hAr hNm => ?_) T' hT St
  have hcA : cA = g.2.1 t := by
    have h5 := hra _ (X.2.2.2.2.2.1.2 t _ htt).2
    rw [hty] at hNm
    exact Option.some.inj (hNm.symm.trans h5)
  subst hcA
  have hk : ∀ (k : Nat) (x : Nat × va_E), (zw_ws g rr c sh)[k]? = some x → H1[x.1]? = H[x.1]? := fun k x hx => o1 x.1 (by rw [← hH]; exact (h2 k x hx).lt)
  refine kk ⟨X.1, X.2.1, X.2.2.1, X.2.2.2.1, X.2.2.2.2.1, X.2.2.2.2.2.1, X.2.2.2.2.2.2.1, X.2.2.2.2.2.2.2.1, X.2.2.2.2.2.2.2.2.1, X.2.2.2.2.2.2.2.2.2.1, X.2.2.2.2.2.2.2.2.2.2.1, hcells, hslots⟩ ls H1 locs h1 ?_ ⟨Nat.le_trans h3.1 (by omega), fun x g1 g2 => (o1 x (by rw [← hH]; exact Nat.lt_of_lt_of_le g1 h3.1)).trans (h3.2.1 x g1 g2), h3.2.2⟩
  rw [← zw_ws_push]
  refine (h2.kept hk).app (fun k x hx => ?_)
  have hz : k < 1 := (List.getElem?_eq_some_iff.mp hx).1
  obtain rfl : k = 0 := by omega
  cases hx
  show H1[g.2.2.1 + sh.length]? = some (vp_cell _ _)
  rw [hac]; exact e1
theorem r_newq (X : zw_FX p R s m args meth cd cells slots g cc own ret nL) {N idx : Nat} {n : Int32} (hcl : Cond.classLink own idx R_Held ∈ ktG) (hov : Cond.arrayOver (.object R_Held) ∈ nwt) (hrr : ∀ i, rr sh.length i = none) (hn : ¬ n < 0) (hN : n.toNatClampNeg = N) (hby : N * 4 ≤ 536870912) (hsz : s.heap.size + cells = g.2.2.1 + sh.length) (hcells : cells + 1 ≤ R.cells) (hslots : slots + N ≤ R.slots) (d : decode cc pc = .ok (.anewarray idx, 3)) (kk : zw_FX p R s m args meth cd (cells + 1) (slots + N) g cc own ret nL → ZW p l e R s m args below meth cd (cells + 1) (slots + N) Q g nL (sh ++ [.inl (6, N)]) rr (pc + 3) L (zw_z c sh.length) (.ref sh.length :: st)) : ZW p l e R s m args below meth cd cells slots Q g nL sh rr pc L c (.int n :: st) := by
  subst hN
  intro ls H locs h1 h2 h3 T' hT St
  have hH := zw_size (sh := sh) (rr := rr) (c := c) hsz X.2.2.2.2.2.2.2.2.1 h2 h3 hT St
  refine W.anew (g := F0 m pc ls (.int n :: st.map (zw_cv g.2.2.1))) X.1 X.2.1 X.2.2.2.1 (X.2.2.2.2.1 _ hcl) (va_AO.use (X.2.2.2.2.2.2.1 _ hov)) rfl d rfl hn hby hcells hslots (fun cA kA comp f1 f2 f3 f4 => ?_) T' hT St
  generalize hH1 : H.push ({ cls := cA, slots := Array.replicate n.toNatClampNeg .null, vm := .none } : Cell) = H1
  have z1 : H1.size = H.size + 1 := by rw [← hH1, Array.size_push]
  have e1 : H1[H.size]? = some (arrV cA n.toNatClampNeg (fun _ => .null)) := by rw [← hH1, Array.getElem?_push_size, ← arrV_new]
  have o1 : ∀ q : Nat, q < H.size → H1[q]? = H[q]? := fun q hq => by rw [← hH1, Array.getElem?_push, if_neg (Nat.ne_of_lt hq)]
  have hcA : cA = g.2.1 6 := by
    obtain ⟨kA', comp', a1, a2, a3, a4⟩ := (X.2.2.2.2.2.1.2 6 (g.2.1 6, .object R_Held) rfl).2
    exact Option.some.inj (f1.symm.trans a4)
  subst hcA
  rw [hH]
  have hk : ∀ (k : Nat) (x : Nat × va_E), (zw_ws g rr c sh)[k]? = some x → H1[x.1]? = H[x.1]? := fun k x hx => o1 x.1 ((h2 k x hx).lt)
  refine kk ⟨X.1, X.2.1, X.2.2.1, X.2.2.2.1, X.2.2.2.2.1, X.2.2.2.2.2.1, X.2.2.2.2.2.2.1, X.2.2.2.2.2.2.2.1, X.2.2.2.2.2.2.2.2.1, X.2.2.2.2.2.2.2.2.2.1, X.2.2.2.2.2.2.2.2.2.2.1, hcells, hslots⟩ ls H1 locs h1 ?_ ⟨Nat.le_trans h3.1 (by omega), fun x g1 g2 => (o1 x (Nat.lt_of_lt_of_le g1 h3.1)).trans (h3.2.1 x g1 g2), h3.2.2⟩
  rw [← zw_ws_push]
  refine (h2.kept hk).app (fun k x hx => ?_)
  have hz : k < 1 := (List.getElem?_eq_some_iff.mp hx).1
  obtain rfl : k = 0 := by omega
  cases hx
  show H1[g.2.2.1 + sh.length]? = some (vp_cell _ _)
  rw [← hH, e1]
  show some (arrV _ _ _) = some (vp_cell _ (_, Sum.inr (Sum.inr (Sum.inr (Sum.inr (fun i => (rr sh.length i).map (fun r => g.2.2.1 + r)))))))
  have e9 : (fun i => (rr sh.length i).map (fun r => g.2.2.1 + r)) = (fun _ => none : Nat → Option Nat) := by funext i; rw [hrr]; rfl
  rw [e9, vp_cell_q]
  rfl
theorem r_putR (X : zw_FX p R s m args meth cd cells slots g cc own ret nL) {ci k N idx o r : Nat} {C : String} {T : u_T} {ty : Nat → FieldType} (hci : zw_CI ci C T N ty) (ho : sh[o]? = some (.inr ci)) (hk : (zw_ft ci)[k]? = some 2) (hl : (T k).1 = C ∧ Cond.fieldLink own idx C (T k).2.1 (T k).2.2.1 ∈ ktG) (hfin : (T k).2.2.2 = true) (hown : C = own) (hin2 : meth.name = "<init>") (hn : ∀ a, narrow (ty k) (.ref a) = .ref a ∧ fits (ty k) (.ref a) = true) (d : decode cc pc = .ok (.putfield idx, 3)) (kk : ZW p l e R s m args below meth cd cells slots Q g nL sh (zw_ur rr o k r) (pc + 3) L c st) : ZW p l e R s m args below meth cd cells slots Q g nL sh rr pc L c (.ref r :: .ref o :: st) := by
  intro ls H locs h1 h2 h3
  obtain ⟨hc, hin, hty, hnm, hlen⟩ := hci
  obtain ⟨hT, hl⟩ := hl
  have hkN : k < N := by rw [← hlen]; exact (List.getElem?_eq_some_iff.mp hk).1
  have hfl : k < (zw_flds g.2.2.1 rr c o ci).length := by rw [zw_flds, List.length_mapIdx, hlen]; exact hkN
  have hset : (zw_flds g.2.2.1 rr c o ci).set k (zw_cv g.2.2.1 (.ref r)) = zw_flds g.2.2.1 (zw_ur rr o k r) c o ci := by
    refine zw_mapIdx_set hk (by show zw_cv _ (zw_ov (zw_ur rr o k r o k)) = _; rw [zw_ur_self]; simp [zw_ov, zw_cv]) (fun i t' hi => ?_)
    unfold zw_fv
    rw [zw_ur_self]
    simp only [if_neg hi]
  have hws : (zw_ws g rr c sh).set o (g.2.2.1 + o, .inr (ci, (zw_flds g.2.2.1 rr c o ci).set k (zw_cv g.2.2.1 (.ref r)))) = zw_ws g (zw_ur rr o k r) c sh := by
    rw [hset]
    exact zw_ws_rr (K := .inr ci) ho (fun j hj => zw_ur_ne hj)
  refine va_putF X.1 X.2.1 X.2.2.2.2.1 hin ty hty hnm X.2.2.2.1 X.2.2.2.2.2.1 h2 zw_D h3 o (zw_ws_get ho) hc k hkN (X.2.2.2.2.1 _ hl) (fun x hx => by rw [← hT]; exact hx) hfin hin2 (hT.trans hown) (hty k hkN) (hn _).1 (hn _).2 hfl d (fun H1 locs1 a1 _ a3 => ?_)
  rw [hws] at a1
  exact kk ls H1 locs1 h1 a1 a3
theorem r_objI (X : zw_FX p R s m args meth cd cells slots g cc own ret nL) {idx o : Nat} (hlk : Cond.methodLink own idx Lib.objectInit ∈ ktG) (hinst : Cond.instanceMethod Lib.objectInit ∈ ktG) (hcode : Cond.code Lib.objectInit ⟨#[0xb1]⟩ 1 none ∈ ktG) (hR : 1 ≤ R.frames ∧ 20 ≤ R.locals) (hst : (st.map fun v => v.category).sum ≤ 8) (d : decode cc pc = .ok (.invokespecial idx, 3)) (kk : ZW p l e R s m args below meth cd cells slots Q g nL sh rr (pc + 3) L c st) : ZW p l e R s m args below meth cd cells slots Q g nL sh rr pc L c (.ref o :: st) := fun ls H locs h1 h2 h3 => W.eq rfl (W.objInit (g := F0 m pc ls (.ref (g.2.2.1 + o) :: st.map (zw_cv g.2.2.1))) X.1 X.2.1 X.2.2.2.1 (X.2.2.2.2.1 _ hlk) (X.2.2.2.2.1 _ hinst) (X.2.2.2.2.1 _ hcode) rfl (h1.1.trans X.2.2.1.symm) rfl d hR.1 (Nat.le_trans (Nat.add_le_add_right (lv_room (zw_cats hst)) 12) hR.2) (kk ls H locs h1 h2 h3))
theorem r_aastq (X : zw_FX p R s m args meth cd cells slots g cc own ret nL) {a n r : Nat} {i : Int32} (ha : sh[a]? = some (.inl (6, n))) (hr : sh[r]? = some (.inr 2)) (hin : vp_in i n) (d : decode cc pc = .ok (.aastore, 1)) (kk : ZW p l e R s m args below meth cd cells slots Q g nL sh (zw_ur rr a i.toNatClampNeg r) (pc + 1) L c st) : ZW p l e R s m args below meth cd cells slots Q g nL sh rr pc L c (.ref r :: .int i :: .ref a :: st) := by
  intro ls H locs h1 h2 h3
  refine va_astq X.1 X.2.1 X.2.2.2.2.2.1 h2 zw_D h3 a 6 r 2 (r := (R_Held, F_Held, 10)) (zw_ws_get ha) rfl (zw_ws_get hr) rfl hin d (fun H1 locs1 a1 _ a3 => kk ls H1 locs1 h1 ?_ a3)
  rw [← zw_ws_rr (rr := rr) (rr2 := zw_ur rr a i.toNatClampNeg r) ha (fun j hj => zw_ur_ne hj)]
  have e : zw_cell g.2.1 g.2.2.1 (zw_ur rr a i.toNatClampNeg r) c a (.inl (6, n)) = .inl (g.2.1 6, n, .inr (.inr (.inr (.inr (va_up (fun i => (rr a i).map (fun r => g.2.2.1 + r)) i.toNatClampNeg (some (g.2.2.1 + r))))))) := by
    show Sum.inl (_, _, Sum.inr (Sum.inr (Sum.inr (Sum.inr (fun j => (zw_ur rr a i.toNatClampNeg r a j).map (fun r => g.2.2.1 + r)))))) = _
    have e9 : (fun j => (zw_ur rr a i.toNatClampNeg r a j).map (fun r => g.2.2.1 + r)) = va_up (fun i => (rr a i).map (fun r => g.2.2.1 + r)) i.toNatClampNeg (some (g.2.2.1 + r)) := by
      funext j
      rw [zw_ur_self]
      unfold va_up
      by_cases hj : j = i.toNatClampNeg
      · simp [hj]
      · simp [hj]
    rw [e9]
  rw [e]
  exact a1
end ZK
/-- a constructor: it makes cells, and leaves the world with them -/
def zw_rmC (lv mc ms : Nat) : Room := { frames := lv, cells := mc, slots := ms, locals := 48 * lv }
def zw_MetC (l : Launch) (g : zw_G) (y : MethodName) (bytes : ByteArray) (maxL : Nat) (lv mc ms : Nat) (rr : zw_RR) (sh : zw_Sh) (avs : List Value) (c : zw_Ct) (rr2 : zw_RR) (sh2 : zw_Sh) (c2 : zw_Ct) : Prop :=
  Met l y (.code y bytes maxL none :: ktG) (zw_rmC lv mc ms) (va_Pc (avs.map (zw_cv g.2.2.1)) (fun U => zw_HR g rr sh c U ∧ U.heap.size = g.2.2.1 + sh.length)) (zw_Q g rr2 sh2 none c2) mc ms (fun q => g.2.2.1 ≤ q)
theorem zw_MetC.of {l : Launch} {g : zw_G} {y : MethodName} {bytes : ByteArray} {maxL lv mc ms : Nat} {rr : zw_RR} {sh : zw_Sh} {avs : List Value} {c : zw_Ct} {rr2 : zw_RR} {sh2 : zw_Sh} {c2 : zw_Ct} (hy : plainName y.cls = true) (hyn : y.name = "<init>") (hsl : (lg_sl (avs.map (zw_cv g.2.2.1))).length ≤ maxL)
    (body : ∀ (p : Program) (e : Env) (s : State) (m : MethodId) (args : Array Value) (below : List Frame) (meth : Method) (cd : Code), zw_FX p (zw_rmC lv mc ms) s m args meth cd 0 0 g bytes y.cls none maxL → meth.name = "<init>" → s.heap.size + 0 = g.2.2.1 + sh.length → ZW p l e (zw_rmC lv mc ms) s m args below meth cd 0 0 (MQ below (zw_Q g rr2 sh2 none c2) args s mc ms (fun q => g.2.2.1 ≤ q)) g maxL sh rr 0 (zw_entry avs maxL) c []) : zw_MetC l g y bytes maxL lv mc ms rr sh avs c rr2 sh2 c2 := by
  refine Met.ofW (cc := bytes) (maxL := maxL) (ret := none) hy rfl ?_
  intro p e s m args below meth cd s₁ B hml hv
  obtain ⟨rfl, ⟨h1, h2, h3, h4, h5⟩, hz⟩ := hv
  have hts := atoms_spec (ws := .code y bytes maxL none :: ktG) B.pre
  have X : zw_FX p (zw_rmC lv mc ms) s m (avs.map (zw_cv g.2.2.1)).toArray meth cd 0 0 g bytes y.cls none maxL := ⟨B.exec, B.bytes, hml, findClass_of_methodNamed B.named, fun w hw => hts w (List.mem_cons_of_mem _ hw), h2, h3, h5, h4, B.notSynchronized, B.returns, Nat.zero_le _, Nat.zero_le _⟩
  rw [lg_entry_eq]
  exact body p e s m _ below meth cd X ((name_of_methodNamed B.named B.method).1.trans hyn) hz _ s.heap [] (zw_LR_entry avs maxL hsl) h1 va_S.rf
theorem zw_MetC_blind {g : zw_G} {rr : zw_RR} {sh : zw_Sh} {c : zw_Ct} {av : List Value} {n : Nat} : FrameBlind (va_Pc av (fun U => zw_HR g rr sh c U ∧ U.heap.size = n)) := by
  intro a U fr mk h
  exact ⟨h.1, (zw_HR_blind (av := av) a U fr mk ⟨h.1, h.2.1⟩).2, h.2.2⟩
/-- what the tables say of a constructor -/
def zw_cec (y : MethodName) (bytes : ByteArray) (maxL : Nat) (n : Nat) : Prop := zw_ce y bytes maxL none n ∧ Cond.instanceMethod y ∈ ktG ∧ y.name = "<init>"
section ZL
variable {p : Program} {l : Launch} {e : Env} {R : Room} {s : State} {m : MethodId} {args : Array Value} {below : List Frame} {meth : Method} {cd : Code} {cells slots : Nat} {Q : State → Prop} {g : zw_G} {cc : ByteArray} {own : String} {ret : Option FieldType} {nL : Nat} {sh : zw_Sh} {rr : zw_RR} {pc : Nat} {L : zw_Lc} {c : zw_Ct} {st : List Value}
theorem zw_callC (X : zw_FX p R s m args meth cd cells slots g cc own ret nL) {rr2 : zw_RR} {sh2 : zw_Sh} {c2 : zw_Ct} {mc ms : Nat} {rest : List Value} {st0 : List Value} {ls : Array Slot} {H : Heap} {locs : List Loc} {a : Array Value} (hr : va_Run p l e R s m args below meth cd H locs cells slots mc ms (F0 m pc ls st0) rest (zw_Q g rr2 sh2 none c2 a) (fun q => g.2.2.1 ≤ q)) (hS : va_S (fun q => g.2.2.1 ≤ q) s.heap H locs)
    (kk : ∀ (H1 : Heap) (locs1 : List Loc), va_P g.1 classes (zw_ws g rr2 c2 sh2) H1 → va_S (fun q => g.2.2.1 ≤ q) s.heap H1 locs1 → W p l e R s m args below meth cd H1 locs1 (cells + mc) (slots + ms) Q (F0 m (pc + 3) ls rest)) : W p l e R s m args below meth cd H locs cells slots Q (F0 m pc ls st0) := by
  intro T hT X'
  obtain ⟨v, st₀, t, T', L', h0, X2, hL, e1, e2, ⟨hv, hH, hz, hk⟩, st⟩ := hr T hT X'
  cases hv
  rw [h0] at hz hk
  obtain ⟨t2, a1, b1⟩ := kk T'.heap (locs ++ L') (by rw [e1]; exact hH.1)
    ⟨Nat.le_trans hS.1 (by rw [e1]; exact hz), fun q g1 g2 => by rw [e1, hk q (Nat.lt_of_lt_of_le g1 hS.1) g2]; exact hS.2.1 q g1 g2, fun q hq => by
      rcases List.mem_append.mp hq with h | h
      · exact hS.2.2 q h
      · exact hL q h⟩ T' rfl X2
  exact ⟨t2, st t2 a1, b1⟩
theorem r_callI (X : zw_FX p R s m args meth cd cells slots g cc own ret nL) {y : MethodName} {bytes : ByteArray} {maxL lv mc ms o n idx : Nat} {As : List Value} {rr2 : zw_RR} {sh2 : zw_Sh} {c2 : zw_Ct} (hM : zw_MetC l g y bytes maxL lv mc ms rr sh (.ref o :: As) c rr2 sh2 c2) (hce : zw_cec y bytes maxL n) (hlk : Cond.methodLink own idx y ∈ ktG) (hn : As.length = n) (hR : lv + 1 ≤ R.frames ∧ 8 + (maxL + 11) + 48 * lv ≤ R.locals) (hst : (st.map fun v => v.category).sum ≤ 8) (hf : cells + mc ≤ R.cells ∧ slots + ms ≤ R.slots) (hsz : s.heap.size + cells = g.2.2.1 + sh.length) (d : decode cc pc = .ok (.invokespecial idx, 3)) (kk : zw_FX p R s m args meth cd (cells + mc) (slots + ms) g cc own ret nL → ZW p l e R s m args below meth cd (cells + mc) (slots + ms) Q g nL sh2 rr2 (pc + 3) L c2 st) : ZW p l e R s m args below meth cd cells slots Q g nL sh rr pc L c (As.reverse ++ .ref o :: st) := by
  intro ls H locs h1 h2 h3 T' hT St
  have hH := zw_size (sh := sh) (rr := rr) (c := c) hsz X.2.2.2.2.2.2.2.2.1 h2 h3 hT St
  rw [zw_stk]
  refine zw_callC X (va_runI (As := As.map (zw_cv g.2.2.1)) (rest := st.map (zw_cv g.2.2.1)) (n := n) ⟨X.1, X.2.1, X.2.2.1, X.2.2.2.1, X.2.2.2.2.1⟩ hM (cwI n X.2.2.2.2.1 (kt_cons hce.1.1) rfl rfl rfl (X.2.2.2.2.1 _ hce.1.2.1) (X.2.2.2.2.1 _ hlk) (X.2.2.2.2.1 _ hce.2.1) hce.2.2 hce.1.2.2 hR) ⟨zw_MetC_blind, fun U hU hW => ⟨rfl, zw_HR_at X h2 h3 hU hW, by rw [hU]; exact hH⟩⟩ rfl ((List.length_map ..).trans hn) h1.1 rfl (lv_room (zw_cats hst)) d hf) h3 (fun H1 locs1 a1 a2 => ?_) T' hT St
  exact kk ⟨X.1, X.2.1, X.2.2.1, X.2.2.2.1, X.2.2.2.2.1, X.2.2.2.2.2.1, X.2.2.2.2.2.2.1, X.2.2.2.2.2.2.2.1, X.2.2.2.2.2.2.2.2.1, X.2.2.2.2.2.2.2.2.2.1, X.2.2.2.2.2.2.2.2.2.2.1, hf.1, hf.2⟩ ls H1 locs1 h1 a1 a2
theorem r_callIN (X : zw_FX p R s m args meth cd cells slots g cc own ret nL) {y : MethodName} {bytes : ByteArray} {maxL lv mc ms o n idx : Nat} {As : List Value} {rr2 : zw_RR} {sh2 : zw_Sh} {c2 : zw_Ct} (hM : zw_MetC l g y bytes maxL lv mc ms rr sh (.ref o :: As) c rr2 sh2 c2) (hce : zw_cec y bytes maxL n) {host : String} (hlk : Cond.methodLinkNest own idx y host ∈ nwt) (hn : As.length = n) (hR : lv + 1 ≤ R.frames ∧ 8 + (maxL + 11) + 48 * lv ≤ R.locals) (hst : (st.map fun v => v.category).sum ≤ 8) (hf : cells + mc ≤ R.cells ∧ slots + ms ≤ R.slots) (hsz : s.heap.size + cells = g.2.2.1 + sh.length) (d : decode cc pc = .ok (.invokespecial idx, 3)) (kk : zw_FX p R s m args meth cd (cells + mc) (slots + ms) g cc own ret nL → ZW p l e R s m args below meth cd (cells + mc) (slots + ms) Q g nL sh2 rr2 (pc + 3) L c2 st) : ZW p l e R s m args below meth cd cells slots Q g nL sh rr pc L c (As.reverse ++ .ref o :: st) := by
  intro ls H locs h1 h2 h3 T' hT St
  have hH := zw_size (sh := sh) (rr := rr) (c := c) hsz X.2.2.2.2.2.2.2.2.1 h2 h3 hT St
  rw [zw_stk]
  refine zw_callC X (va_runIN (As := As.map (zw_cv g.2.2.1)) (rest := st.map (zw_cv g.2.2.1)) (n := n) ⟨X.1, X.2.1, X.2.2.1, X.2.2.2.1, X.2.2.2.2.1⟩ hM ⟨va_cnB n X.2.2.2.2.1 (kt_cons hce.1.1) rfl rfl rfl (X.2.2.2.2.2.2.1 _ hlk) (X.2.2.2.2.1 _ hce.1.2.1) hce.1.2.2 hR, hce.2.2, X.2.2.2.2.1 _ hce.2.1⟩ ⟨zw_MetC_blind, fun U hU hW => ⟨rfl, zw_HR_at X h2 h3 hU hW, by rw [hU]; exact hH⟩⟩ rfl ((List.length_map ..).trans hn) h1.1 rfl (lv_room (zw_cats hst)) d hf) h3 (fun H1 locs1 a1 a2 => ?_) T' hT St
  exact kk ⟨X.1, X.2.1, X.2.2.1, X.2.2.2.1, X.2.2.2.2.1, X.2.2.2.2.2.1, X.2.2.2.2.2.2.1, X.2.2.2.2.2.2.2.1, X.2.2.2.2.2.2.2.2.1, X.2.2.2.2.2.2.2.2.2.1, X.2.2.2.2.2.2.2.2.2.2.1, hf.1, hf.2⟩ ls H1 locs1 h1 a1 a2
theorem r_vretC (X : zw_FX p R s m args meth cd cells slots g cc own ret nL) (hr : ret = none) {mc ms : Nat} (hc : cells ≤ mc) (hs : slots ≤ ms) (d : decode cc pc = .ok (.return_, 1)) : ZW p l e R s m args below meth cd cells slots (MQ below (zw_Q g rr sh none c) args s mc ms (fun q => g.2.2.1 ≤ q)) g nL sh rr pc L c ([]) := fun ls H locs h1 h2 h3 => W.widen hc hs (W.vret X.1 X.2.1 (by rw [X.2.2.2.2.2.2.2.2.2.2.1, hr]) (fun t ht hW => ⟨rfl, zw_HR_at X h2 h3 ht hW, h3.F ht⟩) (fun q hq => h3.2.2 q hq) d (hlocks := X.2.2.2.2.2.2.2.2.2.1))
end ZL
