/-! multianewarray of two dimensions, the outer of length 4 -/
def zm_I (cI : ClassId) (M : Nat) (dv : Value) : Cell := { cls := cI, slots := Array.replicate M dv, vm := .none }
def zm_r (h i j : Nat) : Value := if j < i then .ref (h + 1 + j) else .null
def zm_O (cA : ClassId) (h i : Nat) : Cell := { cls := cA, slots := #[zm_r h i 0, zm_r h i 1, zm_r h i 2, zm_r h i 3], vm := .none }
def zm_T (S : State) (cA cI : ClassId) (M : Nat) (dv : Value) : Nat → State
  | 0 => S.pushCell (zm_O cA S.heap.size 0)
  | i + 1 => ((zm_T S cA cI M dv i).pushCell (zm_I cI M dv)).setCell S.heap.size (zm_O cA S.heap.size (i + 1))
theorem zm_set {cA : ClassId} {h i : Nat} (hi : i < 4) : (zm_O cA h i).setSlot i (.ref (h + 1 + i)) = zm_O cA h (i + 1) := by
  obtain rfl | rfl | rfl | rfl : i = 0 ∨ i = 1 ∨ i = 2 ∨ i = 3 := by omega
  all_goals simp [zm_O, Cell.setSlot, zm_r]
theorem zm_f (S : State) (cA cI : ClassId) (M : Nat) (dv : Value) : ∀ i, (zm_T S cA cI M dv i).heap.size = S.heap.size + 1 + i ∧ (zm_T S cA cI M dv i).heap[S.heap.size]? = some (zm_O cA S.heap.size i) ∧ (zm_T S cA cI M dv i).vm = S.vm ∧ (zm_T S cA cI M dv i).slotsUsed = S.slotsUsed + 4 + i * M ∧ (∀ a, a < S.heap.size → (zm_T S cA cI M dv i).heap[a]? = S.heap[a]?) ∧ ∀ j, j < i → (zm_T S cA cI M dv i).heap[S.heap.size + 1 + j]? = some (zm_I cI M dv) := by
  intro i
  induction i with
  | zero => exact ⟨by simp [zm_T], by simp [zm_T], rfl, by simp [zm_T, zm_O], fun a ha => State.heap_pushCell_of_lt _ _ ha, fun j hj => absurd hj (Nat.not_lt_zero _)⟩
  | succ i ih =>
    obtain ⟨a, b, c, d, f, g⟩ := ih
    have hp : ∀ q, q < S.heap.size + 1 + i → ((zm_T S cA cI M dv i).pushCell (zm_I cI M dv)).heap[q]? = (zm_T S cA cI M dv i).heap[q]? := fun q hq => State.heap_pushCell_of_lt _ _ (by rw [a]; exact hq)
    refine ⟨?_, State.heap_setCell_self (by rw [hp _ (by omega)]; exact b), ?_, ?_, fun q hq => ?_, fun j hj => ?_⟩
    · simp [zm_T, State.setCell, a]; omega
    · simp [zm_T, c]
    · simp [zm_T, d, zm_I, Nat.succ_mul]; omega
    · show (((zm_T S cA cI M dv i).pushCell (zm_I cI M dv)).setCell S.heap.size _).heap[q]? = _
      rw [State.heap_setCell_other (Nat.ne_of_gt hq), hp _ (by omega)]
      exact f q hq
    · show (((zm_T S cA cI M dv i).pushCell (zm_I cI M dv)).setCell S.heap.size _).heap[_]? = _
      rw [State.heap_setCell_other (show S.heap.size ≠ S.heap.size + 1 + j by omega)]
      by_cases hji : j < i
      · rw [hp _ (by omega)]; exact g j hji
      · obtain rfl : j = i := by omega
        rw [← a]; exact State.heap_pushCell_size _ _
theorem zm_top (S : State) (fr : JFrame) (cA cI : ClassId) (M : Nat) (dv : Value) : ∀ i, zm_T (S.setTop fr) cA cI M dv i = (zm_T S cA cI M dv i).setTop fr := by
  intro i
  induction i with
  | zero => rfl
  | succ i ih => simp only [zm_T, ih, State.heap_setTop, State.pushCell_setTop, State.setCell_setTop]
section ZMW
variable {E : CtlPost} {e : Env} {d : Bool} {acts : List Action} {s : State}
theorem zm_new {c comp : ClassId} {k : Class} {type : FieldType} {len : Nat} {init : Value} (hk : s.vm.classes[c]? = some k) (hkind : k.kind = .array comp type) (hl : ¬ len > e.platform.arrayLengthLimit) (hb : ¬ len * componentBytes type > e.platform.maxHeapBytes) (hfit : fits type init = true) {Q : Addr → Pre} (h1 : s.heap.size < e.platform.maxCells) (h2 : s.slotsUsed + len ≤ e.platform.maxSlots) (hq : ∀ acts', Q s.heap.size d acts' (s.pushCell { cls := c, slots := Array.replicate len init, vm := .none })) : wp (Jvm.newArray c len init) Q E e d acts s := by
  have hf : ∀ i v, (Array.replicate len init)[i]? = some v → s.fitsSlot c .none i v = true := by
    intro i v hv
    rw [Array.getElem?_replicate] at hv
    split at hv
    · cases hv; simp [State.fitsSlot, State.slotType?, hk, hkind, hfit]
    · cases hv
  simp only [Jvm.newArray, Jvm.arrayFits, wp_bind', W.ask, W.ite, hl, if_false, wp_pure', W.theClass, hk, hkind, hb, W.alloc, W.stop, Option.some.injEq, exists_eq_left', Array.size_replicate]
  rw [if_neg (by omega)]
  exact ⟨h1, h2, hf, hq _⟩
theorem zm_wp {cA cI cc : ClassId} {k kc : Class} {ty : FieldType} {m : Int32} (hk : s.vm.classes[cA]? = some k) (hkind : k.kind = .array cI (.array ty)) (hkc : s.vm.classes[cI]? = some kc) (hkindc : kc.kind = .array cc ty) (hm : ¬ m < 0) (hl1 : ¬ 4 > e.platform.arrayLengthLimit) (hh1 : ¬ 4 * componentBytes (.array ty) > e.platform.maxHeapBytes) (hl2 : ¬ m.toNatClampNeg > e.platform.arrayLengthLimit) (hh2 : ¬ m.toNatClampNeg * componentBytes ty > e.platform.maxHeapBytes) (hdf : fits ty (defaultValue ty) = true) (hc : s.heap.size + 5 ≤ e.platform.maxCells) (hs : s.slotsUsed + (4 + 4 * m.toNatClampNeg) ≤ e.platform.maxSlots) {Q : Addr → Pre} (hq : ∀ d' acts', Q s.heap.size d' acts' (zm_T s cA cI m.toNatClampNeg (defaultValue ty) 4)) : wp (multianewarray.make cA [4, m]) Q E e d acts s := by
  have hn : ¬ (4 : Int32) < 0 := by decide
  have e4 : (4 : Int32).toNatClampNeg = 4 := by decide
  have e0 : ((4 : Int32) == 0) = false := by decide
  rw [multianewarray.make]
  simp only [wp_bind', W.ite, hn, if_false, wp_pure', W.theClass, hk, hkind, Option.some.injEq, exists_eq_left', e4]
  refine zm_new hk hkind hl1 hh1 rfl (by omega) (by omega) (fun acts1 => ?_)
  simp only [e0, Bool.false_eq_true, if_false]
  rw [wp_bind', Std.Legacy.Range.forIn_eq_forIn_range']
  have hsz : ([:4] : Std.Legacy.Range).size = 4 := by simp [Std.Legacy.Range.size]
  rw [hsz]
  refine wp_forIn_inv (fun rest U => ∃ i, i ≤ 4 ∧ rest = List.range' i (4 - i) ∧ U = zm_T s cA cI m.toNatClampNeg (defaultValue ty) i) _ _ ⟨0, by omega, rfl, rfl⟩ ?_ ?_
  · rintro x rest U d1 acts2 Q1 ⟨i, hi, hl, rfl⟩ hnext
    have hlt : i < 4 := by
      rcases Nat.lt_or_ge i 4 with h | h
      · exact h
      · rw [show 4 - i = 0 by omega] at hl; simp at hl
    rw [show 4 - i = (4 - (i + 1)) + 1 by omega, List.range'_succ] at hl
    obtain ⟨rfl, hrest⟩ := List.cons.inj hl
    obtain ⟨f1, f2, f3, f4, f5, f6⟩ := zm_f s cA cI m.toNatClampNeg (defaultValue ty) x
    have hmul : x * m.toNatClampNeg + m.toNatClampNeg ≤ 4 * m.toNatClampNeg := by
      have := Nat.mul_le_mul_right m.toNatClampNeg (show x + 1 ≤ 4 from hlt)
      rw [Nat.succ_mul] at this; exact this
    simp only [wp_bind']
    rw [multianewarray.make]
    simp only [wp_bind', W.ite, hm, if_false, wp_pure', W.theClass, f3, hkc, hkindc, Option.some.injEq, exists_eq_left']
    refine zm_new (by rw [f3]; exact hkc) hkindc hl2 hh2 hdf (by rw [f1]; omega) (by rw [f4]; omega) (fun acts3 => ?_)
    have hlt0 : s.heap.size < (zm_T s cA cI m.toNatClampNeg (defaultValue ty) x).heap.size := by rw [f1]; omega
    simp only [wp_bind', W.writeLoc, wp_pure']
    refine ⟨zm_O cA s.heap.size x, by rw [State.heap_pushCell_of_lt (h := hlt0)]; exact f2, by simp [zm_O], by show x < 4; exact hlt, ?_, hnext _ _ _ ⟨x + 1, hlt, hrest, ?_⟩⟩
    · show State.fitsSlot _ cA .none x _ = true
      simp [State.fitsSlot, State.slotType?, f3, hk, hkind, fits]
    · rw [f1, zm_set hlt]; rfl
  · rintro U d1 acts2 ⟨i, hi, hl, rfl⟩
    obtain rfl : i = 4 := by
      rcases Nat.lt_or_ge i 4 with h | h
      · rw [show 4 - i = (4 - (i + 1)) + 1 by omega, List.range'_succ] at hl; cases hl
      · omega
    simp only [wp_pure']
    exact hq _ _
end ZMW
theorem zm_ao {t : FieldType} {A : Array Value} {U : State} (h : (Cond.arrayOver (.array t)).before A U = true) : ∃ (cI cA : ClassId) (k : Class), U.vm.findClass (FieldType.array t).toString = some cI ∧ U.vm.classes[cA]? = some k ∧ k.kind = .array cI (.array t) ∧ U.vm.findClass ("[" ++ (FieldType.array t).toString) = some cA := by
  unfold Cond.before at h
  simp only [Cond.holds, Cond.value, beq_iff_eq] at h
  obtain ⟨cI, h1, h2⟩ := Option.bind_eq_some_iff.mp h
  obtain ⟨cA, h3, h4⟩ := Option.bind_eq_some_iff.mp h2
  obtain ⟨k, h5, h6⟩ := Option.map_eq_some_iff.mp h4
  obtain ⟨hlt, hp, -⟩ := Array.findIdx?_eq_some_iff_getElem.mp h3
  have hkk : U.vm.classes[cA] = k := (Array.getElem?_eq_some_iff.mp h5).2
  rw [hkk] at hp
  refine ⟨cI, cA, k, h1, h5, ?_⟩
  cases hkd : k.kind with
  | array component ty =>
    rw [hkd] at hp h6
    simp only [beq_iff_eq, Bool.and_eq_true, decide_eq_true_eq] at hp h6
    rw [hp, h6.1]
    exact ⟨rfl, h6.2⟩
  | _ => rw [hkd] at h6; simp at h6
section ZMR
variable {p : Program} {l : Launch} {e : Env} {R : Room} {s : State} {m : MethodId} {args : Array Value} {below : List Frame} {meth : Method} {cd : Code}
theorem zm_stand {T : State} {locs : List Loc} {cells slots : Nat} (X : Stand p l e R s m args below meth cd T locs cells slots) (cA cI : ClassId) (M : Nat) (dv : Value) : ∀ i, i ≤ 4 → Stand p l e R s m args below meth cd (zm_T T cA cI M dv i) (locs ++ (List.range i).map fun j => ⟨T.heap.size, j⟩) (cells + 1 + i) (slots + 4 + i * M) := by
  intro i
  induction i with
  | zero =>
    intro _
    have h := X.pushed (zm_O cA T.heap.size 0)
    simpa [zm_T, zm_O] using h
  | succ i ih =>
    intro hi
    have Xi := ih (by omega)
    obtain ⟨f1, f2, -, -, -, -⟩ := zm_f T cA cI M dv i
    have hlt0 : T.heap.size < (zm_T T cA cI M dv i).heap.size := by rw [f1]; omega
    have hcell : ((zm_T T cA cI M dv i).pushCell (zm_I cI M dv)).heap[T.heap.size]? = some (zm_O cA T.heap.size i) := by rw [State.heap_pushCell_of_lt (h := hlt0)]; exact f2
    have h := (Xi.pushed (zm_I cI M dv)).stored hcell i (.ref (T.heap.size + 1 + i))
    rw [zm_set (show i < 4 by omega)] at h
    have e1 : (zm_I cI M dv).slots.size = M := by simp [zm_I]
    rw [e1] at h
    have e2 : (locs ++ (List.range (i + 1)).map fun j => (⟨T.heap.size, j⟩ : Loc)) = (locs ++ (List.range i).map fun j => (⟨T.heap.size, j⟩ : Loc)) ++ [⟨T.heap.size, i⟩] := by simp [List.range_succ, List.append_assoc]
    have e3 : slots + 4 + (i + 1) * M = slots + 4 + i * M + M := by rw [Nat.succ_mul]; omega
    rw [e2, e3]
    exact h
theorem zm_W {H : Heap} {locs : List Loc} {cells slots : Nat} {Q : State → Prop} {cc : ByteArray} (hexec : p.tables.exec = Jvm.exec) (hb : cd.code = cc) {own : String} (hown : s.vm.findClass own = some m.cls) {index : Nat} {ty : FieldType} (hcl : (Cond.classLink own index ("[" ++ (FieldType.array ty).toString)).before args s = true) (hov : (Cond.arrayOver (.array ty)).before #[] s = true) (har : (Cond.arrayClass ty).before args s = true)
    {g : JFrame} (hg : g.method = m) (hdg : decode cc g.pc = .ok (.multianewarray index 2, 4)) {k : Int32} {rest : List Value} (hstack : g.stack = .int k :: .int 4 :: rest) (hk : ¬ k < 0) (hb2 : k.toNatClampNeg * componentBytes ty ≤ 536870912) (hb3 : k.toNatClampNeg ≤ 536870912) (hdf : fits ty (defaultValue ty) = true) (hcells : cells + 5 ≤ R.cells) (hslots : slots + (4 + 4 * k.toNatClampNeg) ≤ R.slots)
    (kk : ∀ (H1 : Heap) (cA cI : ClassId), s.vm.findClass ("[" ++ (FieldType.array ty).toString) = some cA → s.vm.findClass (FieldType.array ty).toString = some cI → H1.size = H.size + 5 → H1[H.size]? = some (zm_O cA H.size 4) → (∀ j, j < 4 → H1[H.size + 1 + j]? = some (zm_I cI k.toNatClampNeg (defaultValue ty))) → (∀ a, a < H.size → H1[a]? = H[a]?) →
      W p l e R s m args below meth cd H1 locs (cells + 5) (slots + (4 + 4 * k.toNatClampNeg)) Q { g with pc := g.pc + 4, stack := .ref H.size :: rest }) : W p l e R s m args below meth cd H locs cells slots Q g := by
  intro T hT X
  subst hT; subst hb; subst hg
  have hpl : e.platform.magicAccessors = ({} : Platform).magicAccessors := by rw [X.admits.platform]
  obtain ⟨cI, cA, kA, hI, hkA, hkindA, hA⟩ := zm_ao hov
  obtain ⟨cI', kC, cc, hI', hkC, hkindC⟩ := Cond.arrayClass_spec har
  obtain rfl : cI' = cI := Option.some.inj (hI'.symm.trans hI)
  obtain ⟨c0, hfc0, hl⟩ := Cond.classLink_spec hown hcl e.platform hpl
  cases hA.symm.trans hfc0
  obtain ⟨hg1, hwarm1, hready1⟩ := State.classEntry (e := e) X.warmed hl
  generalize T.vm.noted g.method.cls index (.cls cA) = vm1 at hg1 hwarm1 hready1
  have hal : s.vm.Alike vm1 := hwarm1.alike
  obtain ⟨kA1, hkA1, heA⟩ := hal.2.2 _ _ hkA
  obtain ⟨kC1, hkC1, heC⟩ := hal.2.2 _ _ hkC
  have X1 := zm_stand (X.noted hwarm1) cA cI' k.toNatClampNeg (defaultValue ty) 4 (Nat.le_refl 4)
  obtain ⟨hr1, hr2⟩ := X.roomAbove hcells hslots
  obtain ⟨f1, f2, f3, f4, f5, f6⟩ := zm_f (T.setVm vm1) cA cI' k.toNatClampNeg (defaultValue ty) 4
  have X2 : Stand p l e R s g.method args below meth cd (zm_T (T.setVm vm1) cA cI' k.toNatClampNeg (defaultValue ty) 4) locs (cells + 5) (slots + (4 + 4 * k.toNatClampNeg)) := by
    have h := X1.dropFresh (fun x hx => by
      obtain ⟨j, -, rfl⟩ := List.mem_map.mp hx
      exact X.heapGrown)
    rw [show slots + 4 + 4 * k.toNatClampNeg = slots + (4 + 4 * k.toNatClampNeg) by omega] at h
    exact h
  obtain ⟨t, a1, b1⟩ := kk _ cA cI' hA hI (by rw [f1]; rfl) f2 f6 f5 _ rfl X2
  refine ⟨t, ?_, b1⟩
  have hl1 : ¬ 4 > e.platform.arrayLengthLimit := by rw [Launch.admits_arrayLengthLimit X.admits]; omega
  have hh1 : ¬ 4 * componentBytes (.array ty) > e.platform.maxHeapBytes := by
    rw [Launch.admits_maxHeapBytes X.admits]; show ¬ 4 * 4 > 536870912; omega
  have hl2 : ¬ k.toNatClampNeg > e.platform.arrayLengthLimit := by rw [Launch.admits_arrayLengthLimit X.admits]; omega
  have hh2 : ¬ k.toNatClampNeg * componentBytes ty > e.platform.maxHeapBytes := by rw [Launch.admits_maxHeapBytes X.admits]; omega
  jvm_step X.here [hexec, hdg]
  simp only [multianewarray.sem, wp_bind', W.resolveClassAt_links (State.method?_setTop g X.here.top) hg1]
  rw [W.popN, if_neg (by decide)]
  refine ⟨g, State.topJava?_setTop' (s := T.setVm vm1) g X.here.top, [.int 4, .int k], rest, rfl, hstack, ?_⟩
  simp only [List.mapM_cons, List.mapM_nil, wp_bind', wp_pure']
  refine zm_wp (k := kA1) (kc := kC1) (cI := cI') (cc := cc) (ty := ty) hkA1 (by rw [heA]; exact hkindA) hkC1 (by rw [heC]; exact hkindC) hk hl1 hh1 hl2 hh2 hdf (by show T.heap.size + 5 ≤ _; omega) (by show T.slotsUsed + _ ≤ _; omega) (fun d' acts' => ?_)
  have eS : ((T.setTop g).setVm vm1).setTop { g with stack := rest } = (T.setVm vm1).setTop { g with stack := rest } := by
    show ((T.setVm vm1).setTop g).setTop _ = _
    rw [State.setTop_setTop]
  rw [eS, zm_top]
  simp only [wp_bind', W.mark, W.pushRef, State.topJava?_setTop' _ X2.here.top, Option.some.injEq, exists_eq_left', State.setTop_setTop, State.heap_setTop]
  intro acts
  simp [jvm, X2.here.top]
  exact a1
end ZMR
section ZMM
variable {p : Program} {l : Launch} {e : Env} {R : Room} {s : State} {m : MethodId} {args : Array Value} {below : List Frame} {meth : Method} {cd : Code} {cells slots : Nat} {Q : State → Prop} {g : zw_G} {cc : ByteArray} {own : String} {ret : Option FieldType} {nL : Nat} {sh : zw_Sh} {rr : zw_RR} {pc : Nat} {L : zw_Lc} {c : zw_Ct} {st : List Value}
theorem zm_OV {cA : ClassId} {h : Nat} {f : Nat → Value} (h0 : f 0 = .ref (h + 1 + 0)) (h1 : f 1 = .ref (h + 1 + 1)) (h2 : f 2 = .ref (h + 1 + 2)) (h3 : f 3 = .ref (h + 1 + 3)) : zm_O cA h 4 = arrV cA 4 f := by
  have e : (#[zm_r h 4 0, zm_r h 4 1, zm_r h 4 2, zm_r h 4 3] : Array Value) = Array.ofFn (n := 4) fun j => f j.val := by
    apply Array.ext
    · simp
    · intro i q1 q2
      have hi : i < 4 := by simpa using q1
      obtain rfl | rfl | rfl | rfl : i = 0 ∨ i = 1 ∨ i = 2 ∨ i = 3 := by omega
      all_goals simp [zm_r, h0, h1, h2, h3]
  unfold zm_O arrV
  rw [e]
theorem r_multi (X : zw_FX p R s m args meth cd cells slots g cc own ret nL) {sh2 : zw_Sh} {k k1 k2 t it M : Nat} {fty : FieldType} {n : Int32} {C : String} {idx : Nat} (hcl : Cond.classLink own idx C ∈ ktG) (hov : Cond.arrayOver (.array fty) ∈ nwt) (har : Cond.arrayClass fty ∈ ktG) (hC : "[" ++ (FieldType.array fty).toString = C) (htt : (zw_tys g.2.1)[t]? = some (g.2.1 t, .array fty)) (hit : (zw_tys g.2.1)[it]? = some (g.2.1 it, fty)) (hts : (FieldType.array fty).toString = "[" ++ fty.toString) (hra2 : ∀ cA, va_RA s cA fty → s.vm.findClass ("[" ++ fty.toString) = some cA) (hac1 : ∀ (rr : zw_RR) (c : zw_Ct) (k b : Nat) (cA : ClassId), vp_cell cA (4, zw_ac b rr c k t) = arrV cA 4 (fun i => va_rf ((rr k i).map (fun r => b + r)))) (hac2 : ∀ (rr : zw_RR) (c : zw_Ct) (k : Nat) (b : Nat) (N : Nat) (cA : ClassId), vp_cell cA (N, zw_ac b rr (zw_z c k) k it) = arrV cA N (fun _ => defaultValue fty)) (hn : ¬ n < 0) (hN : n.toNatClampNeg = M) (hby : M * componentBytes fty ≤ 536870912) (hby2 : M ≤ 536870912) (hdf : fits fty (defaultValue fty) = true) (hsz : s.heap.size + cells = g.2.2.1 + sh.length) (hk : sh.length = k) (hsh : sh ++ [.inl (t, 4), .inl (it, M), .inl (it, M), .inl (it, M), .inl (it, M)] = sh2) (hcells : k1 ≤ R.cells) (hslots : k2 ≤ R.slots) (d : decode cc pc = .ok (.multianewarray idx 2, 4)) (e1 : cells + 5 = k1) (e2 : slots + (4 + 4 * M) = k2) (kk : zw_FX p R s m args meth cd k1 k2 g cc own ret nL → ZW p l e R s m args below meth cd k1 k2 Q g nL sh2 (zw_ur (zw_ur (zw_ur (zw_ur rr k 0 (k + 1)) k 1 (k + 2)) k 2 (k + 3)) k 3 (k + 4)) (pc + 4) L (zw_z (zw_z (zw_z (zw_z (zw_z c k) (k + 1)) (k + 2)) (k + 3)) (k + 4)) (.ref k :: st)) : ZW p l e R s m args below meth cd cells slots Q g nL sh rr pc L c (.int n :: .int 4 :: st) := by
  subst hk; subst hsh; subst e1; subst e2; subst hN; subst hC
  intro ls H locs h1 h2 h3 T' hT St
  have hH := zw_size (sh := sh) (rr := rr) (c := c) hsz X.2.2.2.2.2.2.2.2.1 h2 h3 hT St
  refine zm_W (g := F0 m pc ls (.int n :: .int 4 :: st.map (zw_cv g.2.2.1))) X.1 X.2.1 X.2.2.2.1 (X.2.2.2.2.1 _ hcl) (X.2.2.2.2.2.2.1 _ hov) (X.2.2.2.2.1 _ har) rfl d rfl hn hby hby2 hdf hcells hslots (fun H1 cA cI eA eI z1 z2 z3 z4 => ?_) T' hT St
  obtain rfl : cA = g.2.1 t := Option.some.inj (eA.symm.trans (X.2.2.2.2.2.1.2 t _ htt).2)
  rw [hts] at eI
  obtain rfl : cI = g.2.1 it := Option.some.inj (eI.symm.trans (hra2 _ (X.2.2.2.2.2.1.2 it _ hit).2))
  have hs0 : s.heap.size ≤ H.size := h3.1
  rw [hH] at z1 z2 z3 z4 hs0 ⊢
  refine kk ⟨X.1, X.2.1, X.2.2.1, X.2.2.2.1, X.2.2.2.2.1, X.2.2.2.2.2.1, X.2.2.2.2.2.2.1, X.2.2.2.2.2.2.2.1, X.2.2.2.2.2.2.2.2.1, X.2.2.2.2.2.2.2.2.2.1, X.2.2.2.2.2.2.2.2.2.2.1, hcells, hslots⟩ ls H1 locs h1 ?_ ⟨by omega, fun x g1 g2 => (z4 x (Nat.lt_of_lt_of_le g1 hs0)).trans (h3.2.1 x g1 g2), h3.2.2⟩
  intro q x hx
  obtain ⟨K, hK, rfl⟩ := zw_ws_at hx
  by_cases hq : q < sh.length
  · rw [List.getElem?_append_left hq] at hK
    rw [zw_cell_congr (rr := rr) (c := c) K (by rw [zw_zn1 (by omega), zw_zn1 (by omega), zw_zn1 (by omega), zw_zn1 (by omega), zw_zn1 (by omega)]) (by rw [zw_zn2 (by omega), zw_zn2 (by omega), zw_zn2 (by omega), zw_zn2 (by omega), zw_zn2 (by omega)]) (by rw [zw_ur_ne (by omega), zw_ur_ne (by omega), zw_ur_ne (by omega), zw_ur_ne (by omega)])]
    exact (h2 q _ (zw_ws_get hK)).kept (z4 _ (by show g.2.2.1 + q < _; omega))
  · obtain ⟨j, rfl⟩ : ∃ j, q = sh.length + j := ⟨q - sh.length, by omega⟩
    rw [List.getElem?_append_right (by omega), Nat.add_sub_cancel_left] at hK
    have hj : j < 5 := (List.getElem?_eq_some_iff.mp hK).1
    have hI : ∀ j, j < 4 → H1[g.2.2.1 + (sh.length + (j + 1))]? = some (arrV (g.2.1 it) n.toNatClampNeg (fun _ => defaultValue fty)) := fun j hj => by
      rw [← arrV_new, show g.2.2.1 + (sh.length + (j + 1)) = g.2.2.1 + sh.length + 1 + j by omega]
      exact z3 j hj
    obtain rfl | rfl | rfl | rfl | rfl : j = 0 ∨ j = 1 ∨ j = 2 ∨ j = 3 ∨ j = 4 := by omega
    · cases hK
      show H1[g.2.2.1 + (sh.length + 0)]? = some (vp_cell (g.2.1 t) (4, _))
      rw [hac1, Nat.add_zero, z2]
      refine congrArg some (zm_OV ?_ ?_ ?_ ?_)
      all_goals (simp [zw_ur, va_rf, Nat.add_assoc])
    · cases hK
      rw [zw_cell_congr (rr := zw_ur (zw_ur (zw_ur (zw_ur rr sh.length 0 (sh.length + 1)) sh.length 1 (sh.length + 2)) sh.length 2 (sh.length + 3)) sh.length 3 (sh.length + 4)) (c := zw_z c (sh.length + 1)) (.inl (it, n.toNatClampNeg)) (by funext i; simp [zw_z]) (by funext i; simp [zw_z]) rfl]
      show H1[g.2.2.1 + (sh.length + 1)]? = some (vp_cell (g.2.1 it) (n.toNatClampNeg, zw_ac _ _ (zw_z c (sh.length + 1)) (sh.length + 1) it))
      rw [hac2]
      exact hI 0 (by omega)
    · cases hK
      rw [zw_cell_congr (rr := zw_ur (zw_ur (zw_ur (zw_ur rr sh.length 0 (sh.length + 1)) sh.length 1 (sh.length + 2)) sh.length 2 (sh.length + 3)) sh.length 3 (sh.length + 4)) (c := zw_z c (sh.length + 2)) (.inl (it, n.toNatClampNeg)) (by funext i; simp [zw_z]) (by funext i; simp [zw_z]) rfl]
      show H1[g.2.2.1 + (sh.length + 2)]? = some (vp_cell (g.2.1 it) (n.toNatClampNeg, zw_ac _ _ (zw_z c (sh.length + 2)) (sh.length + 2) it))
      rw [hac2]
      exact hI 1 (by omega)
    · cases hK
      rw [zw_cell_congr (rr := zw_ur (zw_ur (zw_ur (zw_ur rr sh.length 0 (sh.length + 1)) sh.length 1 (sh.length + 2)) sh.length 2 (sh.length + 3)) sh.length 3 (sh.length + 4)) (c := zw_z c (sh.length + 3)) (.inl (it, n.toNatClampNeg)) (by funext i; simp [zw_z]) (by funext i; simp [zw_z]) rfl]
      show H1[g.2.2.1 + (sh.length + 3)]? = some (vp_cell (g.2.1 it) (n.toNatClampNeg, zw_ac _ _ (zw_z c (sh.length + 3)) (sh.length + 3) it))
      rw [hac2]
      exact hI 2 (by omega)
    · cases hK
      rw [zw_cell_congr (rr := zw_ur (zw_ur (zw_ur (zw_ur rr sh.length 0 (sh.length + 1)) sh.length 1 (sh.length + 2)) sh.length 2 (sh.length + 3)) sh.length 3 (sh.length + 4)) (c := zw_z c (sh.length + 4)) (.inl (it, n.toNatClampNeg)) (by funext i; simp [zw_z]) (by funext i; simp [zw_z]) rfl]
      show H1[g.2.2.1 + (sh.length + 4)]? = some (vp_cell (g.2.1 it) (n.toNatClampNeg, zw_ac _ _ (zw_z c (sh.length + 4)) (sh.length + 4) it))
      rw [hac2]
      exact hI 3 (by omega)
end ZMM
