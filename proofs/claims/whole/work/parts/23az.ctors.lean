/-! constructors (by program: wip/whole/gen/ctors.py) -/
section ZCT
variable {p : Program} {l : Launch} {e : Env} {R : Room} {s : State} {m : MethodId} {args : Array Value} {below : List Frame} {meth : Method} {cd : Code} {cells slots : Nat} {Q : State → Prop} {g : zw_G} {cc : ByteArray} {own : String} {ret : Option FieldType} {nL : Nat} {sh : zw_Sh} {rr : zw_RR} {pc : Nat} {L : zw_Lc} {c : zw_Ct} {st : List Value}
theorem r_newo2 (X : zw_FX p R s m args meth cd cells slots g cc own ret nL) {sh2 : zw_Sh} {k k1 k2 : Nat} {ci N idx : Nat} {C : String} {T : u_T} {ty : Nat → FieldType} (hci : zw_CI ci C T N ty) (hcl : Cond.classLink own idx C ∈ ktG) (hinst : Cond.instantiable C N ∈ ktG) (hini : Cond.initialized C ∈ ktG) (hsz : s.heap.size + cells = g.2.2.1 + sh.length) (hk : sh.length = k) (hsh : sh ++ [.inr ci] = sh2) (hdef : ∀ j, j < N → defaultValue (ty j) = vp_V (zw_flds g.2.2.1 rr (zw_z c k) k ci) j) (hcells : k1 ≤ R.cells) (hslots : k2 ≤ R.slots) (d : decode cc pc = .ok (.new idx, 3)) (e1 : cells + 1 = k1) (e2 : slots + N = k2) (kk : zw_FX p R s m args meth cd k1 k2 g cc own ret nL → ZW p l e R s m args below meth cd k1 k2 Q g nL sh2 rr (pc + 3) L (zw_z c k) (.ref k :: st)) : ZW p l e R s m args below meth cd cells slots Q g nL sh rr pc L c st := by
  subst hk; subst hsh; subst e1; subst e2
  exact r_newo X hci hcl hinst hini hsz hdef hcells hslots d kk
theorem r_newa2 (X : zw_FX p R s m args meth cd cells slots g cc own ret nL) {sh2 : zw_Sh} {k k1 k2 : Nat} {t N : Nat} {atype : ArrayType} {fty : FieldType} {n : Int32} (hty : newarray.typeOf atype = fty) (hra : ∀ cA, va_RA s cA fty → s.vm.findClass ("[" ++ fty.toString) = some cA) (htt : (zw_tys g.2.1)[t]? = some (g.2.1 t, fty)) (harr : Cond.arrayClass fty ∈ ktG) (hac : ∀ (rr : zw_RR) (c : zw_Ct) (k : Nat) (b : Nat) (N : Nat) (cA : ClassId), vp_cell cA (N, zw_ac b rr (zw_z c k) k t) = arrV cA N (fun _ => defaultValue fty)) (hn : ¬ n < 0) (hN : n.toNatClampNeg = N) (hby : N * componentBytes fty ≤ 536870912) (hsz : s.heap.size + cells = g.2.2.1 + sh.length) (hk : sh.length = k) (hsh : sh ++ [.inl (t, N)] = sh2)  (hcells : k1 ≤ R.cells) (hslots : k2 ≤ R.slots) (d : decode cc pc = .ok (.newarray atype, 2)) (e1 : cells + 1 = k1) (e2 : slots + N = k2) (kk : zw_FX p R s m args meth cd k1 k2 g cc own ret nL → ZW p l e R s m args below meth cd k1 k2 Q g nL sh2 rr (pc + 2) L (zw_z c k) (.ref k :: st)) : ZW p l e R s m args below meth cd cells slots Q g nL sh rr pc L c (.int n :: st) := by
  subst hk; subst hsh; subst e1; subst e2
  exact r_newa X hty hra htt (by rw [hty]; exact harr) (fun cA => by rw [hty]; exact hac _ _ _ _ _ _) hn hN (by rw [hty]; exact hby) hsz hcells hslots d kk
theorem r_newq2 (X : zw_FX p R s m args meth cd cells slots g cc own ret nL) {sh2 : zw_Sh} {k k1 k2 : Nat} {N idx : Nat} {n : Int32} (hcl : Cond.classLink own idx R_Held ∈ ktG) (hov : Cond.arrayOver (.object R_Held) ∈ nwt) (hrr : ∀ i, rr k i = none) (hn : ¬ n < 0) (hN : n.toNatClampNeg = N) (hby : N * 4 ≤ 536870912) (hsz : s.heap.size + cells = g.2.2.1 + sh.length) (hk : sh.length = k) (hsh : sh ++ [.inl (6, N)] = sh2)  (hcells : k1 ≤ R.cells) (hslots : k2 ≤ R.slots) (d : decode cc pc = .ok (.anewarray idx, 3)) (e1 : cells + 1 = k1) (e2 : slots + N = k2) (kk : zw_FX p R s m args meth cd k1 k2 g cc own ret nL → ZW p l e R s m args below meth cd k1 k2 Q g nL sh2 rr (pc + 3) L (zw_z c k) (.ref k :: st)) : ZW p l e R s m args below meth cd cells slots Q g nL sh rr pc L c (.int n :: st) := by
  subst hk; subst hsh; subst e1; subst e2
  exact r_newq X hcl hov hrr hn hN hby hsz hcells hslots d kk
end ZCT
theorem zw_hac0 (rr : zw_RR) (c : zw_Ct) (k : Nat) (b : Nat) (N : Nat) (cA : ClassId) : vp_cell cA (N, zw_ac b rr (zw_z c k) k 0) = arrV cA N (fun _ => defaultValue .int) := by
  show vp_cell cA (N, Sum.inl ((zw_z c k).1 k)) = _
  rw [zw_z1]
  rfl
theorem zw_hac1 (rr : zw_RR) (c : zw_Ct) (k : Nat) (b : Nat) (N : Nat) (cA : ClassId) : vp_cell cA (N, zw_ac b rr (zw_z c k) k 1) = arrV cA N (fun _ => defaultValue .long) := by
  show vp_cell cA (N, Sum.inr <| Sum.inl ((zw_z c k).2 k)) = _
  rw [zw_z2]
  rfl
theorem zw_hac2 (rr : zw_RR) (c : zw_Ct) (k : Nat) (b : Nat) (N : Nat) (cA : ClassId) : vp_cell cA (N, zw_ac b rr (zw_z c k) k 2) = arrV cA N (fun _ => defaultValue .byte) := by
  show vp_cell cA (N, Sum.inl ((zw_z c k).1 k)) = _
  rw [zw_z1]
  rfl
theorem zw_hac3 (rr : zw_RR) (c : zw_Ct) (k : Nat) (b : Nat) (N : Nat) (cA : ClassId) : vp_cell cA (N, zw_ac b rr (zw_z c k) k 3) = arrV cA N (fun _ => defaultValue .boolean) := by
  show vp_cell cA (N, Sum.inl ((zw_z c k).1 k)) = _
  rw [zw_z1]
  rfl
theorem zw_rll : RLL.all (fun l => Nat.ble l.length 60) = true := by decide +kernel
theorem zw_rli {k i r : Nat} (h : RLF k i = some r) : i < 60 := by
  unfold RLF at h
  cases h1 : RLL[k]? with
  | none => rw [h1] at h; cases h
  | some l =>
    rw [h1] at h
    dsimp only at h
    cases h2 : l[i]? with
    | none => rw [h2] at h; cases h
    | some v =>
      have h3 := (List.getElem?_eq_some_iff.mp h2).1
      have h4 := List.all_eq_true.mp zw_rll l (List.mem_of_getElem? h1)
      exact Nat.lt_of_lt_of_le h3 (Nat.le_of_ble_eq_true h4)
def zw_okc (lo hi : Nat) (sh : zw_Sh) (rr : zw_RR) : Bool := (List.range hi).all fun k => Nat.blt k lo || (decide (sh[k]? = SH[k]?) && (List.range 60).all (fun i => match RLF k i with | none => true | some r => decide (rr k i = some r)))
theorem zw_OkOf {lo hi : Nat} {sh : zw_Sh} {rr : zw_RR} (h : zw_okc lo hi sh rr = true) : zw_Ok lo hi sh rr := by
  intro k h1 h2
  have h3 := List.all_eq_true.mp h k (List.mem_range.mpr h2)
  simp only [Bool.or_eq_true, Bool.and_eq_true, decide_eq_true_eq] at h3
  rcases h3 with h3 | h3
  · exact absurd (Nat.le_of_ble_eq_true h3) (by omega)
  · refine ⟨h3.1, fun i r hi => ?_⟩
    have h4 := List.all_eq_true.mp h3.2 i (List.mem_range.mpr (zw_rli hi))
    rw [hi] at h4
    exact of_decide_eq_true h4
def zw_hoc (o : Nat) (sh : zw_Sh) (rr : zw_RR) : Bool := (List.range 8).all (fun d => decide (sh[o + d]? = HSH[d]?)) && (List.range 10).all (fun i => match HRL[i]? with | some (some r) => decide (rr o i = some (o + r)) | _ => true)
theorem zw_HOck {o : Nat} {sh : zw_Sh} {rr : zw_RR} (h : zw_hoc o sh rr = true) : zw_HO o sh rr := by
  unfold zw_hoc at h
  rw [Bool.and_eq_true] at h
  refine ⟨fun d K e => ?_, fun i r e => ?_⟩
  · have hd : d < 8 := (List.getElem?_eq_some_iff.mp e).1
    have := List.all_eq_true.mp h.1 d (List.mem_range.mpr hd)
    rw [decide_eq_true_eq] at this
    rw [this]; exact e
  · have hi : i < 10 := (List.getElem?_eq_some_iff.mp e).1
    have := List.all_eq_true.mp h.2 i (List.mem_range.mpr hi)
    rw [e] at this
    exact of_decide_eq_true this
theorem zw_lkf {own : String} {idx : Nat} {C : String} {T : u_T} {k : Nat} (h : zw_lk own idx C T k) (h2 : Cond.fieldLink own idx C (T k).2.1 (T k).2.2.1 ∈ ktG) : (T k).1 = C ∧ Cond.fieldLink own idx C (T k).2.1 (T k).2.2.1 ∈ ktG := ⟨h.1, h2⟩
theorem zw_obi : Cond.instanceMethod Lib.objectInit ∈ ktG := kt_in 116 (by decide +kernel) rfl
theorem zw_obc : Cond.code Lib.objectInit ⟨#[0xb1]⟩ 1 none ∈ ktG := kt_in 117 (by decide +kernel) rfl
theorem kw_86 : (.initialized R_Sayings : Cond) ∈ ktG := kt_in 86 (by decide +kernel) rfl
theorem kw_87 : (.initialized R_Held : Cond) ∈ ktG := kt_in 87 (by decide +kernel) rfl
theorem kw_89 : (.initialized R_Tally : Cond) ∈ ktG := kt_in 89 (by decide +kernel) rfl
theorem kw_90 : (.initialized R_Judge : Cond) ∈ ktG := kt_in 90 (by decide +kernel) rfl
theorem kw_91 : (.initialized R_Text : Cond) ∈ ktG := kt_in 91 (by decide +kernel) rfl
theorem kw_92 : (.initialized R_Pays : Cond) ∈ ktG := kt_in 92 (by decide +kernel) rfl
theorem kw_93 : (.initialized R_Row : Cond) ∈ ktG := kt_in 93 (by decide +kernel) rfl
theorem kw_94 : (.initialized R_Lures : Cond) ∈ ktG := kt_in 94 (by decide +kernel) rfl
theorem kw_95 : (.initialized R_Contest : Cond) ∈ ktG := kt_in 95 (by decide +kernel) rfl
theorem kw_96 : (.initialized R_Chooser : Cond) ∈ ktG := kt_in 96 (by decide +kernel) rfl
theorem kw_97 : (.initialized R_Ledger : Cond) ∈ ktG := kt_in 97 (by decide +kernel) rfl
theorem kw_115 : (.methodLink R_P 3 ⟨"java/lang/Object", "<init>", "()V"⟩ : Cond) ∈ ktG := kt_in 115 (by decide +kernel) rfl
theorem kw_118 : (.classLink R_P 9 R_Sayings : Cond) ∈ ktG := kt_in 118 (by decide +kernel) rfl
theorem kw_119 : (.instantiable R_Sayings 4 : Cond) ∈ ktG := kt_in 119 (by decide +kernel) rfl
theorem kw_120 : (.methodLink R_P 11 ⟨R_Sayings, "<init>", "()V"⟩ : Cond) ∈ ktG := kt_in 120 (by decide +kernel) rfl
theorem kw_123 : (.methodLink R_Sayings 3 ⟨"java/lang/Object", "<init>", "()V"⟩ : Cond) ∈ ktG := kt_in 123 (by decide +kernel) rfl
theorem kw_124 : (.methodLink R_Sayings 15 ⟨R_Sayings, "lay", "(II)V"⟩ : Cond) ∈ ktG := kt_in 124 (by decide +kernel) rfl
theorem kw_166 : (.arrayClass .int : Cond) ∈ ktG := kt_in 166 (by decide +kernel) rfl
theorem kw_167 : (.classLink R_P 12 R_Held : Cond) ∈ ktG := kt_in 167 (by decide +kernel) rfl
theorem kw_168 : (.instantiable R_Held 10 : Cond) ∈ ktG := kt_in 168 (by decide +kernel) rfl
theorem kw_169 : (.methodLink R_P 14 ⟨R_Held, "<init>", "()V"⟩ : Cond) ∈ ktG := kt_in 169 (by decide +kernel) rfl
theorem kw_172 : (.methodLink R_Held 3 ⟨"java/lang/Object", "<init>", "()V"⟩ : Cond) ∈ ktG := kt_in 172 (by decide +kernel) rfl
theorem kw_173 : (.methodLink R_Held 33 ⟨R_Held, "readSheet", "(IIII)I"⟩ : Cond) ∈ ktG := kt_in 173 (by decide +kernel) rfl
theorem kw_232 : (.classLink R_P 15 R_Tally : Cond) ∈ ktG := kt_in 232 (by decide +kernel) rfl
theorem kw_233 : (.instantiable R_Tally 2 : Cond) ∈ ktG := kt_in 233 (by decide +kernel) rfl
theorem kw_234 : (.methodLink R_P 17 ⟨R_Tally, "<init>", "(LPaidForThinking$Sayings;)V"⟩ : Cond) ∈ ktG := kt_in 234 (by decide +kernel) rfl
theorem kw_237 : (.methodLink R_Tally 3 ⟨"java/lang/Object", "<init>", "()V"⟩ : Cond) ∈ ktG := kt_in 237 (by decide +kernel) rfl
theorem kw_249 : (.arrayClass .long : Cond) ∈ ktG := kt_in 249 (by decide +kernel) rfl
theorem kw_250 : (.classLink R_P 20 R_Judge : Cond) ∈ ktG := kt_in 250 (by decide +kernel) rfl
theorem kw_251 : (.instantiable R_Judge 2 : Cond) ∈ ktG := kt_in 251 (by decide +kernel) rfl
theorem kw_252 : (.methodLink R_P 22 ⟨R_Judge, "<init>", "(LPaidForThinking$Sayings;LPaidForThinking$Tally;)V"⟩ : Cond) ∈ ktG := kt_in 252 (by decide +kernel) rfl
theorem kw_255 : (.methodLink R_Judge 3 ⟨"java/lang/Object", "<init>", "()V"⟩ : Cond) ∈ ktG := kt_in 255 (by decide +kernel) rfl
theorem kw_263 : (.arrayOver (.object R_Held) : Cond) ∈ nwt := nw_in 263 (by decide +kernel) rfl
theorem kw_264 : (.classLink R_P 41 R_Text : Cond) ∈ ktG := kt_in 264 (by decide +kernel) rfl
theorem kw_265 : (.instantiable R_Text 10 : Cond) ∈ ktG := kt_in 265 (by decide +kernel) rfl
theorem kw_266 : (.methodLinkNest R_P 43 ⟨R_Text, "<init>", "()V"⟩ "PaidForThinking" : Cond) ∈ nwt := nw_in 266 (by decide +kernel) rfl
theorem kw_269 : (.methodLink R_Text 3 ⟨"java/lang/Object", "<init>", "()V"⟩ : Cond) ∈ ktG := kt_in 269 (by decide +kernel) rfl
theorem kw_304 : (.arrayClass .boolean : Cond) ∈ ktG := kt_in 304 (by decide +kernel) rfl
theorem kw_305 : (.classLink R_P 48 R_Pays : Cond) ∈ ktG := kt_in 305 (by decide +kernel) rfl
theorem kw_306 : (.instantiable R_Pays 9 : Cond) ∈ ktG := kt_in 306 (by decide +kernel) rfl
theorem kw_307 : (.methodLink R_P 50 ⟨R_Pays, "<init>", "(LPaidForThinking$Sayings;LPaidForThinking$Held;)V"⟩ : Cond) ∈ ktG := kt_in 307 (by decide +kernel) rfl
theorem kw_310 : (.methodLink R_Pays 3 ⟨"java/lang/Object", "<init>", "()V"⟩ : Cond) ∈ ktG := kt_in 310 (by decide +kernel) rfl
theorem kw_311 : (.classLink R_Pays 17 "[[I" : Cond) ∈ ktG := kt_in 311 (by decide +kernel) rfl
theorem kw_312 : (.arrayOver (.array .int) : Cond) ∈ nwt := nw_in 312 (by decide +kernel) rfl
theorem kw_341 : (.classLink R_P 57 R_Row : Cond) ∈ ktG := kt_in 341 (by decide +kernel) rfl
theorem kw_342 : (.instantiable R_Row 2 : Cond) ∈ ktG := kt_in 342 (by decide +kernel) rfl
theorem kw_343 : (.methodLinkNest R_P 59 ⟨R_Row, "<init>", "()V"⟩ "PaidForThinking" : Cond) ∈ nwt := nw_in 343 (by decide +kernel) rfl
theorem kw_346 : (.methodLink R_Row 1 ⟨"java/lang/Object", "<init>", "()V"⟩ : Cond) ∈ ktG := kt_in 346 (by decide +kernel) rfl
theorem kw_357 : (.classLink R_P 68 R_Lures : Cond) ∈ ktG := kt_in 357 (by decide +kernel) rfl
theorem kw_358 : (.instantiable R_Lures 7 : Cond) ∈ ktG := kt_in 358 (by decide +kernel) rfl
theorem kw_359 : (.methodLink R_P 70 ⟨R_Lures, "<init>", "(LPaidForThinking$Sayings;LPaidForThinking$Tally;LPaidForThinking$Judge;)V"⟩ : Cond) ∈ ktG := kt_in 359 (by decide +kernel) rfl
theorem kw_362 : (.methodLink R_Lures 3 ⟨"java/lang/Object", "<init>", "()V"⟩ : Cond) ∈ ktG := kt_in 362 (by decide +kernel) rfl
theorem kw_385 : (.classLink R_P 77 R_Contest : Cond) ∈ ktG := kt_in 385 (by decide +kernel) rfl
theorem kw_386 : (.instantiable R_Contest 4 : Cond) ∈ ktG := kt_in 386 (by decide +kernel) rfl
theorem kw_387 : (.methodLink R_P 79 ⟨R_Contest, "<init>", "(LPaidForThinking$Sayings;LPaidForThinking$Held;)V"⟩ : Cond) ∈ ktG := kt_in 387 (by decide +kernel) rfl
theorem kw_390 : (.methodLink R_Contest 3 ⟨"java/lang/Object", "<init>", "()V"⟩ : Cond) ∈ ktG := kt_in 390 (by decide +kernel) rfl
theorem kw_404 : (.classLink R_P 84 R_Chooser : Cond) ∈ ktG := kt_in 404 (by decide +kernel) rfl
theorem kw_405 : (.instantiable R_Chooser 6 : Cond) ∈ ktG := kt_in 405 (by decide +kernel) rfl
theorem kw_406 : (.methodLink R_P 86 ⟨R_Chooser, "<init>", "(LPaidForThinking$Sayings;LPaidForThinking$Tally;LPaidForThinking$Judge;)V"⟩ : Cond) ∈ ktG := kt_in 406 (by decide +kernel) rfl
theorem kw_409 : (.methodLink R_Chooser 3 ⟨"java/lang/Object", "<init>", "()V"⟩ : Cond) ∈ ktG := kt_in 409 (by decide +kernel) rfl
theorem kw_429 : (.classLink R_P 91 R_Ledger : Cond) ∈ ktG := kt_in 429 (by decide +kernel) rfl
theorem kw_430 : (.instantiable R_Ledger 5 : Cond) ∈ ktG := kt_in 430 (by decide +kernel) rfl
theorem kw_431 : (.methodLink R_P 93 ⟨R_Ledger, "<init>", "(LPaidForThinking$Sayings;LPaidForThinking$Held;LPaidForThinking$Tally;LPaidForThinking$Judge;)V"⟩ : Cond) ∈ ktG := kt_in 431 (by decide +kernel) rfl
theorem kw_434 : (.methodLink R_Ledger 3 ⟨"java/lang/Object", "<init>", "()V"⟩ : Cond) ∈ ktG := kt_in 434 (by decide +kernel) rfl
theorem kw_700 : (.arrayClass .byte : Cond) ∈ ktG := kt_in 700 (by decide +kernel) rfl
theorem kw_1449 : (.methodLink R_M 3 ⟨"java/lang/Object", "<init>", "()V"⟩ : Cond) ∈ ktG := kt_in 1449 (by decide +kernel) rfl
theorem kw_1450 : (.classLink R_M 31 "[[B" : Cond) ∈ ktG := kt_in 1450 (by decide +kernel) rfl
theorem kw_1451 : (.arrayOver (.array .byte) : Cond) ∈ nwt := nw_in 1451 (by decide +kernel) rfl
theorem lkf_P_25 : (F_P 0).1 = R_P ∧ Cond.fieldLink R_P 25 R_P (F_P 0).2.1 (F_P 0).2.2.1 ∈ ktG := ⟨rfl, kt_in 451 (by decide +kernel) rfl⟩
theorem lkf_P_29 : (F_P 1).1 = R_P ∧ Cond.fieldLink R_P 29 R_P (F_P 1).2.1 (F_P 1).2.2.1 ∈ ktG := ⟨rfl, kt_in 452 (by decide +kernel) rfl⟩
theorem lkf_P_33 : (F_P 2).1 = R_P ∧ Cond.fieldLink R_P 33 R_P (F_P 2).2.1 (F_P 2).2.2.1 ∈ ktG := ⟨rfl, kt_in 453 (by decide +kernel) rfl⟩
theorem lkf_P_37 : (F_P 3).1 = R_P ∧ Cond.fieldLink R_P 37 R_P (F_P 3).2.1 (F_P 3).2.2.1 ∈ ktG := ⟨rfl, kt_in 454 (by decide +kernel) rfl⟩
theorem lkf_P_44 : (F_P 4).1 = R_P ∧ Cond.fieldLink R_P 44 R_P (F_P 4).2.1 (F_P 4).2.2.1 ∈ ktG := ⟨rfl, kt_in 455 (by decide +kernel) rfl⟩
theorem lkf_P_53 : (F_P 5).1 = R_P ∧ Cond.fieldLink R_P 53 R_P (F_P 5).2.1 (F_P 5).2.2.1 ∈ ktG := ⟨rfl, kt_in 456 (by decide +kernel) rfl⟩
theorem lkf_P_60 : (F_P 6).1 = R_P ∧ Cond.fieldLink R_P 60 R_P (F_P 6).2.1 (F_P 6).2.2.1 ∈ ktG := ⟨rfl, kt_in 457 (by decide +kernel) rfl⟩
theorem lkf_P_64 : (F_P 7).1 = R_P ∧ Cond.fieldLink R_P 64 R_P (F_P 7).2.1 (F_P 7).2.2.1 ∈ ktG := ⟨rfl, kt_in 458 (by decide +kernel) rfl⟩
theorem lkf_P_73 : (F_P 8).1 = R_P ∧ Cond.fieldLink R_P 73 R_P (F_P 8).2.1 (F_P 8).2.2.1 ∈ ktG := ⟨rfl, kt_in 459 (by decide +kernel) rfl⟩
theorem lkf_P_80 : (F_P 9).1 = R_P ∧ Cond.fieldLink R_P 80 R_P (F_P 9).2.1 (F_P 9).2.2.1 ∈ ktG := ⟨rfl, kt_in 460 (by decide +kernel) rfl⟩
theorem lkf_P_87 : (F_P 10).1 = R_P ∧ Cond.fieldLink R_P 87 R_P (F_P 10).2.1 (F_P 10).2.2.1 ∈ ktG := ⟨rfl, kt_in 461 (by decide +kernel) rfl⟩
theorem lkf_P_96 : (F_P 11).1 = R_P ∧ Cond.fieldLink R_P 96 R_P (F_P 11).2.1 (F_P 11).2.2.1 ∈ ktG := ⟨rfl, kt_in 462 (by decide +kernel) rfl⟩
theorem lkf_Chooser_9 : (F_Chooser 0).1 = R_Chooser ∧ Cond.fieldLink R_Chooser 9 R_Chooser (F_Chooser 0).2.1 (F_Chooser 0).2.2.1 ∈ ktG := ⟨rfl, kt_in 410 (by decide +kernel) rfl⟩
theorem lkf_Chooser_15 : (F_Chooser 1).1 = R_Chooser ∧ Cond.fieldLink R_Chooser 15 R_Chooser (F_Chooser 1).2.1 (F_Chooser 1).2.2.1 ∈ ktG := ⟨rfl, kt_in 411 (by decide +kernel) rfl⟩
theorem lkf_Chooser_19 : (F_Chooser 2).1 = R_Chooser ∧ Cond.fieldLink R_Chooser 19 R_Chooser (F_Chooser 2).2.1 (F_Chooser 2).2.2.1 ∈ ktG := ⟨rfl, kt_in 412 (by decide +kernel) rfl⟩
theorem lkf_Contest_9 : (F_Contest 2).1 = R_Contest ∧ Cond.fieldLink R_Contest 9 R_Contest (F_Contest 2).2.1 (F_Contest 2).2.2.1 ∈ ktG := ⟨rfl, kt_in 393 (by decide +kernel) rfl⟩
theorem lkf_Contest_15 : (F_Contest 3).1 = R_Contest ∧ Cond.fieldLink R_Contest 15 R_Contest (F_Contest 3).2.1 (F_Contest 3).2.2.1 ∈ ktG := ⟨rfl, kt_in 394 (by decide +kernel) rfl⟩
theorem lkf_Contest_18 : (F_Contest 0).1 = R_Contest ∧ Cond.fieldLink R_Contest 18 R_Contest (F_Contest 0).2.1 (F_Contest 0).2.2.1 ∈ ktG := ⟨rfl, kt_in 391 (by decide +kernel) rfl⟩
theorem lkf_Contest_22 : (F_Contest 1).1 = R_Contest ∧ Cond.fieldLink R_Contest 22 R_Contest (F_Contest 1).2.1 (F_Contest 1).2.2.1 ∈ ktG := ⟨rfl, kt_in 392 (by decide +kernel) rfl⟩
theorem lkf_Held_9 : (F_Held 0).1 = R_Held ∧ Cond.fieldLink R_Held 9 R_Held (F_Held 0).2.1 (F_Held 0).2.2.1 ∈ ktG := ⟨rfl, kt_in 186 (by decide +kernel) rfl⟩
theorem lkf_Held_15 : (F_Held 1).1 = R_Held ∧ Cond.fieldLink R_Held 15 R_Held (F_Held 1).2.1 (F_Held 1).2.2.1 ∈ ktG := ⟨rfl, kt_in 189 (by decide +kernel) rfl⟩
theorem lkf_Held_18 : (F_Held 3).1 = R_Held ∧ Cond.fieldLink R_Held 18 R_Held (F_Held 3).2.1 (F_Held 3).2.2.1 ∈ ktG := ⟨rfl, kt_in 196 (by decide +kernel) rfl⟩
theorem lkf_Held_21 : (F_Held 4).1 = R_Held ∧ Cond.fieldLink R_Held 21 R_Held (F_Held 4).2.1 (F_Held 4).2.2.1 ∈ ktG := ⟨rfl, kt_in 198 (by decide +kernel) rfl⟩
theorem lkf_Held_24 : (F_Held 5).1 = R_Held ∧ Cond.fieldLink R_Held 24 R_Held (F_Held 5).2.1 (F_Held 5).2.2.1 ∈ ktG := ⟨rfl, kt_in 200 (by decide +kernel) rfl⟩
theorem lkf_Held_27 : (F_Held 7).1 = R_Held ∧ Cond.fieldLink R_Held 27 R_Held (F_Held 7).2.1 (F_Held 7).2.2.1 ∈ ktG := ⟨rfl, kt_in 205 (by decide +kernel) rfl⟩
theorem lkf_Held_30 : (F_Held 8).1 = R_Held ∧ Cond.fieldLink R_Held 30 R_Held (F_Held 8).2.1 (F_Held 8).2.2.1 ∈ ktG := ⟨rfl, kt_in 207 (by decide +kernel) rfl⟩
theorem lkf_Judge_9 : (F_Judge 0).1 = R_Judge ∧ Cond.fieldLink R_Judge 9 R_Judge (F_Judge 0).2.1 (F_Judge 0).2.2.1 ∈ ktG := ⟨rfl, kt_in 256 (by decide +kernel) rfl⟩
theorem lkf_Judge_15 : (F_Judge 1).1 = R_Judge ∧ Cond.fieldLink R_Judge 15 R_Judge (F_Judge 1).2.1 (F_Judge 1).2.2.1 ∈ ktG := ⟨rfl, kt_in 257 (by decide +kernel) rfl⟩
theorem lkf_Ledger_9 : (F_Ledger 4).1 = R_Ledger ∧ Cond.fieldLink R_Ledger 9 R_Ledger (F_Ledger 4).2.1 (F_Ledger 4).2.2.1 ∈ ktG := ⟨rfl, kt_in 439 (by decide +kernel) rfl⟩
theorem lkf_Ledger_15 : (F_Ledger 0).1 = R_Ledger ∧ Cond.fieldLink R_Ledger 15 R_Ledger (F_Ledger 0).2.1 (F_Ledger 0).2.2.1 ∈ ktG := ⟨rfl, kt_in 435 (by decide +kernel) rfl⟩
theorem lkf_Ledger_19 : (F_Ledger 1).1 = R_Ledger ∧ Cond.fieldLink R_Ledger 19 R_Ledger (F_Ledger 1).2.1 (F_Ledger 1).2.2.1 ∈ ktG := ⟨rfl, kt_in 436 (by decide +kernel) rfl⟩
theorem lkf_Ledger_23 : (F_Ledger 2).1 = R_Ledger ∧ Cond.fieldLink R_Ledger 23 R_Ledger (F_Ledger 2).2.1 (F_Ledger 2).2.2.1 ∈ ktG := ⟨rfl, kt_in 437 (by decide +kernel) rfl⟩
theorem lkf_Ledger_27 : (F_Ledger 3).1 = R_Ledger ∧ Cond.fieldLink R_Ledger 27 R_Ledger (F_Ledger 3).2.1 (F_Ledger 3).2.2.1 ∈ ktG := ⟨rfl, kt_in 438 (by decide +kernel) rfl⟩
theorem lkf_Lures_9 : (F_Lures 3).1 = R_Lures ∧ Cond.fieldLink R_Lures 9 R_Lures (F_Lures 3).2.1 (F_Lures 3).2.2.1 ∈ ktG := ⟨rfl, kt_in 366 (by decide +kernel) rfl⟩
theorem lkf_Lures_15 : (F_Lures 0).1 = R_Lures ∧ Cond.fieldLink R_Lures 15 R_Lures (F_Lures 0).2.1 (F_Lures 0).2.2.1 ∈ ktG := ⟨rfl, kt_in 363 (by decide +kernel) rfl⟩
theorem lkf_Lures_19 : (F_Lures 1).1 = R_Lures ∧ Cond.fieldLink R_Lures 19 R_Lures (F_Lures 1).2.1 (F_Lures 1).2.2.1 ∈ ktG := ⟨rfl, kt_in 364 (by decide +kernel) rfl⟩
theorem lkf_Lures_23 : (F_Lures 2).1 = R_Lures ∧ Cond.fieldLink R_Lures 23 R_Lures (F_Lures 2).2.1 (F_Lures 2).2.2.1 ∈ ktG := ⟨rfl, kt_in 365 (by decide +kernel) rfl⟩
theorem lkf_Pays_9 : (F_Pays 2).1 = R_Pays ∧ Cond.fieldLink R_Pays 9 R_Pays (F_Pays 2).2.1 (F_Pays 2).2.2.1 ∈ ktG := ⟨rfl, kt_in 315 (by decide +kernel) rfl⟩
theorem lkf_Pays_19 : (F_Pays 3).1 = R_Pays ∧ Cond.fieldLink R_Pays 19 R_Pays (F_Pays 3).2.1 (F_Pays 3).2.2.1 ∈ ktG := ⟨rfl, kt_in 316 (by decide +kernel) rfl⟩
theorem lkf_Pays_22 : (F_Pays 4).1 = R_Pays ∧ Cond.fieldLink R_Pays 22 R_Pays (F_Pays 4).2.1 (F_Pays 4).2.2.1 ∈ ktG := ⟨rfl, kt_in 317 (by decide +kernel) rfl⟩
theorem lkf_Pays_25 : (F_Pays 5).1 = R_Pays ∧ Cond.fieldLink R_Pays 25 R_Pays (F_Pays 5).2.1 (F_Pays 5).2.2.1 ∈ ktG := ⟨rfl, kt_in 318 (by decide +kernel) rfl⟩
theorem lkf_Pays_28 : (F_Pays 6).1 = R_Pays ∧ Cond.fieldLink R_Pays 28 R_Pays (F_Pays 6).2.1 (F_Pays 6).2.2.1 ∈ ktG := ⟨rfl, kt_in 319 (by decide +kernel) rfl⟩
theorem lkf_Pays_32 : (F_Pays 7).1 = R_Pays ∧ Cond.fieldLink R_Pays 32 R_Pays (F_Pays 7).2.1 (F_Pays 7).2.2.1 ∈ ktG := ⟨rfl, kt_in 320 (by decide +kernel) rfl⟩
theorem lkf_Pays_35 : (F_Pays 8).1 = R_Pays ∧ Cond.fieldLink R_Pays 35 R_Pays (F_Pays 8).2.1 (F_Pays 8).2.2.1 ∈ ktG := ⟨rfl, kt_in 321 (by decide +kernel) rfl⟩
theorem lkf_Pays_38 : (F_Pays 0).1 = R_Pays ∧ Cond.fieldLink R_Pays 38 R_Pays (F_Pays 0).2.1 (F_Pays 0).2.2.1 ∈ ktG := ⟨rfl, kt_in 313 (by decide +kernel) rfl⟩
theorem lkf_Pays_42 : (F_Pays 1).1 = R_Pays ∧ Cond.fieldLink R_Pays 42 R_Pays (F_Pays 1).2.1 (F_Pays 1).2.2.1 ∈ ktG := ⟨rfl, kt_in 314 (by decide +kernel) rfl⟩
theorem lkf_Row_9 : (F_Row 0).1 = R_Row ∧ Cond.fieldLink R_Row 9 R_Row (F_Row 0).2.1 (F_Row 0).2.2.1 ∈ ktG := ⟨rfl, kt_in 347 (by decide +kernel) rfl⟩
theorem lkf_Sayings_9 : (F_Sayings 3).1 = R_Sayings ∧ Cond.fieldLink R_Sayings 9 R_Sayings (F_Sayings 3).2.1 (F_Sayings 3).2.2.1 ∈ ktG := ⟨rfl, kt_in 155 (by decide +kernel) rfl⟩
theorem lkf_Tally_9 : (F_Tally 1).1 = R_Tally ∧ Cond.fieldLink R_Tally 9 R_Tally (F_Tally 1).2.1 (F_Tally 1).2.2.1 ∈ ktG := ⟨rfl, kt_in 239 (by decide +kernel) rfl⟩
theorem lkf_Tally_15 : (F_Tally 0).1 = R_Tally ∧ Cond.fieldLink R_Tally 15 R_Tally (F_Tally 0).2.1 (F_Tally 0).2.2.1 ∈ ktG := ⟨rfl, kt_in 238 (by decide +kernel) rfl⟩
theorem lkf_Text_11 : (F_Text 0).1 = R_Text ∧ Cond.fieldLink R_Text 11 R_Text (F_Text 0).2.1 (F_Text 0).2.2.1 ∈ ktG := ⟨rfl, kt_in 270 (by decide +kernel) rfl⟩
theorem lkf_Text_15 : (F_Text 2).1 = R_Text ∧ Cond.fieldLink R_Text 15 R_Text (F_Text 2).2.1 (F_Text 2).2.2.1 ∈ ktG := ⟨rfl, kt_in 273 (by decide +kernel) rfl⟩
theorem lkf_Text_18 : (F_Text 4).1 = R_Text ∧ Cond.fieldLink R_Text 18 R_Text (F_Text 4).2.1 (F_Text 4).2.2.1 ∈ ktG := ⟨rfl, kt_in 277 (by decide +kernel) rfl⟩
theorem lkf_Text_21 : (F_Text 6).1 = R_Text ∧ Cond.fieldLink R_Text 21 R_Text (F_Text 6).2.1 (F_Text 6).2.2.1 ∈ ktG := ⟨rfl, kt_in 279 (by decide +kernel) rfl⟩
theorem lkf_M_9 : (F_M 0).1 = R_M ∧ Cond.fieldLink R_M 9 R_M (F_M 0).2.1 (F_M 0).2.2.1 ∈ ktG := ⟨rfl, kt_in 1460 (by decide +kernel) rfl⟩
theorem lkf_M_13 : (F_M 1).1 = R_M ∧ Cond.fieldLink R_M 13 R_M (F_M 1).2.1 (F_M 1).2.2.1 ∈ ktG := ⟨rfl, kt_in 1461 (by decide +kernel) rfl⟩
theorem lkf_M_16 : (F_M 3).1 = R_M ∧ Cond.fieldLink R_M 16 R_M (F_M 3).2.1 (F_M 3).2.2.1 ∈ ktG := ⟨rfl, kt_in 1463 (by decide +kernel) rfl⟩
theorem lkf_M_20 : (F_M 4).1 = R_M ∧ Cond.fieldLink R_M 20 R_M (F_M 4).2.1 (F_M 4).2.2.1 ∈ ktG := ⟨rfl, kt_in 1464 (by decide +kernel) rfl⟩
theorem lkf_M_23 : (F_M 5).1 = R_M ∧ Cond.fieldLink R_M 23 R_M (F_M 5).2.1 (F_M 5).2.2.1 ∈ ktG := ⟨rfl, kt_in 1465 (by decide +kernel) rfl⟩
theorem lkf_M_27 : (F_M 7).1 = R_M ∧ Cond.fieldLink R_M 27 R_M (F_M 7).2.1 (F_M 7).2.2.1 ∈ ktG := ⟨rfl, kt_in 1467 (by decide +kernel) rfl⟩
theorem lkf_M_33 : (F_M 11).1 = R_M ∧ Cond.fieldLink R_M 33 R_M (F_M 11).2.1 (F_M 11).2.2.1 ∈ ktG := ⟨rfl, kt_in 1471 (by decide +kernel) rfl⟩
theorem lkf_M_36 : (F_M 12).1 = R_M ∧ Cond.fieldLink R_M 36 R_M (F_M 12).2.1 (F_M 12).2.2.1 ∈ ktG := ⟨rfl, kt_in 1472 (by decide +kernel) rfl⟩
theorem lkf_M_39 : (F_M 13).1 = R_M ∧ Cond.fieldLink R_M 39 R_M (F_M 13).2.1 (F_M 13).2.2.1 ∈ ktG := ⟨rfl, kt_in 1473 (by decide +kernel) rfl⟩
theorem lkf_M_43 : (F_M 14).1 = R_M ∧ Cond.fieldLink R_M 43 R_M (F_M 14).2.1 (F_M 14).2.2.1 ∈ ktG := ⟨rfl, kt_in 1474 (by decide +kernel) rfl⟩
theorem lkf_M_46 : (F_M 21).1 = R_M ∧ Cond.fieldLink R_M 46 R_M (F_M 21).2.1 (F_M 21).2.2.1 ∈ ktG := ⟨rfl, kt_in 1481 (by decide +kernel) rfl⟩
theorem lkf_M_49 : (F_M 22).1 = R_M ∧ Cond.fieldLink R_M 49 R_M (F_M 22).2.1 (F_M 22).2.2.1 ∈ ktG := ⟨rfl, kt_in 1482 (by decide +kernel) rfl⟩
theorem lkf_M_52 : (F_M 23).1 = R_M ∧ Cond.fieldLink R_M 52 R_M (F_M 23).2.1 (F_M 23).2.2.1 ∈ ktG := ⟨rfl, kt_in 1483 (by decide +kernel) rfl⟩
theorem lkf_M_55 : (F_M 24).1 = R_M ∧ Cond.fieldLink R_M 55 R_M (F_M 24).2.1 (F_M 24).2.2.1 ∈ ktG := ⟨rfl, kt_in 1484 (by decide +kernel) rfl⟩
theorem lkf_M_58 : (F_M 25).1 = R_M ∧ Cond.fieldLink R_M 58 R_M (F_M 25).2.1 (F_M 25).2.2.1 ∈ ktG := ⟨rfl, kt_in 1485 (by decide +kernel) rfl⟩
theorem lkf_M_61 : (F_M 27).1 = R_M ∧ Cond.fieldLink R_M 61 R_M (F_M 27).2.1 (F_M 27).2.2.1 ∈ ktG := ⟨rfl, kt_in 1487 (by decide +kernel) rfl⟩
theorem lkf_M_64 : (F_M 28).1 = R_M ∧ Cond.fieldLink R_M 64 R_M (F_M 28).2.1 (F_M 28).2.2.1 ∈ ktG := ⟨rfl, kt_in 1488 (by decide +kernel) rfl⟩
theorem lkf_M_67 : (F_M 29).1 = R_M ∧ Cond.fieldLink R_M 67 R_M (F_M 29).2.1 (F_M 29).2.2.1 ∈ ktG := ⟨rfl, kt_in 1489 (by decide +kernel) rfl⟩
theorem lkf_M_70 : (F_M 31).1 = R_M ∧ Cond.fieldLink R_M 70 R_M (F_M 31).2.1 (F_M 31).2.2.1 ∈ ktG := ⟨rfl, kt_in 1491 (by decide +kernel) rfl⟩
theorem lkf_M_73 : (F_M 32).1 = R_M ∧ Cond.fieldLink R_M 73 R_M (F_M 32).2.1 (F_M 32).2.2.1 ∈ ktG := ⟨rfl, kt_in 1492 (by decide +kernel) rfl⟩
theorem lkf_M_76 : (F_M 34).1 = R_M ∧ Cond.fieldLink R_M 76 R_M (F_M 34).2.1 (F_M 34).2.2.1 ∈ ktG := ⟨rfl, kt_in 1494 (by decide +kernel) rfl⟩
theorem lkf_M_79 : (F_M 35).1 = R_M ∧ Cond.fieldLink R_M 79 R_M (F_M 35).2.1 (F_M 35).2.2.1 ∈ ktG := ⟨rfl, kt_in 1495 (by decide +kernel) rfl⟩
theorem lkf_M_82 : (F_M 36).1 = R_M ∧ Cond.fieldLink R_M 82 R_M (F_M 36).2.1 (F_M 36).2.2.1 ∈ ktG := ⟨rfl, kt_in 1496 (by decide +kernel) rfl⟩
theorem lkf_M_85 : (F_M 38).1 = R_M ∧ Cond.fieldLink R_M 85 R_M (F_M 38).2.1 (F_M 38).2.2.1 ∈ ktG := ⟨rfl, kt_in 1498 (by decide +kernel) rfl⟩
theorem lkf_M_88 : (F_M 39).1 = R_M ∧ Cond.fieldLink R_M 88 R_M (F_M 39).2.1 (F_M 39).2.2.1 ∈ ktG := ⟨rfl, kt_in 1499 (by decide +kernel) rfl⟩
theorem lkf_M_91 : (F_M 40).1 = R_M ∧ Cond.fieldLink R_M 91 R_M (F_M 40).2.1 (F_M 40).2.2.1 ∈ ktG := ⟨rfl, kt_in 1500 (by decide +kernel) rfl⟩
def rr_0 : zw_RR := fun _ _ => none
def rr_1 : zw_RR := zw_ur rr_0 1 3 2
def rr_2 : zw_RR := zw_ur rr_1 3 0 4
def rr_3 : zw_RR := zw_ur rr_2 3 1 5
def rr_4 : zw_RR := zw_ur rr_3 3 3 6
def rr_5 : zw_RR := zw_ur rr_4 3 4 7
def rr_6 : zw_RR := zw_ur rr_5 3 5 8
def rr_7 : zw_RR := zw_ur rr_6 3 7 9
def rr_8 : zw_RR := zw_ur rr_7 3 8 10
def rr_9 : zw_RR := zw_ur rr_8 11 1 12
def rr_10 : zw_RR := zw_ur rr_9 11 0 1
def rr_11 : zw_RR := zw_ur rr_10 13 0 1
def rr_12 : zw_RR := zw_ur rr_11 13 1 11
def rr_13 : zw_RR := zw_ur rr_12 0 0 1
def rr_14 : zw_RR := zw_ur rr_13 0 1 3
def rr_15 : zw_RR := zw_ur rr_14 0 2 14
def rr_16 : zw_RR := zw_ur rr_15 15 0 16
def rr_17 : zw_RR := zw_ur rr_16 15 1 17
def rr_18 : zw_RR := zw_ur rr_17 15 3 18
def rr_19 : zw_RR := zw_ur rr_18 15 4 19
def rr_20 : zw_RR := zw_ur rr_19 15 5 20
def rr_21 : zw_RR := zw_ur rr_20 15 7 21
def rr_22 : zw_RR := zw_ur rr_21 15 8 22
def rr_23 : zw_RR := zw_ur rr_22 14 0 15
def rr_24 : zw_RR := zw_ur rr_23 23 0 24
def rr_25 : zw_RR := zw_ur rr_24 23 1 25
def rr_26 : zw_RR := zw_ur rr_25 23 3 26
def rr_27 : zw_RR := zw_ur rr_26 23 4 27
def rr_28 : zw_RR := zw_ur rr_27 23 5 28
def rr_29 : zw_RR := zw_ur rr_28 23 7 29
def rr_30 : zw_RR := zw_ur rr_29 23 8 30
def rr_31 : zw_RR := zw_ur rr_30 14 1 23
def rr_32 : zw_RR := zw_ur rr_31 31 0 32
def rr_33 : zw_RR := zw_ur rr_32 31 1 33
def rr_34 : zw_RR := zw_ur rr_33 31 3 34
def rr_35 : zw_RR := zw_ur rr_34 31 4 35
def rr_36 : zw_RR := zw_ur rr_35 31 5 36
def rr_37 : zw_RR := zw_ur rr_36 31 7 37
def rr_38 : zw_RR := zw_ur rr_37 31 8 38
def rr_39 : zw_RR := zw_ur rr_38 14 2 31
def rr_40 : zw_RR := zw_ur rr_39 0 3 39
def rr_41 : zw_RR := zw_ur rr_40 40 0 41
def rr_42 : zw_RR := zw_ur rr_41 40 2 42
def rr_43 : zw_RR := zw_ur rr_42 40 4 43
def rr_44 : zw_RR := zw_ur rr_43 40 6 44
def rr_45 : zw_RR := zw_ur rr_44 0 4 40
def rr_46 : zw_RR := zw_ur rr_45 45 2 46
def rr_47 : zw_RR := zw_ur rr_46 47 0 48
def rr_48 : zw_RR := zw_ur rr_47 47 1 49
def rr_49 : zw_RR := zw_ur rr_48 47 2 50
def rr_50 : zw_RR := zw_ur rr_49 47 3 51
def rr_51 : zw_RR := zw_ur rr_50 45 3 47
def rr_52 : zw_RR := zw_ur rr_51 45 4 52
def rr_53 : zw_RR := zw_ur rr_52 53 0 54
def rr_54 : zw_RR := zw_ur rr_53 53 1 55
def rr_55 : zw_RR := zw_ur rr_54 53 2 56
def rr_56 : zw_RR := zw_ur rr_55 53 3 57
def rr_57 : zw_RR := zw_ur rr_56 45 5 53
def rr_58 : zw_RR := zw_ur rr_57 45 6 58
def rr_59 : zw_RR := zw_ur rr_58 45 7 59
def rr_60 : zw_RR := zw_ur rr_59 45 8 60
def rr_61 : zw_RR := zw_ur rr_60 45 0 1
def rr_62 : zw_RR := zw_ur rr_61 45 1 3
def rr_63 : zw_RR := zw_ur rr_62 0 5 45
def rr_64 : zw_RR := zw_ur rr_63 61 0 62
def rr_65 : zw_RR := zw_ur rr_64 0 6 61
def rr_66 : zw_RR := zw_ur rr_65 0 7 13
def rr_67 : zw_RR := zw_ur rr_66 63 3 64
def rr_68 : zw_RR := zw_ur rr_67 63 0 1
def rr_69 : zw_RR := zw_ur rr_68 63 1 11
def rr_70 : zw_RR := zw_ur rr_69 63 2 13
def rr_71 : zw_RR := zw_ur rr_70 0 8 63
def rr_72 : zw_RR := zw_ur rr_71 65 2 66
def rr_73 : zw_RR := zw_ur rr_72 65 3 67
def rr_74 : zw_RR := zw_ur rr_73 65 0 1
def rr_75 : zw_RR := zw_ur rr_74 65 1 3
def rr_76 : zw_RR := zw_ur rr_75 0 9 65
def rr_77 : zw_RR := zw_ur rr_76 68 0 1
def rr_78 : zw_RR := zw_ur rr_77 68 1 11
def rr_79 : zw_RR := zw_ur rr_78 68 2 13
def rr_80 : zw_RR := zw_ur rr_79 0 10 68
def rr_81 : zw_RR := zw_ur rr_80 69 4 70
def rr_82 : zw_RR := zw_ur rr_81 69 0 1
def rr_83 : zw_RR := zw_ur rr_82 69 1 3
def rr_84 : zw_RR := zw_ur rr_83 69 2 11
def rr_85 : zw_RR := zw_ur rr_84 69 3 13
def rr_86 : zw_RR := zw_ur rr_85 0 11 69
def rr_87 : zw_RR := zw_ur rr_86 71 3 72
def rr_88 : zw_RR := zw_ur rr_87 71 4 73
def rr_89 : zw_RR := zw_ur rr_88 71 5 74
def rr_90 : zw_RR := zw_ur rr_89 71 7 75
def rr_91 : zw_RR := zw_ur rr_90 76 0 77
def rr_92 : zw_RR := zw_ur rr_91 76 1 78
def rr_93 : zw_RR := zw_ur rr_92 76 2 79
def rr_94 : zw_RR := zw_ur rr_93 76 3 80
def rr_95 : zw_RR := zw_ur rr_94 71 11 76
def rr_96 : zw_RR := zw_ur rr_95 71 12 81
def rr_97 : zw_RR := zw_ur rr_96 71 13 82
def rr_98 : zw_RR := zw_ur rr_97 71 14 83
def rr_99 : zw_RR := zw_ur rr_98 71 21 84
def rr_100 : zw_RR := zw_ur rr_99 71 22 85
def rr_101 : zw_RR := zw_ur rr_100 71 23 86
def rr_102 : zw_RR := zw_ur rr_101 71 24 87
def rr_103 : zw_RR := zw_ur rr_102 71 25 88
def rr_104 : zw_RR := zw_ur rr_103 71 27 89
def rr_105 : zw_RR := zw_ur rr_104 71 28 90
def rr_106 : zw_RR := zw_ur rr_105 71 29 91
def rr_107 : zw_RR := zw_ur rr_106 71 31 92
def rr_108 : zw_RR := zw_ur rr_107 71 32 93
def rr_109 : zw_RR := zw_ur rr_108 71 34 94
def rr_110 : zw_RR := zw_ur rr_109 71 35 95
def rr_111 : zw_RR := zw_ur rr_110 71 36 96
def rr_112 : zw_RR := zw_ur rr_111 71 38 97
def rr_113 : zw_RR := zw_ur rr_112 71 39 98
def rr_114 : zw_RR := zw_ur rr_113 71 40 99
theorem zw_rrn_14 : ∀ i, rr_14 14 i = none := fun i => rfl
theorem zw_ok_3_1 : zw_Ok 1 3 (SH.take 3) rr_1 := zw_OkOf (by decide +kernel)
theorem zw_ok_11_8 : zw_HO 3 (SH.take 11) rr_8 := zw_HOck (by decide +kernel)
theorem zw_ok_23_22 : zw_HO 15 (SH.take 23) rr_22 := zw_HOck (by decide +kernel)
theorem zw_ok_31_30 : zw_HO 23 (SH.take 31) rr_30 := zw_HOck (by decide +kernel)
theorem zw_ok_39_38 : zw_HO 31 (SH.take 39) rr_38 := zw_HOck (by decide +kernel)
theorem zw_ok_100_114 : zw_Ok 71 100 (SH.take 100) rr_114 := zw_OkOf (by decide +kernel)
def y_P_init : MethodName := ⟨R_P, "<init>", "()V"⟩
abbrev b_P_init : ByteArray := prog_1_method_1_code
def dl_P_init : List (Nat × Instr × Nat) := [(0, .aload_n 0, 1), (1, .invokespecial 3, 3), (4, .new 9, 3), (7, .dup, 1), (8, .invokespecial 11, 3), (11, .astore_n 1, 1), (12, .new 12, 3), (15, .dup, 1), (16, .invokespecial 14, 3), (19, .astore_n 2, 1), (20, .new 15, 3), (23, .dup, 1), (24, .aload_n 1, 1), (25, .invokespecial 17, 3), (28, .astore_n 3, 1), (29, .new 20, 3), (32, .dup, 1), (33, .aload_n 1, 1), (34, .aload_n 3, 1), (35, .invokespecial 22, 3), (38, .astore 4, 2), (40, .aload_n 0, 1), (41, .aload_n 1, 1), (42, .putfield 25, 3), (45, .aload_n 0, 1), (46, .aload_n 2, 1), (47, .putfield 29, 3), (50, .aload_n 0, 1), (51, .iconst 3, 1), (52, .anewarray 12, 3), (55, .putfield 33, 3), (58, .iconst 0, 1), (59, .istore 5, 2), (61, .iload 5, 2), (63, .iconst 3, 1), (64, .if_icmp .ge 23, 3), (67, .aload_n 0, 1), (68, .getfield 33, 3), (71, .iload 5, 2), (73, .new 12, 3), (76, .dup, 1), (77, .invokespecial 14, 3), (80, .aastore, 1), (81, .iinc 5 1, 3), (84, .goto (-23), 3), (87, .aload_n 0, 1), (88, .iconst 3, 1), (89, .newarray .boolean, 2), (91, .putfield 37, 3), (94, .aload_n 0, 1), (95, .new 41, 3), (98, .dup, 1), (99, .invokespecial 43, 3), (102, .putfield 44, 3), (105, .aload_n 0, 1), (106, .new 48, 3), (109, .dup, 1), (110, .aload_n 1, 1), (111, .aload_n 2, 1), (112, .invokespecial 50, 3), (115, .putfield 53, 3), (118, .aload_n 0, 1), (119, .new 57, 3), (122, .dup, 1), (123, .invokespecial 59, 3), (126, .putfield 60, 3), (129, .aload_n 0, 1), (130, .aload 4, 2), (132, .putfield 64, 3), (135, .aload_n 0, 1), (136, .new 68, 3), (139, .dup, 1), (140, .aload_n 1, 1), (141, .aload_n 3, 1), (142, .aload 4, 2), (144, .invokespecial 70, 3), (147, .putfield 73, 3), (150, .aload_n 0, 1), (151, .new 77, 3), (154, .dup, 1), (155, .aload_n 1, 1), (156, .aload_n 2, 1), (157, .invokespecial 79, 3), (160, .putfield 80, 3), (163, .aload_n 0, 1), (164, .new 84, 3), (167, .dup, 1), (168, .aload_n 1, 1), (169, .aload_n 3, 1), (170, .aload 4, 2), (172, .invokespecial 86, 3), (175, .putfield 87, 3), (178, .aload_n 0, 1), (179, .new 91, 3), (182, .dup, 1), (183, .aload_n 1, 1), (184, .aload_n 2, 1), (185, .aload_n 3, 1), (186, .aload 4, 2), (188, .invokespecial 93, 3), (191, .putfield 96, 3), (194, .return_, 1)]
theorem dk_P_init : zw_dk b_P_init dl_P_init = true := by decide +kernel
theorem ce_P_init : zw_cec y_P_init b_P_init 6 0 := ⟨⟨kt_in 114 (by decide +kernel) rfl, kt_in 85 (by decide +kernel) rfl, by decide +kernel⟩, kt_in 113 (by decide +kernel) rfl, rfl⟩
def y_Sayings_init : MethodName := ⟨R_Sayings, "<init>", "()V"⟩
abbrev b_Sayings_init : ByteArray := prog_10_method_1_code
def dl_Sayings_init : List (Nat × Instr × Nat) := [(0, .aload_n 0, 1), (1, .invokespecial 3, 3), (4, .aload_n 0, 1), (5, .sipush 1820, 3), (8, .newarray .int, 2), (10, .putfield 9, 3), (13, .aload_n 0, 1), (14, .iconst 2, 1), (15, .iconst 4, 1), (16, .invokevirtual 15, 3), (19, .return_, 1)]
theorem dk_Sayings_init : zw_dk b_Sayings_init dl_Sayings_init = true := by decide +kernel
theorem ce_Sayings_init : zw_cec y_Sayings_init b_Sayings_init 1 0 := ⟨⟨kt_in 122 (by decide +kernel) rfl, kt_in 86 (by decide +kernel) rfl, by decide +kernel⟩, kt_in 121 (by decide +kernel) rfl, rfl⟩
def y_Held_init : MethodName := ⟨R_Held, "<init>", "()V"⟩
abbrev b_Held_init : ByteArray := prog_4_method_1_code
def dl_Held_init : List (Nat × Instr × Nat) := [(0, .aload_n 0, 1), (1, .invokespecial 3, 3), (4, .aload_n 0, 1), (5, .bipush 13, 2), (7, .newarray .int, 2), (9, .putfield 9, 3), (12, .aload_n 0, 1), (13, .bipush 6, 2), (15, .newarray .int, 2), (17, .putfield 15, 3), (20, .aload_n 0, 1), (21, .bipush 40, 2), (23, .newarray .int, 2), (25, .putfield 18, 3), (28, .aload_n 0, 1), (29, .bipush 40, 2), (31, .newarray .int, 2), (33, .putfield 21, 3), (36, .aload_n 0, 1), (37, .bipush 40, 2), (39, .newarray .int, 2), (41, .putfield 24, 3), (44, .aload_n 0, 1), (45, .bipush 6, 2), (47, .newarray .int, 2), (49, .putfield 27, 3), (52, .aload_n 0, 1), (53, .bipush 6, 2), (55, .newarray .int, 2), (57, .putfield 30, 3), (60, .aload_n 0, 1), (61, .iconst 0, 1), (62, .iconst 0, 1), (63, .iconst 0, 1), (64, .iconst 0, 1), (65, .invokevirtual 33, 3), (68, .pop, 1), (69, .return_, 1)]
theorem dk_Held_init : zw_dk b_Held_init dl_Held_init = true := by decide +kernel
theorem ce_Held_init : zw_cec y_Held_init b_Held_init 1 0 := ⟨⟨kt_in 171 (by decide +kernel) rfl, kt_in 87 (by decide +kernel) rfl, by decide +kernel⟩, kt_in 170 (by decide +kernel) rfl, rfl⟩
def y_Pays_init : MethodName := ⟨R_Pays, "<init>", "(LPaidForThinking$Sayings;LPaidForThinking$Held;)V"⟩
abbrev b_Pays_init : ByteArray := prog_8_method_1_code
def dl_Pays_init : List (Nat × Instr × Nat) := [(0, .aload_n 0, 1), (1, .invokespecial 3, 3), (4, .aload_n 0, 1), (5, .iconst 4, 1), (6, .newarray .int, 2), (8, .putfield 9, 3), (11, .aload_n 0, 1), (12, .iconst 4, 1), (13, .bipush 60, 2), (15, .multianewarray 17 2, 4), (19, .putfield 19, 3), (22, .aload_n 0, 1), (23, .iconst 4, 1), (24, .newarray .int, 2), (26, .putfield 22, 3), (29, .aload_n 0, 1), (30, .iconst 4, 1), (31, .sipush 1820, 3), (34, .multianewarray 17 2, 4), (38, .putfield 25, 3), (41, .aload_n 0, 1), (42, .iconst 4, 1), (43, .newarray .boolean, 2), (45, .putfield 28, 3), (48, .aload_n 0, 1), (49, .bipush 9, 2), (51, .newarray .int, 2), (53, .putfield 32, 3), (56, .aload_n 0, 1), (57, .bipush 60, 2), (59, .newarray .int, 2), (61, .putfield 35, 3), (64, .aload_n 0, 1), (65, .aload_n 1, 1), (66, .putfield 38, 3), (69, .aload_n 0, 1), (70, .aload_n 2, 1), (71, .putfield 42, 3), (74, .return_, 1)]
theorem dk_Pays_init : zw_dk b_Pays_init dl_Pays_init = true := by decide +kernel
theorem ce_Pays_init : zw_cec y_Pays_init b_Pays_init 3 2 := ⟨⟨kt_in 309 (by decide +kernel) rfl, kt_in 92 (by decide +kernel) rfl, by decide +kernel⟩, kt_in 308 (by decide +kernel) rfl, rfl⟩
def y_Tally_init : MethodName := ⟨R_Tally, "<init>", "(LPaidForThinking$Sayings;)V"⟩
abbrev b_Tally_init : ByteArray := prog_11_method_1_code
def dl_Tally_init : List (Nat × Instr × Nat) := [(0, .aload_n 0, 1), (1, .invokespecial 3, 3), (4, .aload_n 0, 1), (5, .sipush 455, 3), (8, .newarray .long, 2), (10, .putfield 9, 3), (13, .aload_n 0, 1), (14, .aload_n 1, 1), (15, .putfield 15, 3), (18, .return_, 1)]
theorem dk_Tally_init : zw_dk b_Tally_init dl_Tally_init = true := by decide +kernel
theorem ce_Tally_init : zw_cec y_Tally_init b_Tally_init 2 1 := ⟨⟨kt_in 236 (by decide +kernel) rfl, kt_in 89 (by decide +kernel) rfl, by decide +kernel⟩, kt_in 235 (by decide +kernel) rfl, rfl⟩
def y_Judge_init : MethodName := ⟨R_Judge, "<init>", "(LPaidForThinking$Sayings;LPaidForThinking$Tally;)V"⟩
abbrev b_Judge_init : ByteArray := prog_5_method_1_code
def dl_Judge_init : List (Nat × Instr × Nat) := [(0, .aload_n 0, 1), (1, .invokespecial 3, 3), (4, .aload_n 0, 1), (5, .aload_n 1, 1), (6, .putfield 9, 3), (9, .aload_n 0, 1), (10, .aload_n 2, 1), (11, .putfield 15, 3), (14, .return_, 1)]
theorem dk_Judge_init : zw_dk b_Judge_init dl_Judge_init = true := by decide +kernel
theorem ce_Judge_init : zw_cec y_Judge_init b_Judge_init 3 2 := ⟨⟨kt_in 254 (by decide +kernel) rfl, kt_in 90 (by decide +kernel) rfl, by decide +kernel⟩, kt_in 253 (by decide +kernel) rfl, rfl⟩
def y_Lures_init : MethodName := ⟨R_Lures, "<init>", "(LPaidForThinking$Sayings;LPaidForThinking$Tally;LPaidForThinking$Judge;)V"⟩
abbrev b_Lures_init : ByteArray := prog_7_method_1_code
def dl_Lures_init : List (Nat × Instr × Nat) := [(0, .aload_n 0, 1), (1, .invokespecial 3, 3), (4, .aload_n 0, 1), (5, .iconst 4, 1), (6, .newarray .int, 2), (8, .putfield 9, 3), (11, .aload_n 0, 1), (12, .aload_n 1, 1), (13, .putfield 15, 3), (16, .aload_n 0, 1), (17, .aload_n 2, 1), (18, .putfield 19, 3), (21, .aload_n 0, 1), (22, .aload_n 3, 1), (23, .putfield 23, 3), (26, .return_, 1)]
theorem dk_Lures_init : zw_dk b_Lures_init dl_Lures_init = true := by decide +kernel
theorem ce_Lures_init : zw_cec y_Lures_init b_Lures_init 4 3 := ⟨⟨kt_in 361 (by decide +kernel) rfl, kt_in 94 (by decide +kernel) rfl, by decide +kernel⟩, kt_in 360 (by decide +kernel) rfl, rfl⟩
def y_Contest_init : MethodName := ⟨R_Contest, "<init>", "(LPaidForThinking$Sayings;LPaidForThinking$Held;)V"⟩
abbrev b_Contest_init : ByteArray := prog_3_method_1_code
def dl_Contest_init : List (Nat × Instr × Nat) := [(0, .aload_n 0, 1), (1, .invokespecial 3, 3), (4, .aload_n 0, 1), (5, .bipush 6, 2), (7, .newarray .int, 2), (9, .putfield 9, 3), (12, .aload_n 0, 1), (13, .iconst 4, 1), (14, .newarray .int, 2), (16, .putfield 15, 3), (19, .aload_n 0, 1), (20, .aload_n 1, 1), (21, .putfield 18, 3), (24, .aload_n 0, 1), (25, .aload_n 2, 1), (26, .putfield 22, 3), (29, .return_, 1)]
theorem dk_Contest_init : zw_dk b_Contest_init dl_Contest_init = true := by decide +kernel
theorem ce_Contest_init : zw_cec y_Contest_init b_Contest_init 3 2 := ⟨⟨kt_in 389 (by decide +kernel) rfl, kt_in 95 (by decide +kernel) rfl, by decide +kernel⟩, kt_in 388 (by decide +kernel) rfl, rfl⟩
def y_Chooser_init : MethodName := ⟨R_Chooser, "<init>", "(LPaidForThinking$Sayings;LPaidForThinking$Tally;LPaidForThinking$Judge;)V"⟩
abbrev b_Chooser_init : ByteArray := prog_2_method_1_code
def dl_Chooser_init : List (Nat × Instr × Nat) := [(0, .aload_n 0, 1), (1, .invokespecial 3, 3), (4, .aload_n 0, 1), (5, .aload_n 1, 1), (6, .putfield 9, 3), (9, .aload_n 0, 1), (10, .aload_n 2, 1), (11, .putfield 15, 3), (14, .aload_n 0, 1), (15, .aload_n 3, 1), (16, .putfield 19, 3), (19, .return_, 1)]
theorem dk_Chooser_init : zw_dk b_Chooser_init dl_Chooser_init = true := by decide +kernel
theorem ce_Chooser_init : zw_cec y_Chooser_init b_Chooser_init 4 3 := ⟨⟨kt_in 408 (by decide +kernel) rfl, kt_in 96 (by decide +kernel) rfl, by decide +kernel⟩, kt_in 407 (by decide +kernel) rfl, rfl⟩
def y_Ledger_init : MethodName := ⟨R_Ledger, "<init>", "(LPaidForThinking$Sayings;LPaidForThinking$Held;LPaidForThinking$Tally;LPaidForThinking$Judge;)V"⟩
abbrev b_Ledger_init : ByteArray := prog_6_method_1_code
def dl_Ledger_init : List (Nat × Instr × Nat) := [(0, .aload_n 0, 1), (1, .invokespecial 3, 3), (4, .aload_n 0, 1), (5, .iconst 4, 1), (6, .newarray .int, 2), (8, .putfield 9, 3), (11, .aload_n 0, 1), (12, .aload_n 1, 1), (13, .putfield 15, 3), (16, .aload_n 0, 1), (17, .aload_n 2, 1), (18, .putfield 19, 3), (21, .aload_n 0, 1), (22, .aload_n 3, 1), (23, .putfield 23, 3), (26, .aload_n 0, 1), (27, .aload 4, 2), (29, .putfield 27, 3), (32, .return_, 1)]
theorem dk_Ledger_init : zw_dk b_Ledger_init dl_Ledger_init = true := by decide +kernel
theorem ce_Ledger_init : zw_cec y_Ledger_init b_Ledger_init 5 4 := ⟨⟨kt_in 433 (by decide +kernel) rfl, kt_in 97 (by decide +kernel) rfl, by decide +kernel⟩, kt_in 432 (by decide +kernel) rfl, rfl⟩
def y_M_init : MethodName := ⟨R_M, "<init>", "()V"⟩
abbrev b_M_init : ByteArray := prog_14_method_1_code
def dl_M_init : List (Nat × Instr × Nat) := [(0, .aload_n 0, 1), (1, .invokespecial 3, 3), (4, .aload_n 0, 1), (5, .iconst 2, 1), (6, .putfield 9, 3), (9, .aload_n 0, 1), (10, .iconst 4, 1), (11, .putfield 13, 3), (14, .aload_n 0, 1), (15, .sipush 1820, 3), (18, .newarray .int, 2), (20, .putfield 16, 3), (23, .aload_n 0, 1), (24, .bipush 13, 2), (26, .newarray .int, 2), (28, .putfield 20, 3), (31, .aload_n 0, 1), (32, .bipush 80, 2), (34, .newarray .byte, 2), (36, .putfield 23, 3), (39, .aload_n 0, 1), (40, .bipush 24, 2), (42, .newarray .long, 2), (44, .putfield 27, 3), (47, .aload_n 0, 1), (48, .iconst 4, 1), (49, .bipush 60, 2), (51, .multianewarray 31 2, 4), (55, .putfield 33, 3), (58, .aload_n 0, 1), (59, .iconst 4, 1), (60, .newarray .int, 2), (62, .putfield 36, 3), (65, .aload_n 0, 1), (66, .iconst 4, 1), (67, .newarray .boolean, 2), (69, .putfield 39, 3), (72, .aload_n 0, 1), (73, .sipush 7280, 3), (76, .newarray .int, 2), (78, .putfield 43, 3), (81, .aload_n 0, 1), (82, .sipush 1820, 3), (85, .newarray .int, 2), (87, .putfield 46, 3), (90, .aload_n 0, 1), (91, .sipush 1820, 3), (94, .newarray .int, 2), (96, .putfield 49, 3), (99, .aload_n 0, 1), (100, .bipush 13, 2), (102, .newarray .long, 2), (104, .putfield 52, 3), (107, .aload_n 0, 1), (108, .iconst 4, 1), (109, .newarray .int, 2), (111, .putfield 55, 3), (114, .aload_n 0, 1), (115, .iconst 4, 1), (116, .newarray .int, 2), (118, .putfield 58, 3), (121, .aload_n 0, 1), (122, .bipush 6, 2), (124, .newarray .int, 2), (126, .putfield 61, 3), (129, .aload_n 0, 1), (130, .bipush 6, 2), (132, .newarray .int, 2), (134, .putfield 64, 3), (137, .aload_n 0, 1), (138, .iconst 4, 1), (139, .newarray .long, 2), (141, .putfield 67, 3), (144, .aload_n 0, 1), (145, .bipush 6, 2), (147, .newarray .int, 2), (149, .putfield 70, 3), (152, .aload_n 0, 1), (153, .bipush 6, 2), (155, .newarray .int, 2), (157, .putfield 73, 3), (160, .aload_n 0, 1), (161, .bipush 40, 2), (163, .newarray .int, 2), (165, .putfield 76, 3), (168, .aload_n 0, 1), (169, .bipush 40, 2), (171, .newarray .int, 2), (173, .putfield 79, 3), (176, .aload_n 0, 1), (177, .bipush 40, 2), (179, .newarray .int, 2), (181, .putfield 82, 3), (184, .aload_n 0, 1), (185, .sipush 462, 3), (188, .newarray .int, 2), (190, .putfield 85, 3), (193, .aload_n 0, 1), (194, .iconst 3, 1), (195, .newarray .boolean, 2), (197, .putfield 88, 3), (200, .aload_n 0, 1), (201, .iconst 3, 1), (202, .newarray .int, 2), (204, .putfield 91, 3), (207, .iconst 0, 1), (208, .istore_n 1, 1), (209, .iload_n 1, 1), (210, .bipush 13, 2), (212, .if_icmp .ge 18, 3), (215, .aload_n 0, 1), (216, .getfield 20, 3), (219, .iload_n 1, 1), (220, .iload_n 1, 1), (221, .iload_n 1, 1), (222, .imul, 1), (223, .iastore, 1), (224, .iinc 1 1, 3), (227, .goto (-18), 3), (230, .aload_n 0, 1), (231, .invokevirtual 94, 3), (234, .return_, 1)]
theorem dk_M_init : zw_dk b_M_init dl_M_init = true := by decide +kernel
theorem ce_M_init : zw_cec y_M_init b_M_init 2 0 := ⟨⟨kt_in 1448 (by decide +kernel) rfl, kt_in 98 (by decide +kernel) rfl, by decide +kernel⟩, kt_in 1447 (by decide +kernel) rfl, rfl⟩
def y_Row_init : MethodName := ⟨R_Row, "<init>", "()V"⟩
abbrev b_Row_init : ByteArray := prog_9_method_1_code
def dl_Row_init : List (Nat × Instr × Nat) := [(0, .aload_n 0, 1), (1, .invokespecial 1, 3), (4, .aload_n 0, 1), (5, .bipush 16, 2), (7, .newarray .long, 2), (9, .putfield 9, 3), (12, .return_, 1)]
theorem dk_Row_init : zw_dk b_Row_init dl_Row_init = true := by decide +kernel
theorem ce_Row_init : zw_cec y_Row_init b_Row_init 1 0 := ⟨⟨kt_in 345 (by decide +kernel) rfl, kt_in 93 (by decide +kernel) rfl, by decide +kernel⟩, kt_in 344 (by decide +kernel) rfl, rfl⟩
def y_Text_init : MethodName := ⟨R_Text, "<init>", "()V"⟩
abbrev b_Text_init : ByteArray := prog_12_method_1_code
def dl_Text_init : List (Nat × Instr × Nat) := [(0, .aload_n 0, 1), (1, .invokespecial 3, 3), (4, .aload_n 0, 1), (5, .bipush 80, 2), (7, .newarray .int, 2), (9, .putfield 11, 3), (12, .aload_n 0, 1), (13, .bipush 60, 2), (15, .newarray .int, 2), (17, .putfield 15, 3), (20, .aload_n 0, 1), (21, .bipush 60, 2), (23, .newarray .int, 2), (25, .putfield 18, 3), (28, .aload_n 0, 1), (29, .bipush 6, 2), (31, .newarray .boolean, 2), (33, .putfield 21, 3), (36, .return_, 1)]
theorem dk_Text_init : zw_dk b_Text_init dl_Text_init = true := by decide +kernel
theorem ce_Text_init : zw_cec y_Text_init b_Text_init 1 0 := ⟨⟨kt_in 268 (by decide +kernel) rfl, kt_in 91 (by decide +kernel) rfl, by decide +kernel⟩, kt_in 267 (by decide +kernel) rfl, rfl⟩
set_option maxRecDepth 100000 in
theorem km_Sayings_init_1 {l : Launch} {g : zw_G} {c : zw_Ct} {c1_1 : zw_Ct} (hc1_1 : fn_Sayings_lay (zw_z c 2) 2 4 = some c1_1) : zw_MetC l g y_Sayings_init b_Sayings_init 1 3 1 1820 rr_0 (SH.take 2) [.ref 1] c rr_1 (SH.take 3) c1_1 := by
  refine zw_MetC.of (by decide +kernel) rfl (Nat.le_of_ble_eq_true rfl) (fun p e s m args below meth cd X hin hz => ?_)
  have hz0 : s.heap.size = g.2.2.1 + 2 := hz
  clear hz
  refine zw_eL (L2 := [some (.ref 1)]) rfl ?_
  refine r_aload_n X (pc := 0) (i := 0) (zw_dg dk_Sayings_init 0 rfl) rfl rfl ?_
  refine r_objI X (pc := 1) kw_123 zw_obi zw_obc ⟨Nat.le_of_ble_eq_true rfl, Nat.le_of_ble_eq_true rfl⟩ (Nat.le_of_ble_eq_true rfl) (zw_dg dk_Sayings_init 1 rfl) ?_
  refine r_aload_n X (pc := 4) (i := 0) (zw_dg dk_Sayings_init 2 rfl) rfl rfl ?_
  refine r_sipush X (pc := 5) (v := 1820) (zw_dg dk_Sayings_init 3 rfl) (by decide) ?_
  refine r_newa2 X (pc := 8) (sh2 := SH.take 3) (k := 2) (t := 0) (N := 1820) (fty := .int) (k1 := 1) (k2 := 1820) rfl (fun _ h => h) rfl kw_166 zw_hac0 (by decide) (by decide) (by decide) (show s.heap.size + 0 = g.2.2.1 + (SH.take 2).length from by show _ = g.2.2.1 + 2; omega) rfl rfl (Nat.le_of_ble_eq_true rfl) (Nat.le_of_ble_eq_true rfl) (zw_dg dk_Sayings_init 4 rfl) rfl rfl (fun X => ?_)
  refine r_putR X (pc := 10) (r := 2) ci_Sayings (show (SH.take 3)[1]? = _ from rfl) rfl lkf_Sayings_9 rfl rfl hin (fun _ => ⟨rfl, rfl⟩) (zw_dg dk_Sayings_init 5 rfl) ?_
  refine r_aload_n X (pc := 13) (i := 0) (zw_dg dk_Sayings_init 6 rfl) rfl rfl ?_
  refine r_iconst X (pc := 14) (v := 2) (zw_dg dk_Sayings_init 7 rfl) (by decide) ?_
  refine r_iconst X (pc := 15) (v := 4) (zw_dg dk_Sayings_init 8 rfl) (by decide) ?_
  refine r_callVv X (pc := 16) (As := [.int 2, .int 4]) (st := []) (km_Sayings_lay zw_ok_3_1 hc1_1) ce_Sayings_lay kw_124 (show (SH.take 3)[1]? = _ from rfl) rfl rfl ⟨Nat.le_of_ble_eq_true rfl, Nat.le_of_ble_eq_true rfl⟩ (Nat.le_of_ble_eq_true rfl) (zw_dg dk_Sayings_init 9 rfl) ?_
  exact r_vretC X (pc := 19) rfl (Nat.le_refl _) (Nat.le_refl _) (zw_dg dk_Sayings_init 10 rfl)
set_option maxRecDepth 100000 in
theorem km_Held_init_3 {l : Launch} {g : zw_G} {c : zw_Ct} {c3_2 : zw_Ct} {rc3_2 : Int32} (hc3_2 : fn_Held_readSheet 3 (zw_z (zw_z (zw_z (zw_z (zw_z (zw_z (zw_z c 4) 5) 6) 7) 8) 9) 10) 0 0 0 0 = some (rc3_2, c3_2)) : zw_MetC l g y_Held_init b_Held_init 1 3 7 151 rr_1 (SH.take 4) [.ref 3] c rr_8 (SH.take 11) c3_2 := by
  refine zw_MetC.of (by decide +kernel) rfl (Nat.le_of_ble_eq_true rfl) (fun p e s m args below meth cd X hin hz => ?_)
  have hz0 : s.heap.size = g.2.2.1 + 4 := hz
  clear hz
  refine zw_eL (L2 := [some (.ref 3)]) rfl ?_
  refine r_aload_n X (pc := 0) (i := 0) (zw_dg dk_Held_init 0 rfl) rfl rfl ?_
  refine r_objI X (pc := 1) kw_172 zw_obi zw_obc ⟨Nat.le_of_ble_eq_true rfl, Nat.le_of_ble_eq_true rfl⟩ (Nat.le_of_ble_eq_true rfl) (zw_dg dk_Held_init 1 rfl) ?_
  refine r_aload_n X (pc := 4) (i := 0) (zw_dg dk_Held_init 2 rfl) rfl rfl ?_
  refine r_bipush X (pc := 5) (v := 13) (zw_dg dk_Held_init 3 rfl) (by decide) ?_
  refine r_newa2 X (pc := 7) (sh2 := SH.take 5) (k := 4) (t := 0) (N := 13) (fty := .int) (k1 := 1) (k2 := 13) rfl (fun _ h => h) rfl kw_166 zw_hac0 (by decide) (by decide) (by decide) (show s.heap.size + 0 = g.2.2.1 + (SH.take 4).length from by show _ = g.2.2.1 + 4; omega) rfl rfl (Nat.le_of_ble_eq_true rfl) (Nat.le_of_ble_eq_true rfl) (zw_dg dk_Held_init 4 rfl) rfl rfl (fun X => ?_)
  refine r_putR X (pc := 9) (r := 4) ci_Held (show (SH.take 5)[3]? = _ from rfl) rfl lkf_Held_9 rfl rfl hin (fun _ => ⟨rfl, rfl⟩) (zw_dg dk_Held_init 5 rfl) ?_
  refine r_aload_n X (pc := 12) (i := 0) (zw_dg dk_Held_init 6 rfl) rfl rfl ?_
  refine r_bipush X (pc := 13) (v := 6) (zw_dg dk_Held_init 7 rfl) (by decide) ?_
  refine r_newa2 X (pc := 15) (sh2 := SH.take 6) (k := 5) (t := 0) (N := 6) (fty := .int) (k1 := 2) (k2 := 19) rfl (fun _ h => h) rfl kw_166 zw_hac0 (by decide) (by decide) (by decide) (show s.heap.size + 1 = g.2.2.1 + (SH.take 5).length from by show _ = g.2.2.1 + 5; omega) rfl rfl (Nat.le_of_ble_eq_true rfl) (Nat.le_of_ble_eq_true rfl) (zw_dg dk_Held_init 8 rfl) rfl rfl (fun X => ?_)
  refine r_putR X (pc := 17) (r := 5) ci_Held (show (SH.take 6)[3]? = _ from rfl) rfl lkf_Held_15 rfl rfl hin (fun _ => ⟨rfl, rfl⟩) (zw_dg dk_Held_init 9 rfl) ?_
  refine r_aload_n X (pc := 20) (i := 0) (zw_dg dk_Held_init 10 rfl) rfl rfl ?_
  refine r_bipush X (pc := 21) (v := 40) (zw_dg dk_Held_init 11 rfl) (by decide) ?_
  refine r_newa2 X (pc := 23) (sh2 := SH.take 7) (k := 6) (t := 0) (N := 40) (fty := .int) (k1 := 3) (k2 := 59) rfl (fun _ h => h) rfl kw_166 zw_hac0 (by decide) (by decide) (by decide) (show s.heap.size + 2 = g.2.2.1 + (SH.take 6).length from by show _ = g.2.2.1 + 6; omega) rfl rfl (Nat.le_of_ble_eq_true rfl) (Nat.le_of_ble_eq_true rfl) (zw_dg dk_Held_init 12 rfl) rfl rfl (fun X => ?_)
  refine r_putR X (pc := 25) (r := 6) ci_Held (show (SH.take 7)[3]? = _ from rfl) rfl lkf_Held_18 rfl rfl hin (fun _ => ⟨rfl, rfl⟩) (zw_dg dk_Held_init 13 rfl) ?_
  refine r_aload_n X (pc := 28) (i := 0) (zw_dg dk_Held_init 14 rfl) rfl rfl ?_
  refine r_bipush X (pc := 29) (v := 40) (zw_dg dk_Held_init 15 rfl) (by decide) ?_
  refine r_newa2 X (pc := 31) (sh2 := SH.take 8) (k := 7) (t := 0) (N := 40) (fty := .int) (k1 := 4) (k2 := 99) rfl (fun _ h => h) rfl kw_166 zw_hac0 (by decide) (by decide) (by decide) (show s.heap.size + 3 = g.2.2.1 + (SH.take 7).length from by show _ = g.2.2.1 + 7; omega) rfl rfl (Nat.le_of_ble_eq_true rfl) (Nat.le_of_ble_eq_true rfl) (zw_dg dk_Held_init 16 rfl) rfl rfl (fun X => ?_)
  refine r_putR X (pc := 33) (r := 7) ci_Held (show (SH.take 8)[3]? = _ from rfl) rfl lkf_Held_21 rfl rfl hin (fun _ => ⟨rfl, rfl⟩) (zw_dg dk_Held_init 17 rfl) ?_
  refine r_aload_n X (pc := 36) (i := 0) (zw_dg dk_Held_init 18 rfl) rfl rfl ?_
  refine r_bipush X (pc := 37) (v := 40) (zw_dg dk_Held_init 19 rfl) (by decide) ?_
  refine r_newa2 X (pc := 39) (sh2 := SH.take 9) (k := 8) (t := 0) (N := 40) (fty := .int) (k1 := 5) (k2 := 139) rfl (fun _ h => h) rfl kw_166 zw_hac0 (by decide) (by decide) (by decide) (show s.heap.size + 4 = g.2.2.1 + (SH.take 8).length from by show _ = g.2.2.1 + 8; omega) rfl rfl (Nat.le_of_ble_eq_true rfl) (Nat.le_of_ble_eq_true rfl) (zw_dg dk_Held_init 20 rfl) rfl rfl (fun X => ?_)
  refine r_putR X (pc := 41) (r := 8) ci_Held (show (SH.take 9)[3]? = _ from rfl) rfl lkf_Held_24 rfl rfl hin (fun _ => ⟨rfl, rfl⟩) (zw_dg dk_Held_init 21 rfl) ?_
  refine r_aload_n X (pc := 44) (i := 0) (zw_dg dk_Held_init 22 rfl) rfl rfl ?_
  refine r_bipush X (pc := 45) (v := 6) (zw_dg dk_Held_init 23 rfl) (by decide) ?_
  refine r_newa2 X (pc := 47) (sh2 := SH.take 10) (k := 9) (t := 0) (N := 6) (fty := .int) (k1 := 6) (k2 := 145) rfl (fun _ h => h) rfl kw_166 zw_hac0 (by decide) (by decide) (by decide) (show s.heap.size + 5 = g.2.2.1 + (SH.take 9).length from by show _ = g.2.2.1 + 9; omega) rfl rfl (Nat.le_of_ble_eq_true rfl) (Nat.le_of_ble_eq_true rfl) (zw_dg dk_Held_init 24 rfl) rfl rfl (fun X => ?_)
  refine r_putR X (pc := 49) (r := 9) ci_Held (show (SH.take 10)[3]? = _ from rfl) rfl lkf_Held_27 rfl rfl hin (fun _ => ⟨rfl, rfl⟩) (zw_dg dk_Held_init 25 rfl) ?_
  refine r_aload_n X (pc := 52) (i := 0) (zw_dg dk_Held_init 26 rfl) rfl rfl ?_
  refine r_bipush X (pc := 53) (v := 6) (zw_dg dk_Held_init 27 rfl) (by decide) ?_
  refine r_newa2 X (pc := 55) (sh2 := SH.take 11) (k := 10) (t := 0) (N := 6) (fty := .int) (k1 := 7) (k2 := 151) rfl (fun _ h => h) rfl kw_166 zw_hac0 (by decide) (by decide) (by decide) (show s.heap.size + 6 = g.2.2.1 + (SH.take 10).length from by show _ = g.2.2.1 + 10; omega) rfl rfl (Nat.le_of_ble_eq_true rfl) (Nat.le_of_ble_eq_true rfl) (zw_dg dk_Held_init 28 rfl) rfl rfl (fun X => ?_)
  refine r_putR X (pc := 57) (r := 10) ci_Held (show (SH.take 11)[3]? = _ from rfl) rfl lkf_Held_30 rfl rfl hin (fun _ => ⟨rfl, rfl⟩) (zw_dg dk_Held_init 29 rfl) ?_
  refine r_aload_n X (pc := 60) (i := 0) (zw_dg dk_Held_init 30 rfl) rfl rfl ?_
  refine r_iconst X (pc := 61) (v := 0) (zw_dg dk_Held_init 31 rfl) (by decide) ?_
  refine r_iconst X (pc := 62) (v := 0) (zw_dg dk_Held_init 32 rfl) (by decide) ?_
  refine r_iconst X (pc := 63) (v := 0) (zw_dg dk_Held_init 33 rfl) (by decide) ?_
  refine r_iconst X (pc := 64) (v := 0) (zw_dg dk_Held_init 34 rfl) (by decide) ?_
  refine r_callVi X (pc := 65) (As := [.int 0, .int 0, .int 0, .int 0]) (st := []) (km_Held_readSheet zw_ok_11_8 hc3_2) ce_Held_readSheet kw_173 (show (SH.take 11)[3]? = _ from rfl) rfl rfl ⟨Nat.le_of_ble_eq_true rfl, Nat.le_of_ble_eq_true rfl⟩ (Nat.le_of_ble_eq_true rfl) (zw_dg dk_Held_init 35 rfl) ?_
  refine r_pop X (pc := 68) (zw_dg dk_Held_init 36 rfl) rfl ?_
  exact r_vretC X (pc := 69) rfl (Nat.le_refl _) (Nat.le_refl _) (zw_dg dk_Held_init 37 rfl)
set_option maxRecDepth 100000 in
theorem km_Tally_init_11 {l : Launch} {g : zw_G} {c : zw_Ct} : zw_MetC l g y_Tally_init b_Tally_init 2 1 1 455 rr_8 (SH.take 12) [.ref 11, .ref 1] c rr_10 (SH.take 13) (zw_z c 12) := by
  refine zw_MetC.of (by decide +kernel) rfl (Nat.le_of_ble_eq_true rfl) (fun p e s m args below meth cd X hin hz => ?_)
  have hz0 : s.heap.size = g.2.2.1 + 12 := hz
  clear hz
  refine zw_eL (L2 := [some (.ref 11), some (.ref 1)]) rfl ?_
  refine r_aload_n X (pc := 0) (i := 0) (zw_dg dk_Tally_init 0 rfl) rfl rfl ?_
  refine r_objI X (pc := 1) kw_237 zw_obi zw_obc ⟨Nat.le_of_ble_eq_true rfl, Nat.le_of_ble_eq_true rfl⟩ (Nat.le_of_ble_eq_true rfl) (zw_dg dk_Tally_init 1 rfl) ?_
  refine r_aload_n X (pc := 4) (i := 0) (zw_dg dk_Tally_init 2 rfl) rfl rfl ?_
  refine r_sipush X (pc := 5) (v := 455) (zw_dg dk_Tally_init 3 rfl) (by decide) ?_
  refine r_newa2 X (pc := 8) (sh2 := SH.take 13) (k := 12) (t := 1) (N := 455) (fty := .long) (k1 := 1) (k2 := 455) rfl (fun _ h => h) rfl kw_249 zw_hac1 (by decide) (by decide) (by decide) (show s.heap.size + 0 = g.2.2.1 + (SH.take 12).length from by show _ = g.2.2.1 + 12; omega) rfl rfl (Nat.le_of_ble_eq_true rfl) (Nat.le_of_ble_eq_true rfl) (zw_dg dk_Tally_init 4 rfl) rfl rfl (fun X => ?_)
  refine r_putR X (pc := 10) (r := 12) ci_Tally (show (SH.take 13)[11]? = _ from rfl) rfl lkf_Tally_9 rfl rfl hin (fun _ => ⟨rfl, rfl⟩) (zw_dg dk_Tally_init 5 rfl) ?_
  refine r_aload_n X (pc := 13) (i := 0) (zw_dg dk_Tally_init 6 rfl) rfl rfl ?_
  refine r_aload_n X (pc := 14) (i := 1) (zw_dg dk_Tally_init 7 rfl) rfl rfl ?_
  refine r_putR X (pc := 15) (r := 1) ci_Tally (show (SH.take 13)[11]? = _ from rfl) rfl lkf_Tally_15 rfl rfl hin (fun _ => ⟨rfl, rfl⟩) (zw_dg dk_Tally_init 8 rfl) ?_
  exact r_vretC X (pc := 18) rfl (Nat.le_refl _) (Nat.le_refl _) (zw_dg dk_Tally_init 9 rfl)
set_option maxRecDepth 100000 in
theorem km_Judge_init_13 {l : Launch} {g : zw_G} {c : zw_Ct} : zw_MetC l g y_Judge_init b_Judge_init 3 1 0 0 rr_10 (SH.take 14) [.ref 13, .ref 1, .ref 11] c rr_12 (SH.take 14) c := by
  refine zw_MetC.of (by decide +kernel) rfl (Nat.le_of_ble_eq_true rfl) (fun p e s m args below meth cd X hin hz => ?_)
  have hz0 : s.heap.size = g.2.2.1 + 14 := hz
  clear hz
  refine zw_eL (L2 := [some (.ref 13), some (.ref 1), some (.ref 11)]) rfl ?_
  refine r_aload_n X (pc := 0) (i := 0) (zw_dg dk_Judge_init 0 rfl) rfl rfl ?_
  refine r_objI X (pc := 1) kw_255 zw_obi zw_obc ⟨Nat.le_of_ble_eq_true rfl, Nat.le_of_ble_eq_true rfl⟩ (Nat.le_of_ble_eq_true rfl) (zw_dg dk_Judge_init 1 rfl) ?_
  refine r_aload_n X (pc := 4) (i := 0) (zw_dg dk_Judge_init 2 rfl) rfl rfl ?_
  refine r_aload_n X (pc := 5) (i := 1) (zw_dg dk_Judge_init 3 rfl) rfl rfl ?_
  refine r_putR X (pc := 6) (r := 1) ci_Judge (show (SH.take 14)[13]? = _ from rfl) rfl lkf_Judge_9 rfl rfl hin (fun _ => ⟨rfl, rfl⟩) (zw_dg dk_Judge_init 4 rfl) ?_
  refine r_aload_n X (pc := 9) (i := 0) (zw_dg dk_Judge_init 5 rfl) rfl rfl ?_
  refine r_aload_n X (pc := 10) (i := 2) (zw_dg dk_Judge_init 6 rfl) rfl rfl ?_
  refine r_putR X (pc := 11) (r := 11) ci_Judge (show (SH.take 14)[13]? = _ from rfl) rfl lkf_Judge_15 rfl rfl hin (fun _ => ⟨rfl, rfl⟩) (zw_dg dk_Judge_init 7 rfl) ?_
  exact r_vretC X (pc := 14) rfl (Nat.le_refl _) (Nat.le_refl _) (zw_dg dk_Judge_init 8 rfl)
set_option maxRecDepth 100000 in
theorem km_Held_init_15 {l : Launch} {g : zw_G} {c : zw_Ct} {c15_3 : zw_Ct} {rc15_3 : Int32} (hc15_3 : fn_Held_readSheet 15 (zw_z (zw_z (zw_z (zw_z (zw_z (zw_z (zw_z c 16) 17) 18) 19) 20) 21) 22) 0 0 0 0 = some (rc15_3, c15_3)) : zw_MetC l g y_Held_init b_Held_init 1 3 7 151 rr_15 (SH.take 16) [.ref 15] c rr_22 (SH.take 23) c15_3 := by
  refine zw_MetC.of (by decide +kernel) rfl (Nat.le_of_ble_eq_true rfl) (fun p e s m args below meth cd X hin hz => ?_)
  have hz0 : s.heap.size = g.2.2.1 + 16 := hz
  clear hz
  refine zw_eL (L2 := [some (.ref 15)]) rfl ?_
  refine r_aload_n X (pc := 0) (i := 0) (zw_dg dk_Held_init 0 rfl) rfl rfl ?_
  refine r_objI X (pc := 1) kw_172 zw_obi zw_obc ⟨Nat.le_of_ble_eq_true rfl, Nat.le_of_ble_eq_true rfl⟩ (Nat.le_of_ble_eq_true rfl) (zw_dg dk_Held_init 1 rfl) ?_
  refine r_aload_n X (pc := 4) (i := 0) (zw_dg dk_Held_init 2 rfl) rfl rfl ?_
  refine r_bipush X (pc := 5) (v := 13) (zw_dg dk_Held_init 3 rfl) (by decide) ?_
  refine r_newa2 X (pc := 7) (sh2 := SH.take 17) (k := 16) (t := 0) (N := 13) (fty := .int) (k1 := 1) (k2 := 13) rfl (fun _ h => h) rfl kw_166 zw_hac0 (by decide) (by decide) (by decide) (show s.heap.size + 0 = g.2.2.1 + (SH.take 16).length from by show _ = g.2.2.1 + 16; omega) rfl rfl (Nat.le_of_ble_eq_true rfl) (Nat.le_of_ble_eq_true rfl) (zw_dg dk_Held_init 4 rfl) rfl rfl (fun X => ?_)
  refine r_putR X (pc := 9) (r := 16) ci_Held (show (SH.take 17)[15]? = _ from rfl) rfl lkf_Held_9 rfl rfl hin (fun _ => ⟨rfl, rfl⟩) (zw_dg dk_Held_init 5 rfl) ?_
  refine r_aload_n X (pc := 12) (i := 0) (zw_dg dk_Held_init 6 rfl) rfl rfl ?_
  refine r_bipush X (pc := 13) (v := 6) (zw_dg dk_Held_init 7 rfl) (by decide) ?_
  refine r_newa2 X (pc := 15) (sh2 := SH.take 18) (k := 17) (t := 0) (N := 6) (fty := .int) (k1 := 2) (k2 := 19) rfl (fun _ h => h) rfl kw_166 zw_hac0 (by decide) (by decide) (by decide) (show s.heap.size + 1 = g.2.2.1 + (SH.take 17).length from by show _ = g.2.2.1 + 17; omega) rfl rfl (Nat.le_of_ble_eq_true rfl) (Nat.le_of_ble_eq_true rfl) (zw_dg dk_Held_init 8 rfl) rfl rfl (fun X => ?_)
  refine r_putR X (pc := 17) (r := 17) ci_Held (show (SH.take 18)[15]? = _ from rfl) rfl lkf_Held_15 rfl rfl hin (fun _ => ⟨rfl, rfl⟩) (zw_dg dk_Held_init 9 rfl) ?_
  refine r_aload_n X (pc := 20) (i := 0) (zw_dg dk_Held_init 10 rfl) rfl rfl ?_
  refine r_bipush X (pc := 21) (v := 40) (zw_dg dk_Held_init 11 rfl) (by decide) ?_
  refine r_newa2 X (pc := 23) (sh2 := SH.take 19) (k := 18) (t := 0) (N := 40) (fty := .int) (k1 := 3) (k2 := 59) rfl (fun _ h => h) rfl kw_166 zw_hac0 (by decide) (by decide) (by decide) (show s.heap.size + 2 = g.2.2.1 + (SH.take 18).length from by show _ = g.2.2.1 + 18; omega) rfl rfl (Nat.le_of_ble_eq_true rfl) (Nat.le_of_ble_eq_true rfl) (zw_dg dk_Held_init 12 rfl) rfl rfl (fun X => ?_)
  refine r_putR X (pc := 25) (r := 18) ci_Held (show (SH.take 19)[15]? = _ from rfl) rfl lkf_Held_18 rfl rfl hin (fun _ => ⟨rfl, rfl⟩) (zw_dg dk_Held_init 13 rfl) ?_
  refine r_aload_n X (pc := 28) (i := 0) (zw_dg dk_Held_init 14 rfl) rfl rfl ?_
  refine r_bipush X (pc := 29) (v := 40) (zw_dg dk_Held_init 15 rfl) (by decide) ?_
  refine r_newa2 X (pc := 31) (sh2 := SH.take 20) (k := 19) (t := 0) (N := 40) (fty := .int) (k1 := 4) (k2 := 99) rfl (fun _ h => h) rfl kw_166 zw_hac0 (by decide) (by decide) (by decide) (show s.heap.size + 3 = g.2.2.1 + (SH.take 19).length from by show _ = g.2.2.1 + 19; omega) rfl rfl (Nat.le_of_ble_eq_true rfl) (Nat.le_of_ble_eq_true rfl) (zw_dg dk_Held_init 16 rfl) rfl rfl (fun X => ?_)
  refine r_putR X (pc := 33) (r := 19) ci_Held (show (SH.take 20)[15]? = _ from rfl) rfl lkf_Held_21 rfl rfl hin (fun _ => ⟨rfl, rfl⟩) (zw_dg dk_Held_init 17 rfl) ?_
  refine r_aload_n X (pc := 36) (i := 0) (zw_dg dk_Held_init 18 rfl) rfl rfl ?_
  refine r_bipush X (pc := 37) (v := 40) (zw_dg dk_Held_init 19 rfl) (by decide) ?_
  refine r_newa2 X (pc := 39) (sh2 := SH.take 21) (k := 20) (t := 0) (N := 40) (fty := .int) (k1 := 5) (k2 := 139) rfl (fun _ h => h) rfl kw_166 zw_hac0 (by decide) (by decide) (by decide) (show s.heap.size + 4 = g.2.2.1 + (SH.take 20).length from by show _ = g.2.2.1 + 20; omega) rfl rfl (Nat.le_of_ble_eq_true rfl) (Nat.le_of_ble_eq_true rfl) (zw_dg dk_Held_init 20 rfl) rfl rfl (fun X => ?_)
  refine r_putR X (pc := 41) (r := 20) ci_Held (show (SH.take 21)[15]? = _ from rfl) rfl lkf_Held_24 rfl rfl hin (fun _ => ⟨rfl, rfl⟩) (zw_dg dk_Held_init 21 rfl) ?_
  refine r_aload_n X (pc := 44) (i := 0) (zw_dg dk_Held_init 22 rfl) rfl rfl ?_
  refine r_bipush X (pc := 45) (v := 6) (zw_dg dk_Held_init 23 rfl) (by decide) ?_
  refine r_newa2 X (pc := 47) (sh2 := SH.take 22) (k := 21) (t := 0) (N := 6) (fty := .int) (k1 := 6) (k2 := 145) rfl (fun _ h => h) rfl kw_166 zw_hac0 (by decide) (by decide) (by decide) (show s.heap.size + 5 = g.2.2.1 + (SH.take 21).length from by show _ = g.2.2.1 + 21; omega) rfl rfl (Nat.le_of_ble_eq_true rfl) (Nat.le_of_ble_eq_true rfl) (zw_dg dk_Held_init 24 rfl) rfl rfl (fun X => ?_)
  refine r_putR X (pc := 49) (r := 21) ci_Held (show (SH.take 22)[15]? = _ from rfl) rfl lkf_Held_27 rfl rfl hin (fun _ => ⟨rfl, rfl⟩) (zw_dg dk_Held_init 25 rfl) ?_
  refine r_aload_n X (pc := 52) (i := 0) (zw_dg dk_Held_init 26 rfl) rfl rfl ?_
  refine r_bipush X (pc := 53) (v := 6) (zw_dg dk_Held_init 27 rfl) (by decide) ?_
  refine r_newa2 X (pc := 55) (sh2 := SH.take 23) (k := 22) (t := 0) (N := 6) (fty := .int) (k1 := 7) (k2 := 151) rfl (fun _ h => h) rfl kw_166 zw_hac0 (by decide) (by decide) (by decide) (show s.heap.size + 6 = g.2.2.1 + (SH.take 22).length from by show _ = g.2.2.1 + 22; omega) rfl rfl (Nat.le_of_ble_eq_true rfl) (Nat.le_of_ble_eq_true rfl) (zw_dg dk_Held_init 28 rfl) rfl rfl (fun X => ?_)
  refine r_putR X (pc := 57) (r := 22) ci_Held (show (SH.take 23)[15]? = _ from rfl) rfl lkf_Held_30 rfl rfl hin (fun _ => ⟨rfl, rfl⟩) (zw_dg dk_Held_init 29 rfl) ?_
  refine r_aload_n X (pc := 60) (i := 0) (zw_dg dk_Held_init 30 rfl) rfl rfl ?_
  refine r_iconst X (pc := 61) (v := 0) (zw_dg dk_Held_init 31 rfl) (by decide) ?_
  refine r_iconst X (pc := 62) (v := 0) (zw_dg dk_Held_init 32 rfl) (by decide) ?_
  refine r_iconst X (pc := 63) (v := 0) (zw_dg dk_Held_init 33 rfl) (by decide) ?_
  refine r_iconst X (pc := 64) (v := 0) (zw_dg dk_Held_init 34 rfl) (by decide) ?_
  refine r_callVi X (pc := 65) (As := [.int 0, .int 0, .int 0, .int 0]) (st := []) (km_Held_readSheet zw_ok_23_22 hc15_3) ce_Held_readSheet kw_173 (show (SH.take 23)[15]? = _ from rfl) rfl rfl ⟨Nat.le_of_ble_eq_true rfl, Nat.le_of_ble_eq_true rfl⟩ (Nat.le_of_ble_eq_true rfl) (zw_dg dk_Held_init 35 rfl) ?_
  refine r_pop X (pc := 68) (zw_dg dk_Held_init 36 rfl) rfl ?_
  exact r_vretC X (pc := 69) rfl (Nat.le_refl _) (Nat.le_refl _) (zw_dg dk_Held_init 37 rfl)
set_option maxRecDepth 100000 in
theorem km_Held_init_23 {l : Launch} {g : zw_G} {c : zw_Ct} {c23_4 : zw_Ct} {rc23_4 : Int32} (hc23_4 : fn_Held_readSheet 23 (zw_z (zw_z (zw_z (zw_z (zw_z (zw_z (zw_z c 24) 25) 26) 27) 28) 29) 30) 0 0 0 0 = some (rc23_4, c23_4)) : zw_MetC l g y_Held_init b_Held_init 1 3 7 151 rr_23 (SH.take 24) [.ref 23] c rr_30 (SH.take 31) c23_4 := by
  refine zw_MetC.of (by decide +kernel) rfl (Nat.le_of_ble_eq_true rfl) (fun p e s m args below meth cd X hin hz => ?_)
  have hz0 : s.heap.size = g.2.2.1 + 24 := hz
  clear hz
  refine zw_eL (L2 := [some (.ref 23)]) rfl ?_
  refine r_aload_n X (pc := 0) (i := 0) (zw_dg dk_Held_init 0 rfl) rfl rfl ?_
  refine r_objI X (pc := 1) kw_172 zw_obi zw_obc ⟨Nat.le_of_ble_eq_true rfl, Nat.le_of_ble_eq_true rfl⟩ (Nat.le_of_ble_eq_true rfl) (zw_dg dk_Held_init 1 rfl) ?_
  refine r_aload_n X (pc := 4) (i := 0) (zw_dg dk_Held_init 2 rfl) rfl rfl ?_
  refine r_bipush X (pc := 5) (v := 13) (zw_dg dk_Held_init 3 rfl) (by decide) ?_
  refine r_newa2 X (pc := 7) (sh2 := SH.take 25) (k := 24) (t := 0) (N := 13) (fty := .int) (k1 := 1) (k2 := 13) rfl (fun _ h => h) rfl kw_166 zw_hac0 (by decide) (by decide) (by decide) (show s.heap.size + 0 = g.2.2.1 + (SH.take 24).length from by show _ = g.2.2.1 + 24; omega) rfl rfl (Nat.le_of_ble_eq_true rfl) (Nat.le_of_ble_eq_true rfl) (zw_dg dk_Held_init 4 rfl) rfl rfl (fun X => ?_)
  refine r_putR X (pc := 9) (r := 24) ci_Held (show (SH.take 25)[23]? = _ from rfl) rfl lkf_Held_9 rfl rfl hin (fun _ => ⟨rfl, rfl⟩) (zw_dg dk_Held_init 5 rfl) ?_
  refine r_aload_n X (pc := 12) (i := 0) (zw_dg dk_Held_init 6 rfl) rfl rfl ?_
  refine r_bipush X (pc := 13) (v := 6) (zw_dg dk_Held_init 7 rfl) (by decide) ?_
  refine r_newa2 X (pc := 15) (sh2 := SH.take 26) (k := 25) (t := 0) (N := 6) (fty := .int) (k1 := 2) (k2 := 19) rfl (fun _ h => h) rfl kw_166 zw_hac0 (by decide) (by decide) (by decide) (show s.heap.size + 1 = g.2.2.1 + (SH.take 25).length from by show _ = g.2.2.1 + 25; omega) rfl rfl (Nat.le_of_ble_eq_true rfl) (Nat.le_of_ble_eq_true rfl) (zw_dg dk_Held_init 8 rfl) rfl rfl (fun X => ?_)
  refine r_putR X (pc := 17) (r := 25) ci_Held (show (SH.take 26)[23]? = _ from rfl) rfl lkf_Held_15 rfl rfl hin (fun _ => ⟨rfl, rfl⟩) (zw_dg dk_Held_init 9 rfl) ?_
  refine r_aload_n X (pc := 20) (i := 0) (zw_dg dk_Held_init 10 rfl) rfl rfl ?_
  refine r_bipush X (pc := 21) (v := 40) (zw_dg dk_Held_init 11 rfl) (by decide) ?_
  refine r_newa2 X (pc := 23) (sh2 := SH.take 27) (k := 26) (t := 0) (N := 40) (fty := .int) (k1 := 3) (k2 := 59) rfl (fun _ h => h) rfl kw_166 zw_hac0 (by decide) (by decide) (by decide) (show s.heap.size + 2 = g.2.2.1 + (SH.take 26).length from by show _ = g.2.2.1 + 26; omega) rfl rfl (Nat.le_of_ble_eq_true rfl) (Nat.le_of_ble_eq_true rfl) (zw_dg dk_Held_init 12 rfl) rfl rfl (fun X => ?_)
  refine r_putR X (pc := 25) (r := 26) ci_Held (show (SH.take 27)[23]? = _ from rfl) rfl lkf_Held_18 rfl rfl hin (fun _ => ⟨rfl, rfl⟩) (zw_dg dk_Held_init 13 rfl) ?_
  refine r_aload_n X (pc := 28) (i := 0) (zw_dg dk_Held_init 14 rfl) rfl rfl ?_
  refine r_bipush X (pc := 29) (v := 40) (zw_dg dk_Held_init 15 rfl) (by decide) ?_
  refine r_newa2 X (pc := 31) (sh2 := SH.take 28) (k := 27) (t := 0) (N := 40) (fty := .int) (k1 := 4) (k2 := 99) rfl (fun _ h => h) rfl kw_166 zw_hac0 (by decide) (by decide) (by decide) (show s.heap.size + 3 = g.2.2.1 + (SH.take 27).length from by show _ = g.2.2.1 + 27; omega) rfl rfl (Nat.le_of_ble_eq_true rfl) (Nat.le_of_ble_eq_true rfl) (zw_dg dk_Held_init 16 rfl) rfl rfl (fun X => ?_)
  refine r_putR X (pc := 33) (r := 27) ci_Held (show (SH.take 28)[23]? = _ from rfl) rfl lkf_Held_21 rfl rfl hin (fun _ => ⟨rfl, rfl⟩) (zw_dg dk_Held_init 17 rfl) ?_
  refine r_aload_n X (pc := 36) (i := 0) (zw_dg dk_Held_init 18 rfl) rfl rfl ?_
  refine r_bipush X (pc := 37) (v := 40) (zw_dg dk_Held_init 19 rfl) (by decide) ?_
  refine r_newa2 X (pc := 39) (sh2 := SH.take 29) (k := 28) (t := 0) (N := 40) (fty := .int) (k1 := 5) (k2 := 139) rfl (fun _ h => h) rfl kw_166 zw_hac0 (by decide) (by decide) (by decide) (show s.heap.size + 4 = g.2.2.1 + (SH.take 28).length from by show _ = g.2.2.1 + 28; omega) rfl rfl (Nat.le_of_ble_eq_true rfl) (Nat.le_of_ble_eq_true rfl) (zw_dg dk_Held_init 20 rfl) rfl rfl (fun X => ?_)
  refine r_putR X (pc := 41) (r := 28) ci_Held (show (SH.take 29)[23]? = _ from rfl) rfl lkf_Held_24 rfl rfl hin (fun _ => ⟨rfl, rfl⟩) (zw_dg dk_Held_init 21 rfl) ?_
  refine r_aload_n X (pc := 44) (i := 0) (zw_dg dk_Held_init 22 rfl) rfl rfl ?_
  refine r_bipush X (pc := 45) (v := 6) (zw_dg dk_Held_init 23 rfl) (by decide) ?_
  refine r_newa2 X (pc := 47) (sh2 := SH.take 30) (k := 29) (t := 0) (N := 6) (fty := .int) (k1 := 6) (k2 := 145) rfl (fun _ h => h) rfl kw_166 zw_hac0 (by decide) (by decide) (by decide) (show s.heap.size + 5 = g.2.2.1 + (SH.take 29).length from by show _ = g.2.2.1 + 29; omega) rfl rfl (Nat.le_of_ble_eq_true rfl) (Nat.le_of_ble_eq_true rfl) (zw_dg dk_Held_init 24 rfl) rfl rfl (fun X => ?_)
  refine r_putR X (pc := 49) (r := 29) ci_Held (show (SH.take 30)[23]? = _ from rfl) rfl lkf_Held_27 rfl rfl hin (fun _ => ⟨rfl, rfl⟩) (zw_dg dk_Held_init 25 rfl) ?_
  refine r_aload_n X (pc := 52) (i := 0) (zw_dg dk_Held_init 26 rfl) rfl rfl ?_
  refine r_bipush X (pc := 53) (v := 6) (zw_dg dk_Held_init 27 rfl) (by decide) ?_
  refine r_newa2 X (pc := 55) (sh2 := SH.take 31) (k := 30) (t := 0) (N := 6) (fty := .int) (k1 := 7) (k2 := 151) rfl (fun _ h => h) rfl kw_166 zw_hac0 (by decide) (by decide) (by decide) (show s.heap.size + 6 = g.2.2.1 + (SH.take 30).length from by show _ = g.2.2.1 + 30; omega) rfl rfl (Nat.le_of_ble_eq_true rfl) (Nat.le_of_ble_eq_true rfl) (zw_dg dk_Held_init 28 rfl) rfl rfl (fun X => ?_)
  refine r_putR X (pc := 57) (r := 30) ci_Held (show (SH.take 31)[23]? = _ from rfl) rfl lkf_Held_30 rfl rfl hin (fun _ => ⟨rfl, rfl⟩) (zw_dg dk_Held_init 29 rfl) ?_
  refine r_aload_n X (pc := 60) (i := 0) (zw_dg dk_Held_init 30 rfl) rfl rfl ?_
  refine r_iconst X (pc := 61) (v := 0) (zw_dg dk_Held_init 31 rfl) (by decide) ?_
  refine r_iconst X (pc := 62) (v := 0) (zw_dg dk_Held_init 32 rfl) (by decide) ?_
  refine r_iconst X (pc := 63) (v := 0) (zw_dg dk_Held_init 33 rfl) (by decide) ?_
  refine r_iconst X (pc := 64) (v := 0) (zw_dg dk_Held_init 34 rfl) (by decide) ?_
  refine r_callVi X (pc := 65) (As := [.int 0, .int 0, .int 0, .int 0]) (st := []) (km_Held_readSheet zw_ok_31_30 hc23_4) ce_Held_readSheet kw_173 (show (SH.take 31)[23]? = _ from rfl) rfl rfl ⟨Nat.le_of_ble_eq_true rfl, Nat.le_of_ble_eq_true rfl⟩ (Nat.le_of_ble_eq_true rfl) (zw_dg dk_Held_init 35 rfl) ?_
  refine r_pop X (pc := 68) (zw_dg dk_Held_init 36 rfl) rfl ?_
  exact r_vretC X (pc := 69) rfl (Nat.le_refl _) (Nat.le_refl _) (zw_dg dk_Held_init 37 rfl)
set_option maxRecDepth 100000 in
theorem km_Held_init_31 {l : Launch} {g : zw_G} {c : zw_Ct} {c31_5 : zw_Ct} {rc31_5 : Int32} (hc31_5 : fn_Held_readSheet 31 (zw_z (zw_z (zw_z (zw_z (zw_z (zw_z (zw_z c 32) 33) 34) 35) 36) 37) 38) 0 0 0 0 = some (rc31_5, c31_5)) : zw_MetC l g y_Held_init b_Held_init 1 3 7 151 rr_31 (SH.take 32) [.ref 31] c rr_38 (SH.take 39) c31_5 := by
  refine zw_MetC.of (by decide +kernel) rfl (Nat.le_of_ble_eq_true rfl) (fun p e s m args below meth cd X hin hz => ?_)
  have hz0 : s.heap.size = g.2.2.1 + 32 := hz
  clear hz
  refine zw_eL (L2 := [some (.ref 31)]) rfl ?_
  refine r_aload_n X (pc := 0) (i := 0) (zw_dg dk_Held_init 0 rfl) rfl rfl ?_
  refine r_objI X (pc := 1) kw_172 zw_obi zw_obc ⟨Nat.le_of_ble_eq_true rfl, Nat.le_of_ble_eq_true rfl⟩ (Nat.le_of_ble_eq_true rfl) (zw_dg dk_Held_init 1 rfl) ?_
  refine r_aload_n X (pc := 4) (i := 0) (zw_dg dk_Held_init 2 rfl) rfl rfl ?_
  refine r_bipush X (pc := 5) (v := 13) (zw_dg dk_Held_init 3 rfl) (by decide) ?_
  refine r_newa2 X (pc := 7) (sh2 := SH.take 33) (k := 32) (t := 0) (N := 13) (fty := .int) (k1 := 1) (k2 := 13) rfl (fun _ h => h) rfl kw_166 zw_hac0 (by decide) (by decide) (by decide) (show s.heap.size + 0 = g.2.2.1 + (SH.take 32).length from by show _ = g.2.2.1 + 32; omega) rfl rfl (Nat.le_of_ble_eq_true rfl) (Nat.le_of_ble_eq_true rfl) (zw_dg dk_Held_init 4 rfl) rfl rfl (fun X => ?_)
  refine r_putR X (pc := 9) (r := 32) ci_Held (show (SH.take 33)[31]? = _ from rfl) rfl lkf_Held_9 rfl rfl hin (fun _ => ⟨rfl, rfl⟩) (zw_dg dk_Held_init 5 rfl) ?_
  refine r_aload_n X (pc := 12) (i := 0) (zw_dg dk_Held_init 6 rfl) rfl rfl ?_
  refine r_bipush X (pc := 13) (v := 6) (zw_dg dk_Held_init 7 rfl) (by decide) ?_
  refine r_newa2 X (pc := 15) (sh2 := SH.take 34) (k := 33) (t := 0) (N := 6) (fty := .int) (k1 := 2) (k2 := 19) rfl (fun _ h => h) rfl kw_166 zw_hac0 (by decide) (by decide) (by decide) (show s.heap.size + 1 = g.2.2.1 + (SH.take 33).length from by show _ = g.2.2.1 + 33; omega) rfl rfl (Nat.le_of_ble_eq_true rfl) (Nat.le_of_ble_eq_true rfl) (zw_dg dk_Held_init 8 rfl) rfl rfl (fun X => ?_)
  refine r_putR X (pc := 17) (r := 33) ci_Held (show (SH.take 34)[31]? = _ from rfl) rfl lkf_Held_15 rfl rfl hin (fun _ => ⟨rfl, rfl⟩) (zw_dg dk_Held_init 9 rfl) ?_
  refine r_aload_n X (pc := 20) (i := 0) (zw_dg dk_Held_init 10 rfl) rfl rfl ?_
  refine r_bipush X (pc := 21) (v := 40) (zw_dg dk_Held_init 11 rfl) (by decide) ?_
  refine r_newa2 X (pc := 23) (sh2 := SH.take 35) (k := 34) (t := 0) (N := 40) (fty := .int) (k1 := 3) (k2 := 59) rfl (fun _ h => h) rfl kw_166 zw_hac0 (by decide) (by decide) (by decide) (show s.heap.size + 2 = g.2.2.1 + (SH.take 34).length from by show _ = g.2.2.1 + 34; omega) rfl rfl (Nat.le_of_ble_eq_true rfl) (Nat.le_of_ble_eq_true rfl) (zw_dg dk_Held_init 12 rfl) rfl rfl (fun X => ?_)
  refine r_putR X (pc := 25) (r := 34) ci_Held (show (SH.take 35)[31]? = _ from rfl) rfl lkf_Held_18 rfl rfl hin (fun _ => ⟨rfl, rfl⟩) (zw_dg dk_Held_init 13 rfl) ?_
  refine r_aload_n X (pc := 28) (i := 0) (zw_dg dk_Held_init 14 rfl) rfl rfl ?_
  refine r_bipush X (pc := 29) (v := 40) (zw_dg dk_Held_init 15 rfl) (by decide) ?_
  refine r_newa2 X (pc := 31) (sh2 := SH.take 36) (k := 35) (t := 0) (N := 40) (fty := .int) (k1 := 4) (k2 := 99) rfl (fun _ h => h) rfl kw_166 zw_hac0 (by decide) (by decide) (by decide) (show s.heap.size + 3 = g.2.2.1 + (SH.take 35).length from by show _ = g.2.2.1 + 35; omega) rfl rfl (Nat.le_of_ble_eq_true rfl) (Nat.le_of_ble_eq_true rfl) (zw_dg dk_Held_init 16 rfl) rfl rfl (fun X => ?_)
  refine r_putR X (pc := 33) (r := 35) ci_Held (show (SH.take 36)[31]? = _ from rfl) rfl lkf_Held_21 rfl rfl hin (fun _ => ⟨rfl, rfl⟩) (zw_dg dk_Held_init 17 rfl) ?_
  refine r_aload_n X (pc := 36) (i := 0) (zw_dg dk_Held_init 18 rfl) rfl rfl ?_
  refine r_bipush X (pc := 37) (v := 40) (zw_dg dk_Held_init 19 rfl) (by decide) ?_
  refine r_newa2 X (pc := 39) (sh2 := SH.take 37) (k := 36) (t := 0) (N := 40) (fty := .int) (k1 := 5) (k2 := 139) rfl (fun _ h => h) rfl kw_166 zw_hac0 (by decide) (by decide) (by decide) (show s.heap.size + 4 = g.2.2.1 + (SH.take 36).length from by show _ = g.2.2.1 + 36; omega) rfl rfl (Nat.le_of_ble_eq_true rfl) (Nat.le_of_ble_eq_true rfl) (zw_dg dk_Held_init 20 rfl) rfl rfl (fun X => ?_)
  refine r_putR X (pc := 41) (r := 36) ci_Held (show (SH.take 37)[31]? = _ from rfl) rfl lkf_Held_24 rfl rfl hin (fun _ => ⟨rfl, rfl⟩) (zw_dg dk_Held_init 21 rfl) ?_
  refine r_aload_n X (pc := 44) (i := 0) (zw_dg dk_Held_init 22 rfl) rfl rfl ?_
  refine r_bipush X (pc := 45) (v := 6) (zw_dg dk_Held_init 23 rfl) (by decide) ?_
  refine r_newa2 X (pc := 47) (sh2 := SH.take 38) (k := 37) (t := 0) (N := 6) (fty := .int) (k1 := 6) (k2 := 145) rfl (fun _ h => h) rfl kw_166 zw_hac0 (by decide) (by decide) (by decide) (show s.heap.size + 5 = g.2.2.1 + (SH.take 37).length from by show _ = g.2.2.1 + 37; omega) rfl rfl (Nat.le_of_ble_eq_true rfl) (Nat.le_of_ble_eq_true rfl) (zw_dg dk_Held_init 24 rfl) rfl rfl (fun X => ?_)
  refine r_putR X (pc := 49) (r := 37) ci_Held (show (SH.take 38)[31]? = _ from rfl) rfl lkf_Held_27 rfl rfl hin (fun _ => ⟨rfl, rfl⟩) (zw_dg dk_Held_init 25 rfl) ?_
  refine r_aload_n X (pc := 52) (i := 0) (zw_dg dk_Held_init 26 rfl) rfl rfl ?_
  refine r_bipush X (pc := 53) (v := 6) (zw_dg dk_Held_init 27 rfl) (by decide) ?_
  refine r_newa2 X (pc := 55) (sh2 := SH.take 39) (k := 38) (t := 0) (N := 6) (fty := .int) (k1 := 7) (k2 := 151) rfl (fun _ h => h) rfl kw_166 zw_hac0 (by decide) (by decide) (by decide) (show s.heap.size + 6 = g.2.2.1 + (SH.take 38).length from by show _ = g.2.2.1 + 38; omega) rfl rfl (Nat.le_of_ble_eq_true rfl) (Nat.le_of_ble_eq_true rfl) (zw_dg dk_Held_init 28 rfl) rfl rfl (fun X => ?_)
  refine r_putR X (pc := 57) (r := 38) ci_Held (show (SH.take 39)[31]? = _ from rfl) rfl lkf_Held_30 rfl rfl hin (fun _ => ⟨rfl, rfl⟩) (zw_dg dk_Held_init 29 rfl) ?_
  refine r_aload_n X (pc := 60) (i := 0) (zw_dg dk_Held_init 30 rfl) rfl rfl ?_
  refine r_iconst X (pc := 61) (v := 0) (zw_dg dk_Held_init 31 rfl) (by decide) ?_
  refine r_iconst X (pc := 62) (v := 0) (zw_dg dk_Held_init 32 rfl) (by decide) ?_
  refine r_iconst X (pc := 63) (v := 0) (zw_dg dk_Held_init 33 rfl) (by decide) ?_
  refine r_iconst X (pc := 64) (v := 0) (zw_dg dk_Held_init 34 rfl) (by decide) ?_
  refine r_callVi X (pc := 65) (As := [.int 0, .int 0, .int 0, .int 0]) (st := []) (km_Held_readSheet zw_ok_39_38 hc31_5) ce_Held_readSheet kw_173 (show (SH.take 39)[31]? = _ from rfl) rfl rfl ⟨Nat.le_of_ble_eq_true rfl, Nat.le_of_ble_eq_true rfl⟩ (Nat.le_of_ble_eq_true rfl) (zw_dg dk_Held_init 35 rfl) ?_
  refine r_pop X (pc := 68) (zw_dg dk_Held_init 36 rfl) rfl ?_
  exact r_vretC X (pc := 69) rfl (Nat.le_refl _) (Nat.le_refl _) (zw_dg dk_Held_init 37 rfl)
set_option maxRecDepth 100000 in
theorem km_Text_init_40 {l : Launch} {g : zw_G} {c : zw_Ct} : zw_MetC l g y_Text_init b_Text_init 1 1 4 206 rr_40 (SH.take 41) [.ref 40] c rr_44 (SH.take 45) (zw_z (zw_z (zw_z (zw_z c 41) 42) 43) 44) := by
  refine zw_MetC.of (by decide +kernel) rfl (Nat.le_of_ble_eq_true rfl) (fun p e s m args below meth cd X hin hz => ?_)
  have hz0 : s.heap.size = g.2.2.1 + 41 := hz
  clear hz
  refine zw_eL (L2 := [some (.ref 40)]) rfl ?_
  refine r_aload_n X (pc := 0) (i := 0) (zw_dg dk_Text_init 0 rfl) rfl rfl ?_
  refine r_objI X (pc := 1) kw_269 zw_obi zw_obc ⟨Nat.le_of_ble_eq_true rfl, Nat.le_of_ble_eq_true rfl⟩ (Nat.le_of_ble_eq_true rfl) (zw_dg dk_Text_init 1 rfl) ?_
  refine r_aload_n X (pc := 4) (i := 0) (zw_dg dk_Text_init 2 rfl) rfl rfl ?_
  refine r_bipush X (pc := 5) (v := 80) (zw_dg dk_Text_init 3 rfl) (by decide) ?_
  refine r_newa2 X (pc := 7) (sh2 := SH.take 42) (k := 41) (t := 0) (N := 80) (fty := .int) (k1 := 1) (k2 := 80) rfl (fun _ h => h) rfl kw_166 zw_hac0 (by decide) (by decide) (by decide) (show s.heap.size + 0 = g.2.2.1 + (SH.take 41).length from by show _ = g.2.2.1 + 41; omega) rfl rfl (Nat.le_of_ble_eq_true rfl) (Nat.le_of_ble_eq_true rfl) (zw_dg dk_Text_init 4 rfl) rfl rfl (fun X => ?_)
  refine r_putR X (pc := 9) (r := 41) ci_Text (show (SH.take 42)[40]? = _ from rfl) rfl lkf_Text_11 rfl rfl hin (fun _ => ⟨rfl, rfl⟩) (zw_dg dk_Text_init 5 rfl) ?_
  refine r_aload_n X (pc := 12) (i := 0) (zw_dg dk_Text_init 6 rfl) rfl rfl ?_
  refine r_bipush X (pc := 13) (v := 60) (zw_dg dk_Text_init 7 rfl) (by decide) ?_
  refine r_newa2 X (pc := 15) (sh2 := SH.take 43) (k := 42) (t := 0) (N := 60) (fty := .int) (k1 := 2) (k2 := 140) rfl (fun _ h => h) rfl kw_166 zw_hac0 (by decide) (by decide) (by decide) (show s.heap.size + 1 = g.2.2.1 + (SH.take 42).length from by show _ = g.2.2.1 + 42; omega) rfl rfl (Nat.le_of_ble_eq_true rfl) (Nat.le_of_ble_eq_true rfl) (zw_dg dk_Text_init 8 rfl) rfl rfl (fun X => ?_)
  refine r_putR X (pc := 17) (r := 42) ci_Text (show (SH.take 43)[40]? = _ from rfl) rfl lkf_Text_15 rfl rfl hin (fun _ => ⟨rfl, rfl⟩) (zw_dg dk_Text_init 9 rfl) ?_
  refine r_aload_n X (pc := 20) (i := 0) (zw_dg dk_Text_init 10 rfl) rfl rfl ?_
  refine r_bipush X (pc := 21) (v := 60) (zw_dg dk_Text_init 11 rfl) (by decide) ?_
  refine r_newa2 X (pc := 23) (sh2 := SH.take 44) (k := 43) (t := 0) (N := 60) (fty := .int) (k1 := 3) (k2 := 200) rfl (fun _ h => h) rfl kw_166 zw_hac0 (by decide) (by decide) (by decide) (show s.heap.size + 2 = g.2.2.1 + (SH.take 43).length from by show _ = g.2.2.1 + 43; omega) rfl rfl (Nat.le_of_ble_eq_true rfl) (Nat.le_of_ble_eq_true rfl) (zw_dg dk_Text_init 12 rfl) rfl rfl (fun X => ?_)
  refine r_putR X (pc := 25) (r := 43) ci_Text (show (SH.take 44)[40]? = _ from rfl) rfl lkf_Text_18 rfl rfl hin (fun _ => ⟨rfl, rfl⟩) (zw_dg dk_Text_init 13 rfl) ?_
  refine r_aload_n X (pc := 28) (i := 0) (zw_dg dk_Text_init 14 rfl) rfl rfl ?_
  refine r_bipush X (pc := 29) (v := 6) (zw_dg dk_Text_init 15 rfl) (by decide) ?_
  refine r_newa2 X (pc := 31) (sh2 := SH.take 45) (k := 44) (t := 3) (N := 6) (fty := .boolean) (k1 := 4) (k2 := 206) rfl (fun _ h => h) rfl kw_304 zw_hac3 (by decide) (by decide) (by decide) (show s.heap.size + 3 = g.2.2.1 + (SH.take 44).length from by show _ = g.2.2.1 + 44; omega) rfl rfl (Nat.le_of_ble_eq_true rfl) (Nat.le_of_ble_eq_true rfl) (zw_dg dk_Text_init 16 rfl) rfl rfl (fun X => ?_)
  refine r_putR X (pc := 33) (r := 44) ci_Text (show (SH.take 45)[40]? = _ from rfl) rfl lkf_Text_21 rfl rfl hin (fun _ => ⟨rfl, rfl⟩) (zw_dg dk_Text_init 17 rfl) ?_
  exact r_vretC X (pc := 36) rfl (Nat.le_refl _) (Nat.le_refl _) (zw_dg dk_Text_init 18 rfl)
set_option maxRecDepth 100000 in
theorem km_Pays_init_45 {l : Launch} {g : zw_G} {c : zw_Ct} : zw_MetC l g y_Pays_init b_Pays_init 3 1 15 7609 rr_45 (SH.take 46) [.ref 45, .ref 1, .ref 3] c rr_62 (SH.take 61) (zw_z (zw_z (zw_z (zw_z (zw_z (zw_z (zw_z (zw_z (zw_z (zw_z (zw_z (zw_z (zw_z (zw_z (zw_z c 46) 47) 48) 49) 50) 51) 52) 53) 54) 55) 56) 57) 58) 59) 60) := by
  refine zw_MetC.of (by decide +kernel) rfl (Nat.le_of_ble_eq_true rfl) (fun p e s m args below meth cd X hin hz => ?_)
  have hz0 : s.heap.size = g.2.2.1 + 46 := hz
  clear hz
  refine zw_eL (L2 := [some (.ref 45), some (.ref 1), some (.ref 3)]) rfl ?_
  refine r_aload_n X (pc := 0) (i := 0) (zw_dg dk_Pays_init 0 rfl) rfl rfl ?_
  refine r_objI X (pc := 1) kw_310 zw_obi zw_obc ⟨Nat.le_of_ble_eq_true rfl, Nat.le_of_ble_eq_true rfl⟩ (Nat.le_of_ble_eq_true rfl) (zw_dg dk_Pays_init 1 rfl) ?_
  refine r_aload_n X (pc := 4) (i := 0) (zw_dg dk_Pays_init 2 rfl) rfl rfl ?_
  refine r_iconst X (pc := 5) (v := 4) (zw_dg dk_Pays_init 3 rfl) (by decide) ?_
  refine r_newa2 X (pc := 6) (sh2 := SH.take 47) (k := 46) (t := 0) (N := 4) (fty := .int) (k1 := 1) (k2 := 4) rfl (fun _ h => h) rfl kw_166 zw_hac0 (by decide) (by decide) (by decide) (show s.heap.size + 0 = g.2.2.1 + (SH.take 46).length from by show _ = g.2.2.1 + 46; omega) rfl rfl (Nat.le_of_ble_eq_true rfl) (Nat.le_of_ble_eq_true rfl) (zw_dg dk_Pays_init 4 rfl) rfl rfl (fun X => ?_)
  refine r_putR X (pc := 8) (r := 46) ci_Pays (show (SH.take 47)[45]? = _ from rfl) rfl lkf_Pays_9 rfl rfl hin (fun _ => ⟨rfl, rfl⟩) (zw_dg dk_Pays_init 5 rfl) ?_
  refine r_aload_n X (pc := 11) (i := 0) (zw_dg dk_Pays_init 6 rfl) rfl rfl ?_
  refine r_iconst X (pc := 12) (v := 4) (zw_dg dk_Pays_init 7 rfl) (by decide) ?_
  refine r_bipush X (pc := 13) (v := 60) (zw_dg dk_Pays_init 8 rfl) (by decide) ?_
  refine r_multi X (pc := 15) (sh2 := SH.take 52) (k := 47) (t := 4) (it := 0) (M := 60) (fty := .int) (k1 := 6) (k2 := 248) kw_311 kw_312 kw_166 (by decide +kernel) rfl rfl rfl (fun _ h => h) (fun _ _ _ _ _ => rfl) zw_hac0 (by decide) (by decide) (by decide) (by decide) rfl (show s.heap.size + 1 = g.2.2.1 + (SH.take 47).length from by show _ = g.2.2.1 + 47; omega) rfl rfl (Nat.le_of_ble_eq_true rfl) (Nat.le_of_ble_eq_true rfl) (zw_dg dk_Pays_init 9 rfl) rfl rfl (fun X => ?_)
  refine r_putR X (pc := 19) (r := 47) ci_Pays (show (SH.take 52)[45]? = _ from rfl) rfl lkf_Pays_19 rfl rfl hin (fun _ => ⟨rfl, rfl⟩) (zw_dg dk_Pays_init 10 rfl) ?_
  refine r_aload_n X (pc := 22) (i := 0) (zw_dg dk_Pays_init 11 rfl) rfl rfl ?_
  refine r_iconst X (pc := 23) (v := 4) (zw_dg dk_Pays_init 12 rfl) (by decide) ?_
  refine r_newa2 X (pc := 24) (sh2 := SH.take 53) (k := 52) (t := 0) (N := 4) (fty := .int) (k1 := 7) (k2 := 252) rfl (fun _ h => h) rfl kw_166 zw_hac0 (by decide) (by decide) (by decide) (show s.heap.size + 6 = g.2.2.1 + (SH.take 52).length from by show _ = g.2.2.1 + 52; omega) rfl rfl (Nat.le_of_ble_eq_true rfl) (Nat.le_of_ble_eq_true rfl) (zw_dg dk_Pays_init 13 rfl) rfl rfl (fun X => ?_)
  refine r_putR X (pc := 26) (r := 52) ci_Pays (show (SH.take 53)[45]? = _ from rfl) rfl lkf_Pays_22 rfl rfl hin (fun _ => ⟨rfl, rfl⟩) (zw_dg dk_Pays_init 14 rfl) ?_
  refine r_aload_n X (pc := 29) (i := 0) (zw_dg dk_Pays_init 15 rfl) rfl rfl ?_
  refine r_iconst X (pc := 30) (v := 4) (zw_dg dk_Pays_init 16 rfl) (by decide) ?_
  refine r_sipush X (pc := 31) (v := 1820) (zw_dg dk_Pays_init 17 rfl) (by decide) ?_
  refine r_multi X (pc := 34) (sh2 := SH.take 58) (k := 53) (t := 4) (it := 0) (M := 1820) (fty := .int) (k1 := 12) (k2 := 7536) kw_311 kw_312 kw_166 (by decide +kernel) rfl rfl rfl (fun _ h => h) (fun _ _ _ _ _ => rfl) zw_hac0 (by decide) (by decide) (by decide) (by decide) rfl (show s.heap.size + 7 = g.2.2.1 + (SH.take 53).length from by show _ = g.2.2.1 + 53; omega) rfl rfl (Nat.le_of_ble_eq_true rfl) (Nat.le_of_ble_eq_true rfl) (zw_dg dk_Pays_init 18 rfl) rfl rfl (fun X => ?_)
  refine r_putR X (pc := 38) (r := 53) ci_Pays (show (SH.take 58)[45]? = _ from rfl) rfl lkf_Pays_25 rfl rfl hin (fun _ => ⟨rfl, rfl⟩) (zw_dg dk_Pays_init 19 rfl) ?_
  refine r_aload_n X (pc := 41) (i := 0) (zw_dg dk_Pays_init 20 rfl) rfl rfl ?_
  refine r_iconst X (pc := 42) (v := 4) (zw_dg dk_Pays_init 21 rfl) (by decide) ?_
  refine r_newa2 X (pc := 43) (sh2 := SH.take 59) (k := 58) (t := 3) (N := 4) (fty := .boolean) (k1 := 13) (k2 := 7540) rfl (fun _ h => h) rfl kw_304 zw_hac3 (by decide) (by decide) (by decide) (show s.heap.size + 12 = g.2.2.1 + (SH.take 58).length from by show _ = g.2.2.1 + 58; omega) rfl rfl (Nat.le_of_ble_eq_true rfl) (Nat.le_of_ble_eq_true rfl) (zw_dg dk_Pays_init 22 rfl) rfl rfl (fun X => ?_)
  refine r_putR X (pc := 45) (r := 58) ci_Pays (show (SH.take 59)[45]? = _ from rfl) rfl lkf_Pays_28 rfl rfl hin (fun _ => ⟨rfl, rfl⟩) (zw_dg dk_Pays_init 23 rfl) ?_
  refine r_aload_n X (pc := 48) (i := 0) (zw_dg dk_Pays_init 24 rfl) rfl rfl ?_
  refine r_bipush X (pc := 49) (v := 9) (zw_dg dk_Pays_init 25 rfl) (by decide) ?_
  refine r_newa2 X (pc := 51) (sh2 := SH.take 60) (k := 59) (t := 0) (N := 9) (fty := .int) (k1 := 14) (k2 := 7549) rfl (fun _ h => h) rfl kw_166 zw_hac0 (by decide) (by decide) (by decide) (show s.heap.size + 13 = g.2.2.1 + (SH.take 59).length from by show _ = g.2.2.1 + 59; omega) rfl rfl (Nat.le_of_ble_eq_true rfl) (Nat.le_of_ble_eq_true rfl) (zw_dg dk_Pays_init 26 rfl) rfl rfl (fun X => ?_)
  refine r_putR X (pc := 53) (r := 59) ci_Pays (show (SH.take 60)[45]? = _ from rfl) rfl lkf_Pays_32 rfl rfl hin (fun _ => ⟨rfl, rfl⟩) (zw_dg dk_Pays_init 27 rfl) ?_
  refine r_aload_n X (pc := 56) (i := 0) (zw_dg dk_Pays_init 28 rfl) rfl rfl ?_
  refine r_bipush X (pc := 57) (v := 60) (zw_dg dk_Pays_init 29 rfl) (by decide) ?_
  refine r_newa2 X (pc := 59) (sh2 := SH.take 61) (k := 60) (t := 0) (N := 60) (fty := .int) (k1 := 15) (k2 := 7609) rfl (fun _ h => h) rfl kw_166 zw_hac0 (by decide) (by decide) (by decide) (show s.heap.size + 14 = g.2.2.1 + (SH.take 60).length from by show _ = g.2.2.1 + 60; omega) rfl rfl (Nat.le_of_ble_eq_true rfl) (Nat.le_of_ble_eq_true rfl) (zw_dg dk_Pays_init 30 rfl) rfl rfl (fun X => ?_)
  refine r_putR X (pc := 61) (r := 60) ci_Pays (show (SH.take 61)[45]? = _ from rfl) rfl lkf_Pays_35 rfl rfl hin (fun _ => ⟨rfl, rfl⟩) (zw_dg dk_Pays_init 31 rfl) ?_
  refine r_aload_n X (pc := 64) (i := 0) (zw_dg dk_Pays_init 32 rfl) rfl rfl ?_
  refine r_aload_n X (pc := 65) (i := 1) (zw_dg dk_Pays_init 33 rfl) rfl rfl ?_
  refine r_putR X (pc := 66) (r := 1) ci_Pays (show (SH.take 61)[45]? = _ from rfl) rfl lkf_Pays_38 rfl rfl hin (fun _ => ⟨rfl, rfl⟩) (zw_dg dk_Pays_init 34 rfl) ?_
  refine r_aload_n X (pc := 69) (i := 0) (zw_dg dk_Pays_init 35 rfl) rfl rfl ?_
  refine r_aload_n X (pc := 70) (i := 2) (zw_dg dk_Pays_init 36 rfl) rfl rfl ?_
  refine r_putR X (pc := 71) (r := 3) ci_Pays (show (SH.take 61)[45]? = _ from rfl) rfl lkf_Pays_42 rfl rfl hin (fun _ => ⟨rfl, rfl⟩) (zw_dg dk_Pays_init 37 rfl) ?_
  exact r_vretC X (pc := 74) rfl (Nat.le_refl _) (Nat.le_refl _) (zw_dg dk_Pays_init 38 rfl)
set_option maxRecDepth 100000 in
theorem km_Row_init_61 {l : Launch} {g : zw_G} {c : zw_Ct} : zw_MetC l g y_Row_init b_Row_init 1 1 1 16 rr_63 (SH.take 62) [.ref 61] c rr_64 (SH.take 63) (zw_z c 62) := by
  refine zw_MetC.of (by decide +kernel) rfl (Nat.le_of_ble_eq_true rfl) (fun p e s m args below meth cd X hin hz => ?_)
  have hz0 : s.heap.size = g.2.2.1 + 62 := hz
  clear hz
  refine zw_eL (L2 := [some (.ref 61)]) rfl ?_
  refine r_aload_n X (pc := 0) (i := 0) (zw_dg dk_Row_init 0 rfl) rfl rfl ?_
  refine r_objI X (pc := 1) kw_346 zw_obi zw_obc ⟨Nat.le_of_ble_eq_true rfl, Nat.le_of_ble_eq_true rfl⟩ (Nat.le_of_ble_eq_true rfl) (zw_dg dk_Row_init 1 rfl) ?_
  refine r_aload_n X (pc := 4) (i := 0) (zw_dg dk_Row_init 2 rfl) rfl rfl ?_
  refine r_bipush X (pc := 5) (v := 16) (zw_dg dk_Row_init 3 rfl) (by decide) ?_
  refine r_newa2 X (pc := 7) (sh2 := SH.take 63) (k := 62) (t := 1) (N := 16) (fty := .long) (k1 := 1) (k2 := 16) rfl (fun _ h => h) rfl kw_249 zw_hac1 (by decide) (by decide) (by decide) (show s.heap.size + 0 = g.2.2.1 + (SH.take 62).length from by show _ = g.2.2.1 + 62; omega) rfl rfl (Nat.le_of_ble_eq_true rfl) (Nat.le_of_ble_eq_true rfl) (zw_dg dk_Row_init 4 rfl) rfl rfl (fun X => ?_)
  refine r_putR X (pc := 9) (r := 62) ci_Row (show (SH.take 63)[61]? = _ from rfl) rfl lkf_Row_9 rfl rfl hin (fun _ => ⟨rfl, rfl⟩) (zw_dg dk_Row_init 5 rfl) ?_
  exact r_vretC X (pc := 12) rfl (Nat.le_refl _) (Nat.le_refl _) (zw_dg dk_Row_init 6 rfl)
set_option maxRecDepth 100000 in
theorem km_Lures_init_63 {l : Launch} {g : zw_G} {c : zw_Ct} : zw_MetC l g y_Lures_init b_Lures_init 4 1 1 4 rr_66 (SH.take 64) [.ref 63, .ref 1, .ref 11, .ref 13] c rr_70 (SH.take 65) (zw_z c 64) := by
  refine zw_MetC.of (by decide +kernel) rfl (Nat.le_of_ble_eq_true rfl) (fun p e s m args below meth cd X hin hz => ?_)
  have hz0 : s.heap.size = g.2.2.1 + 64 := hz
  clear hz
  refine zw_eL (L2 := [some (.ref 63), some (.ref 1), some (.ref 11), some (.ref 13)]) rfl ?_
  refine r_aload_n X (pc := 0) (i := 0) (zw_dg dk_Lures_init 0 rfl) rfl rfl ?_
  refine r_objI X (pc := 1) kw_362 zw_obi zw_obc ⟨Nat.le_of_ble_eq_true rfl, Nat.le_of_ble_eq_true rfl⟩ (Nat.le_of_ble_eq_true rfl) (zw_dg dk_Lures_init 1 rfl) ?_
  refine r_aload_n X (pc := 4) (i := 0) (zw_dg dk_Lures_init 2 rfl) rfl rfl ?_
  refine r_iconst X (pc := 5) (v := 4) (zw_dg dk_Lures_init 3 rfl) (by decide) ?_
  refine r_newa2 X (pc := 6) (sh2 := SH.take 65) (k := 64) (t := 0) (N := 4) (fty := .int) (k1 := 1) (k2 := 4) rfl (fun _ h => h) rfl kw_166 zw_hac0 (by decide) (by decide) (by decide) (show s.heap.size + 0 = g.2.2.1 + (SH.take 64).length from by show _ = g.2.2.1 + 64; omega) rfl rfl (Nat.le_of_ble_eq_true rfl) (Nat.le_of_ble_eq_true rfl) (zw_dg dk_Lures_init 4 rfl) rfl rfl (fun X => ?_)
  refine r_putR X (pc := 8) (r := 64) ci_Lures (show (SH.take 65)[63]? = _ from rfl) rfl lkf_Lures_9 rfl rfl hin (fun _ => ⟨rfl, rfl⟩) (zw_dg dk_Lures_init 5 rfl) ?_
  refine r_aload_n X (pc := 11) (i := 0) (zw_dg dk_Lures_init 6 rfl) rfl rfl ?_
  refine r_aload_n X (pc := 12) (i := 1) (zw_dg dk_Lures_init 7 rfl) rfl rfl ?_
  refine r_putR X (pc := 13) (r := 1) ci_Lures (show (SH.take 65)[63]? = _ from rfl) rfl lkf_Lures_15 rfl rfl hin (fun _ => ⟨rfl, rfl⟩) (zw_dg dk_Lures_init 8 rfl) ?_
  refine r_aload_n X (pc := 16) (i := 0) (zw_dg dk_Lures_init 9 rfl) rfl rfl ?_
  refine r_aload_n X (pc := 17) (i := 2) (zw_dg dk_Lures_init 10 rfl) rfl rfl ?_
  refine r_putR X (pc := 18) (r := 11) ci_Lures (show (SH.take 65)[63]? = _ from rfl) rfl lkf_Lures_19 rfl rfl hin (fun _ => ⟨rfl, rfl⟩) (zw_dg dk_Lures_init 11 rfl) ?_
  refine r_aload_n X (pc := 21) (i := 0) (zw_dg dk_Lures_init 12 rfl) rfl rfl ?_
  refine r_aload_n X (pc := 22) (i := 3) (zw_dg dk_Lures_init 13 rfl) rfl rfl ?_
  refine r_putR X (pc := 23) (r := 13) ci_Lures (show (SH.take 65)[63]? = _ from rfl) rfl lkf_Lures_23 rfl rfl hin (fun _ => ⟨rfl, rfl⟩) (zw_dg dk_Lures_init 14 rfl) ?_
  exact r_vretC X (pc := 26) rfl (Nat.le_refl _) (Nat.le_refl _) (zw_dg dk_Lures_init 15 rfl)
set_option maxRecDepth 100000 in
theorem km_Contest_init_65 {l : Launch} {g : zw_G} {c : zw_Ct} : zw_MetC l g y_Contest_init b_Contest_init 3 1 2 10 rr_71 (SH.take 66) [.ref 65, .ref 1, .ref 3] c rr_75 (SH.take 68) (zw_z (zw_z c 66) 67) := by
  refine zw_MetC.of (by decide +kernel) rfl (Nat.le_of_ble_eq_true rfl) (fun p e s m args below meth cd X hin hz => ?_)
  have hz0 : s.heap.size = g.2.2.1 + 66 := hz
  clear hz
  refine zw_eL (L2 := [some (.ref 65), some (.ref 1), some (.ref 3)]) rfl ?_
  refine r_aload_n X (pc := 0) (i := 0) (zw_dg dk_Contest_init 0 rfl) rfl rfl ?_
  refine r_objI X (pc := 1) kw_390 zw_obi zw_obc ⟨Nat.le_of_ble_eq_true rfl, Nat.le_of_ble_eq_true rfl⟩ (Nat.le_of_ble_eq_true rfl) (zw_dg dk_Contest_init 1 rfl) ?_
  refine r_aload_n X (pc := 4) (i := 0) (zw_dg dk_Contest_init 2 rfl) rfl rfl ?_
  refine r_bipush X (pc := 5) (v := 6) (zw_dg dk_Contest_init 3 rfl) (by decide) ?_
  refine r_newa2 X (pc := 7) (sh2 := SH.take 67) (k := 66) (t := 0) (N := 6) (fty := .int) (k1 := 1) (k2 := 6) rfl (fun _ h => h) rfl kw_166 zw_hac0 (by decide) (by decide) (by decide) (show s.heap.size + 0 = g.2.2.1 + (SH.take 66).length from by show _ = g.2.2.1 + 66; omega) rfl rfl (Nat.le_of_ble_eq_true rfl) (Nat.le_of_ble_eq_true rfl) (zw_dg dk_Contest_init 4 rfl) rfl rfl (fun X => ?_)
  refine r_putR X (pc := 9) (r := 66) ci_Contest (show (SH.take 67)[65]? = _ from rfl) rfl lkf_Contest_9 rfl rfl hin (fun _ => ⟨rfl, rfl⟩) (zw_dg dk_Contest_init 5 rfl) ?_
  refine r_aload_n X (pc := 12) (i := 0) (zw_dg dk_Contest_init 6 rfl) rfl rfl ?_
  refine r_iconst X (pc := 13) (v := 4) (zw_dg dk_Contest_init 7 rfl) (by decide) ?_
  refine r_newa2 X (pc := 14) (sh2 := SH.take 68) (k := 67) (t := 0) (N := 4) (fty := .int) (k1 := 2) (k2 := 10) rfl (fun _ h => h) rfl kw_166 zw_hac0 (by decide) (by decide) (by decide) (show s.heap.size + 1 = g.2.2.1 + (SH.take 67).length from by show _ = g.2.2.1 + 67; omega) rfl rfl (Nat.le_of_ble_eq_true rfl) (Nat.le_of_ble_eq_true rfl) (zw_dg dk_Contest_init 8 rfl) rfl rfl (fun X => ?_)
  refine r_putR X (pc := 16) (r := 67) ci_Contest (show (SH.take 68)[65]? = _ from rfl) rfl lkf_Contest_15 rfl rfl hin (fun _ => ⟨rfl, rfl⟩) (zw_dg dk_Contest_init 9 rfl) ?_
  refine r_aload_n X (pc := 19) (i := 0) (zw_dg dk_Contest_init 10 rfl) rfl rfl ?_
  refine r_aload_n X (pc := 20) (i := 1) (zw_dg dk_Contest_init 11 rfl) rfl rfl ?_
  refine r_putR X (pc := 21) (r := 1) ci_Contest (show (SH.take 68)[65]? = _ from rfl) rfl lkf_Contest_18 rfl rfl hin (fun _ => ⟨rfl, rfl⟩) (zw_dg dk_Contest_init 12 rfl) ?_
  refine r_aload_n X (pc := 24) (i := 0) (zw_dg dk_Contest_init 13 rfl) rfl rfl ?_
  refine r_aload_n X (pc := 25) (i := 2) (zw_dg dk_Contest_init 14 rfl) rfl rfl ?_
  refine r_putR X (pc := 26) (r := 3) ci_Contest (show (SH.take 68)[65]? = _ from rfl) rfl lkf_Contest_22 rfl rfl hin (fun _ => ⟨rfl, rfl⟩) (zw_dg dk_Contest_init 15 rfl) ?_
  exact r_vretC X (pc := 29) rfl (Nat.le_refl _) (Nat.le_refl _) (zw_dg dk_Contest_init 16 rfl)
set_option maxRecDepth 100000 in
theorem km_Chooser_init_68 {l : Launch} {g : zw_G} {c : zw_Ct} : zw_MetC l g y_Chooser_init b_Chooser_init 4 1 0 0 rr_76 (SH.take 69) [.ref 68, .ref 1, .ref 11, .ref 13] c rr_79 (SH.take 69) c := by
  refine zw_MetC.of (by decide +kernel) rfl (Nat.le_of_ble_eq_true rfl) (fun p e s m args below meth cd X hin hz => ?_)
  have hz0 : s.heap.size = g.2.2.1 + 69 := hz
  clear hz
  refine zw_eL (L2 := [some (.ref 68), some (.ref 1), some (.ref 11), some (.ref 13)]) rfl ?_
  refine r_aload_n X (pc := 0) (i := 0) (zw_dg dk_Chooser_init 0 rfl) rfl rfl ?_
  refine r_objI X (pc := 1) kw_409 zw_obi zw_obc ⟨Nat.le_of_ble_eq_true rfl, Nat.le_of_ble_eq_true rfl⟩ (Nat.le_of_ble_eq_true rfl) (zw_dg dk_Chooser_init 1 rfl) ?_
  refine r_aload_n X (pc := 4) (i := 0) (zw_dg dk_Chooser_init 2 rfl) rfl rfl ?_
  refine r_aload_n X (pc := 5) (i := 1) (zw_dg dk_Chooser_init 3 rfl) rfl rfl ?_
  refine r_putR X (pc := 6) (r := 1) ci_Chooser (show (SH.take 69)[68]? = _ from rfl) rfl lkf_Chooser_9 rfl rfl hin (fun _ => ⟨rfl, rfl⟩) (zw_dg dk_Chooser_init 4 rfl) ?_
  refine r_aload_n X (pc := 9) (i := 0) (zw_dg dk_Chooser_init 5 rfl) rfl rfl ?_
  refine r_aload_n X (pc := 10) (i := 2) (zw_dg dk_Chooser_init 6 rfl) rfl rfl ?_
  refine r_putR X (pc := 11) (r := 11) ci_Chooser (show (SH.take 69)[68]? = _ from rfl) rfl lkf_Chooser_15 rfl rfl hin (fun _ => ⟨rfl, rfl⟩) (zw_dg dk_Chooser_init 7 rfl) ?_
  refine r_aload_n X (pc := 14) (i := 0) (zw_dg dk_Chooser_init 8 rfl) rfl rfl ?_
  refine r_aload_n X (pc := 15) (i := 3) (zw_dg dk_Chooser_init 9 rfl) rfl rfl ?_
  refine r_putR X (pc := 16) (r := 13) ci_Chooser (show (SH.take 69)[68]? = _ from rfl) rfl lkf_Chooser_19 rfl rfl hin (fun _ => ⟨rfl, rfl⟩) (zw_dg dk_Chooser_init 10 rfl) ?_
  exact r_vretC X (pc := 19) rfl (Nat.le_refl _) (Nat.le_refl _) (zw_dg dk_Chooser_init 11 rfl)
set_option maxRecDepth 100000 in
theorem km_Ledger_init_69 {l : Launch} {g : zw_G} {c : zw_Ct} : zw_MetC l g y_Ledger_init b_Ledger_init 5 1 1 4 rr_80 (SH.take 70) [.ref 69, .ref 1, .ref 3, .ref 11, .ref 13] c rr_85 (SH.take 71) (zw_z c 70) := by
  refine zw_MetC.of (by decide +kernel) rfl (Nat.le_of_ble_eq_true rfl) (fun p e s m args below meth cd X hin hz => ?_)
  have hz0 : s.heap.size = g.2.2.1 + 70 := hz
  clear hz
  refine zw_eL (L2 := [some (.ref 69), some (.ref 1), some (.ref 3), some (.ref 11), some (.ref 13)]) rfl ?_
  refine r_aload_n X (pc := 0) (i := 0) (zw_dg dk_Ledger_init 0 rfl) rfl rfl ?_
  refine r_objI X (pc := 1) kw_434 zw_obi zw_obc ⟨Nat.le_of_ble_eq_true rfl, Nat.le_of_ble_eq_true rfl⟩ (Nat.le_of_ble_eq_true rfl) (zw_dg dk_Ledger_init 1 rfl) ?_
  refine r_aload_n X (pc := 4) (i := 0) (zw_dg dk_Ledger_init 2 rfl) rfl rfl ?_
  refine r_iconst X (pc := 5) (v := 4) (zw_dg dk_Ledger_init 3 rfl) (by decide) ?_
  refine r_newa2 X (pc := 6) (sh2 := SH.take 71) (k := 70) (t := 0) (N := 4) (fty := .int) (k1 := 1) (k2 := 4) rfl (fun _ h => h) rfl kw_166 zw_hac0 (by decide) (by decide) (by decide) (show s.heap.size + 0 = g.2.2.1 + (SH.take 70).length from by show _ = g.2.2.1 + 70; omega) rfl rfl (Nat.le_of_ble_eq_true rfl) (Nat.le_of_ble_eq_true rfl) (zw_dg dk_Ledger_init 4 rfl) rfl rfl (fun X => ?_)
  refine r_putR X (pc := 8) (r := 70) ci_Ledger (show (SH.take 71)[69]? = _ from rfl) rfl lkf_Ledger_9 rfl rfl hin (fun _ => ⟨rfl, rfl⟩) (zw_dg dk_Ledger_init 5 rfl) ?_
  refine r_aload_n X (pc := 11) (i := 0) (zw_dg dk_Ledger_init 6 rfl) rfl rfl ?_
  refine r_aload_n X (pc := 12) (i := 1) (zw_dg dk_Ledger_init 7 rfl) rfl rfl ?_
  refine r_putR X (pc := 13) (r := 1) ci_Ledger (show (SH.take 71)[69]? = _ from rfl) rfl lkf_Ledger_15 rfl rfl hin (fun _ => ⟨rfl, rfl⟩) (zw_dg dk_Ledger_init 8 rfl) ?_
  refine r_aload_n X (pc := 16) (i := 0) (zw_dg dk_Ledger_init 9 rfl) rfl rfl ?_
  refine r_aload_n X (pc := 17) (i := 2) (zw_dg dk_Ledger_init 10 rfl) rfl rfl ?_
  refine r_putR X (pc := 18) (r := 3) ci_Ledger (show (SH.take 71)[69]? = _ from rfl) rfl lkf_Ledger_19 rfl rfl hin (fun _ => ⟨rfl, rfl⟩) (zw_dg dk_Ledger_init 11 rfl) ?_
  refine r_aload_n X (pc := 21) (i := 0) (zw_dg dk_Ledger_init 12 rfl) rfl rfl ?_
  refine r_aload_n X (pc := 22) (i := 3) (zw_dg dk_Ledger_init 13 rfl) rfl rfl ?_
  refine r_putR X (pc := 23) (r := 11) ci_Ledger (show (SH.take 71)[69]? = _ from rfl) rfl lkf_Ledger_23 rfl rfl hin (fun _ => ⟨rfl, rfl⟩) (zw_dg dk_Ledger_init 14 rfl) ?_
  refine r_aload_n X (pc := 26) (i := 0) (zw_dg dk_Ledger_init 15 rfl) rfl rfl ?_
  refine r_aload X (pc := 27) (i := 4) (zw_dg dk_Ledger_init 16 rfl) rfl ?_
  refine r_putR X (pc := 29) (r := 13) ci_Ledger (show (SH.take 71)[69]? = _ from rfl) rfl lkf_Ledger_27 rfl rfl hin (fun _ => ⟨rfl, rfl⟩) (zw_dg dk_Ledger_init 17 rfl) ?_
  exact r_vretC X (pc := 32) rfl (Nat.le_refl _) (Nat.le_refl _) (zw_dg dk_Ledger_init 18 rfl)
set_option maxRecDepth 100000 in
theorem km_P_init_0 {l : Launch} {g : zw_G} {c : zw_Ct} {c1_1 : zw_Ct} {c3_2 : zw_Ct} {rc3_2 : Int32} {c15_3 : zw_Ct} {rc15_3 : Int32} {c23_4 : zw_Ct} {rc23_4 : Int32} {c31_5 : zw_Ct} {rc31_5 : Int32} (hc1_1 : fn_Sayings_lay (zw_z (zw_z c 1) 2) 2 4 = some c1_1) (hc3_2 : fn_Held_readSheet 3 (zw_z (zw_z (zw_z (zw_z (zw_z (zw_z (zw_z (zw_z c1_1 3) 4) 5) 6) 7) 8) 9) 10) 0 0 0 0 = some (rc3_2, c3_2)) (hc15_3 : fn_Held_readSheet 15 (zw_z (zw_z (zw_z (zw_z (zw_z (zw_z (zw_z (zw_z (zw_z (zw_z (zw_z (zw_z c3_2 11) 12) 13) 14) 15) 16) 17) 18) 19) 20) 21) 22) 0 0 0 0 = some (rc15_3, c15_3)) (hc23_4 : fn_Held_readSheet 23 (zw_z (zw_z (zw_z (zw_z (zw_z (zw_z (zw_z (zw_z c15_3 23) 24) 25) 26) 27) 28) 29) 30) 0 0 0 0 = some (rc23_4, c23_4)) (hc31_5 : fn_Held_readSheet 31 (zw_z (zw_z (zw_z (zw_z (zw_z (zw_z (zw_z (zw_z c23_4 31) 32) 33) 34) 35) 36) 37) 38) 0 0 0 0 = some (rc31_5, c31_5)) : zw_MetC l g y_P_init b_P_init 6 4 70 10825 rr_0 (SH.take 1) [.ref 0] c rr_86 (SH.take 71) (zw_z (zw_z (zw_z (zw_z (zw_z (zw_z (zw_z (zw_z (zw_z (zw_z (zw_z (zw_z (zw_z (zw_z (zw_z (zw_z (zw_z (zw_z (zw_z (zw_z (zw_z (zw_z (zw_z (zw_z (zw_z (zw_z (zw_z (zw_z (zw_z (zw_z (zw_z (zw_z c31_5 39) 40) 41) 42) 43) 44) 45) 46) 47) 48) 49) 50) 51) 52) 53) 54) 55) 56) 57) 58) 59) 60) 61) 62) 63) 64) 65) 66) 67) 68) 69) 70) := by
  refine zw_MetC.of (by decide +kernel) rfl (Nat.le_of_ble_eq_true rfl) (fun p e s m args below meth cd X hin hz => ?_)
  have hz0 : s.heap.size = g.2.2.1 + 1 := hz
  clear hz
  refine zw_eL (L2 := [some (.ref 0), none, none, none, none, none]) rfl ?_
  refine r_aload_n X (pc := 0) (i := 0) (zw_dg dk_P_init 0 rfl) rfl rfl ?_
  refine r_objI X (pc := 1) kw_115 zw_obi zw_obc ⟨Nat.le_of_ble_eq_true rfl, Nat.le_of_ble_eq_true rfl⟩ (Nat.le_of_ble_eq_true rfl) (zw_dg dk_P_init 1 rfl) ?_
  refine r_newo2 X (pc := 4) (sh2 := SH.take 2) (k := 1) (k1 := 1) (k2 := 4) ci_Sayings kw_118 kw_119 kw_86 (show s.heap.size + 0 = g.2.2.1 + (SH.take 1).length from by show _ = g.2.2.1 + 1; omega) rfl rfl (fun j hj => by rcases (show j = 0 ∨ j = 1 ∨ j = 2 ∨ j = 3 by omega) with rfl | rfl | rfl | rfl <;> rfl) (Nat.le_of_ble_eq_true rfl) (Nat.le_of_ble_eq_true rfl) (zw_dg dk_P_init 2 rfl) rfl rfl (fun X => ?_)
  refine r_dup X (pc := 7) (zw_dg dk_P_init 3 rfl) rfl ?_
  refine r_callI X (pc := 8) (As := []) (st := [.ref 1]) (km_Sayings_init_1 hc1_1) ce_Sayings_init kw_120 rfl ⟨Nat.le_of_ble_eq_true rfl, Nat.le_of_ble_eq_true rfl⟩ (Nat.le_of_ble_eq_true rfl) ⟨Nat.le_of_ble_eq_true rfl, Nat.le_of_ble_eq_true rfl⟩ (show s.heap.size + 1 = g.2.2.1 + (SH.take 2).length from by show _ = g.2.2.1 + 2; omega) (zw_dg dk_P_init 4 rfl) (fun X => ?_)
  refine r_astore_n X (pc := 11) (i := 1) (zw_dg dk_P_init 5 rfl) rfl (by decide) rfl ?_
  refine zw_eL (L2 := [some (.ref 0), some (.ref 1), none, none, none, none]) rfl ?_
  refine r_newo2 X (pc := 12) (sh2 := SH.take 4) (k := 3) (k1 := 3) (k2 := 1834) ci_Held kw_167 kw_168 kw_87 (show s.heap.size + 2 = g.2.2.1 + (SH.take 3).length from by show _ = g.2.2.1 + 3; omega) rfl rfl (fun j hj => by rcases (show j = 0 ∨ j = 1 ∨ j = 2 ∨ j = 3 ∨ j = 4 ∨ j = 5 ∨ j = 6 ∨ j = 7 ∨ j = 8 ∨ j = 9 by omega) with rfl | rfl | rfl | rfl | rfl | rfl | rfl | rfl | rfl | rfl <;> rfl) (Nat.le_of_ble_eq_true rfl) (Nat.le_of_ble_eq_true rfl) (zw_dg dk_P_init 6 rfl) rfl rfl (fun X => ?_)
  refine r_dup X (pc := 15) (zw_dg dk_P_init 7 rfl) rfl ?_
  refine r_callI X (pc := 16) (As := []) (st := [.ref 3]) (km_Held_init_3 hc3_2) ce_Held_init kw_169 rfl ⟨Nat.le_of_ble_eq_true rfl, Nat.le_of_ble_eq_true rfl⟩ (Nat.le_of_ble_eq_true rfl) ⟨Nat.le_of_ble_eq_true rfl, Nat.le_of_ble_eq_true rfl⟩ (show s.heap.size + 3 = g.2.2.1 + (SH.take 4).length from by show _ = g.2.2.1 + 4; omega) (zw_dg dk_P_init 8 rfl) (fun X => ?_)
  refine r_astore_n X (pc := 19) (i := 2) (zw_dg dk_P_init 9 rfl) rfl (by decide) rfl ?_
  refine zw_eL (L2 := [some (.ref 0), some (.ref 1), some (.ref 3), none, none, none]) rfl ?_
  refine r_newo2 X (pc := 20) (sh2 := SH.take 12) (k := 11) (k1 := 11) (k2 := 1987) ci_Tally kw_232 kw_233 kw_89 (show s.heap.size + 10 = g.2.2.1 + (SH.take 11).length from by show _ = g.2.2.1 + 11; omega) rfl rfl (fun j hj => by rcases (show j = 0 ∨ j = 1 by omega) with rfl | rfl <;> rfl) (Nat.le_of_ble_eq_true rfl) (Nat.le_of_ble_eq_true rfl) (zw_dg dk_P_init 10 rfl) rfl rfl (fun X => ?_)
  refine r_dup X (pc := 23) (zw_dg dk_P_init 11 rfl) rfl ?_
  refine r_aload_n X (pc := 24) (i := 1) (zw_dg dk_P_init 12 rfl) rfl rfl ?_
  refine r_callI X (pc := 25) (As := [.ref 1]) (st := [.ref 11]) (km_Tally_init_11) ce_Tally_init kw_234 rfl ⟨Nat.le_of_ble_eq_true rfl, Nat.le_of_ble_eq_true rfl⟩ (Nat.le_of_ble_eq_true rfl) ⟨Nat.le_of_ble_eq_true rfl, Nat.le_of_ble_eq_true rfl⟩ (show s.heap.size + 11 = g.2.2.1 + (SH.take 12).length from by show _ = g.2.2.1 + 12; omega) (zw_dg dk_P_init 13 rfl) (fun X => ?_)
  refine r_astore_n X (pc := 28) (i := 3) (zw_dg dk_P_init 14 rfl) rfl (by decide) rfl ?_
  refine zw_eL (L2 := [some (.ref 0), some (.ref 1), some (.ref 3), some (.ref 11), none, none]) rfl ?_
  refine r_newo2 X (pc := 29) (sh2 := SH.take 14) (k := 13) (k1 := 13) (k2 := 2444) ci_Judge kw_250 kw_251 kw_90 (show s.heap.size + 12 = g.2.2.1 + (SH.take 13).length from by show _ = g.2.2.1 + 13; omega) rfl rfl (fun j hj => by rcases (show j = 0 ∨ j = 1 by omega) with rfl | rfl <;> rfl) (Nat.le_of_ble_eq_true rfl) (Nat.le_of_ble_eq_true rfl) (zw_dg dk_P_init 15 rfl) rfl rfl (fun X => ?_)
  refine r_dup X (pc := 32) (zw_dg dk_P_init 16 rfl) rfl ?_
  refine r_aload_n X (pc := 33) (i := 1) (zw_dg dk_P_init 17 rfl) rfl rfl ?_
  refine r_aload_n X (pc := 34) (i := 3) (zw_dg dk_P_init 18 rfl) rfl rfl ?_
  refine r_callI X (pc := 35) (As := [.ref 1, .ref 11]) (st := [.ref 13]) (km_Judge_init_13) ce_Judge_init kw_252 rfl ⟨Nat.le_of_ble_eq_true rfl, Nat.le_of_ble_eq_true rfl⟩ (Nat.le_of_ble_eq_true rfl) ⟨Nat.le_of_ble_eq_true rfl, Nat.le_of_ble_eq_true rfl⟩ (show s.heap.size + 13 = g.2.2.1 + (SH.take 14).length from by show _ = g.2.2.1 + 14; omega) (zw_dg dk_P_init 19 rfl) (fun X => ?_)
  refine r_astore X (pc := 38) (i := 4) (zw_dg dk_P_init 20 rfl) (by decide) rfl ?_
  refine zw_eL (L2 := [some (.ref 0), some (.ref 1), some (.ref 3), some (.ref 11), some (.ref 13), none]) rfl ?_
  refine r_aload_n X (pc := 40) (i := 0) (zw_dg dk_P_init 21 rfl) rfl rfl ?_
  refine r_aload_n X (pc := 41) (i := 1) (zw_dg dk_P_init 22 rfl) rfl rfl ?_
  refine r_putR X (pc := 42) (r := 1) ci_P (show (SH.take 14)[0]? = _ from rfl) rfl lkf_P_25 rfl rfl hin (fun _ => ⟨rfl, rfl⟩) (zw_dg dk_P_init 23 rfl) ?_
  refine r_aload_n X (pc := 45) (i := 0) (zw_dg dk_P_init 24 rfl) rfl rfl ?_
  refine r_aload_n X (pc := 46) (i := 2) (zw_dg dk_P_init 25 rfl) rfl rfl ?_
  refine r_putR X (pc := 47) (r := 3) ci_P (show (SH.take 14)[0]? = _ from rfl) rfl lkf_P_29 rfl rfl hin (fun _ => ⟨rfl, rfl⟩) (zw_dg dk_P_init 26 rfl) ?_
  refine r_aload_n X (pc := 50) (i := 0) (zw_dg dk_P_init 27 rfl) rfl rfl ?_
  refine r_iconst X (pc := 51) (v := 3) (zw_dg dk_P_init 28 rfl) (by decide) ?_
  refine r_newq2 X (pc := 52) (sh2 := SH.take 15) (k := 14) (N := 3) (k1 := 14) (k2 := 2447) kw_167 kw_263 zw_rrn_14 (by decide) (by decide) (by decide) (show s.heap.size + 13 = g.2.2.1 + (SH.take 14).length from by show _ = g.2.2.1 + 14; omega) rfl rfl (Nat.le_of_ble_eq_true rfl) (Nat.le_of_ble_eq_true rfl) (zw_dg dk_P_init 29 rfl) rfl rfl (fun X => ?_)
  refine r_putR X (pc := 55) (r := 14) ci_P (show (SH.take 15)[0]? = _ from rfl) rfl lkf_P_33 rfl rfl hin (fun _ => ⟨rfl, rfl⟩) (zw_dg dk_P_init 30 rfl) ?_
  refine r_iconst X (pc := 58) (v := 0) (zw_dg dk_P_init 31 rfl) (by decide) ?_
  refine r_istore X (pc := 59) (i := 5) (zw_dg dk_P_init 32 rfl) (by decide) rfl ?_
  refine zw_eL (L2 := [some (.ref 0), some (.ref 1), some (.ref 3), some (.ref 11), some (.ref 13), some (.int 0)]) rfl ?_
  refine r_iload X (pc := 61) (i := 5) (zw_dg dk_P_init 33 rfl) rfl ?_
  refine r_iconst X (pc := 63) (v := 3) (zw_dg dk_P_init 34 rfl) (by decide) ?_
  refine r_icmp_ge X (pc := 64) (tgt := 87) (zw_dg dk_P_init 35 rfl) (by decide) (fun q => absurd q (by decide)) (fun q => ?_)
  refine r_aload_n X (pc := 67) (i := 0) (zw_dg dk_P_init 36 rfl) rfl rfl ?_
  refine r_getR X (pc := 68) (r := 14) ci_P (show (SH.take 15)[0]? = _ from rfl) rfl rfl lk_P_33 (zw_dg dk_P_init 37 rfl) ?_
  refine r_iload X (pc := 71) (i := 5) (zw_dg dk_P_init 38 rfl) rfl ?_
  refine r_newo2 X (pc := 73) (sh2 := SH.take 16) (k := 15) (k1 := 15) (k2 := 2457) ci_Held kw_167 kw_168 kw_87 (show s.heap.size + 14 = g.2.2.1 + (SH.take 15).length from by show _ = g.2.2.1 + 15; omega) rfl rfl (fun j hj => by rcases (show j = 0 ∨ j = 1 ∨ j = 2 ∨ j = 3 ∨ j = 4 ∨ j = 5 ∨ j = 6 ∨ j = 7 ∨ j = 8 ∨ j = 9 by omega) with rfl | rfl | rfl | rfl | rfl | rfl | rfl | rfl | rfl | rfl <;> rfl) (Nat.le_of_ble_eq_true rfl) (Nat.le_of_ble_eq_true rfl) (zw_dg dk_P_init 39 rfl) rfl rfl (fun X => ?_)
  refine r_dup X (pc := 76) (zw_dg dk_P_init 40 rfl) rfl ?_
  refine r_callI X (pc := 77) (As := []) (st := [.ref 15, .int 0, .ref 14]) (km_Held_init_15 hc15_3) ce_Held_init kw_169 rfl ⟨Nat.le_of_ble_eq_true rfl, Nat.le_of_ble_eq_true rfl⟩ (Nat.le_of_ble_eq_true rfl) ⟨Nat.le_of_ble_eq_true rfl, Nat.le_of_ble_eq_true rfl⟩ (show s.heap.size + 15 = g.2.2.1 + (SH.take 16).length from by show _ = g.2.2.1 + 16; omega) (zw_dg dk_P_init 41 rfl) (fun X => ?_)
  refine r_aastq X (pc := 80) (show (SH.take 23)[14]? = _ from rfl) (show (SH.take 23)[15]? = _ from rfl) (show ¬ ((0 : Int32) < 0 ∨ 3 ≤ (0 : Int32).toNatClampNeg) from by decide) (zw_dg dk_P_init 42 rfl) ?_
  refine r_iinc X (pc := 81) (i := 5) (k := 1) (zw_dg dk_P_init 43 rfl) rfl (by decide) (by decide) rfl ?_
  refine zw_eL (L2 := [some (.ref 0), some (.ref 1), some (.ref 3), some (.ref 11), some (.ref 13), some (.int 1)]) (by rfl) ?_
  refine r_goto X (pc := 84) (tgt := 61) (zw_dg dk_P_init 44 rfl) (by decide) ?_
  refine r_iload X (pc := 61) (i := 5) (zw_dg dk_P_init 33 rfl) rfl ?_
  refine r_iconst X (pc := 63) (v := 3) (zw_dg dk_P_init 34 rfl) (by decide) ?_
  refine r_icmp_ge X (pc := 64) (tgt := 87) (zw_dg dk_P_init 35 rfl) (by decide) (fun q => absurd q (by decide)) (fun q => ?_)
  refine r_aload_n X (pc := 67) (i := 0) (zw_dg dk_P_init 36 rfl) rfl rfl ?_
  refine r_getR X (pc := 68) (r := 14) ci_P (show (SH.take 23)[0]? = _ from rfl) rfl rfl lk_P_33 (zw_dg dk_P_init 37 rfl) ?_
  refine r_iload X (pc := 71) (i := 5) (zw_dg dk_P_init 38 rfl) rfl ?_
  refine r_newo2 X (pc := 73) (sh2 := SH.take 24) (k := 23) (k1 := 23) (k2 := 2618) ci_Held kw_167 kw_168 kw_87 (show s.heap.size + 22 = g.2.2.1 + (SH.take 23).length from by show _ = g.2.2.1 + 23; omega) rfl rfl (fun j hj => by rcases (show j = 0 ∨ j = 1 ∨ j = 2 ∨ j = 3 ∨ j = 4 ∨ j = 5 ∨ j = 6 ∨ j = 7 ∨ j = 8 ∨ j = 9 by omega) with rfl | rfl | rfl | rfl | rfl | rfl | rfl | rfl | rfl | rfl <;> rfl) (Nat.le_of_ble_eq_true rfl) (Nat.le_of_ble_eq_true rfl) (zw_dg dk_P_init 39 rfl) rfl rfl (fun X => ?_)
  refine r_dup X (pc := 76) (zw_dg dk_P_init 40 rfl) rfl ?_
  refine r_callI X (pc := 77) (As := []) (st := [.ref 23, .int 1, .ref 14]) (km_Held_init_23 hc23_4) ce_Held_init kw_169 rfl ⟨Nat.le_of_ble_eq_true rfl, Nat.le_of_ble_eq_true rfl⟩ (Nat.le_of_ble_eq_true rfl) ⟨Nat.le_of_ble_eq_true rfl, Nat.le_of_ble_eq_true rfl⟩ (show s.heap.size + 23 = g.2.2.1 + (SH.take 24).length from by show _ = g.2.2.1 + 24; omega) (zw_dg dk_P_init 41 rfl) (fun X => ?_)
  refine r_aastq X (pc := 80) (show (SH.take 31)[14]? = _ from rfl) (show (SH.take 31)[23]? = _ from rfl) (show ¬ ((1 : Int32) < 0 ∨ 3 ≤ (1 : Int32).toNatClampNeg) from by decide) (zw_dg dk_P_init 42 rfl) ?_
  refine r_iinc X (pc := 81) (i := 5) (k := 1) (zw_dg dk_P_init 43 rfl) rfl (by decide) (by decide) rfl ?_
  refine zw_eL (L2 := [some (.ref 0), some (.ref 1), some (.ref 3), some (.ref 11), some (.ref 13), some (.int 2)]) (by rfl) ?_
  refine r_goto X (pc := 84) (tgt := 61) (zw_dg dk_P_init 44 rfl) (by decide) ?_
  refine r_iload X (pc := 61) (i := 5) (zw_dg dk_P_init 33 rfl) rfl ?_
  refine r_iconst X (pc := 63) (v := 3) (zw_dg dk_P_init 34 rfl) (by decide) ?_
  refine r_icmp_ge X (pc := 64) (tgt := 87) (zw_dg dk_P_init 35 rfl) (by decide) (fun q => absurd q (by decide)) (fun q => ?_)
  refine r_aload_n X (pc := 67) (i := 0) (zw_dg dk_P_init 36 rfl) rfl rfl ?_
  refine r_getR X (pc := 68) (r := 14) ci_P (show (SH.take 31)[0]? = _ from rfl) rfl rfl lk_P_33 (zw_dg dk_P_init 37 rfl) ?_
  refine r_iload X (pc := 71) (i := 5) (zw_dg dk_P_init 38 rfl) rfl ?_
  refine r_newo2 X (pc := 73) (sh2 := SH.take 32) (k := 31) (k1 := 31) (k2 := 2779) ci_Held kw_167 kw_168 kw_87 (show s.heap.size + 30 = g.2.2.1 + (SH.take 31).length from by show _ = g.2.2.1 + 31; omega) rfl rfl (fun j hj => by rcases (show j = 0 ∨ j = 1 ∨ j = 2 ∨ j = 3 ∨ j = 4 ∨ j = 5 ∨ j = 6 ∨ j = 7 ∨ j = 8 ∨ j = 9 by omega) with rfl | rfl | rfl | rfl | rfl | rfl | rfl | rfl | rfl | rfl <;> rfl) (Nat.le_of_ble_eq_true rfl) (Nat.le_of_ble_eq_true rfl) (zw_dg dk_P_init 39 rfl) rfl rfl (fun X => ?_)
  refine r_dup X (pc := 76) (zw_dg dk_P_init 40 rfl) rfl ?_
  refine r_callI X (pc := 77) (As := []) (st := [.ref 31, .int 2, .ref 14]) (km_Held_init_31 hc31_5) ce_Held_init kw_169 rfl ⟨Nat.le_of_ble_eq_true rfl, Nat.le_of_ble_eq_true rfl⟩ (Nat.le_of_ble_eq_true rfl) ⟨Nat.le_of_ble_eq_true rfl, Nat.le_of_ble_eq_true rfl⟩ (show s.heap.size + 31 = g.2.2.1 + (SH.take 32).length from by show _ = g.2.2.1 + 32; omega) (zw_dg dk_P_init 41 rfl) (fun X => ?_)
  refine r_aastq X (pc := 80) (show (SH.take 39)[14]? = _ from rfl) (show (SH.take 39)[31]? = _ from rfl) (show ¬ ((2 : Int32) < 0 ∨ 3 ≤ (2 : Int32).toNatClampNeg) from by decide) (zw_dg dk_P_init 42 rfl) ?_
  refine r_iinc X (pc := 81) (i := 5) (k := 1) (zw_dg dk_P_init 43 rfl) rfl (by decide) (by decide) rfl ?_
  refine zw_eL (L2 := [some (.ref 0), some (.ref 1), some (.ref 3), some (.ref 11), some (.ref 13), some (.int 3)]) (by rfl) ?_
  refine r_goto X (pc := 84) (tgt := 61) (zw_dg dk_P_init 44 rfl) (by decide) ?_
  refine r_iload X (pc := 61) (i := 5) (zw_dg dk_P_init 33 rfl) rfl ?_
  refine r_iconst X (pc := 63) (v := 3) (zw_dg dk_P_init 34 rfl) (by decide) ?_
  refine r_icmp_ge X (pc := 64) (tgt := 87) (zw_dg dk_P_init 35 rfl) (by decide) (fun q => ?_) (fun q => absurd (show (3 : Int32) ≤ 3 from by decide) q)
  refine r_aload_n X (pc := 87) (i := 0) (zw_dg dk_P_init 45 rfl) rfl rfl ?_
  refine r_iconst X (pc := 88) (v := 3) (zw_dg dk_P_init 46 rfl) (by decide) ?_
  refine r_newa2 X (pc := 89) (sh2 := SH.take 40) (k := 39) (t := 3) (N := 3) (fty := .boolean) (k1 := 39) (k2 := 2933) rfl (fun _ h => h) rfl kw_304 zw_hac3 (by decide) (by decide) (by decide) (show s.heap.size + 38 = g.2.2.1 + (SH.take 39).length from by show _ = g.2.2.1 + 39; omega) rfl rfl (Nat.le_of_ble_eq_true rfl) (Nat.le_of_ble_eq_true rfl) (zw_dg dk_P_init 47 rfl) rfl rfl (fun X => ?_)
  refine r_putR X (pc := 91) (r := 39) ci_P (show (SH.take 40)[0]? = _ from rfl) rfl lkf_P_37 rfl rfl hin (fun _ => ⟨rfl, rfl⟩) (zw_dg dk_P_init 48 rfl) ?_
  refine r_aload_n X (pc := 94) (i := 0) (zw_dg dk_P_init 49 rfl) rfl rfl ?_
  refine r_newo2 X (pc := 95) (sh2 := SH.take 41) (k := 40) (k1 := 40) (k2 := 2943) ci_Text kw_264 kw_265 kw_91 (show s.heap.size + 39 = g.2.2.1 + (SH.take 40).length from by show _ = g.2.2.1 + 40; omega) rfl rfl (fun j hj => by rcases (show j = 0 ∨ j = 1 ∨ j = 2 ∨ j = 3 ∨ j = 4 ∨ j = 5 ∨ j = 6 ∨ j = 7 ∨ j = 8 ∨ j = 9 by omega) with rfl | rfl | rfl | rfl | rfl | rfl | rfl | rfl | rfl | rfl <;> rfl) (Nat.le_of_ble_eq_true rfl) (Nat.le_of_ble_eq_true rfl) (zw_dg dk_P_init 50 rfl) rfl rfl (fun X => ?_)
  refine r_dup X (pc := 98) (zw_dg dk_P_init 51 rfl) rfl ?_
  refine r_callIN X (pc := 99) (As := []) (st := [.ref 40, .ref 0]) (km_Text_init_40) ce_Text_init kw_266 rfl ⟨Nat.le_of_ble_eq_true rfl, Nat.le_of_ble_eq_true rfl⟩ (Nat.le_of_ble_eq_true rfl) ⟨Nat.le_of_ble_eq_true rfl, Nat.le_of_ble_eq_true rfl⟩ (show s.heap.size + 40 = g.2.2.1 + (SH.take 41).length from by show _ = g.2.2.1 + 41; omega) (zw_dg dk_P_init 52 rfl) (fun X => ?_)
  refine r_putR X (pc := 102) (r := 40) ci_P (show (SH.take 45)[0]? = _ from rfl) rfl lkf_P_44 rfl rfl hin (fun _ => ⟨rfl, rfl⟩) (zw_dg dk_P_init 53 rfl) ?_
  refine r_aload_n X (pc := 105) (i := 0) (zw_dg dk_P_init 54 rfl) rfl rfl ?_
  refine r_newo2 X (pc := 106) (sh2 := SH.take 46) (k := 45) (k1 := 45) (k2 := 3158) ci_Pays kw_305 kw_306 kw_92 (show s.heap.size + 44 = g.2.2.1 + (SH.take 45).length from by show _ = g.2.2.1 + 45; omega) rfl rfl (fun j hj => by rcases (show j = 0 ∨ j = 1 ∨ j = 2 ∨ j = 3 ∨ j = 4 ∨ j = 5 ∨ j = 6 ∨ j = 7 ∨ j = 8 by omega) with rfl | rfl | rfl | rfl | rfl | rfl | rfl | rfl | rfl <;> rfl) (Nat.le_of_ble_eq_true rfl) (Nat.le_of_ble_eq_true rfl) (zw_dg dk_P_init 55 rfl) rfl rfl (fun X => ?_)
  refine r_dup X (pc := 109) (zw_dg dk_P_init 56 rfl) rfl ?_
  refine r_aload_n X (pc := 110) (i := 1) (zw_dg dk_P_init 57 rfl) rfl rfl ?_
  refine r_aload_n X (pc := 111) (i := 2) (zw_dg dk_P_init 58 rfl) rfl rfl ?_
  refine r_callI X (pc := 112) (As := [.ref 1, .ref 3]) (st := [.ref 45, .ref 0]) (km_Pays_init_45) ce_Pays_init kw_307 rfl ⟨Nat.le_of_ble_eq_true rfl, Nat.le_of_ble_eq_true rfl⟩ (Nat.le_of_ble_eq_true rfl) ⟨Nat.le_of_ble_eq_true rfl, Nat.le_of_ble_eq_true rfl⟩ (show s.heap.size + 45 = g.2.2.1 + (SH.take 46).length from by show _ = g.2.2.1 + 46; omega) (zw_dg dk_P_init 59 rfl) (fun X => ?_)
  refine r_putR X (pc := 115) (r := 45) ci_P (show (SH.take 61)[0]? = _ from rfl) rfl lkf_P_53 rfl rfl hin (fun _ => ⟨rfl, rfl⟩) (zw_dg dk_P_init 60 rfl) ?_
  refine r_aload_n X (pc := 118) (i := 0) (zw_dg dk_P_init 61 rfl) rfl rfl ?_
  refine r_newo2 X (pc := 119) (sh2 := SH.take 62) (k := 61) (k1 := 61) (k2 := 10769) ci_Row kw_341 kw_342 kw_93 (show s.heap.size + 60 = g.2.2.1 + (SH.take 61).length from by show _ = g.2.2.1 + 61; omega) rfl rfl (fun j hj => by rcases (show j = 0 ∨ j = 1 by omega) with rfl | rfl <;> rfl) (Nat.le_of_ble_eq_true rfl) (Nat.le_of_ble_eq_true rfl) (zw_dg dk_P_init 62 rfl) rfl rfl (fun X => ?_)
  refine r_dup X (pc := 122) (zw_dg dk_P_init 63 rfl) rfl ?_
  refine r_callIN X (pc := 123) (As := []) (st := [.ref 61, .ref 0]) (km_Row_init_61) ce_Row_init kw_343 rfl ⟨Nat.le_of_ble_eq_true rfl, Nat.le_of_ble_eq_true rfl⟩ (Nat.le_of_ble_eq_true rfl) ⟨Nat.le_of_ble_eq_true rfl, Nat.le_of_ble_eq_true rfl⟩ (show s.heap.size + 61 = g.2.2.1 + (SH.take 62).length from by show _ = g.2.2.1 + 62; omega) (zw_dg dk_P_init 64 rfl) (fun X => ?_)
  refine r_putR X (pc := 126) (r := 61) ci_P (show (SH.take 63)[0]? = _ from rfl) rfl lkf_P_60 rfl rfl hin (fun _ => ⟨rfl, rfl⟩) (zw_dg dk_P_init 65 rfl) ?_
  refine r_aload_n X (pc := 129) (i := 0) (zw_dg dk_P_init 66 rfl) rfl rfl ?_
  refine r_aload X (pc := 130) (i := 4) (zw_dg dk_P_init 67 rfl) rfl ?_
  refine r_putR X (pc := 132) (r := 13) ci_P (show (SH.take 63)[0]? = _ from rfl) rfl lkf_P_64 rfl rfl hin (fun _ => ⟨rfl, rfl⟩) (zw_dg dk_P_init 68 rfl) ?_
  refine r_aload_n X (pc := 135) (i := 0) (zw_dg dk_P_init 69 rfl) rfl rfl ?_
  refine r_newo2 X (pc := 136) (sh2 := SH.take 64) (k := 63) (k1 := 63) (k2 := 10792) ci_Lures kw_357 kw_358 kw_94 (show s.heap.size + 62 = g.2.2.1 + (SH.take 63).length from by show _ = g.2.2.1 + 63; omega) rfl rfl (fun j hj => by rcases (show j = 0 ∨ j = 1 ∨ j = 2 ∨ j = 3 ∨ j = 4 ∨ j = 5 ∨ j = 6 by omega) with rfl | rfl | rfl | rfl | rfl | rfl | rfl <;> rfl) (Nat.le_of_ble_eq_true rfl) (Nat.le_of_ble_eq_true rfl) (zw_dg dk_P_init 70 rfl) rfl rfl (fun X => ?_)
  refine r_dup X (pc := 139) (zw_dg dk_P_init 71 rfl) rfl ?_
  refine r_aload_n X (pc := 140) (i := 1) (zw_dg dk_P_init 72 rfl) rfl rfl ?_
  refine r_aload_n X (pc := 141) (i := 3) (zw_dg dk_P_init 73 rfl) rfl rfl ?_
  refine r_aload X (pc := 142) (i := 4) (zw_dg dk_P_init 74 rfl) rfl ?_
  refine r_callI X (pc := 144) (As := [.ref 1, .ref 11, .ref 13]) (st := [.ref 63, .ref 0]) (km_Lures_init_63) ce_Lures_init kw_359 rfl ⟨Nat.le_of_ble_eq_true rfl, Nat.le_of_ble_eq_true rfl⟩ (Nat.le_of_ble_eq_true rfl) ⟨Nat.le_of_ble_eq_true rfl, Nat.le_of_ble_eq_true rfl⟩ (show s.heap.size + 63 = g.2.2.1 + (SH.take 64).length from by show _ = g.2.2.1 + 64; omega) (zw_dg dk_P_init 75 rfl) (fun X => ?_)
  refine r_putR X (pc := 147) (r := 63) ci_P (show (SH.take 65)[0]? = _ from rfl) rfl lkf_P_73 rfl rfl hin (fun _ => ⟨rfl, rfl⟩) (zw_dg dk_P_init 76 rfl) ?_
  refine r_aload_n X (pc := 150) (i := 0) (zw_dg dk_P_init 77 rfl) rfl rfl ?_
  refine r_newo2 X (pc := 151) (sh2 := SH.take 66) (k := 65) (k1 := 65) (k2 := 10800) ci_Contest kw_385 kw_386 kw_95 (show s.heap.size + 64 = g.2.2.1 + (SH.take 65).length from by show _ = g.2.2.1 + 65; omega) rfl rfl (fun j hj => by rcases (show j = 0 ∨ j = 1 ∨ j = 2 ∨ j = 3 by omega) with rfl | rfl | rfl | rfl <;> rfl) (Nat.le_of_ble_eq_true rfl) (Nat.le_of_ble_eq_true rfl) (zw_dg dk_P_init 78 rfl) rfl rfl (fun X => ?_)
  refine r_dup X (pc := 154) (zw_dg dk_P_init 79 rfl) rfl ?_
  refine r_aload_n X (pc := 155) (i := 1) (zw_dg dk_P_init 80 rfl) rfl rfl ?_
  refine r_aload_n X (pc := 156) (i := 2) (zw_dg dk_P_init 81 rfl) rfl rfl ?_
  refine r_callI X (pc := 157) (As := [.ref 1, .ref 3]) (st := [.ref 65, .ref 0]) (km_Contest_init_65) ce_Contest_init kw_387 rfl ⟨Nat.le_of_ble_eq_true rfl, Nat.le_of_ble_eq_true rfl⟩ (Nat.le_of_ble_eq_true rfl) ⟨Nat.le_of_ble_eq_true rfl, Nat.le_of_ble_eq_true rfl⟩ (show s.heap.size + 65 = g.2.2.1 + (SH.take 66).length from by show _ = g.2.2.1 + 66; omega) (zw_dg dk_P_init 82 rfl) (fun X => ?_)
  refine r_putR X (pc := 160) (r := 65) ci_P (show (SH.take 68)[0]? = _ from rfl) rfl lkf_P_80 rfl rfl hin (fun _ => ⟨rfl, rfl⟩) (zw_dg dk_P_init 83 rfl) ?_
  refine r_aload_n X (pc := 163) (i := 0) (zw_dg dk_P_init 84 rfl) rfl rfl ?_
  refine r_newo2 X (pc := 164) (sh2 := SH.take 69) (k := 68) (k1 := 68) (k2 := 10816) ci_Chooser kw_404 kw_405 kw_96 (show s.heap.size + 67 = g.2.2.1 + (SH.take 68).length from by show _ = g.2.2.1 + 68; omega) rfl rfl (fun j hj => by rcases (show j = 0 ∨ j = 1 ∨ j = 2 ∨ j = 3 ∨ j = 4 ∨ j = 5 by omega) with rfl | rfl | rfl | rfl | rfl | rfl <;> rfl) (Nat.le_of_ble_eq_true rfl) (Nat.le_of_ble_eq_true rfl) (zw_dg dk_P_init 85 rfl) rfl rfl (fun X => ?_)
  refine r_dup X (pc := 167) (zw_dg dk_P_init 86 rfl) rfl ?_
  refine r_aload_n X (pc := 168) (i := 1) (zw_dg dk_P_init 87 rfl) rfl rfl ?_
  refine r_aload_n X (pc := 169) (i := 3) (zw_dg dk_P_init 88 rfl) rfl rfl ?_
  refine r_aload X (pc := 170) (i := 4) (zw_dg dk_P_init 89 rfl) rfl ?_
  refine r_callI X (pc := 172) (As := [.ref 1, .ref 11, .ref 13]) (st := [.ref 68, .ref 0]) (km_Chooser_init_68) ce_Chooser_init kw_406 rfl ⟨Nat.le_of_ble_eq_true rfl, Nat.le_of_ble_eq_true rfl⟩ (Nat.le_of_ble_eq_true rfl) ⟨Nat.le_of_ble_eq_true rfl, Nat.le_of_ble_eq_true rfl⟩ (show s.heap.size + 68 = g.2.2.1 + (SH.take 69).length from by show _ = g.2.2.1 + 69; omega) (zw_dg dk_P_init 90 rfl) (fun X => ?_)
  refine r_putR X (pc := 175) (r := 68) ci_P (show (SH.take 69)[0]? = _ from rfl) rfl lkf_P_87 rfl rfl hin (fun _ => ⟨rfl, rfl⟩) (zw_dg dk_P_init 91 rfl) ?_
  refine r_aload_n X (pc := 178) (i := 0) (zw_dg dk_P_init 92 rfl) rfl rfl ?_
  refine r_newo2 X (pc := 179) (sh2 := SH.take 70) (k := 69) (k1 := 69) (k2 := 10821) ci_Ledger kw_429 kw_430 kw_97 (show s.heap.size + 68 = g.2.2.1 + (SH.take 69).length from by show _ = g.2.2.1 + 69; omega) rfl rfl (fun j hj => by rcases (show j = 0 ∨ j = 1 ∨ j = 2 ∨ j = 3 ∨ j = 4 by omega) with rfl | rfl | rfl | rfl | rfl <;> rfl) (Nat.le_of_ble_eq_true rfl) (Nat.le_of_ble_eq_true rfl) (zw_dg dk_P_init 93 rfl) rfl rfl (fun X => ?_)
  refine r_dup X (pc := 182) (zw_dg dk_P_init 94 rfl) rfl ?_
  refine r_aload_n X (pc := 183) (i := 1) (zw_dg dk_P_init 95 rfl) rfl rfl ?_
  refine r_aload_n X (pc := 184) (i := 2) (zw_dg dk_P_init 96 rfl) rfl rfl ?_
  refine r_aload_n X (pc := 185) (i := 3) (zw_dg dk_P_init 97 rfl) rfl rfl ?_
  refine r_aload X (pc := 186) (i := 4) (zw_dg dk_P_init 98 rfl) rfl ?_
  refine r_callI X (pc := 188) (As := [.ref 1, .ref 3, .ref 11, .ref 13]) (st := [.ref 69, .ref 0]) (km_Ledger_init_69) ce_Ledger_init kw_431 rfl ⟨Nat.le_of_ble_eq_true rfl, Nat.le_of_ble_eq_true rfl⟩ (Nat.le_of_ble_eq_true rfl) ⟨Nat.le_of_ble_eq_true rfl, Nat.le_of_ble_eq_true rfl⟩ (show s.heap.size + 69 = g.2.2.1 + (SH.take 70).length from by show _ = g.2.2.1 + 70; omega) (zw_dg dk_P_init 99 rfl) (fun X => ?_)
  refine r_putR X (pc := 191) (r := 69) ci_P (show (SH.take 71)[0]? = _ from rfl) rfl lkf_P_96 rfl rfl hin (fun _ => ⟨rfl, rfl⟩) (zw_dg dk_P_init 100 rfl) ?_
  exact r_vretC X (pc := 194) rfl (Nat.le_refl _) (Nat.le_refl _) (zw_dg dk_P_init 101 rfl)
set_option maxRecDepth 100000 in
theorem km_M_init_71 {l : Launch} {g : zw_G} {c : zw_Ct} {c71_6 : zw_Ct} (hc71_6 : fn_M_layOut (zw_wI (zw_wI (zw_wI (zw_wI (zw_wI (zw_wI (zw_wI (zw_wI (zw_wI (zw_wI (zw_wI (zw_wI (zw_wI (zw_z (zw_z (zw_z (zw_z (zw_z (zw_z (zw_z (zw_z (zw_z (zw_z (zw_z (zw_z (zw_z (zw_z (zw_z (zw_z (zw_z (zw_z (zw_z (zw_z (zw_z (zw_z (zw_z (zw_z (zw_z (zw_z (zw_z (zw_z (zw_wI (zw_wI c 71 0 2) 71 1 4) 72) 73) 74) 75) 76) 77) 78) 79) 80) 81) 82) 83) 84) 85) 86) 87) 88) 89) 90) 91) 92) 93) 94) 95) 96) 97) 98) 99) 73 0 0) 73 1 1) 73 2 4) 73 3 9) 73 4 16) 73 5 25) 73 6 36) 73 7 49) 73 8 64) 73 9 81) 73 10 100) 73 11 121) 73 12 144) = some c71_6) : zw_MetC l g y_M_init b_M_init 2 3 28 13746 rr_86 (SH.take 72) [.ref 71] c rr_114 (SH.take 100) c71_6 := by
  refine zw_MetC.of (by decide +kernel) rfl (Nat.le_of_ble_eq_true rfl) (fun p e s m args below meth cd X hin hz => ?_)
  have hz0 : s.heap.size = g.2.2.1 + 72 := hz
  clear hz
  refine zw_eL (L2 := [some (.ref 71), none]) rfl ?_
  refine r_aload_n X (pc := 0) (i := 0) (zw_dg dk_M_init 0 rfl) rfl rfl ?_
  refine r_objI X (pc := 1) kw_1449 zw_obi zw_obc ⟨Nat.le_of_ble_eq_true rfl, Nat.le_of_ble_eq_true rfl⟩ (Nat.le_of_ble_eq_true rfl) (zw_dg dk_M_init 1 rfl) ?_
  refine r_aload_n X (pc := 4) (i := 0) (zw_dg dk_M_init 2 rfl) rfl rfl ?_
  refine r_iconst X (pc := 5) (v := 2) (zw_dg dk_M_init 3 rfl) (by decide) ?_
  refine r_putI X (pc := 6) ci_M (show (SH.take 72)[71]? = _ from rfl) rfl lk_M_9 rfl ⟨rfl, rfl⟩ (zw_dg dk_M_init 4 rfl) ?_
  refine r_aload_n X (pc := 9) (i := 0) (zw_dg dk_M_init 5 rfl) rfl rfl ?_
  refine r_iconst X (pc := 10) (v := 4) (zw_dg dk_M_init 6 rfl) (by decide) ?_
  refine r_putI X (pc := 11) ci_M (show (SH.take 72)[71]? = _ from rfl) rfl lk_M_13 rfl ⟨rfl, rfl⟩ (zw_dg dk_M_init 7 rfl) ?_
  refine r_aload_n X (pc := 14) (i := 0) (zw_dg dk_M_init 8 rfl) rfl rfl ?_
  refine r_sipush X (pc := 15) (v := 1820) (zw_dg dk_M_init 9 rfl) (by decide) ?_
  refine r_newa2 X (pc := 18) (sh2 := SH.take 73) (k := 72) (t := 0) (N := 1820) (fty := .int) (k1 := 1) (k2 := 1820) rfl (fun _ h => h) rfl kw_166 zw_hac0 (by decide) (by decide) (by decide) (show s.heap.size + 0 = g.2.2.1 + (SH.take 72).length from by show _ = g.2.2.1 + 72; omega) rfl rfl (Nat.le_of_ble_eq_true rfl) (Nat.le_of_ble_eq_true rfl) (zw_dg dk_M_init 10 rfl) rfl rfl (fun X => ?_)
  refine r_putR X (pc := 20) (r := 72) ci_M (show (SH.take 73)[71]? = _ from rfl) rfl lkf_M_16 rfl rfl hin (fun _ => ⟨rfl, rfl⟩) (zw_dg dk_M_init 11 rfl) ?_
  refine r_aload_n X (pc := 23) (i := 0) (zw_dg dk_M_init 12 rfl) rfl rfl ?_
  refine r_bipush X (pc := 24) (v := 13) (zw_dg dk_M_init 13 rfl) (by decide) ?_
  refine r_newa2 X (pc := 26) (sh2 := SH.take 74) (k := 73) (t := 0) (N := 13) (fty := .int) (k1 := 2) (k2 := 1833) rfl (fun _ h => h) rfl kw_166 zw_hac0 (by decide) (by decide) (by decide) (show s.heap.size + 1 = g.2.2.1 + (SH.take 73).length from by show _ = g.2.2.1 + 73; omega) rfl rfl (Nat.le_of_ble_eq_true rfl) (Nat.le_of_ble_eq_true rfl) (zw_dg dk_M_init 14 rfl) rfl rfl (fun X => ?_)
  refine r_putR X (pc := 28) (r := 73) ci_M (show (SH.take 74)[71]? = _ from rfl) rfl lkf_M_20 rfl rfl hin (fun _ => ⟨rfl, rfl⟩) (zw_dg dk_M_init 15 rfl) ?_
  refine r_aload_n X (pc := 31) (i := 0) (zw_dg dk_M_init 16 rfl) rfl rfl ?_
  refine r_bipush X (pc := 32) (v := 80) (zw_dg dk_M_init 17 rfl) (by decide) ?_
  refine r_newa2 X (pc := 34) (sh2 := SH.take 75) (k := 74) (t := 2) (N := 80) (fty := .byte) (k1 := 3) (k2 := 1913) rfl (fun _ h => h) rfl kw_700 zw_hac2 (by decide) (by decide) (by decide) (show s.heap.size + 2 = g.2.2.1 + (SH.take 74).length from by show _ = g.2.2.1 + 74; omega) rfl rfl (Nat.le_of_ble_eq_true rfl) (Nat.le_of_ble_eq_true rfl) (zw_dg dk_M_init 18 rfl) rfl rfl (fun X => ?_)
  refine r_putR X (pc := 36) (r := 74) ci_M (show (SH.take 75)[71]? = _ from rfl) rfl lkf_M_23 rfl rfl hin (fun _ => ⟨rfl, rfl⟩) (zw_dg dk_M_init 19 rfl) ?_
  refine r_aload_n X (pc := 39) (i := 0) (zw_dg dk_M_init 20 rfl) rfl rfl ?_
  refine r_bipush X (pc := 40) (v := 24) (zw_dg dk_M_init 21 rfl) (by decide) ?_
  refine r_newa2 X (pc := 42) (sh2 := SH.take 76) (k := 75) (t := 1) (N := 24) (fty := .long) (k1 := 4) (k2 := 1937) rfl (fun _ h => h) rfl kw_249 zw_hac1 (by decide) (by decide) (by decide) (show s.heap.size + 3 = g.2.2.1 + (SH.take 75).length from by show _ = g.2.2.1 + 75; omega) rfl rfl (Nat.le_of_ble_eq_true rfl) (Nat.le_of_ble_eq_true rfl) (zw_dg dk_M_init 22 rfl) rfl rfl (fun X => ?_)
  refine r_putR X (pc := 44) (r := 75) ci_M (show (SH.take 76)[71]? = _ from rfl) rfl lkf_M_27 rfl rfl hin (fun _ => ⟨rfl, rfl⟩) (zw_dg dk_M_init 23 rfl) ?_
  refine r_aload_n X (pc := 47) (i := 0) (zw_dg dk_M_init 24 rfl) rfl rfl ?_
  refine r_iconst X (pc := 48) (v := 4) (zw_dg dk_M_init 25 rfl) (by decide) ?_
  refine r_bipush X (pc := 49) (v := 60) (zw_dg dk_M_init 26 rfl) (by decide) ?_
  refine r_multi X (pc := 51) (sh2 := SH.take 81) (k := 76) (t := 5) (it := 2) (M := 60) (fty := .byte) (k1 := 9) (k2 := 2181) kw_1450 kw_1451 kw_700 (by decide +kernel) rfl rfl rfl (fun _ h => h) (fun _ _ _ _ _ => rfl) zw_hac2 (by decide) (by decide) (by decide) (by decide) rfl (show s.heap.size + 4 = g.2.2.1 + (SH.take 76).length from by show _ = g.2.2.1 + 76; omega) rfl rfl (Nat.le_of_ble_eq_true rfl) (Nat.le_of_ble_eq_true rfl) (zw_dg dk_M_init 27 rfl) rfl rfl (fun X => ?_)
  refine r_putR X (pc := 55) (r := 76) ci_M (show (SH.take 81)[71]? = _ from rfl) rfl lkf_M_33 rfl rfl hin (fun _ => ⟨rfl, rfl⟩) (zw_dg dk_M_init 28 rfl) ?_
  refine r_aload_n X (pc := 58) (i := 0) (zw_dg dk_M_init 29 rfl) rfl rfl ?_
  refine r_iconst X (pc := 59) (v := 4) (zw_dg dk_M_init 30 rfl) (by decide) ?_
  refine r_newa2 X (pc := 60) (sh2 := SH.take 82) (k := 81) (t := 0) (N := 4) (fty := .int) (k1 := 10) (k2 := 2185) rfl (fun _ h => h) rfl kw_166 zw_hac0 (by decide) (by decide) (by decide) (show s.heap.size + 9 = g.2.2.1 + (SH.take 81).length from by show _ = g.2.2.1 + 81; omega) rfl rfl (Nat.le_of_ble_eq_true rfl) (Nat.le_of_ble_eq_true rfl) (zw_dg dk_M_init 31 rfl) rfl rfl (fun X => ?_)
  refine r_putR X (pc := 62) (r := 81) ci_M (show (SH.take 82)[71]? = _ from rfl) rfl lkf_M_36 rfl rfl hin (fun _ => ⟨rfl, rfl⟩) (zw_dg dk_M_init 32 rfl) ?_
  refine r_aload_n X (pc := 65) (i := 0) (zw_dg dk_M_init 33 rfl) rfl rfl ?_
  refine r_iconst X (pc := 66) (v := 4) (zw_dg dk_M_init 34 rfl) (by decide) ?_
  refine r_newa2 X (pc := 67) (sh2 := SH.take 83) (k := 82) (t := 3) (N := 4) (fty := .boolean) (k1 := 11) (k2 := 2189) rfl (fun _ h => h) rfl kw_304 zw_hac3 (by decide) (by decide) (by decide) (show s.heap.size + 10 = g.2.2.1 + (SH.take 82).length from by show _ = g.2.2.1 + 82; omega) rfl rfl (Nat.le_of_ble_eq_true rfl) (Nat.le_of_ble_eq_true rfl) (zw_dg dk_M_init 35 rfl) rfl rfl (fun X => ?_)
  refine r_putR X (pc := 69) (r := 82) ci_M (show (SH.take 83)[71]? = _ from rfl) rfl lkf_M_39 rfl rfl hin (fun _ => ⟨rfl, rfl⟩) (zw_dg dk_M_init 36 rfl) ?_
  refine r_aload_n X (pc := 72) (i := 0) (zw_dg dk_M_init 37 rfl) rfl rfl ?_
  refine r_sipush X (pc := 73) (v := 7280) (zw_dg dk_M_init 38 rfl) (by decide) ?_
  refine r_newa2 X (pc := 76) (sh2 := SH.take 84) (k := 83) (t := 0) (N := 7280) (fty := .int) (k1 := 12) (k2 := 9469) rfl (fun _ h => h) rfl kw_166 zw_hac0 (by decide) (by decide) (by decide) (show s.heap.size + 11 = g.2.2.1 + (SH.take 83).length from by show _ = g.2.2.1 + 83; omega) rfl rfl (Nat.le_of_ble_eq_true rfl) (Nat.le_of_ble_eq_true rfl) (zw_dg dk_M_init 39 rfl) rfl rfl (fun X => ?_)
  refine r_putR X (pc := 78) (r := 83) ci_M (show (SH.take 84)[71]? = _ from rfl) rfl lkf_M_43 rfl rfl hin (fun _ => ⟨rfl, rfl⟩) (zw_dg dk_M_init 40 rfl) ?_
  refine r_aload_n X (pc := 81) (i := 0) (zw_dg dk_M_init 41 rfl) rfl rfl ?_
  refine r_sipush X (pc := 82) (v := 1820) (zw_dg dk_M_init 42 rfl) (by decide) ?_
  refine r_newa2 X (pc := 85) (sh2 := SH.take 85) (k := 84) (t := 0) (N := 1820) (fty := .int) (k1 := 13) (k2 := 11289) rfl (fun _ h => h) rfl kw_166 zw_hac0 (by decide) (by decide) (by decide) (show s.heap.size + 12 = g.2.2.1 + (SH.take 84).length from by show _ = g.2.2.1 + 84; omega) rfl rfl (Nat.le_of_ble_eq_true rfl) (Nat.le_of_ble_eq_true rfl) (zw_dg dk_M_init 43 rfl) rfl rfl (fun X => ?_)
  refine r_putR X (pc := 87) (r := 84) ci_M (show (SH.take 85)[71]? = _ from rfl) rfl lkf_M_46 rfl rfl hin (fun _ => ⟨rfl, rfl⟩) (zw_dg dk_M_init 44 rfl) ?_
  refine r_aload_n X (pc := 90) (i := 0) (zw_dg dk_M_init 45 rfl) rfl rfl ?_
  refine r_sipush X (pc := 91) (v := 1820) (zw_dg dk_M_init 46 rfl) (by decide) ?_
  refine r_newa2 X (pc := 94) (sh2 := SH.take 86) (k := 85) (t := 0) (N := 1820) (fty := .int) (k1 := 14) (k2 := 13109) rfl (fun _ h => h) rfl kw_166 zw_hac0 (by decide) (by decide) (by decide) (show s.heap.size + 13 = g.2.2.1 + (SH.take 85).length from by show _ = g.2.2.1 + 85; omega) rfl rfl (Nat.le_of_ble_eq_true rfl) (Nat.le_of_ble_eq_true rfl) (zw_dg dk_M_init 47 rfl) rfl rfl (fun X => ?_)
  refine r_putR X (pc := 96) (r := 85) ci_M (show (SH.take 86)[71]? = _ from rfl) rfl lkf_M_49 rfl rfl hin (fun _ => ⟨rfl, rfl⟩) (zw_dg dk_M_init 48 rfl) ?_
  refine r_aload_n X (pc := 99) (i := 0) (zw_dg dk_M_init 49 rfl) rfl rfl ?_
  refine r_bipush X (pc := 100) (v := 13) (zw_dg dk_M_init 50 rfl) (by decide) ?_
  refine r_newa2 X (pc := 102) (sh2 := SH.take 87) (k := 86) (t := 1) (N := 13) (fty := .long) (k1 := 15) (k2 := 13122) rfl (fun _ h => h) rfl kw_249 zw_hac1 (by decide) (by decide) (by decide) (show s.heap.size + 14 = g.2.2.1 + (SH.take 86).length from by show _ = g.2.2.1 + 86; omega) rfl rfl (Nat.le_of_ble_eq_true rfl) (Nat.le_of_ble_eq_true rfl) (zw_dg dk_M_init 51 rfl) rfl rfl (fun X => ?_)
  refine r_putR X (pc := 104) (r := 86) ci_M (show (SH.take 87)[71]? = _ from rfl) rfl lkf_M_52 rfl rfl hin (fun _ => ⟨rfl, rfl⟩) (zw_dg dk_M_init 52 rfl) ?_
  refine r_aload_n X (pc := 107) (i := 0) (zw_dg dk_M_init 53 rfl) rfl rfl ?_
  refine r_iconst X (pc := 108) (v := 4) (zw_dg dk_M_init 54 rfl) (by decide) ?_
  refine r_newa2 X (pc := 109) (sh2 := SH.take 88) (k := 87) (t := 0) (N := 4) (fty := .int) (k1 := 16) (k2 := 13126) rfl (fun _ h => h) rfl kw_166 zw_hac0 (by decide) (by decide) (by decide) (show s.heap.size + 15 = g.2.2.1 + (SH.take 87).length from by show _ = g.2.2.1 + 87; omega) rfl rfl (Nat.le_of_ble_eq_true rfl) (Nat.le_of_ble_eq_true rfl) (zw_dg dk_M_init 55 rfl) rfl rfl (fun X => ?_)
  refine r_putR X (pc := 111) (r := 87) ci_M (show (SH.take 88)[71]? = _ from rfl) rfl lkf_M_55 rfl rfl hin (fun _ => ⟨rfl, rfl⟩) (zw_dg dk_M_init 56 rfl) ?_
  refine r_aload_n X (pc := 114) (i := 0) (zw_dg dk_M_init 57 rfl) rfl rfl ?_
  refine r_iconst X (pc := 115) (v := 4) (zw_dg dk_M_init 58 rfl) (by decide) ?_
  refine r_newa2 X (pc := 116) (sh2 := SH.take 89) (k := 88) (t := 0) (N := 4) (fty := .int) (k1 := 17) (k2 := 13130) rfl (fun _ h => h) rfl kw_166 zw_hac0 (by decide) (by decide) (by decide) (show s.heap.size + 16 = g.2.2.1 + (SH.take 88).length from by show _ = g.2.2.1 + 88; omega) rfl rfl (Nat.le_of_ble_eq_true rfl) (Nat.le_of_ble_eq_true rfl) (zw_dg dk_M_init 59 rfl) rfl rfl (fun X => ?_)
  refine r_putR X (pc := 118) (r := 88) ci_M (show (SH.take 89)[71]? = _ from rfl) rfl lkf_M_58 rfl rfl hin (fun _ => ⟨rfl, rfl⟩) (zw_dg dk_M_init 60 rfl) ?_
  refine r_aload_n X (pc := 121) (i := 0) (zw_dg dk_M_init 61 rfl) rfl rfl ?_
  refine r_bipush X (pc := 122) (v := 6) (zw_dg dk_M_init 62 rfl) (by decide) ?_
  refine r_newa2 X (pc := 124) (sh2 := SH.take 90) (k := 89) (t := 0) (N := 6) (fty := .int) (k1 := 18) (k2 := 13136) rfl (fun _ h => h) rfl kw_166 zw_hac0 (by decide) (by decide) (by decide) (show s.heap.size + 17 = g.2.2.1 + (SH.take 89).length from by show _ = g.2.2.1 + 89; omega) rfl rfl (Nat.le_of_ble_eq_true rfl) (Nat.le_of_ble_eq_true rfl) (zw_dg dk_M_init 63 rfl) rfl rfl (fun X => ?_)
  refine r_putR X (pc := 126) (r := 89) ci_M (show (SH.take 90)[71]? = _ from rfl) rfl lkf_M_61 rfl rfl hin (fun _ => ⟨rfl, rfl⟩) (zw_dg dk_M_init 64 rfl) ?_
  refine r_aload_n X (pc := 129) (i := 0) (zw_dg dk_M_init 65 rfl) rfl rfl ?_
  refine r_bipush X (pc := 130) (v := 6) (zw_dg dk_M_init 66 rfl) (by decide) ?_
  refine r_newa2 X (pc := 132) (sh2 := SH.take 91) (k := 90) (t := 0) (N := 6) (fty := .int) (k1 := 19) (k2 := 13142) rfl (fun _ h => h) rfl kw_166 zw_hac0 (by decide) (by decide) (by decide) (show s.heap.size + 18 = g.2.2.1 + (SH.take 90).length from by show _ = g.2.2.1 + 90; omega) rfl rfl (Nat.le_of_ble_eq_true rfl) (Nat.le_of_ble_eq_true rfl) (zw_dg dk_M_init 67 rfl) rfl rfl (fun X => ?_)
  refine r_putR X (pc := 134) (r := 90) ci_M (show (SH.take 91)[71]? = _ from rfl) rfl lkf_M_64 rfl rfl hin (fun _ => ⟨rfl, rfl⟩) (zw_dg dk_M_init 68 rfl) ?_
  refine r_aload_n X (pc := 137) (i := 0) (zw_dg dk_M_init 69 rfl) rfl rfl ?_
  refine r_iconst X (pc := 138) (v := 4) (zw_dg dk_M_init 70 rfl) (by decide) ?_
  refine r_newa2 X (pc := 139) (sh2 := SH.take 92) (k := 91) (t := 1) (N := 4) (fty := .long) (k1 := 20) (k2 := 13146) rfl (fun _ h => h) rfl kw_249 zw_hac1 (by decide) (by decide) (by decide) (show s.heap.size + 19 = g.2.2.1 + (SH.take 91).length from by show _ = g.2.2.1 + 91; omega) rfl rfl (Nat.le_of_ble_eq_true rfl) (Nat.le_of_ble_eq_true rfl) (zw_dg dk_M_init 71 rfl) rfl rfl (fun X => ?_)
  refine r_putR X (pc := 141) (r := 91) ci_M (show (SH.take 92)[71]? = _ from rfl) rfl lkf_M_67 rfl rfl hin (fun _ => ⟨rfl, rfl⟩) (zw_dg dk_M_init 72 rfl) ?_
  refine r_aload_n X (pc := 144) (i := 0) (zw_dg dk_M_init 73 rfl) rfl rfl ?_
  refine r_bipush X (pc := 145) (v := 6) (zw_dg dk_M_init 74 rfl) (by decide) ?_
  refine r_newa2 X (pc := 147) (sh2 := SH.take 93) (k := 92) (t := 0) (N := 6) (fty := .int) (k1 := 21) (k2 := 13152) rfl (fun _ h => h) rfl kw_166 zw_hac0 (by decide) (by decide) (by decide) (show s.heap.size + 20 = g.2.2.1 + (SH.take 92).length from by show _ = g.2.2.1 + 92; omega) rfl rfl (Nat.le_of_ble_eq_true rfl) (Nat.le_of_ble_eq_true rfl) (zw_dg dk_M_init 75 rfl) rfl rfl (fun X => ?_)
  refine r_putR X (pc := 149) (r := 92) ci_M (show (SH.take 93)[71]? = _ from rfl) rfl lkf_M_70 rfl rfl hin (fun _ => ⟨rfl, rfl⟩) (zw_dg dk_M_init 76 rfl) ?_
  refine r_aload_n X (pc := 152) (i := 0) (zw_dg dk_M_init 77 rfl) rfl rfl ?_
  refine r_bipush X (pc := 153) (v := 6) (zw_dg dk_M_init 78 rfl) (by decide) ?_
  refine r_newa2 X (pc := 155) (sh2 := SH.take 94) (k := 93) (t := 0) (N := 6) (fty := .int) (k1 := 22) (k2 := 13158) rfl (fun _ h => h) rfl kw_166 zw_hac0 (by decide) (by decide) (by decide) (show s.heap.size + 21 = g.2.2.1 + (SH.take 93).length from by show _ = g.2.2.1 + 93; omega) rfl rfl (Nat.le_of_ble_eq_true rfl) (Nat.le_of_ble_eq_true rfl) (zw_dg dk_M_init 79 rfl) rfl rfl (fun X => ?_)
  refine r_putR X (pc := 157) (r := 93) ci_M (show (SH.take 94)[71]? = _ from rfl) rfl lkf_M_73 rfl rfl hin (fun _ => ⟨rfl, rfl⟩) (zw_dg dk_M_init 80 rfl) ?_
  refine r_aload_n X (pc := 160) (i := 0) (zw_dg dk_M_init 81 rfl) rfl rfl ?_
  refine r_bipush X (pc := 161) (v := 40) (zw_dg dk_M_init 82 rfl) (by decide) ?_
  refine r_newa2 X (pc := 163) (sh2 := SH.take 95) (k := 94) (t := 0) (N := 40) (fty := .int) (k1 := 23) (k2 := 13198) rfl (fun _ h => h) rfl kw_166 zw_hac0 (by decide) (by decide) (by decide) (show s.heap.size + 22 = g.2.2.1 + (SH.take 94).length from by show _ = g.2.2.1 + 94; omega) rfl rfl (Nat.le_of_ble_eq_true rfl) (Nat.le_of_ble_eq_true rfl) (zw_dg dk_M_init 83 rfl) rfl rfl (fun X => ?_)
  refine r_putR X (pc := 165) (r := 94) ci_M (show (SH.take 95)[71]? = _ from rfl) rfl lkf_M_76 rfl rfl hin (fun _ => ⟨rfl, rfl⟩) (zw_dg dk_M_init 84 rfl) ?_
  refine r_aload_n X (pc := 168) (i := 0) (zw_dg dk_M_init 85 rfl) rfl rfl ?_
  refine r_bipush X (pc := 169) (v := 40) (zw_dg dk_M_init 86 rfl) (by decide) ?_
  refine r_newa2 X (pc := 171) (sh2 := SH.take 96) (k := 95) (t := 0) (N := 40) (fty := .int) (k1 := 24) (k2 := 13238) rfl (fun _ h => h) rfl kw_166 zw_hac0 (by decide) (by decide) (by decide) (show s.heap.size + 23 = g.2.2.1 + (SH.take 95).length from by show _ = g.2.2.1 + 95; omega) rfl rfl (Nat.le_of_ble_eq_true rfl) (Nat.le_of_ble_eq_true rfl) (zw_dg dk_M_init 87 rfl) rfl rfl (fun X => ?_)
  refine r_putR X (pc := 173) (r := 95) ci_M (show (SH.take 96)[71]? = _ from rfl) rfl lkf_M_79 rfl rfl hin (fun _ => ⟨rfl, rfl⟩) (zw_dg dk_M_init 88 rfl) ?_
  refine r_aload_n X (pc := 176) (i := 0) (zw_dg dk_M_init 89 rfl) rfl rfl ?_
  refine r_bipush X (pc := 177) (v := 40) (zw_dg dk_M_init 90 rfl) (by decide) ?_
  refine r_newa2 X (pc := 179) (sh2 := SH.take 97) (k := 96) (t := 0) (N := 40) (fty := .int) (k1 := 25) (k2 := 13278) rfl (fun _ h => h) rfl kw_166 zw_hac0 (by decide) (by decide) (by decide) (show s.heap.size + 24 = g.2.2.1 + (SH.take 96).length from by show _ = g.2.2.1 + 96; omega) rfl rfl (Nat.le_of_ble_eq_true rfl) (Nat.le_of_ble_eq_true rfl) (zw_dg dk_M_init 91 rfl) rfl rfl (fun X => ?_)
  refine r_putR X (pc := 181) (r := 96) ci_M (show (SH.take 97)[71]? = _ from rfl) rfl lkf_M_82 rfl rfl hin (fun _ => ⟨rfl, rfl⟩) (zw_dg dk_M_init 92 rfl) ?_
  refine r_aload_n X (pc := 184) (i := 0) (zw_dg dk_M_init 93 rfl) rfl rfl ?_
  refine r_sipush X (pc := 185) (v := 462) (zw_dg dk_M_init 94 rfl) (by decide) ?_
  refine r_newa2 X (pc := 188) (sh2 := SH.take 98) (k := 97) (t := 0) (N := 462) (fty := .int) (k1 := 26) (k2 := 13740) rfl (fun _ h => h) rfl kw_166 zw_hac0 (by decide) (by decide) (by decide) (show s.heap.size + 25 = g.2.2.1 + (SH.take 97).length from by show _ = g.2.2.1 + 97; omega) rfl rfl (Nat.le_of_ble_eq_true rfl) (Nat.le_of_ble_eq_true rfl) (zw_dg dk_M_init 95 rfl) rfl rfl (fun X => ?_)
  refine r_putR X (pc := 190) (r := 97) ci_M (show (SH.take 98)[71]? = _ from rfl) rfl lkf_M_85 rfl rfl hin (fun _ => ⟨rfl, rfl⟩) (zw_dg dk_M_init 96 rfl) ?_
  refine r_aload_n X (pc := 193) (i := 0) (zw_dg dk_M_init 97 rfl) rfl rfl ?_
  refine r_iconst X (pc := 194) (v := 3) (zw_dg dk_M_init 98 rfl) (by decide) ?_
  refine r_newa2 X (pc := 195) (sh2 := SH.take 99) (k := 98) (t := 3) (N := 3) (fty := .boolean) (k1 := 27) (k2 := 13743) rfl (fun _ h => h) rfl kw_304 zw_hac3 (by decide) (by decide) (by decide) (show s.heap.size + 26 = g.2.2.1 + (SH.take 98).length from by show _ = g.2.2.1 + 98; omega) rfl rfl (Nat.le_of_ble_eq_true rfl) (Nat.le_of_ble_eq_true rfl) (zw_dg dk_M_init 99 rfl) rfl rfl (fun X => ?_)
  refine r_putR X (pc := 197) (r := 98) ci_M (show (SH.take 99)[71]? = _ from rfl) rfl lkf_M_88 rfl rfl hin (fun _ => ⟨rfl, rfl⟩) (zw_dg dk_M_init 100 rfl) ?_
  refine r_aload_n X (pc := 200) (i := 0) (zw_dg dk_M_init 101 rfl) rfl rfl ?_
  refine r_iconst X (pc := 201) (v := 3) (zw_dg dk_M_init 102 rfl) (by decide) ?_
  refine r_newa2 X (pc := 202) (sh2 := SH.take 100) (k := 99) (t := 0) (N := 3) (fty := .int) (k1 := 28) (k2 := 13746) rfl (fun _ h => h) rfl kw_166 zw_hac0 (by decide) (by decide) (by decide) (show s.heap.size + 27 = g.2.2.1 + (SH.take 99).length from by show _ = g.2.2.1 + 99; omega) rfl rfl (Nat.le_of_ble_eq_true rfl) (Nat.le_of_ble_eq_true rfl) (zw_dg dk_M_init 103 rfl) rfl rfl (fun X => ?_)
  refine r_putR X (pc := 204) (r := 99) ci_M (show (SH.take 100)[71]? = _ from rfl) rfl lkf_M_91 rfl rfl hin (fun _ => ⟨rfl, rfl⟩) (zw_dg dk_M_init 104 rfl) ?_
  refine r_iconst X (pc := 207) (v := 0) (zw_dg dk_M_init 105 rfl) (by decide) ?_
  refine r_istore_n X (pc := 208) (i := 1) (zw_dg dk_M_init 106 rfl) rfl (by decide) rfl ?_
  refine zw_eL (L2 := [some (.ref 71), some (.int 0)]) rfl ?_
  refine r_iload_n X (pc := 209) (i := 1) (zw_dg dk_M_init 107 rfl) rfl rfl ?_
  refine r_bipush X (pc := 210) (v := 13) (zw_dg dk_M_init 108 rfl) (by decide) ?_
  refine r_icmp_ge X (pc := 212) (tgt := 230) (zw_dg dk_M_init 109 rfl) (by decide) (fun q => absurd q (by decide)) (fun q => ?_)
  refine r_aload_n X (pc := 215) (i := 0) (zw_dg dk_M_init 110 rfl) rfl rfl ?_
  refine r_getR X (pc := 216) (r := 73) ci_M (show (SH.take 100)[71]? = _ from rfl) rfl rfl lk_M_20 (zw_dg dk_M_init 111 rfl) ?_
  refine r_iload_n X (pc := 219) (i := 1) (zw_dg dk_M_init 112 rfl) rfl rfl ?_
  refine r_iload_n X (pc := 220) (i := 1) (zw_dg dk_M_init 113 rfl) rfl rfl ?_
  refine r_iload_n X (pc := 221) (i := 1) (zw_dg dk_M_init 114 rfl) rfl rfl ?_
  refine r_imul X (pc := 222) (zw_dg dk_M_init 115 rfl) ?_
  refine zw_eqtI (show (0 : Int32) * 0 = 0 from by decide) ?_
  refine r_iast X (pc := 223) (show (SH.take 100)[73]? = _ from rfl) (show zw_uI 13 _ 73 0 0 = some (zw_wI _ 73 0 0) from rfl) (zw_dg dk_M_init 116 rfl) ?_
  refine r_iinc X (pc := 224) (i := 1) (k := 1) (zw_dg dk_M_init 117 rfl) rfl (by decide) (by decide) rfl ?_
  refine zw_eL (L2 := [some (.ref 71), some (.int 1)]) (by rfl) ?_
  refine r_goto X (pc := 227) (tgt := 209) (zw_dg dk_M_init 118 rfl) (by decide) ?_
  refine r_iload_n X (pc := 209) (i := 1) (zw_dg dk_M_init 107 rfl) rfl rfl ?_
  refine r_bipush X (pc := 210) (v := 13) (zw_dg dk_M_init 108 rfl) (by decide) ?_
  refine r_icmp_ge X (pc := 212) (tgt := 230) (zw_dg dk_M_init 109 rfl) (by decide) (fun q => absurd q (by decide)) (fun q => ?_)
  refine r_aload_n X (pc := 215) (i := 0) (zw_dg dk_M_init 110 rfl) rfl rfl ?_
  refine r_getR X (pc := 216) (r := 73) ci_M (show (SH.take 100)[71]? = _ from rfl) rfl rfl lk_M_20 (zw_dg dk_M_init 111 rfl) ?_
  refine r_iload_n X (pc := 219) (i := 1) (zw_dg dk_M_init 112 rfl) rfl rfl ?_
  refine r_iload_n X (pc := 220) (i := 1) (zw_dg dk_M_init 113 rfl) rfl rfl ?_
  refine r_iload_n X (pc := 221) (i := 1) (zw_dg dk_M_init 114 rfl) rfl rfl ?_
  refine r_imul X (pc := 222) (zw_dg dk_M_init 115 rfl) ?_
  refine zw_eqtI (show (1 : Int32) * 1 = 1 from by decide) ?_
  refine r_iast X (pc := 223) (show (SH.take 100)[73]? = _ from rfl) (show zw_uI 13 _ 73 1 1 = some (zw_wI _ 73 1 1) from rfl) (zw_dg dk_M_init 116 rfl) ?_
  refine r_iinc X (pc := 224) (i := 1) (k := 1) (zw_dg dk_M_init 117 rfl) rfl (by decide) (by decide) rfl ?_
  refine zw_eL (L2 := [some (.ref 71), some (.int 2)]) (by rfl) ?_
  refine r_goto X (pc := 227) (tgt := 209) (zw_dg dk_M_init 118 rfl) (by decide) ?_
  refine r_iload_n X (pc := 209) (i := 1) (zw_dg dk_M_init 107 rfl) rfl rfl ?_
  refine r_bipush X (pc := 210) (v := 13) (zw_dg dk_M_init 108 rfl) (by decide) ?_
  refine r_icmp_ge X (pc := 212) (tgt := 230) (zw_dg dk_M_init 109 rfl) (by decide) (fun q => absurd q (by decide)) (fun q => ?_)
  refine r_aload_n X (pc := 215) (i := 0) (zw_dg dk_M_init 110 rfl) rfl rfl ?_
  refine r_getR X (pc := 216) (r := 73) ci_M (show (SH.take 100)[71]? = _ from rfl) rfl rfl lk_M_20 (zw_dg dk_M_init 111 rfl) ?_
  refine r_iload_n X (pc := 219) (i := 1) (zw_dg dk_M_init 112 rfl) rfl rfl ?_
  refine r_iload_n X (pc := 220) (i := 1) (zw_dg dk_M_init 113 rfl) rfl rfl ?_
  refine r_iload_n X (pc := 221) (i := 1) (zw_dg dk_M_init 114 rfl) rfl rfl ?_
  refine r_imul X (pc := 222) (zw_dg dk_M_init 115 rfl) ?_
  refine zw_eqtI (show (2 : Int32) * 2 = 4 from by decide) ?_
  refine r_iast X (pc := 223) (show (SH.take 100)[73]? = _ from rfl) (show zw_uI 13 _ 73 2 4 = some (zw_wI _ 73 2 4) from rfl) (zw_dg dk_M_init 116 rfl) ?_
  refine r_iinc X (pc := 224) (i := 1) (k := 1) (zw_dg dk_M_init 117 rfl) rfl (by decide) (by decide) rfl ?_
  refine zw_eL (L2 := [some (.ref 71), some (.int 3)]) (by rfl) ?_
  refine r_goto X (pc := 227) (tgt := 209) (zw_dg dk_M_init 118 rfl) (by decide) ?_
  refine r_iload_n X (pc := 209) (i := 1) (zw_dg dk_M_init 107 rfl) rfl rfl ?_
  refine r_bipush X (pc := 210) (v := 13) (zw_dg dk_M_init 108 rfl) (by decide) ?_
  refine r_icmp_ge X (pc := 212) (tgt := 230) (zw_dg dk_M_init 109 rfl) (by decide) (fun q => absurd q (by decide)) (fun q => ?_)
  refine r_aload_n X (pc := 215) (i := 0) (zw_dg dk_M_init 110 rfl) rfl rfl ?_
  refine r_getR X (pc := 216) (r := 73) ci_M (show (SH.take 100)[71]? = _ from rfl) rfl rfl lk_M_20 (zw_dg dk_M_init 111 rfl) ?_
  refine r_iload_n X (pc := 219) (i := 1) (zw_dg dk_M_init 112 rfl) rfl rfl ?_
  refine r_iload_n X (pc := 220) (i := 1) (zw_dg dk_M_init 113 rfl) rfl rfl ?_
  refine r_iload_n X (pc := 221) (i := 1) (zw_dg dk_M_init 114 rfl) rfl rfl ?_
  refine r_imul X (pc := 222) (zw_dg dk_M_init 115 rfl) ?_
  refine zw_eqtI (show (3 : Int32) * 3 = 9 from by decide) ?_
  refine r_iast X (pc := 223) (show (SH.take 100)[73]? = _ from rfl) (show zw_uI 13 _ 73 3 9 = some (zw_wI _ 73 3 9) from rfl) (zw_dg dk_M_init 116 rfl) ?_
  refine r_iinc X (pc := 224) (i := 1) (k := 1) (zw_dg dk_M_init 117 rfl) rfl (by decide) (by decide) rfl ?_
  refine zw_eL (L2 := [some (.ref 71), some (.int 4)]) (by rfl) ?_
  refine r_goto X (pc := 227) (tgt := 209) (zw_dg dk_M_init 118 rfl) (by decide) ?_
  refine r_iload_n X (pc := 209) (i := 1) (zw_dg dk_M_init 107 rfl) rfl rfl ?_
  refine r_bipush X (pc := 210) (v := 13) (zw_dg dk_M_init 108 rfl) (by decide) ?_
  refine r_icmp_ge X (pc := 212) (tgt := 230) (zw_dg dk_M_init 109 rfl) (by decide) (fun q => absurd q (by decide)) (fun q => ?_)
  refine r_aload_n X (pc := 215) (i := 0) (zw_dg dk_M_init 110 rfl) rfl rfl ?_
  refine r_getR X (pc := 216) (r := 73) ci_M (show (SH.take 100)[71]? = _ from rfl) rfl rfl lk_M_20 (zw_dg dk_M_init 111 rfl) ?_
  refine r_iload_n X (pc := 219) (i := 1) (zw_dg dk_M_init 112 rfl) rfl rfl ?_
  refine r_iload_n X (pc := 220) (i := 1) (zw_dg dk_M_init 113 rfl) rfl rfl ?_
  refine r_iload_n X (pc := 221) (i := 1) (zw_dg dk_M_init 114 rfl) rfl rfl ?_
  refine r_imul X (pc := 222) (zw_dg dk_M_init 115 rfl) ?_
  refine zw_eqtI (show (4 : Int32) * 4 = 16 from by decide) ?_
  refine r_iast X (pc := 223) (show (SH.take 100)[73]? = _ from rfl) (show zw_uI 13 _ 73 4 16 = some (zw_wI _ 73 4 16) from rfl) (zw_dg dk_M_init 116 rfl) ?_
  refine r_iinc X (pc := 224) (i := 1) (k := 1) (zw_dg dk_M_init 117 rfl) rfl (by decide) (by decide) rfl ?_
  refine zw_eL (L2 := [some (.ref 71), some (.int 5)]) (by rfl) ?_
  refine r_goto X (pc := 227) (tgt := 209) (zw_dg dk_M_init 118 rfl) (by decide) ?_
  refine r_iload_n X (pc := 209) (i := 1) (zw_dg dk_M_init 107 rfl) rfl rfl ?_
  refine r_bipush X (pc := 210) (v := 13) (zw_dg dk_M_init 108 rfl) (by decide) ?_
  refine r_icmp_ge X (pc := 212) (tgt := 230) (zw_dg dk_M_init 109 rfl) (by decide) (fun q => absurd q (by decide)) (fun q => ?_)
  refine r_aload_n X (pc := 215) (i := 0) (zw_dg dk_M_init 110 rfl) rfl rfl ?_
  refine r_getR X (pc := 216) (r := 73) ci_M (show (SH.take 100)[71]? = _ from rfl) rfl rfl lk_M_20 (zw_dg dk_M_init 111 rfl) ?_
  refine r_iload_n X (pc := 219) (i := 1) (zw_dg dk_M_init 112 rfl) rfl rfl ?_
  refine r_iload_n X (pc := 220) (i := 1) (zw_dg dk_M_init 113 rfl) rfl rfl ?_
  refine r_iload_n X (pc := 221) (i := 1) (zw_dg dk_M_init 114 rfl) rfl rfl ?_
  refine r_imul X (pc := 222) (zw_dg dk_M_init 115 rfl) ?_
  refine zw_eqtI (show (5 : Int32) * 5 = 25 from by decide) ?_
  refine r_iast X (pc := 223) (show (SH.take 100)[73]? = _ from rfl) (show zw_uI 13 _ 73 5 25 = some (zw_wI _ 73 5 25) from rfl) (zw_dg dk_M_init 116 rfl) ?_
  refine r_iinc X (pc := 224) (i := 1) (k := 1) (zw_dg dk_M_init 117 rfl) rfl (by decide) (by decide) rfl ?_
  refine zw_eL (L2 := [some (.ref 71), some (.int 6)]) (by rfl) ?_
  refine r_goto X (pc := 227) (tgt := 209) (zw_dg dk_M_init 118 rfl) (by decide) ?_
  refine r_iload_n X (pc := 209) (i := 1) (zw_dg dk_M_init 107 rfl) rfl rfl ?_
  refine r_bipush X (pc := 210) (v := 13) (zw_dg dk_M_init 108 rfl) (by decide) ?_
  refine r_icmp_ge X (pc := 212) (tgt := 230) (zw_dg dk_M_init 109 rfl) (by decide) (fun q => absurd q (by decide)) (fun q => ?_)
  refine r_aload_n X (pc := 215) (i := 0) (zw_dg dk_M_init 110 rfl) rfl rfl ?_
  refine r_getR X (pc := 216) (r := 73) ci_M (show (SH.take 100)[71]? = _ from rfl) rfl rfl lk_M_20 (zw_dg dk_M_init 111 rfl) ?_
  refine r_iload_n X (pc := 219) (i := 1) (zw_dg dk_M_init 112 rfl) rfl rfl ?_
  refine r_iload_n X (pc := 220) (i := 1) (zw_dg dk_M_init 113 rfl) rfl rfl ?_
  refine r_iload_n X (pc := 221) (i := 1) (zw_dg dk_M_init 114 rfl) rfl rfl ?_
  refine r_imul X (pc := 222) (zw_dg dk_M_init 115 rfl) ?_
  refine zw_eqtI (show (6 : Int32) * 6 = 36 from by decide) ?_
  refine r_iast X (pc := 223) (show (SH.take 100)[73]? = _ from rfl) (show zw_uI 13 _ 73 6 36 = some (zw_wI _ 73 6 36) from rfl) (zw_dg dk_M_init 116 rfl) ?_
  refine r_iinc X (pc := 224) (i := 1) (k := 1) (zw_dg dk_M_init 117 rfl) rfl (by decide) (by decide) rfl ?_
  refine zw_eL (L2 := [some (.ref 71), some (.int 7)]) (by rfl) ?_
  refine r_goto X (pc := 227) (tgt := 209) (zw_dg dk_M_init 118 rfl) (by decide) ?_
  refine r_iload_n X (pc := 209) (i := 1) (zw_dg dk_M_init 107 rfl) rfl rfl ?_
  refine r_bipush X (pc := 210) (v := 13) (zw_dg dk_M_init 108 rfl) (by decide) ?_
  refine r_icmp_ge X (pc := 212) (tgt := 230) (zw_dg dk_M_init 109 rfl) (by decide) (fun q => absurd q (by decide)) (fun q => ?_)
  refine r_aload_n X (pc := 215) (i := 0) (zw_dg dk_M_init 110 rfl) rfl rfl ?_
  refine r_getR X (pc := 216) (r := 73) ci_M (show (SH.take 100)[71]? = _ from rfl) rfl rfl lk_M_20 (zw_dg dk_M_init 111 rfl) ?_
  refine r_iload_n X (pc := 219) (i := 1) (zw_dg dk_M_init 112 rfl) rfl rfl ?_
  refine r_iload_n X (pc := 220) (i := 1) (zw_dg dk_M_init 113 rfl) rfl rfl ?_
  refine r_iload_n X (pc := 221) (i := 1) (zw_dg dk_M_init 114 rfl) rfl rfl ?_
  refine r_imul X (pc := 222) (zw_dg dk_M_init 115 rfl) ?_
  refine zw_eqtI (show (7 : Int32) * 7 = 49 from by decide) ?_
  refine r_iast X (pc := 223) (show (SH.take 100)[73]? = _ from rfl) (show zw_uI 13 _ 73 7 49 = some (zw_wI _ 73 7 49) from rfl) (zw_dg dk_M_init 116 rfl) ?_
  refine r_iinc X (pc := 224) (i := 1) (k := 1) (zw_dg dk_M_init 117 rfl) rfl (by decide) (by decide) rfl ?_
  refine zw_eL (L2 := [some (.ref 71), some (.int 8)]) (by rfl) ?_
  refine r_goto X (pc := 227) (tgt := 209) (zw_dg dk_M_init 118 rfl) (by decide) ?_
  refine r_iload_n X (pc := 209) (i := 1) (zw_dg dk_M_init 107 rfl) rfl rfl ?_
  refine r_bipush X (pc := 210) (v := 13) (zw_dg dk_M_init 108 rfl) (by decide) ?_
  refine r_icmp_ge X (pc := 212) (tgt := 230) (zw_dg dk_M_init 109 rfl) (by decide) (fun q => absurd q (by decide)) (fun q => ?_)
  refine r_aload_n X (pc := 215) (i := 0) (zw_dg dk_M_init 110 rfl) rfl rfl ?_
  refine r_getR X (pc := 216) (r := 73) ci_M (show (SH.take 100)[71]? = _ from rfl) rfl rfl lk_M_20 (zw_dg dk_M_init 111 rfl) ?_
  refine r_iload_n X (pc := 219) (i := 1) (zw_dg dk_M_init 112 rfl) rfl rfl ?_
  refine r_iload_n X (pc := 220) (i := 1) (zw_dg dk_M_init 113 rfl) rfl rfl ?_
  refine r_iload_n X (pc := 221) (i := 1) (zw_dg dk_M_init 114 rfl) rfl rfl ?_
  refine r_imul X (pc := 222) (zw_dg dk_M_init 115 rfl) ?_
  refine zw_eqtI (show (8 : Int32) * 8 = 64 from by decide) ?_
  refine r_iast X (pc := 223) (show (SH.take 100)[73]? = _ from rfl) (show zw_uI 13 _ 73 8 64 = some (zw_wI _ 73 8 64) from rfl) (zw_dg dk_M_init 116 rfl) ?_
  refine r_iinc X (pc := 224) (i := 1) (k := 1) (zw_dg dk_M_init 117 rfl) rfl (by decide) (by decide) rfl ?_
  refine zw_eL (L2 := [some (.ref 71), some (.int 9)]) (by rfl) ?_
  refine r_goto X (pc := 227) (tgt := 209) (zw_dg dk_M_init 118 rfl) (by decide) ?_
  refine r_iload_n X (pc := 209) (i := 1) (zw_dg dk_M_init 107 rfl) rfl rfl ?_
  refine r_bipush X (pc := 210) (v := 13) (zw_dg dk_M_init 108 rfl) (by decide) ?_
  refine r_icmp_ge X (pc := 212) (tgt := 230) (zw_dg dk_M_init 109 rfl) (by decide) (fun q => absurd q (by decide)) (fun q => ?_)
  refine r_aload_n X (pc := 215) (i := 0) (zw_dg dk_M_init 110 rfl) rfl rfl ?_
  refine r_getR X (pc := 216) (r := 73) ci_M (show (SH.take 100)[71]? = _ from rfl) rfl rfl lk_M_20 (zw_dg dk_M_init 111 rfl) ?_
  refine r_iload_n X (pc := 219) (i := 1) (zw_dg dk_M_init 112 rfl) rfl rfl ?_
  refine r_iload_n X (pc := 220) (i := 1) (zw_dg dk_M_init 113 rfl) rfl rfl ?_
  refine r_iload_n X (pc := 221) (i := 1) (zw_dg dk_M_init 114 rfl) rfl rfl ?_
  refine r_imul X (pc := 222) (zw_dg dk_M_init 115 rfl) ?_
  refine zw_eqtI (show (9 : Int32) * 9 = 81 from by decide) ?_
  refine r_iast X (pc := 223) (show (SH.take 100)[73]? = _ from rfl) (show zw_uI 13 _ 73 9 81 = some (zw_wI _ 73 9 81) from rfl) (zw_dg dk_M_init 116 rfl) ?_
  refine r_iinc X (pc := 224) (i := 1) (k := 1) (zw_dg dk_M_init 117 rfl) rfl (by decide) (by decide) rfl ?_
  refine zw_eL (L2 := [some (.ref 71), some (.int 10)]) (by rfl) ?_
  refine r_goto X (pc := 227) (tgt := 209) (zw_dg dk_M_init 118 rfl) (by decide) ?_
  refine r_iload_n X (pc := 209) (i := 1) (zw_dg dk_M_init 107 rfl) rfl rfl ?_
  refine r_bipush X (pc := 210) (v := 13) (zw_dg dk_M_init 108 rfl) (by decide) ?_
  refine r_icmp_ge X (pc := 212) (tgt := 230) (zw_dg dk_M_init 109 rfl) (by decide) (fun q => absurd q (by decide)) (fun q => ?_)
  refine r_aload_n X (pc := 215) (i := 0) (zw_dg dk_M_init 110 rfl) rfl rfl ?_
  refine r_getR X (pc := 216) (r := 73) ci_M (show (SH.take 100)[71]? = _ from rfl) rfl rfl lk_M_20 (zw_dg dk_M_init 111 rfl) ?_
  refine r_iload_n X (pc := 219) (i := 1) (zw_dg dk_M_init 112 rfl) rfl rfl ?_
  refine r_iload_n X (pc := 220) (i := 1) (zw_dg dk_M_init 113 rfl) rfl rfl ?_
  refine r_iload_n X (pc := 221) (i := 1) (zw_dg dk_M_init 114 rfl) rfl rfl ?_
  refine r_imul X (pc := 222) (zw_dg dk_M_init 115 rfl) ?_
  refine zw_eqtI (show (10 : Int32) * 10 = 100 from by decide) ?_
  refine r_iast X (pc := 223) (show (SH.take 100)[73]? = _ from rfl) (show zw_uI 13 _ 73 10 100 = some (zw_wI _ 73 10 100) from rfl) (zw_dg dk_M_init 116 rfl) ?_
  refine r_iinc X (pc := 224) (i := 1) (k := 1) (zw_dg dk_M_init 117 rfl) rfl (by decide) (by decide) rfl ?_
  refine zw_eL (L2 := [some (.ref 71), some (.int 11)]) (by rfl) ?_
  refine r_goto X (pc := 227) (tgt := 209) (zw_dg dk_M_init 118 rfl) (by decide) ?_
  refine r_iload_n X (pc := 209) (i := 1) (zw_dg dk_M_init 107 rfl) rfl rfl ?_
  refine r_bipush X (pc := 210) (v := 13) (zw_dg dk_M_init 108 rfl) (by decide) ?_
  refine r_icmp_ge X (pc := 212) (tgt := 230) (zw_dg dk_M_init 109 rfl) (by decide) (fun q => absurd q (by decide)) (fun q => ?_)
  refine r_aload_n X (pc := 215) (i := 0) (zw_dg dk_M_init 110 rfl) rfl rfl ?_
  refine r_getR X (pc := 216) (r := 73) ci_M (show (SH.take 100)[71]? = _ from rfl) rfl rfl lk_M_20 (zw_dg dk_M_init 111 rfl) ?_
  refine r_iload_n X (pc := 219) (i := 1) (zw_dg dk_M_init 112 rfl) rfl rfl ?_
  refine r_iload_n X (pc := 220) (i := 1) (zw_dg dk_M_init 113 rfl) rfl rfl ?_
  refine r_iload_n X (pc := 221) (i := 1) (zw_dg dk_M_init 114 rfl) rfl rfl ?_
  refine r_imul X (pc := 222) (zw_dg dk_M_init 115 rfl) ?_
  refine zw_eqtI (show (11 : Int32) * 11 = 121 from by decide) ?_
  refine r_iast X (pc := 223) (show (SH.take 100)[73]? = _ from rfl) (show zw_uI 13 _ 73 11 121 = some (zw_wI _ 73 11 121) from rfl) (zw_dg dk_M_init 116 rfl) ?_
  refine r_iinc X (pc := 224) (i := 1) (k := 1) (zw_dg dk_M_init 117 rfl) rfl (by decide) (by decide) rfl ?_
  refine zw_eL (L2 := [some (.ref 71), some (.int 12)]) (by rfl) ?_
  refine r_goto X (pc := 227) (tgt := 209) (zw_dg dk_M_init 118 rfl) (by decide) ?_
  refine r_iload_n X (pc := 209) (i := 1) (zw_dg dk_M_init 107 rfl) rfl rfl ?_
  refine r_bipush X (pc := 210) (v := 13) (zw_dg dk_M_init 108 rfl) (by decide) ?_
  refine r_icmp_ge X (pc := 212) (tgt := 230) (zw_dg dk_M_init 109 rfl) (by decide) (fun q => absurd q (by decide)) (fun q => ?_)
  refine r_aload_n X (pc := 215) (i := 0) (zw_dg dk_M_init 110 rfl) rfl rfl ?_
  refine r_getR X (pc := 216) (r := 73) ci_M (show (SH.take 100)[71]? = _ from rfl) rfl rfl lk_M_20 (zw_dg dk_M_init 111 rfl) ?_
  refine r_iload_n X (pc := 219) (i := 1) (zw_dg dk_M_init 112 rfl) rfl rfl ?_
  refine r_iload_n X (pc := 220) (i := 1) (zw_dg dk_M_init 113 rfl) rfl rfl ?_
  refine r_iload_n X (pc := 221) (i := 1) (zw_dg dk_M_init 114 rfl) rfl rfl ?_
  refine r_imul X (pc := 222) (zw_dg dk_M_init 115 rfl) ?_
  refine zw_eqtI (show (12 : Int32) * 12 = 144 from by decide) ?_
  refine r_iast X (pc := 223) (show (SH.take 100)[73]? = _ from rfl) (show zw_uI 13 _ 73 12 144 = some (zw_wI _ 73 12 144) from rfl) (zw_dg dk_M_init 116 rfl) ?_
  refine r_iinc X (pc := 224) (i := 1) (k := 1) (zw_dg dk_M_init 117 rfl) rfl (by decide) (by decide) rfl ?_
  refine zw_eL (L2 := [some (.ref 71), some (.int 13)]) (by rfl) ?_
  refine r_goto X (pc := 227) (tgt := 209) (zw_dg dk_M_init 118 rfl) (by decide) ?_
  refine r_iload_n X (pc := 209) (i := 1) (zw_dg dk_M_init 107 rfl) rfl rfl ?_
  refine r_bipush X (pc := 210) (v := 13) (zw_dg dk_M_init 108 rfl) (by decide) ?_
  refine r_icmp_ge X (pc := 212) (tgt := 230) (zw_dg dk_M_init 109 rfl) (by decide) (fun q => ?_) (fun q => absurd (show (13 : Int32) ≤ 13 from by decide) q)
  refine r_aload_n X (pc := 230) (i := 0) (zw_dg dk_M_init 119 rfl) rfl rfl ?_
  refine r_callVv X (pc := 231) (As := []) (st := []) (km_M_layOut zw_ok_100_114 hc71_6) ce_M_layOut kw_1452 (show (SH.take 100)[71]? = _ from rfl) rfl rfl ⟨Nat.le_of_ble_eq_true rfl, Nat.le_of_ble_eq_true rfl⟩ (Nat.le_of_ble_eq_true rfl) (zw_dg dk_M_init 120 rfl) ?_
  exact r_vretC X (pc := 234) rfl (Nat.le_refl _) (Nat.le_refl _) (zw_dg dk_M_init 121 rfl)
theorem zw_ok_end : zw_Ok 0 101 SH rr_114 := zw_OkOf (by decide +kernel)
