/-! the cells by their numbers: what stands where (by program: wip/whole/gen/aux6.py) -/
def SH : zw_Sh := [.inr 0, .inr 1, .inl (0, 1820), .inr 2, .inl (0, 13), .inl (0, 6), .inl (0, 40), .inl (0, 40), .inl (0, 40), .inl (0, 6), .inl (0, 6), .inr 3, .inl (1, 455), .inr 4, .inl (6, 3), .inr 2, .inl (0, 13), .inl (0, 6), .inl (0, 40), .inl (0, 40), .inl (0, 40), .inl (0, 6), .inl (0, 6), .inr 2, .inl (0, 13), .inl (0, 6), .inl (0, 40), .inl (0, 40), .inl (0, 40), .inl (0, 6), .inl (0, 6), .inr 2, .inl (0, 13), .inl (0, 6), .inl (0, 40), .inl (0, 40), .inl (0, 40), .inl (0, 6), .inl (0, 6), .inl (3, 3), .inr 5, .inl (0, 80), .inl (0, 60), .inl (0, 60), .inl (3, 6), .inr 6, .inl (0, 4), .inl (4, 4), .inl (0, 60), .inl (0, 60), .inl (0, 60), .inl (0, 60), .inl (0, 4), .inl (4, 4), .inl (0, 1820), .inl (0, 1820), .inl (0, 1820), .inl (0, 1820), .inl (3, 4), .inl (0, 9), .inl (0, 60), .inr 7, .inl (1, 16), .inr 8, .inl (0, 4), .inr 9, .inl (0, 6), .inl (0, 4), .inr 10, .inr 11, .inl (0, 4), .inr 12, .inl (0, 1820), .inl (0, 13), .inl (2, 80), .inl (1, 24), .inl (5, 4), .inl (2, 60), .inl (2, 60), .inl (2, 60), .inl (2, 60), .inl (0, 4), .inl (3, 4), .inl (0, 7280), .inl (0, 1820), .inl (0, 1820), .inl (1, 13), .inl (0, 4), .inl (0, 4), .inl (0, 6), .inl (0, 6), .inl (1, 4), .inl (0, 6), .inl (0, 6), .inl (0, 40), .inl (0, 40), .inl (0, 40), .inl (0, 462), .inl (3, 3), .inl (0, 3), .inl (1, 1)]
def RLL : List (List (Option Nat)) := [[some 1, some 3, some 14, some 39, some 40, some 45, some 61, some 13, some 63, some 65, some 68, some 69], [none, none, none, some 2], [], [some 4, some 5, none, some 6, some 7, some 8, none, some 9, some 10], [], [], [], [], [], [], [], [some 1, some 12], [], [some 1, some 11], [some 15, some 23, some 31], [some 16, some 17, none, some 18, some 19, some 20, none, some 21, some 22], [], [], [], [], [], [], [], [some 24, some 25, none, some 26, some 27, some 28, none, some 29, some 30], [], [], [], [], [], [], [], [some 32, some 33, none, some 34, some 35, some 36, none, some 37, some 38], [], [], [], [], [], [], [], [], [some 41, none, some 42, none, some 43, none, some 44], [], [], [], [], [some 1, some 3, some 46, some 47, some 52, some 53, some 58, some 59, some 60], [], [some 48, some 49, some 50, some 51], [], [], [], [], [], [some 54, some 55, some 56, some 57], [], [], [], [], [], [], [], [some 62], [], [some 1, some 11, some 13, some 64], [], [some 1, some 3, some 66, some 67], [], [], [some 1, some 11, some 13], [some 1, some 3, some 11, some 13, some 70], [], [none, none, none, some 72, some 73, some 74, none, some 75, none, none, none, some 76, some 81, some 82, some 83, none, none, none, none, none, none, some 84, some 85, some 86, some 87, some 88, none, some 89, some 90, some 91, none, some 92, some 93, none, some 94, some 95, some 96, none, some 97, some 98, some 99], [], [], [], [], [some 77, some 78, some 79, some 80], [], [], [], [], [], [], [], [], [], [], [], [], [], [], [], [], [], [], [], [], [], [], [], []]
def RLF (k i : Nat) : Option Nat := match RLL[k]? with
  | none => none
  | some l => match l[i]? with
    | none => none
    | some o => o
def HSH : zw_Sh := [.inr 2, .inl (0, 13), .inl (0, 6), .inl (0, 40), .inl (0, 40), .inl (0, 40), .inl (0, 6), .inl (0, 6)]
def HRL : List (Option Nat) := [some 1, some 2, none, some 3, some 4, some 5, none, some 6, some 7, none]
def zw_Ok (lo hi : Nat) (sh : zw_Sh) (rr : zw_RR) : Prop := ∀ k, lo ≤ k → k < hi → sh[k]? = SH[k]? ∧ ∀ i r, RLF k i = some r → rr k i = some r
theorem zw_Ok.mono {lo hi lo2 hi2 : Nat} {sh : zw_Sh} {rr : zw_RR} (h : zw_Ok lo hi sh rr) (h1 : lo ≤ lo2) (h2 : hi2 ≤ hi) : zw_Ok lo2 hi2 sh rr := fun k a b => h k (Nat.le_trans h1 a) (Nat.lt_of_lt_of_le b h2)
theorem zo {lo hi : Nat} {sh : zw_Sh} {rr : zw_RR} (h : zw_Ok lo hi sh rr) (k : Nat) {K : zw_Kd} (hb : (Nat.ble lo k && Nat.blt k hi) = true) (e : SH[k]? = some K) : sh[k]? = some K := by
  rw [Bool.and_eq_true] at hb
  rw [(h k (Nat.le_of_ble_eq_true hb.1) (Nat.le_of_ble_eq_true hb.2)).1]; exact e
theorem zr {lo hi : Nat} {sh : zw_Sh} {rr : zw_RR} (h : zw_Ok lo hi sh rr) (k i : Nat) {r : Nat} (hb : (Nat.ble lo k && Nat.blt k hi) = true) (e : RLF k i = some r) : rr k i = some r := by
  rw [Bool.and_eq_true] at hb
  exact (h k (Nat.le_of_ble_eq_true hb.1) (Nat.le_of_ble_eq_true hb.2)).2 i r e
theorem zd {sh : zw_Sh} {rr : zw_RR} (h : zw_Ok 0 101 sh rr) {k : Nat} {K : zw_Kd} (e : SH[k]? = some K) : sh[k]? = some K := by
  have hl : k < SH.length := (List.getElem?_eq_some_iff.mp e).1
  rw [(h k (Nat.zero_le k) hl).1]; exact e
def zw_HO (o : Nat) (sh : zw_Sh) (rr : zw_RR) : Prop := (∀ d K, HSH[d]? = some K → sh[o + d]? = some K) ∧ ∀ i r, HRL[i]? = some (some r) → rr o i = some (o + r)
theorem zh {o : Nat} {sh : zw_Sh} {rr : zw_RR} (h : zw_HO o sh rr) (d : Nat) {K : zw_Kd} (e : HSH[d]? = some K) : sh[o + d]? = some K := h.1 d K e
theorem zhr {o : Nat} {sh : zw_Sh} {rr : zw_RR} (h : zw_HO o sh rr) (i : Nat) {r : Nat} (e : HRL[i]? = some (some r)) : rr o i = some (o + r) := h.2 i r e
theorem zw_HOof {sh : zw_Sh} {rr : zw_RR} (h : zw_Ok 0 101 sh rr) (k : Nat) (h1 : (List.range 8).all (fun d => decide (SH[k + d]? = HSH[d]?)) = true) (h2 : (List.range 10).all (fun i => match HRL[i]? with | some (some r) => decide (RLF k i = some (k + r)) | _ => true) = true) (hk : k < 101) (h8 : k + 8 < 101) : zw_HO k sh rr := by
  refine ⟨fun d K e => ?_, fun i r e => ?_⟩
  · have hd : d < 8 := (List.getElem?_eq_some_iff.mp e).1
    have := List.all_eq_true.mp h1 d (List.mem_range.mpr hd)
    rw [decide_eq_true_eq] at this
    rw [(h (k + d) (Nat.zero_le _) (by omega)).1, this]; exact e
  · have hi : i < 10 := (List.getElem?_eq_some_iff.mp e).1
    have := List.all_eq_true.mp h2 i (List.mem_range.mpr hi)
    rw [e] at this
    exact (h k (Nat.zero_le _) hk).2 i _ (of_decide_eq_true this)
theorem zho {sh : zw_Sh} {rr : zw_RR} (h : zw_Ok 0 101 sh rr) (k : Nat) (e : (k == 3 || k == 15 || k == 23 || k == 31) = true) : zw_HO k sh rr := by
  simp only [Bool.or_eq_true, beq_iff_eq] at e
  rcases e with ((rfl | rfl) | rfl) | rfl <;> exact zw_HOof h _ (by decide +kernel) (by decide +kernel) (by decide) (by decide)
def zw_gr (B n s : Nat) (i : Int32) : Option Nat := if i < 0 ∨ n ≤ i.toNatClampNeg then none else some (B + s * i.toNatClampNeg)
theorem zw_gr_of {B n s : Nat} {i : Int32} {v : Nat} (h : zw_gr B n s i = some v) : vp_in i n ∧ B + s * i.toNatClampNeg = v := by
  unfold zw_gr at h
  split at h
  · cases h
  · exact ⟨by assumption, Option.some.inj h⟩
theorem zw_gr_in {B n s : Nat} {i : Int32} {v : Nat} (h : zw_gr B n s i = some v) : vp_in i n := (zw_gr_of h).1
theorem zw_gr_k {B n s : Nat} {i : Int32} {v : Nat} (h : zw_gr B n s i = some v) : i.toNatClampNeg < n := Nat.not_le.mp fun q => (zw_gr_of h).1 (Or.inr q)
theorem zgr {sh : zw_Sh} {rr : zw_RR} (hS : zw_Ok 0 101 sh rr) (r : Nat) {B n s : Nat} {i : Int32} {v : Nat} (h : zw_gr B n s i = some v) (e : (Nat.blt r 101 && (List.range n).all (fun j => decide (RLF r j = some (B + s * j)))) = true) : rr r i.toNatClampNeg = some v := by
  rw [Bool.and_eq_true] at e
  obtain ⟨h1, h2⟩ := zw_gr_of h
  have := List.all_eq_true.mp e.2 i.toNatClampNeg (List.mem_range.mpr (zw_gr_k h))
  rw [← h2]
  exact (hS r (Nat.zero_le _) (Nat.le_of_ble_eq_true e.1)).2 _ _ (of_decide_eq_true this)
theorem zw_gr_lt {B n s : Nat} {i : Int32} {v : Nat} (h : zw_gr B n s i = some v) (e : B + s * n < 2 ^ 31) : v < 2 ^ 31 := by
  rw [← (zw_gr_of h).2]
  have := Nat.mul_le_mul_left s (Nat.le_of_lt (zw_gr_k h))
  omega
theorem zw_gr_pos {B n s : Nat} {i : Int32} {v : Nat} (h : zw_gr B n s i = some v) (e : 0 < B) : 0 < v := by
  rw [← (zw_gr_of h).2]; omega
theorem zhk {sh : zw_Sh} {rr : zw_RR} (hS : zw_Ok 0 101 sh rr) {i : Int32} {v : Nat} (h : zw_gr 15 3 8 i = some v) : zw_HO v sh rr := by
  have h1 := zw_gr_k h
  have h2 := (zw_gr_of h).2
  generalize i.toNatClampNeg = j at h1 h2
  obtain rfl | rfl | rfl : j = 0 ∨ j = 1 ∨ j = 2 := by omega
  · exact zho hS v (by rw [← h2]; rfl)
  · exact zho hS v (by rw [← h2]; rfl)
  · exact zho hS v (by rw [← h2]; rfl)
theorem zw_rl1 {a : Nat} : a + 1 ≤ a + 1 := Nat.le_refl _
theorem zw_ifp {P : Prop} [Decidable P] {α : Type} {a b r : α} (hP : P) (h : (if P then a else b) = r) : a = r := by rw [if_pos hP] at h; exact h
theorem zw_ifn {P : Prop} [Decidable P] {α : Type} {a b r : α} (hP : ¬ P) (h : (if P then a else b) = r) : b = r := by rw [if_neg hP] at h; exact h
theorem zw_dT {p : Prop} [Decidable p] {b : Bool} (h : some (decide p) = some b) (hp : p) : b = true := by rw [← Option.some.inj h]; exact decide_eq_true hp
theorem zw_dF {p : Prop} [Decidable p] {b : Bool} (h : some (decide p) = some b) (hp : ¬ p) : b = false := by rw [← Option.some.inj h]; exact decide_eq_false hp
theorem zw_iteb {P : Prop} [Decidable P] {x y : Int32} (hx : x = 0 ∨ x = 1) (hy : y = 0 ∨ y = 1) : (if P then x else y) = 0 ∨ (if P then x else y) = 1 := by
  by_cases h : P
  · rw [if_pos h]; exact hx
  · rw [if_neg h]; exact hy
def zw_dk (cc : ByteArray) (l : List (Nat × Instr × Nat)) : Bool := l.all (fun q => decide (decode cc q.1 = .ok (q.2.1, q.2.2)))
theorem zw_dg {cc : ByteArray} {l : List (Nat × Instr × Nat)} (h : zw_dk cc l = true) (i : Nat) {pc n : Nat} {I : Instr} (e : l[i]? = some (pc, I, n)) : decode cc pc = .ok (I, n) := by
  have h1 := List.all_eq_true.mp h _ (List.mem_of_getElem? e)
  dsimp only at h1
  exact of_decide_eq_true h1
def zw_fgt (L : zw_Lc) (ks : List Nat) : zw_Lc := ks.foldl (fun L k => L.set k none) L
theorem zw_fgt_at : ∀ (ks : List Nat) (L : zw_Lc) (i : Nat) (v : Value), (zw_fgt L ks)[i]? = some (some v) → L[i]? = some (some v)
  | [], L, i, v, h => h
  | k :: ks, L, i, v, h => by
    have h1 := zw_fgt_at ks (L.set k none) i v h
    by_cases hk : k = i
    · subst hk
      rw [List.getElem?_set] at h1
      simp at h1
    · rw [List.getElem?_set_ne hk] at h1
      exact h1
theorem zw_in2   {α0 α1 : Type} {a0 b0 : α0} {a1 b1 : α1} (h : some (a0, a1) = some (b0, b1)) : b0 = a0 ∧ b1 = a1 := by
  simp only [Option.some.injEq, Prod.mk.injEq] at h
  exact ⟨h.1.symm, h.2.symm⟩
theorem zw_in3   {α0 α1 α2 : Type} {a0 b0 : α0} {a1 b1 : α1} {a2 b2 : α2} (h : some (a0, a1, a2) = some (b0, b1, b2)) : b0 = a0 ∧ b1 = a1 ∧ b2 = a2 := by
  simp only [Option.some.injEq, Prod.mk.injEq] at h
  exact ⟨h.1.symm, h.2.1.symm, h.2.2.symm⟩
theorem zw_in4   {α0 α1 α2 α3 : Type} {a0 b0 : α0} {a1 b1 : α1} {a2 b2 : α2} {a3 b3 : α3} (h : some (a0, a1, a2, a3) = some (b0, b1, b2, b3)) : b0 = a0 ∧ b1 = a1 ∧ b2 = a2 ∧ b3 = a3 := by
  simp only [Option.some.injEq, Prod.mk.injEq] at h
  exact ⟨h.1.symm, h.2.1.symm, h.2.2.1.symm, h.2.2.2.symm⟩
theorem zw_in5   {α0 α1 α2 α3 α4 : Type} {a0 b0 : α0} {a1 b1 : α1} {a2 b2 : α2} {a3 b3 : α3} {a4 b4 : α4} (h : some (a0, a1, a2, a3, a4) = some (b0, b1, b2, b3, b4)) : b0 = a0 ∧ b1 = a1 ∧ b2 = a2 ∧ b3 = a3 ∧ b4 = a4 := by
  simp only [Option.some.injEq, Prod.mk.injEq] at h
  exact ⟨h.1.symm, h.2.1.symm, h.2.2.1.symm, h.2.2.2.1.symm, h.2.2.2.2.symm⟩
theorem zw_in6   {α0 α1 α2 α3 α4 α5 : Type} {a0 b0 : α0} {a1 b1 : α1} {a2 b2 : α2} {a3 b3 : α3} {a4 b4 : α4} {a5 b5 : α5} (h : some (a0, a1, a2, a3, a4, a5) = some (b0, b1, b2, b3, b4, b5)) : b0 = a0 ∧ b1 = a1 ∧ b2 = a2 ∧ b3 = a3 ∧ b4 = a4 ∧ b5 = a5 := by
  simp only [Option.some.injEq, Prod.mk.injEq] at h
  exact ⟨h.1.symm, h.2.1.symm, h.2.2.1.symm, h.2.2.2.1.symm, h.2.2.2.2.1.symm, h.2.2.2.2.2.symm⟩
theorem zw_in7   {α0 α1 α2 α3 α4 α5 α6 : Type} {a0 b0 : α0} {a1 b1 : α1} {a2 b2 : α2} {a3 b3 : α3} {a4 b4 : α4} {a5 b5 : α5} {a6 b6 : α6} (h : some (a0, a1, a2, a3, a4, a5, a6) = some (b0, b1, b2, b3, b4, b5, b6)) : b0 = a0 ∧ b1 = a1 ∧ b2 = a2 ∧ b3 = a3 ∧ b4 = a4 ∧ b5 = a5 ∧ b6 = a6 := by
  simp only [Option.some.injEq, Prod.mk.injEq] at h
  exact ⟨h.1.symm, h.2.1.symm, h.2.2.1.symm, h.2.2.2.1.symm, h.2.2.2.2.1.symm, h.2.2.2.2.2.1.symm, h.2.2.2.2.2.2.symm⟩
section ZT
variable {p : Program} {l : Launch} {e : Env} {R : Room} {s : State} {m : MethodId} {args : Array Value} {below : List Frame} {meth : Method} {cd : Code} {cells slots : Nat} {Q : State → Prop} {g : zw_G} {cc : ByteArray} {own : String} {ret : Option FieldType} {nL : Nat} {sh : zw_Sh} {rr : zw_RR} {pc : Nat} {L : zw_Lc} {c : zw_Ct} {st : List Value}
theorem zw_topI {x y : Int32} (h : some x = some y) (k : ZW p l e R s m args below meth cd cells slots Q g nL sh rr pc L c (.int y :: st)) : ZW p l e R s m args below meth cd cells slots Q g nL sh rr pc L c (.int x :: st) := by cases h; exact k
theorem zw_topJ {x y : Int64} (h : some x = some y) (k : ZW p l e R s m args below meth cd cells slots Q g nL sh rr pc L c (.long y :: st)) : ZW p l e R s m args below meth cd cells slots Q g nL sh rr pc L c (.long x :: st) := by cases h; exact k
theorem zw_topO {x : Option Nat} {n : Nat} (h : x = some n) (k : ZW p l e R s m args below meth cd cells slots Q g nL sh rr pc L c (.ref n :: st)) : ZW p l e R s m args below meth cd cells slots Q g nL sh rr pc L c (zw_ov x :: st) := by cases h; exact k
theorem zw_topC {c0 c1 : zw_Ct} (h : some c0 = some c1) (k : ZW p l e R s m args below meth cd cells slots Q g nL sh rr pc L c1 st) : ZW p l e R s m args below meth cd cells slots Q g nL sh rr pc L c0 st := by cases h; exact k
theorem zw_eqtI {x y : Int32} (h : x = y) (k : ZW p l e R s m args below meth cd cells slots Q g nL sh rr pc L c (.int y :: st)) : ZW p l e R s m args below meth cd cells slots Q g nL sh rr pc L c (.int x :: st) := by cases h; exact k
theorem zw_eqtI2 {x y : Int32} (h : x = y) (k : ZW p l e R s m args below meth cd cells slots Q g nL sh rr pc L c (.int y :: st)) : ZW p l e R s m args below meth cd cells slots Q g nL sh rr pc L c (.int x :: st) := by cases h; exact k
theorem zw_eqtI3 {x y : Int32} (h : x = y) (k : ZW p l e R s m args below meth cd cells slots Q g nL sh rr pc L c (.int y :: st)) : ZW p l e R s m args below meth cd cells slots Q g nL sh rr pc L c (.int x :: st) := by cases h; exact k
theorem zw_eqtJ {x y : Int64} (h : x = y) (k : ZW p l e R s m args below meth cd cells slots Q g nL sh rr pc L c (.long y :: st)) : ZW p l e R s m args below meth cd cells slots Q g nL sh rr pc L c (.long x :: st) := by cases h; exact k
theorem zw_topRO {n : Nat} (k : ZW p l e R s m args below meth cd cells slots Q g nL sh rr pc L c (zw_ov (some n) :: st)) : ZW p l e R s m args below meth cd cells slots Q g nL sh rr pc L c (.ref n :: st) := k
theorem zw_eL {L2 : zw_Lc} (h : L = L2) (k : ZW p l e R s m args below meth cd cells slots Q g nL sh rr pc L2 c st) : ZW p l e R s m args below meth cd cells slots Q g nL sh rr pc L c st := h ▸ k
theorem zw_cnd {P : Prop} {J1 J2 : Nat} {st2 : List Value} (walk : (P → ZW p l e R s m args below meth cd cells slots Q g nL sh rr J1 L c st2) → (¬ P → ZW p l e R s m args below meth cd cells slots Q g nL sh rr J2 L c st2) → ZW p l e R s m args below meth cd cells slots Q g nL sh rr pc L c st) (kT : P → ZW p l e R s m args below meth cd cells slots Q g nL sh rr J1 L c st2) (kF : ¬ P → ZW p l e R s m args below meth cd cells slots Q g nL sh rr J2 L c st2) : ZW p l e R s m args below meth cd cells slots Q g nL sh rr pc L c st := walk kT kF
theorem zw_cndB {b : Bool} {J1 J2 : Nat} {st2 : List Value} (walk : (b = true → ZW p l e R s m args below meth cd cells slots Q g nL sh rr J1 L c st2) → (b = false → ZW p l e R s m args below meth cd cells slots Q g nL sh rr J2 L c st2) → ZW p l e R s m args below meth cd cells slots Q g nL sh rr pc L c st) (kT : b = true → ZW p l e R s m args below meth cd cells slots Q g nL sh rr J1 L c st2) (kF : b = false → ZW p l e R s m args below meth cd cells slots Q g nL sh rr J2 L c st2) : ZW p l e R s m args below meth cd cells slots Q g nL sh rr pc L c st := walk kT kF
theorem zw_ter {P : Prop} [Decidable P] {α : Type} {f : α → Value} {x y : α} {J : Nat} {st2 : List Value} (walk : (P → ZW p l e R s m args below meth cd cells slots Q g nL sh rr J L c (f x :: st2)) → (¬ P → ZW p l e R s m args below meth cd cells slots Q g nL sh rr J L c (f y :: st2)) → ZW p l e R s m args below meth cd cells slots Q g nL sh rr pc L c st) (k : ZW p l e R s m args below meth cd cells slots Q g nL sh rr J L c (f (if P then x else y) :: st2)) : ZW p l e R s m args below meth cd cells slots Q g nL sh rr pc L c st := walk (fun h => by rw [if_pos h] at k; exact k) (fun h => by rw [if_neg h] at k; exact k)
theorem zw_terO {α : Type} {f : α → Value} {v : α} {J : Nat} {st2 : List Value} {c2 : zw_Ct} (walk : ZW p l e R s m args below meth cd cells slots Q g nL sh rr J L c2 (f v :: st2) → ZW p l e R s m args below meth cd cells slots Q g nL sh rr pc L c st) (k : ZW p l e R s m args below meth cd cells slots Q g nL sh rr J L c2 (f v :: st2)) : ZW p l e R s m args below meth cd cells slots Q g nL sh rr pc L c st := walk k
theorem zw_jn {J : Nat} {L2 : zw_Lc} {c2 : zw_Ct} (walk : ZW p l e R s m args below meth cd cells slots Q g nL sh rr J L2 c2 ([]) → ZW p l e R s m args below meth cd cells slots Q g nL sh rr pc L c st) (k : ZW p l e R s m args below meth cd cells slots Q g nL sh rr J L2 c2 ([])) : ZW p l e R s m args below meth cd cells slots Q g nL sh rr pc L c st := walk k
theorem r_fgt (ks : List Nat) {L2 : zw_Lc} (hL : zw_fgt L ks = L2) (k : ZW p l e R s m args below meth cd cells slots Q g nL sh rr pc L2 c st) : ZW p l e R s m args below meth cd cells slots Q g nL sh rr pc L c st := by
  intro ls H locs h1 h2 h3
  refine k ls H locs ⟨h1.1, h1.2.1, fun i v hv => h1.2.2 i v (zw_fgt_at ks L i v ?_)⟩ h2 h3
  rw [hL]; exact hv
theorem r_loop {τ ρ : Type} {f : τ → Option (ρ ⊕ τ)} {t0 : τ} {x : ρ} {n pce : Nat} (hx : zw_whl f n t0 = some x) (Lf : τ → zw_Lc) (cf : τ → zw_Ct) (Le : ρ → zw_Lc) (ce : ρ → zw_Ct)
    (hit : ∀ t r, f t = some r → (∀ y, r = .inl y → ZW p l e R s m args below meth cd cells slots Q g nL sh rr pce (Le y) (ce y) ([])) → (∀ t', r = .inr t' → ZW p l e R s m args below meth cd cells slots Q g nL sh rr pc (Lf t') (cf t') ([])) → ZW p l e R s m args below meth cd cells slots Q g nL sh rr pc (Lf t) (cf t) ([])) (hL : Lf t0 = L) (hc : cf t0 = c) (hk : ZW p l e R s m args below meth cd cells slots Q g nL sh rr pce (Le x) (ce x) ([])) : ZW p l e R s m args below meth cd cells slots Q g nL sh rr pc L c ([]) := by
  subst hL; subst hc
  exact zw_loop (fun t => ZW p l e R s m args below meth cd cells slots Q g nL sh rr pc (Lf t) (cf t) ([])) (fun y => ZW p l e R s m args below meth cd cells slots Q g nL sh rr pce (Le y) (ce y) ([])) hit n t0 x hx hk
theorem r_loopR {τ ρ ω : Type} {f : τ → Option ((ω ⊕ ρ) ⊕ τ)} {t0 : τ} {x : ω ⊕ ρ} {n pce : Nat} (hx : zw_whl f n t0 = some x) (Lf : τ → zw_Lc) (cf : τ → zw_Ct) (Le : ρ → zw_Lc) (ce : ρ → zw_Ct) (RE : ω → Prop)
    (hit : ∀ t r, f t = some r → (∀ w, r = .inl (.inl w) → RE w) → (∀ y, r = .inl (.inr y) → ZW p l e R s m args below meth cd cells slots Q g nL sh rr pce (Le y) (ce y) ([])) → (∀ t', r = .inr t' → ZW p l e R s m args below meth cd cells slots Q g nL sh rr pc (Lf t') (cf t') ([])) → ZW p l e R s m args below meth cd cells slots Q g nL sh rr pc (Lf t) (cf t) ([])) (hL : Lf t0 = L) (hc : cf t0 = c) (hr : ∀ w, x = .inl w → RE w) (hk : ∀ y, x = .inr y → ZW p l e R s m args below meth cd cells slots Q g nL sh rr pce (Le y) (ce y) ([])) : ZW p l e R s m args below meth cd cells slots Q g nL sh rr pc L c ([]) := by
  subst hL; subst hc
  refine zw_loop (fun t => ZW p l e R s m args below meth cd cells slots Q g nL sh rr pc (Lf t) (cf t) ([])) (fun z => (∀ w, z = .inl w → RE w) ∧ (∀ y, z = .inr y → ZW p l e R s m args below meth cd cells slots Q g nL sh rr pce (Le y) (ce y) ([]))) (fun t r h1 h2 h3 => hit t r h1 (fun w hw => (h2 _ hw).1 w rfl) (fun y hy => (h2 _ hy).2 y rfl) h3) n t0 x hx ⟨hr, hk⟩
end ZT
