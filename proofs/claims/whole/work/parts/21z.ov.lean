theorem zw_ov_c (r : Option Nat) : ¬ (zw_ov r).category = 2 := by
  cases r with
  | none => exact (show ¬ ((1 : Nat) = 2) from by decide)
  | some a => exact (show ¬ ((1 : Nat) = 2) from by decide)
theorem zw_clr_ov {L : zw_Lc} {j : Nat} {r : Option Nat} (h : L[j]? = some (some (zw_ov r))) : zw_clr L (j + 1) = L := by
  show (match L[j]? with
    | some (some w) => if w.category = 2 then L.set j none else L
    | _ => L) = L
  rw [h]
  exact if_neg (zw_ov_c r)
theorem zw_s1v {L L2 : zw_Lc} {j : Nat} {r : Option Nat} {v : Value} (h : L[j]? = some (some (zw_ov r))) (h2 : L.set (j + 1) (some v) = L2) : zw_s1 L (j + 1) v = L2 := by
  unfold zw_s1; rw [zw_clr_ov h]; exact h2
theorem zw_s2v {L L2 : zw_Lc} {j : Nat} {r : Option Nat} {v : Value} (h : L[j]? = some (some (zw_ov r))) (h2 : (L.set (j + 1) (some v)).set (j + 2) none = L2) : zw_s2 L (j + 1) v = L2 := by
  unfold zw_s2; rw [zw_clr_ov h]; exact h2
