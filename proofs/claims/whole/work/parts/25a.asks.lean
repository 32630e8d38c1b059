/-! what the law asks of each call: class and Model, one behind the other, answer alike and keep Rel (by programs thr.py, law2.py of wip/whole/gen) -/
def fn_P_part (c : zw_Ct) (s1 : Int32) (e2 : Int32) : Option (Option Int32 × zw_Ct) :=
  if ((¬ (¬ (fn_Sayings_has c s1) = 0)) ∨ (¬ (¬ (fn_Sayings_hasEvent c e2) = 0))) then
  some (none, c)
  else
  (fn_Sayings_partOf c s1 e2).bind fun r3 => some (some r3, c)
def fw_part (c2 : zw_Ct) (r : Option Int32) : zw_Ct := match r with
  | some v => zw_wL c2 100 0 v.toInt64
  | none => c2
def fk_part (r : Option Int32) : Int32 := match r with
  | some _ => 0
  | none => 1
def fn_P_gets (c : zw_Ct) (p1 : Int32) (s2 : Int32) (e3 : Int32) : Option (Option Int32 × zw_Ct) :=
  (fn_Pays_valuesOf c p1).bind fun (r4, c5) =>
  if (((r4 = none) ∨ (¬ (¬ (fn_Sayings_has c5 s2) = 0))) ∨ (¬ (¬ (fn_Sayings_hasEvent c5 e3) = 0))) then
  some (none, c5)
  else
  ((r4).bind fun a11 => (zw_dI SH 0 c5 a11 ((s2 * 4) + e3)).bind fun r6 => some (some r6, c5))
def fw_gets (c2 : zw_Ct) (r : Option Int32) : zw_Ct := match r with
  | some v => zw_wL c2 100 0 v.toInt64
  | none => c2
def fk_gets (r : Option Int32) : Int32 := match r with
  | some _ => 0
  | none => 1
def fn_P_row (c : zw_Ct) (i1 : Int32) : Option (Option Int64 × zw_Ct) :=
  if (¬ (¬ (fn_P_within i1 0 ((c.1 61 1) - 1)) = 0)) then
  some (none, c)
  else
  ((zw_aL 16 c 62 i1).bind fun r3 => some (some r3, c))
def fw_row (c2 : zw_Ct) (r : Option Int64) : zw_Ct := match r with
  | some v => zw_wL c2 100 0 v
  | none => c2
def fk_row (r : Option Int64) : Int32 := match r with
  | some _ => 0
  | none => 1
def zq_table (Rel : Nat → zw_Ct → Prop) : Prop := ∀ n c, n < 512 → Rel n c → ∀ a1 a2 : Int32, ∃ r c1 c2, fn_P_table c a1 a2 = some (r, c1) ∧ fn_M_table c1 a1 a2 = some (r, c2) ∧ Rel (n + 1) c2
def zq_saying (Rel : Nat → zw_Ct → Prop) : Prop := ∀ n c, n < 512 → Rel n c → ∀ a1 a2 a3 a4 : Int32, ∃ r c2, fn_P_saying c a1 a2 a3 a4 = some r ∧ fn_M_saying c a1 a2 a3 a4 = some (r, c2) ∧ Rel (n + 1) c2
def zq_part (Rel : Nat → zw_Ct → Prop) : Prop := ∀ n c, n < 512 → Rel n c → ∀ a1 a2 : Int32, ∃ r c1 b c2, fn_P_part c a1 a2 = some (r, c1) ∧ fn_M_part (fw_part c1 r) a1 a2 = some (b, c2) ∧ fn_M_thrown c2 = fk_part r ∧ (∀ v, r = some v → c2.2 100 0 = b.toInt64) ∧ Rel (n + 1) c2
def zq_turn (Rel : Nat → zw_Ct → Prop) : Prop := ∀ n c, n < 512 → Rel n c → ∀ a1 a2 : Int32, ∃ r c1 c2, fn_P_turn c a1 a2 = some (r, c1) ∧ fn_M_turn c1 a1 a2 = some (r, c2) ∧ Rel (n + 1) c2
def zq_sheet (Rel : Nat → zw_Ct → Prop) : Prop := ∀ n c, n < 512 → Rel n c → ∀ a1 a2 a3 a4 : Int32, ∃ r c1 c2, fn_P_sheet c a1 a2 a3 a4 = some (r, c1) ∧ fn_M_sheet c1 a1 a2 a3 a4 = some (r, c2) ∧ Rel (n + 1) c2
def zq_sign (Rel : Nat → zw_Ct → Prop) : Prop := ∀ n c, n < 512 → Rel n c → ∀ a1 : Int32, ∃ r c1 c2, fn_P_sign c a1 = some (r, c1) ∧ fn_M_sign c1 a1 = some (r, c2) ∧ Rel (n + 1) c2
def zq_end (Rel : Nat → zw_Ct → Prop) : Prop := ∀ n c, n < 512 → Rel n c → ∀ a1 : Int32, ∃ r c1 c2, fn_P_end c a1 = some (r, c1) ∧ fn_M_end c1 a1 = some (r, c2) ∧ Rel (n + 1) c2
def zq_pay (Rel : Nat → zw_Ct → Prop) : Prop := ∀ n c, n < 512 → Rel n c → ∀ a1 : Int32, ∃ r c1 c2, fn_P_pay c a1 = some (r, c1) ∧ fn_M_pay c1 a1 = some (r, c2) ∧ Rel (n + 1) c2
def zq_gets (Rel : Nat → zw_Ct → Prop) : Prop := ∀ n c, n < 512 → Rel n c → ∀ a1 a2 a3 : Int32, ∃ r c1 b c2, fn_P_gets c a1 a2 a3 = some (r, c1) ∧ fn_M_gets (fw_gets c1 r) a1 a2 a3 = some (b, c2) ∧ fn_M_thrown c2 = fk_gets r ∧ (∀ v, r = some v → c2.2 100 0 = b.toInt64) ∧ Rel (n + 1) c2
def zq_ends (Rel : Nat → zw_Ct → Prop) : Prop := ∀ n c, n < 512 → Rel n c → ∀ a1 : Int32, ∃ r c1 c2, fn_P_ends c a1 = some (r, c1) ∧ fn_M_ends c1 a1 = some (r, c2) ∧ Rel (n + 1) c2
def zq_mean (Rel : Nat → zw_Ct → Prop) : Prop := ∀ n c, n < 512 → Rel n c → ∀ a1 a2 a3 : Int32, ∃ r c1 c2, fn_P_mean c a1 a2 a3 = some (r, c1) ∧ fn_M_mean c1 a1 a2 a3 = some (r, c2) ∧ Rel (n + 1) c2
def zq_best (Rel : Nat → zw_Ct → Prop) : Prop := ∀ n c, n < 512 → Rel n c → ∀ a1 a2 : Int32, ∃ r c1 c2, fn_P_best c a1 a2 = some (r, c1) ∧ fn_M_best c1 a1 a2 = some (r, c2) ∧ Rel (n + 1) c2
def zq_loses (Rel : Nat → zw_Ct → Prop) : Prop := ∀ n c, n < 512 → Rel n c → ∀ a1 a2 a3 : Int32, ∃ r c1 c2, fn_P_loses c a1 a2 a3 = some (r, c1) ∧ fn_M_loses c1 a1 a2 a3 = some (r, c2) ∧ Rel (n + 1) c2
def zq_truly (Rel : Nat → zw_Ct → Prop) : Prop := ∀ n c, n < 512 → Rel n c → ∀ a1 : Int32, ∃ r c1 c2, fn_P_truly c a1 = some (r, c1) ∧ fn_M_truly c1 a1 = some (r, c2) ∧ Rel (n + 1) c2
def zq_bends (Rel : Nat → zw_Ct → Prop) : Prop := ∀ n c, n < 512 → Rel n c → ∀ a1 : Int32, ∃ r c1 c2, fn_P_bends c a1 = some (r, c1) ∧ fn_M_bends c1 a1 = some (r, c2) ∧ Rel (n + 1) c2
def zq_could (Rel : Nat → zw_Ct → Prop) : Prop := ∀ n c, n < 512 → Rel n c → ∀ a1 a2 : Int32, ∃ r c1 c2, fn_P_could c a1 a2 = some (r, c1) ∧ fn_M_could c1 a1 a2 = some (r, c2) ∧ Rel (n + 1) c2
def zq_same (Rel : Nat → zw_Ct → Prop) : Prop := ∀ n c, n < 512 → Rel n c → ∀ a1 a2 : Int32, ∃ r c1 c2, fn_P_same c a1 a2 = some (r, c1) ∧ fn_M_same c1 a1 a2 = some (r, c2) ∧ Rel (n + 1) c2
def zq_alike (Rel : Nat → zw_Ct → Prop) : Prop := ∀ n c, n < 512 → Rel n c → ∀ a1 a2 : Int32, ∃ r c1 c2, fn_P_alike c a1 a2 = some (r, c1) ∧ fn_M_alike c1 a1 a2 = some (r, c2) ∧ Rel (n + 1) c2
def zq_make (Rel : Nat → zw_Ct → Prop) : Prop := ∀ n c, n < 512 → Rel n c → ∀ a1 : Int32, ∃ r c1 c2, fn_P_make c a1 = some (r, c1) ∧ fn_M_make c1 a1 = some (r, c2) ∧ Rel (n + 1) c2
def zq_back (Rel : Nat → zw_Ct → Prop) : Prop := ∀ n c, n < 512 → Rel n c → ∀ a1 : Int32, ∃ r c1 c2, fn_P_back c a1 = some (r, c1) ∧ fn_M_back c1 a1 = some (r, c2) ∧ Rel (n + 1) c2
def zq_take (Rel : Nat → zw_Ct → Prop) : Prop := ∀ n c, n < 512 → Rel n c → ∀ a1 : Int32, ∃ r c1 c2, fn_P_take c a1 = some (r, c1) ∧ fn_M_take c1 a1 = some (r, c2) ∧ Rel (n + 1) c2
def zq_mix (Rel : Nat → zw_Ct → Prop) : Prop := ∀ n c, n < 512 → Rel n c → ∀ a1 a2 a3 a4 a5 : Int32, ∃ r c1 c2, fn_P_mix c a1 a2 a3 a4 a5 = some (r, c1) ∧ fn_M_mix c1 a1 a2 a3 a4 a5 = some (r, c2) ∧ Rel (n + 1) c2
def zq_lift (Rel : Nat → zw_Ct → Prop) : Prop := ∀ n c, n < 512 → Rel n c → ∀ a1 a2 : Int32, ∃ r c1 c2, fn_P_lift c a1 a2 = some (r, c1) ∧ fn_M_lift c1 a1 a2 = some (r, c2) ∧ Rel (n + 1) c2
def zq_rank (Rel : Nat → zw_Ct → Prop) : Prop := ∀ n c, n < 512 → Rel n c → ∀ a1 a2 a3 : Int32, ∃ r c1 c2, fn_P_rank c a1 a2 a3 = some (r, c1) ∧ fn_M_rank c1 a1 a2 a3 = some (r, c2) ∧ Rel (n + 1) c2
def zq_look (Rel : Nat → zw_Ct → Prop) : Prop := ∀ n c, n < 512 → Rel n c → ∀ a1 a2 a3 a4 : Int32, ∃ r c1 c2, fn_P_look c a1 a2 a3 a4 = some (r, c1) ∧ fn_M_look c1 a1 a2 a3 a4 = some (r, c2) ∧ Rel (n + 1) c2
def zq_purse (Rel : Nat → zw_Ct → Prop) : Prop := ∀ n c, n < 512 → Rel n c → ∀ a1 a2 a3 : Int32, ∃ r c1 c2, fn_P_purse c a1 a2 a3 = some (r, c1) ∧ fn_M_purse c1 a1 a2 a3 = some (r, c2) ∧ Rel (n + 1) c2
def zq_minds (Rel : Nat → zw_Ct → Prop) : Prop := ∀ n c, n < 512 → Rel n c → ∀ a1 a2 a3 : Int32, ∃ r c1 c2, fn_P_minds c a1 a2 a3 = some (r, c1) ∧ fn_M_minds c1 a1 a2 a3 = some (r, c2) ∧ Rel (n + 1) c2
def zq_lot (Rel : Nat → zw_Ct → Prop) : Prop := ∀ n c, n < 512 → Rel n c → ∀ a1 a2 a3 : Int32, ∃ r c1 c2, fn_P_lot c a1 a2 a3 = some (r, c1) ∧ fn_M_lot c1 a1 a2 a3 = some (r, c2) ∧ Rel (n + 1) c2
def zq_bribe (Rel : Nat → zw_Ct → Prop) : Prop := ∀ n c, n < 512 → Rel n c → ∀ a1 a2 a3 a4 a5 : Int32, ∃ r c1 c2, fn_P_bribe c a1 a2 a3 a4 a5 = some (r, c1) ∧ fn_M_bribe c1 a1 a2 a3 a4 a5 = some (r, c2) ∧ Rel (n + 1) c2
def zq_safe (Rel : Nat → zw_Ct → Prop) : Prop := ∀ n c, n < 512 → Rel n c → ∀ a1 : Int32, ∃ r c1 c2, fn_P_safe c a1 = some (r, c1) ∧ fn_M_safe c1 a1 = some (r, c2) ∧ Rel (n + 1) c2
def zq_person (Rel : Nat → zw_Ct → Prop) : Prop := ∀ n c, n < 512 → Rel n c → ∀ a1 : Int32, ∃ r c1 c2, fn_P_person c a1 = some (r, c1) ∧ fn_M_person c1 a1 = some (r, c2) ∧ Rel (n + 1) c2
def zq_go (Rel : Nat → zw_Ct → Prop) : Prop := ∀ n c, n < 512 → Rel n c → ∃ r c1 c2, fn_P_go c = some (r, c1) ∧ fn_M_go c1 = some (r, c2) ∧ Rel (n + 1) c2
def zq_prize (Rel : Nat → zw_Ct → Prop) : Prop := ∀ n c, n < 512 → Rel n c → ∀ a1 a2 a3 : Int32, ∃ r c1 c2, fn_P_prize c a1 a2 a3 = some (r, c1) ∧ fn_M_prize c1 a1 a2 a3 = some (r, c2) ∧ Rel (n + 1) c2
def zq_boast (Rel : Nat → zw_Ct → Prop) : Prop := ∀ n c, n < 512 → Rel n c → ∀ a1 a2 : Int32, ∃ r c1 c2, fn_P_boast c a1 a2 = some (r, c1) ∧ fn_M_boast c1 a1 a2 = some (r, c2) ∧ Rel (n + 1) c2
def zq_rest (Rel : Nat → zw_Ct → Prop) : Prop := ∀ n c, n < 512 → Rel n c → ∀ a1 : Int32, ∃ r c1 c2, fn_P_rest c a1 = some (r, c1) ∧ fn_M_rest c1 a1 = some (r, c2) ∧ Rel (n + 1) c2
def zq_agree (Rel : Nat → zw_Ct → Prop) : Prop := ∀ n c, n < 512 → Rel n c → ∀ a1 a2 a3 : Int32, ∃ r c1 c2, fn_P_agree c a1 a2 a3 = some (r, c1) ∧ fn_M_agree c1 a1 a2 a3 = some (r, c2) ∧ Rel (n + 1) c2
def zq_gain (Rel : Nat → zw_Ct → Prop) : Prop := ∀ n c, n < 512 → Rel n c → ∀ a1 : Int32, ∃ r c1 c2, fn_P_gain c a1 = some (r, c1) ∧ fn_M_gain c1 a1 = some (r, c2) ∧ Rel (n + 1) c2
def zq_peers (Rel : Nat → zw_Ct → Prop) : Prop := ∀ n c, n < 512 → Rel n c → ∀ a1 a2 a3 : Int32, ∃ r c1 c2, fn_P_peers c a1 a2 a3 = some (r, c1) ∧ fn_M_peers c1 a1 a2 a3 = some (r, c2) ∧ Rel (n + 1) c2
def zq_decide (Rel : Nat → zw_Ct → Prop) : Prop := ∀ n c, n < 512 → Rel n c → ∀ a1 a2 a3 a4 : Int32, ∃ r c1 c2, fn_P_decide c a1 a2 a3 a4 = some (r, c1) ∧ fn_M_decide c1 a1 a2 a3 a4 = some (r, c2) ∧ Rel (n + 1) c2
def zq_coin (Rel : Nat → zw_Ct → Prop) : Prop := ∀ n c, n < 512 → Rel n c → ∀ a1 a2 a3 a4 : Int32, ∃ r c1 c2, fn_P_coin c a1 a2 a3 a4 = some (r, c1) ∧ fn_M_coin c1 a1 a2 a3 a4 = some (r, c2) ∧ Rel (n + 1) c2
def zq_says (Rel : Nat → zw_Ct → Prop) : Prop := ∀ n c, n < 512 → Rel n c → ∀ a1 a2 : Int32, ∃ r c1 c2, fn_P_says c a1 a2 = some (r, c1) ∧ fn_M_says c1 a1 a2 = some (r, c2) ∧ Rel (n + 1) c2
def zq_middle (Rel : Nat → zw_Ct → Prop) : Prop := ∀ n c, n < 512 → Rel n c → ∀ a1 a2 a3 : Int32, ∃ r c1 c2, fn_P_middle c a1 a2 a3 = some (r, c1) ∧ fn_M_middle c1 a1 a2 a3 = some (r, c2) ∧ Rel (n + 1) c2
def zq_word (Rel : Nat → zw_Ct → Prop) : Prop := ∀ n c, n < 512 → Rel n c → ∀ a1 a2 a3 : Int32, ∃ r c1 c2, fn_P_word c a1 a2 a3 = some (r, c1) ∧ fn_M_word c1 a1 a2 a3 = some (r, c2) ∧ Rel (n + 1) c2
def zq_words (Rel : Nat → zw_Ct → Prop) : Prop := ∀ n c, n < 512 → Rel n c → ∀ a1 : Int32, ∃ r c2, fn_P_words c a1 = some r ∧ fn_M_words c a1 = some (r, c2) ∧ Rel (n + 1) c2
def zq_evening (Rel : Nat → zw_Ct → Prop) : Prop := ∀ n c, n < 512 → Rel n c → ∀ a1 a2 a3 : Int32, ∃ r c1 c2, fn_P_evening c a1 a2 a3 = some (r, c1) ∧ fn_M_evening c1 a1 a2 a3 = some (r, c2) ∧ Rel (n + 1) c2
def zq_forget (Rel : Nat → zw_Ct → Prop) : Prop := ∀ n c, n < 512 → Rel n c → ∃ r c1 c2, fn_P_forget c = some (r, c1) ∧ fn_M_forget c1 = some (r, c2) ∧ Rel (n + 1) c2
def zq_paid (Rel : Nat → zw_Ct → Prop) : Prop := ∀ n c, n < 512 → Rel n c → ∀ a1 a2 : Int32, ∃ r c1 c2, fn_P_paid c a1 a2 = some (r, c1) ∧ fn_M_paid c1 a1 a2 = some (r, c2) ∧ Rel (n + 1) c2
def zq_first (Rel : Nat → zw_Ct → Prop) : Prop := ∀ n c, n < 512 → Rel n c → ∀ a1 : Int32, ∃ r c1 c2, fn_P_first c a1 = some (r, c1) ∧ fn_M_first c1 a1 = some (r, c2) ∧ Rel (n + 1) c2
def zq_right (Rel : Nat → zw_Ct → Prop) : Prop := ∀ n c, n < 512 → Rel n c → ∀ a1 a2 a3 : Int32, ∃ r c1 c2, fn_P_right c a1 a2 a3 = some (r, c1) ∧ fn_M_right c1 a1 a2 a3 = some (r, c2) ∧ Rel (n + 1) c2
def zq_meant (Rel : Nat → zw_Ct → Prop) : Prop := ∀ n c, n < 512 → Rel n c → ∀ a1 : Int32, ∃ r c1 c2, fn_P_meant c a1 = some (r, c1) ∧ fn_M_meant c1 a1 = some (r, c2) ∧ Rel (n + 1) c2
def zq_thinks (Rel : Nat → zw_Ct → Prop) : Prop := ∀ n c, n < 512 → Rel n c → ∀ a1 a2 : Int32, ∃ r c1 c2, fn_P_thinks c a1 a2 = some (r, c1) ∧ fn_M_thinks c1 a1 a2 = some (r, c2) ∧ Rel (n + 1) c2
def zq_keep (Rel : Nat → zw_Ct → Prop) : Prop := ∀ n c, n < 512 → Rel n c → ∀ a1 : Int32, ∃ r c1 c2, fn_P_keep c a1 = some (r, c1) ∧ fn_M_keep c1 a1 = some (r, c2) ∧ Rel (n + 1) c2
def zq_again (Rel : Nat → zw_Ct → Prop) : Prop := ∀ n c, n < 512 → Rel n c → ∀ a1 : Int32, ∃ r c1 c2, fn_P_again c a1 = some (r, c1) ∧ fn_M_again c1 a1 = some (r, c2) ∧ Rel (n + 1) c2
def zq_count (Rel : Nat → zw_Ct → Prop) : Prop := ∀ n c, n < 512 → Rel n c → ∀ a1 : Int32, ∃ r c2, fn_P_count c a1 = some r ∧ fn_M_count c a1 = some (r, c2) ∧ Rel (n + 1) c2
def zq_row (Rel : Nat → zw_Ct → Prop) : Prop := ∀ n c, n < 512 → Rel n c → ∀ a1 : Int32, ∃ r c1 b c2, fn_P_row c a1 = some (r, c1) ∧ fn_M_row (fw_row c1 r) a1 = some (b, c2) ∧ fn_M_thrown c2 = fk_row r ∧ (∀ v, r = some v → c2.2 100 0 = b) ∧ Rel (n + 1) c2
def zq_All (Rel : Nat → zw_Ct → Prop) : Prop := zq_table Rel ∧ zq_saying Rel ∧ zq_part Rel ∧ zq_turn Rel ∧ zq_sheet Rel ∧ zq_sign Rel ∧ zq_end Rel ∧ zq_pay Rel ∧ zq_gets Rel ∧ zq_ends Rel ∧ zq_mean Rel ∧ zq_best Rel ∧ zq_loses Rel ∧ zq_truly Rel ∧ zq_bends Rel ∧ zq_could Rel ∧ zq_same Rel ∧ zq_alike Rel ∧ zq_make Rel ∧ zq_back Rel ∧ zq_take Rel ∧ zq_mix Rel ∧ zq_lift Rel ∧ zq_rank Rel ∧ zq_look Rel ∧ zq_purse Rel ∧ zq_minds Rel ∧ zq_lot Rel ∧ zq_bribe Rel ∧ zq_safe Rel ∧ zq_person Rel ∧ zq_go Rel ∧ zq_prize Rel ∧ zq_boast Rel ∧ zq_rest Rel ∧ zq_agree Rel ∧ zq_gain Rel ∧ zq_peers Rel ∧ zq_decide Rel ∧ zq_coin Rel ∧ zq_says Rel ∧ zq_middle Rel ∧ zq_word Rel ∧ zq_words Rel ∧ zq_evening Rel ∧ zq_forget Rel ∧ zq_paid Rel ∧ zq_first Rel ∧ zq_right Rel ∧ zq_meant Rel ∧ zq_thinks Rel ∧ zq_keep Rel ∧ zq_again Rel ∧ zq_count Rel ∧ zq_row Rel
