/-! names: classes, fields, words (by program: wip/whole/gen/names.py) -/
def ktG : List Cond := lw_tbl.filter goodWord
def zw_isNest : Cond → Bool
  | .fieldLinkNest .. => true
  | .methodLinkNest .. => true
  | .arrayOver _ => true
  | _ => false
def nwt : List Cond := lw_tbl.filter zw_isNest
theorem kt_in {w : Cond} (i : Nat) (h : lw_tbl[i]? = some w) (g : goodWord w = true) : w ∈ ktG := List.mem_filter.mpr ⟨List.mem_of_getElem? h, g⟩
theorem nw_in {w : Cond} (i : Nat) (h : lw_tbl[i]? = some w) (g : zw_isNest w = true) : w ∈ nwt := List.mem_filter.mpr ⟨List.mem_of_getElem? h, g⟩
theorem kt_good : GoodIn ktG ktG := fun w hw => ⟨hw, good_of_word (List.mem_filter.mp hw).2⟩
theorem kt_cons {w : Cond} (h : w ∈ ktG) : GoodIn ktG (w :: ktG) := fun v hv => by
  rcases List.mem_cons.mp hv with e | e
  · rw [e]; exact kt_good w h
  · exact kt_good v e
def R_P : String := "PaidForThinking"
def F_P : u_T := fun k => match k with
  | 0 => ("PaidForThinking", "sayings", "LPaidForThinking$Sayings;", true)
  | 1 => ("PaidForThinking", "held", "LPaidForThinking$Held;", true)
  | 2 => ("PaidForThinking", "kept", "[LPaidForThinking$Held;", true)
  | 3 => ("PaidForThinking", "isKept", "[Z", true)
  | 4 => ("PaidForThinking", "text", "LPaidForThinking$Text;", true)
  | 5 => ("PaidForThinking", "pays", "LPaidForThinking$Pays;", true)
  | 6 => ("PaidForThinking", "told", "LPaidForThinking$Row;", true)
  | 7 => ("PaidForThinking", "judge", "LPaidForThinking$Judge;", true)
  | 8 => ("PaidForThinking", "lures", "LPaidForThinking$Lures;", true)
  | 9 => ("PaidForThinking", "contest", "LPaidForThinking$Contest;", true)
  | 10 => ("PaidForThinking", "chooser", "LPaidForThinking$Chooser;", true)
  | _ => ("PaidForThinking", "ledger", "LPaidForThinking$Ledger;", true)
def t_P : Nat → FieldType := fun k => match k with
  | 0 => .object "PaidForThinking$Sayings"
  | 1 => .object "PaidForThinking$Held"
  | 2 => .array (.object "PaidForThinking$Held")
  | 3 => .array .boolean
  | 4 => .object "PaidForThinking$Text"
  | 5 => .object "PaidForThinking$Pays"
  | 6 => .object "PaidForThinking$Row"
  | 7 => .object "PaidForThinking$Judge"
  | 8 => .object "PaidForThinking$Lures"
  | 9 => .object "PaidForThinking$Contest"
  | 10 => .object "PaidForThinking$Chooser"
  | _ => .object "PaidForThinking$Ledger"
theorem n_P : ∀ a, a < 12 → ∀ b, b < 12 → a ≠ b → (F_P a).2.1 ≠ (F_P b).2.1 := by decide +kernel
theorem to_P : ∀ k, k < 12 → parseFieldDescriptor (F_P k).2.2.1 = some (t_P k) := by decide +kernel
theorem io_P : (u_ws R_P F_P 12).all (fun w => decide (w ∈ lw_tbl) && goodWord w) = true := by decide +kernel
def R_Sayings : String := "PaidForThinking$Sayings"
def F_Sayings : u_T := fun k => match k with
  | 0 => ("PaidForThinking$Sayings", "events", "I", false)
  | 1 => ("PaidForThinking$Sayings", "steps", "I", false)
  | 2 => ("PaidForThinking$Sayings", "size", "I", false)
  | _ => ("PaidForThinking$Sayings", "parts", "[I", true)
def t_Sayings : Nat → FieldType := fun k => match k with
  | 0 => .int
  | 1 => .int
  | 2 => .int
  | _ => .array .int
theorem n_Sayings : ∀ a, a < 4 → ∀ b, b < 4 → a ≠ b → (F_Sayings a).2.1 ≠ (F_Sayings b).2.1 := by decide +kernel
theorem to_Sayings : ∀ k, k < 4 → parseFieldDescriptor (F_Sayings k).2.2.1 = some (t_Sayings k) := by decide +kernel
theorem io_Sayings : (u_ws R_Sayings F_Sayings 4).all (fun w => decide (w ∈ lw_tbl) && goodWord w) = true := by decide +kernel
def R_Held : String := "PaidForThinking$Held"
def F_Held : u_T := fun k => match k with
  | 0 => ("PaidForThinking$Held", "turns", "[I", true)
  | 1 => ("PaidForThinking$Held", "people", "[I", true)
  | 2 => ("PaidForThinking$Held", "crowd", "I", false)
  | 3 => ("PaidForThinking$Held", "whose", "[I", true)
  | 4 => ("PaidForThinking$Held", "said", "[I", true)
  | 5 => ("PaidForThinking$Held", "came", "[I", true)
  | 6 => ("PaidForThinking$Held", "evenings", "I", false)
  | 7 => ("PaidForThinking$Held", "wordFrom", "[I", true)
  | 8 => ("PaidForThinking$Held", "wordTo", "[I", true)
  | _ => ("PaidForThinking$Held", "wordBits", "I", false)
def t_Held : Nat → FieldType := fun k => match k with
  | 0 => .array .int
  | 1 => .array .int
  | 2 => .int
  | 3 => .array .int
  | 4 => .array .int
  | 5 => .array .int
  | 6 => .int
  | 7 => .array .int
  | 8 => .array .int
  | _ => .int
theorem n_Held : ∀ a, a < 10 → ∀ b, b < 10 → a ≠ b → (F_Held a).2.1 ≠ (F_Held b).2.1 := by decide +kernel
theorem to_Held : ∀ k, k < 10 → parseFieldDescriptor (F_Held k).2.2.1 = some (t_Held k) := by decide +kernel
theorem io_Held : (u_ws R_Held F_Held 10).all (fun w => decide (w ∈ lw_tbl) && goodWord w) = true := by decide +kernel
def R_Tally : String := "PaidForThinking$Tally"
def F_Tally : u_T := fun k => match k with
  | 0 => ("PaidForThinking$Tally", "sayings", "LPaidForThinking$Sayings;", true)
  | _ => ("PaidForThinking$Tally", "numbers", "[J", true)
def t_Tally : Nat → FieldType := fun k => match k with
  | 0 => .object "PaidForThinking$Sayings"
  | _ => .array .long
theorem n_Tally : ∀ a, a < 2 → ∀ b, b < 2 → a ≠ b → (F_Tally a).2.1 ≠ (F_Tally b).2.1 := by decide +kernel
theorem to_Tally : ∀ k, k < 2 → parseFieldDescriptor (F_Tally k).2.2.1 = some (t_Tally k) := by decide +kernel
theorem io_Tally : (u_ws R_Tally F_Tally 2).all (fun w => decide (w ∈ lw_tbl) && goodWord w) = true := by decide +kernel
def R_Judge : String := "PaidForThinking$Judge"
def F_Judge : u_T := fun k => match k with
  | 0 => ("PaidForThinking$Judge", "sayings", "LPaidForThinking$Sayings;", true)
  | _ => ("PaidForThinking$Judge", "tally", "LPaidForThinking$Tally;", true)
def t_Judge : Nat → FieldType := fun k => match k with
  | 0 => .object "PaidForThinking$Sayings"
  | _ => .object "PaidForThinking$Tally"
theorem n_Judge : ∀ a, a < 2 → ∀ b, b < 2 → a ≠ b → (F_Judge a).2.1 ≠ (F_Judge b).2.1 := by decide +kernel
theorem to_Judge : ∀ k, k < 2 → parseFieldDescriptor (F_Judge k).2.2.1 = some (t_Judge k) := by decide +kernel
theorem io_Judge : (u_ws R_Judge F_Judge 2).all (fun w => decide (w ∈ lw_tbl) && goodWord w) = true := by decide +kernel
def R_Text : String := "PaidForThinking$Text"
def F_Text : u_T := fun k => match k with
  | 0 => ("PaidForThinking$Text", "signs", "[I", true)
  | 1 => ("PaidForThinking$Text", "length", "I", false)
  | 2 => ("PaidForThinking$Text", "code", "[I", true)
  | 3 => ("PaidForThinking$Text", "codes", "I", false)
  | 4 => ("PaidForThinking$Text", "waiting", "[I", true)
  | 5 => ("PaidForThinking$Text", "waits", "I", false)
  | 6 => ("PaidForThinking$Text", "compared", "[Z", true)
  | 7 => ("PaidForThinking$Text", "depth", "I", false)
  | 8 => ("PaidForThinking$Text", "digits", "I", false)
  | _ => ("PaidForThinking$Text", "wantsThing", "Z", false)
def t_Text : Nat → FieldType := fun k => match k with
  | 0 => .array .int
  | 1 => .int
  | 2 => .array .int
  | 3 => .int
  | 4 => .array .int
  | 5 => .int
  | 6 => .array .boolean
  | 7 => .int
  | 8 => .int
  | _ => .boolean
theorem n_Text : ∀ a, a < 10 → ∀ b, b < 10 → a ≠ b → (F_Text a).2.1 ≠ (F_Text b).2.1 := by decide +kernel
theorem to_Text : ∀ k, k < 10 → parseFieldDescriptor (F_Text k).2.2.1 = some (t_Text k) := by decide +kernel
theorem io_Text : (u_ws R_Text F_Text 10).all (fun w => decide (w ∈ lw_tbl) && goodWord w) = true := by decide +kernel
def R_Pays : String := "PaidForThinking$Pays"
def F_Pays : u_T := fun k => match k with
  | 0 => ("PaidForThinking$Pays", "sayings", "LPaidForThinking$Sayings;", true)
  | 1 => ("PaidForThinking$Pays", "held", "LPaidForThinking$Held;", true)
  | 2 => ("PaidForThinking$Pays", "kinds", "[I", true)
  | 3 => ("PaidForThinking$Pays", "codes", "[[I", true)
  | 4 => ("PaidForThinking$Pays", "lengths", "[I", true)
  | 5 => ("PaidForThinking$Pays", "values", "[[I", true)
  | 6 => ("PaidForThinking$Pays", "fresh", "[Z", true)
  | 7 => ("PaidForThinking$Pays", "things", "[I", true)
  | _ => ("PaidForThinking$Pays", "stack", "[I", true)
def t_Pays : Nat → FieldType := fun k => match k with
  | 0 => .object "PaidForThinking$Sayings"
  | 1 => .object "PaidForThinking$Held"
  | 2 => .array .int
  | 3 => .array (.array .int)
  | 4 => .array .int
  | 5 => .array (.array .int)
  | 6 => .array .boolean
  | 7 => .array .int
  | _ => .array .int
theorem n_Pays : ∀ a, a < 9 → ∀ b, b < 9 → a ≠ b → (F_Pays a).2.1 ≠ (F_Pays b).2.1 := by decide +kernel
theorem to_Pays : ∀ k, k < 9 → parseFieldDescriptor (F_Pays k).2.2.1 = some (t_Pays k) := by decide +kernel
theorem io_Pays : (u_ws R_Pays F_Pays 9).all (fun w => decide (w ∈ lw_tbl) && goodWord w) = true := by decide +kernel
def R_Row : String := "PaidForThinking$Row"
def F_Row : u_T := fun k => match k with
  | 0 => ("PaidForThinking$Row", "numbers", "[J", true)
  | _ => ("PaidForThinking$Row", "size", "I", false)
def t_Row : Nat → FieldType := fun k => match k with
  | 0 => .array .long
  | _ => .int
theorem n_Row : ∀ a, a < 2 → ∀ b, b < 2 → a ≠ b → (F_Row a).2.1 ≠ (F_Row b).2.1 := by decide +kernel
theorem to_Row : ∀ k, k < 2 → parseFieldDescriptor (F_Row k).2.2.1 = some (t_Row k) := by decide +kernel
theorem io_Row : (u_ws R_Row F_Row 2).all (fun w => decide (w ∈ lw_tbl) && goodWord w) = true := by decide +kernel
def R_Lures : String := "PaidForThinking$Lures"
def F_Lures : u_T := fun k => match k with
  | 0 => ("PaidForThinking$Lures", "sayings", "LPaidForThinking$Sayings;", true)
  | 1 => ("PaidForThinking$Lures", "tally", "LPaidForThinking$Tally;", true)
  | 2 => ("PaidForThinking$Lures", "judge", "LPaidForThinking$Judge;", true)
  | 3 => ("PaidForThinking$Lures", "weights", "[I", true)
  | 4 => ("PaidForThinking$Lures", "offerEvent", "I", false)
  | 5 => ("PaidForThinking$Lures", "offerLeast", "I", false)
  | _ => ("PaidForThinking$Lures", "offerGift", "I", false)
def t_Lures : Nat → FieldType := fun k => match k with
  | 0 => .object "PaidForThinking$Sayings"
  | 1 => .object "PaidForThinking$Tally"
  | 2 => .object "PaidForThinking$Judge"
  | 3 => .array .int
  | 4 => .int
  | 5 => .int
  | _ => .int
theorem n_Lures : ∀ a, a < 7 → ∀ b, b < 7 → a ≠ b → (F_Lures a).2.1 ≠ (F_Lures b).2.1 := by decide +kernel
theorem to_Lures : ∀ k, k < 7 → parseFieldDescriptor (F_Lures k).2.2.1 = some (t_Lures k) := by decide +kernel
theorem io_Lures : (u_ws R_Lures F_Lures 7).all (fun w => decide (w ∈ lw_tbl) && goodWord w) = true := by decide +kernel
def R_Contest : String := "PaidForThinking$Contest"
def F_Contest : u_T := fun k => match k with
  | 0 => ("PaidForThinking$Contest", "sayings", "LPaidForThinking$Sayings;", true)
  | 1 => ("PaidForThinking$Contest", "held", "LPaidForThinking$Held;", true)
  | 2 => ("PaidForThinking$Contest", "said", "[I", true)
  | _ => ("PaidForThinking$Contest", "tops", "[I", true)
def t_Contest : Nat → FieldType := fun k => match k with
  | 0 => .object "PaidForThinking$Sayings"
  | 1 => .object "PaidForThinking$Held"
  | 2 => .array .int
  | _ => .array .int
theorem n_Contest : ∀ a, a < 4 → ∀ b, b < 4 → a ≠ b → (F_Contest a).2.1 ≠ (F_Contest b).2.1 := by decide +kernel
theorem to_Contest : ∀ k, k < 4 → parseFieldDescriptor (F_Contest k).2.2.1 = some (t_Contest k) := by decide +kernel
theorem io_Contest : (u_ws R_Contest F_Contest 4).all (fun w => decide (w ∈ lw_tbl) && goodWord w) = true := by decide +kernel
def R_Chooser : String := "PaidForThinking$Chooser"
def F_Chooser : u_T := fun k => match k with
  | 0 => ("PaidForThinking$Chooser", "sayings", "LPaidForThinking$Sayings;", true)
  | 1 => ("PaidForThinking$Chooser", "tally", "LPaidForThinking$Tally;", true)
  | 2 => ("PaidForThinking$Chooser", "judge", "LPaidForThinking$Judge;", true)
  | 3 => ("PaidForThinking$Chooser", "mostFirstWay", "J", false)
  | 4 => ("PaidForThinking$Chooser", "mostAsideFirst", "J", false)
  | _ => ("PaidForThinking$Chooser", "mostOtherWay", "J", false)
def t_Chooser : Nat → FieldType := fun k => match k with
  | 0 => .object "PaidForThinking$Sayings"
  | 1 => .object "PaidForThinking$Tally"
  | 2 => .object "PaidForThinking$Judge"
  | 3 => .long
  | 4 => .long
  | _ => .long
theorem n_Chooser : ∀ a, a < 6 → ∀ b, b < 6 → a ≠ b → (F_Chooser a).2.1 ≠ (F_Chooser b).2.1 := by decide +kernel
theorem to_Chooser : ∀ k, k < 6 → parseFieldDescriptor (F_Chooser k).2.2.1 = some (t_Chooser k) := by decide +kernel
theorem io_Chooser : (u_ws R_Chooser F_Chooser 6).all (fun w => decide (w ∈ lw_tbl) && goodWord w) = true := by decide +kernel
def R_Ledger : String := "PaidForThinking$Ledger"
def F_Ledger : u_T := fun k => match k with
  | 0 => ("PaidForThinking$Ledger", "sayings", "LPaidForThinking$Sayings;", true)
  | 1 => ("PaidForThinking$Ledger", "held", "LPaidForThinking$Held;", true)
  | 2 => ("PaidForThinking$Ledger", "tally", "LPaidForThinking$Tally;", true)
  | 3 => ("PaidForThinking$Ledger", "judge", "LPaidForThinking$Judge;", true)
  | _ => ("PaidForThinking$Ledger", "cameOften", "[I", true)
def t_Ledger : Nat → FieldType := fun k => match k with
  | 0 => .object "PaidForThinking$Sayings"
  | 1 => .object "PaidForThinking$Held"
  | 2 => .object "PaidForThinking$Tally"
  | 3 => .object "PaidForThinking$Judge"
  | _ => .array .int
theorem n_Ledger : ∀ a, a < 5 → ∀ b, b < 5 → a ≠ b → (F_Ledger a).2.1 ≠ (F_Ledger b).2.1 := by decide +kernel
theorem to_Ledger : ∀ k, k < 5 → parseFieldDescriptor (F_Ledger k).2.2.1 = some (t_Ledger k) := by decide +kernel
theorem io_Ledger : (u_ws R_Ledger F_Ledger 5).all (fun w => decide (w ∈ lw_tbl) && goodWord w) = true := by decide +kernel
def R_M : String := "PaidForThinkingModel"
def F_M : u_T := fun k => match k with
  | 0 => ("PaidForThinkingModel", "events", "I", false)
  | 1 => ("PaidForThinkingModel", "steps", "I", false)
  | 2 => ("PaidForThinkingModel", "sayings", "I", false)
  | 3 => ("PaidForThinkingModel", "parts", "[I", true)
  | 4 => ("PaidForThinkingModel", "turn", "[I", true)
  | 5 => ("PaidForThinkingModel", "text", "[B", true)
  | 6 => ("PaidForThinkingModel", "typed", "I", false)
  | 7 => ("PaidForThinkingModel", "row", "[J", true)
  | 8 => ("PaidForThinkingModel", "rowMany", "I", false)
  | 9 => ("PaidForThinkingModel", "thrown", "I", false)
  | 10 => ("PaidForThinkingModel", "tables", "I", false)
  | 11 => ("PaidForThinkingModel", "pays", "[[B", true)
  | 12 => ("PaidForThinkingModel", "paySize", "[I", true)
  | 13 => ("PaidForThinkingModel", "isMade", "[Z", true)
  | 14 => ("PaidForThinkingModel", "made", "[I", true)
  | 15 => ("PaidForThinkingModel", "read", "[B", false)
  | 16 => ("PaidForThinkingModel", "size", "I", false)
  | 17 => ("PaidForThinkingModel", "at", "I", false)
  | 18 => ("PaidForThinkingModel", "wrong", "I", false)
  | 19 => ("PaidForThinkingModel", "askedSaying", "I", false)
  | 20 => ("PaidForThinkingModel", "askedEvent", "I", false)
  | 21 => ("PaidForThinkingModel", "laid", "[I", true)
  | 22 => ("PaidForThinkingModel", "laidToo", "[I", true)
  | 23 => ("PaidForThinkingModel", "table", "[J", true)
  | 24 => ("PaidForThinkingModel", "lit", "[I", true)
  | 25 => ("PaidForThinkingModel", "dark", "[I", true)
  | 26 => ("PaidForThinkingModel", "people", "I", false)
  | 27 => ("PaidForThinkingModel", "thought", "[I", true)
  | 28 => ("PaidForThinkingModel", "saysNow", "[I", true)
  | 29 => ("PaidForThinkingModel", "mosts", "[J", true)
  | 30 => ("PaidForThinkingModel", "told", "I", false)
  | 31 => ("PaidForThinkingModel", "wordFrom", "[I", true)
  | 32 => ("PaidForThinkingModel", "wordTo", "[I", true)
  | 33 => ("PaidForThinkingModel", "evenings", "I", false)
  | 34 => ("PaidForThinkingModel", "bookWho", "[I", true)
  | 35 => ("PaidForThinkingModel", "bookSaying", "[I", true)
  | 36 => ("PaidForThinkingModel", "bookEvent", "[I", true)
  | 37 => ("PaidForThinkingModel", "came", "I", false)
  | 38 => ("PaidForThinkingModel", "kept", "[I", true)
  | 39 => ("PaidForThinkingModel", "isKept", "[Z", true)
  | 40 => ("PaidForThinkingModel", "keptTables", "[I", true)
  | _ => ("PaidForThinkingModel", "keptAt", "I", false)
def t_M : Nat → FieldType := fun k => match k with
  | 0 => .int
  | 1 => .int
  | 2 => .int
  | 3 => .array .int
  | 4 => .array .int
  | 5 => .array .byte
  | 6 => .int
  | 7 => .array .long
  | 8 => .int
  | 9 => .int
  | 10 => .int
  | 11 => .array (.array .byte)
  | 12 => .array .int
  | 13 => .array .boolean
  | 14 => .array .int
  | 15 => .array .byte
  | 16 => .int
  | 17 => .int
  | 18 => .int
  | 19 => .int
  | 20 => .int
  | 21 => .array .int
  | 22 => .array .int
  | 23 => .array .long
  | 24 => .array .int
  | 25 => .array .int
  | 26 => .int
  | 27 => .array .int
  | 28 => .array .int
  | 29 => .array .long
  | 30 => .int
  | 31 => .array .int
  | 32 => .array .int
  | 33 => .int
  | 34 => .array .int
  | 35 => .array .int
  | 36 => .array .int
  | 37 => .int
  | 38 => .array .int
  | 39 => .array .boolean
  | 40 => .array .int
  | _ => .int
theorem n_M : ∀ a, a < 42 → ∀ b, b < 42 → a ≠ b → (F_M a).2.1 ≠ (F_M b).2.1 := by decide +kernel
theorem to_M : ∀ k, k < 42 → parseFieldDescriptor (F_M k).2.2.1 = some (t_M k) := by decide +kernel
theorem io_M : (u_ws R_M F_M 42).all (fun w => decide (w ∈ lw_tbl) && goodWord w) = true := by decide +kernel
abbrev classes : List vw_C := [(R_P, F_P, 12), (R_Sayings, F_Sayings, 4), (R_Held, F_Held, 10), (R_Tally, F_Tally, 2), (R_Judge, F_Judge, 2), (R_Text, F_Text, 10), (R_Pays, F_Pays, 9), (R_Row, F_Row, 2), (R_Lures, F_Lures, 7), (R_Contest, F_Contest, 4), (R_Chooser, F_Chooser, 6), (R_Ledger, F_Ledger, 5), (R_M, F_M, 42)]
/-- codes of the fields: 0 whole numbers, 1 longs, 2 references that stay, 3 a reference that changes -/
def zw_ft (ci : Nat) : List Nat := match ci with
  | 0 => [2, 2, 2, 2, 2, 2, 2, 2, 2, 2, 2, 2]
  | 1 => [0, 0, 0, 2]
  | 2 => [2, 2, 0, 2, 2, 2, 0, 2, 2, 0]
  | 3 => [2, 2]
  | 4 => [2, 2]
  | 5 => [2, 0, 2, 0, 2, 0, 2, 0, 0, 0]
  | 6 => [2, 2, 2, 2, 2, 2, 2, 2, 2]
  | 7 => [2, 0]
  | 8 => [2, 2, 2, 2, 0, 0, 0]
  | 9 => [2, 2, 2, 2]
  | 10 => [2, 2, 2, 1, 1, 1]
  | 11 => [2, 2, 2, 2, 2]
  | 12 => [0, 0, 0, 2, 2, 2, 0, 2, 0, 0, 0, 2, 2, 2, 2, 3, 0, 0, 0, 0, 0, 2, 2, 2, 2, 2, 0, 2, 2, 2, 0, 2, 2, 0, 2, 2, 2, 0, 2, 2, 2, 0]
  | _ => []
def zw_CI (ci : Nat) (C : String) (T : u_T) (N : Nat) (ty : Nat → FieldType) : Prop := classes[ci]? = some (C, T, N) ∧ (∀ w ∈ u_ws C T N, w ∈ ktG) ∧ (∀ k, k < N → parseFieldDescriptor (T k).2.2.1 = some (ty k)) ∧ (∀ a, a < N → ∀ b, b < N → a ≠ b → (T a).2.1 ≠ (T b).2.1) ∧ (zw_ft ci).length = N
theorem zw_inOf {l : List Cond} (h : l.all (fun w => decide (w ∈ lw_tbl) && goodWord w) = true) : ∀ w ∈ l, w ∈ ktG := fun w hw => by
  have := List.all_eq_true.mp h w hw
  simp only [Bool.and_eq_true, decide_eq_true_eq] at this
  exact List.mem_filter.mpr this
theorem ci_P : zw_CI 0 R_P F_P 12 t_P := ⟨rfl, zw_inOf io_P, to_P, n_P, rfl⟩
theorem ci_Sayings : zw_CI 1 R_Sayings F_Sayings 4 t_Sayings := ⟨rfl, zw_inOf io_Sayings, to_Sayings, n_Sayings, rfl⟩
theorem ci_Held : zw_CI 2 R_Held F_Held 10 t_Held := ⟨rfl, zw_inOf io_Held, to_Held, n_Held, rfl⟩
theorem ci_Tally : zw_CI 3 R_Tally F_Tally 2 t_Tally := ⟨rfl, zw_inOf io_Tally, to_Tally, n_Tally, rfl⟩
theorem ci_Judge : zw_CI 4 R_Judge F_Judge 2 t_Judge := ⟨rfl, zw_inOf io_Judge, to_Judge, n_Judge, rfl⟩
theorem ci_Text : zw_CI 5 R_Text F_Text 10 t_Text := ⟨rfl, zw_inOf io_Text, to_Text, n_Text, rfl⟩
theorem ci_Pays : zw_CI 6 R_Pays F_Pays 9 t_Pays := ⟨rfl, zw_inOf io_Pays, to_Pays, n_Pays, rfl⟩
theorem ci_Row : zw_CI 7 R_Row F_Row 2 t_Row := ⟨rfl, zw_inOf io_Row, to_Row, n_Row, rfl⟩
theorem ci_Lures : zw_CI 8 R_Lures F_Lures 7 t_Lures := ⟨rfl, zw_inOf io_Lures, to_Lures, n_Lures, rfl⟩
theorem ci_Contest : zw_CI 9 R_Contest F_Contest 4 t_Contest := ⟨rfl, zw_inOf io_Contest, to_Contest, n_Contest, rfl⟩
theorem ci_Chooser : zw_CI 10 R_Chooser F_Chooser 6 t_Chooser := ⟨rfl, zw_inOf io_Chooser, to_Chooser, n_Chooser, rfl⟩
theorem ci_Ledger : zw_CI 11 R_Ledger F_Ledger 5 t_Ledger := ⟨rfl, zw_inOf io_Ledger, to_Ledger, n_Ledger, rfl⟩
theorem ci_M : zw_CI 12 R_M F_M 42 t_M := ⟨rfl, zw_inOf io_M, to_M, n_M, rfl⟩
