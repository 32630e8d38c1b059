/-! table, pay, the beginning: see the parts behind -/
theorem zz_dummy : (1 : Nat) = 1 := rfl
