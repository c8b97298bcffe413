/-! constructors: the row of sheets -/
theorem qs4 (qq : Nat → Nat) : va_up (va_up (va_up (va_up (fun _ => none) 0 (some (qq 1))) 1 (some (qq 2))) 2 (some (qq 3))) 3 (some (qq 4)) = fun i => if i < 4 then some (qq (1 + i)) else none := funext fun i => by
  unfold va_up
  by_cases h3 : i = 3
  · subst h3; rfl
  by_cases h2 : i = 2
  · subst h2; rfl
  by_cases h1 : i = 1
  · subst h1; rfl
  by_cases h0 : i = 0
  · subst h0; rfl
  rw [if_neg h3, if_neg h2, if_neg h1, if_neg h0, if_neg (by omega)]
