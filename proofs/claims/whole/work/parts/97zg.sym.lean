/-! the search: the count doesn't ask which picture comes first -/
theorem cntU_sym (f g : Nat → Int32) : ∀ d j, cntU f g d j = cntU g f d j := by
  intro d
  induction d with
  | zero => intro j; rfl
  | succ d ih =>
    intro j
    show (if f j = g j then 0 else 1) + cntU f g d (j + 1) = (if g j = f j then 0 else 1) + cntU g f d (j + 1)
    rw [ih]
    by_cases c : f j = g j
    · rw [if_pos c, if_pos c.symm]
    · rw [if_neg c, if_neg (fun e => c e.symm)]
