/-! ===== what is wanting: the two functions agree ===== -/
theorem q_agree : ∃ I : q_W → q_W → Prop, I wC0 wR0 ∧ q_Sim I := sorry
