/-! the reference ends a block -/
theorem ends_0 {s t b : Nat} {L : Nat × Int32} {cs : List Tr} {v : q_W} (hR : PR s t L cs [] 0 v) (hl : cs.length < 1900) (hb8 : b < 8) (hb : v.1 0 30 = nI (b + 1)) (h16 : v.1 16 b = 0) : ∃ v', fX11_ends v = some ((), v') ∧ PR s t L (cs ++ [(18, 0, 0)]) [] 0 v' ∧ v'.1 0 30 = nI b ∧ frD s v v' := by
  obtain ⟨v1, e1, a1, b1⟩ := emit_st (PR_set hR 30 (nI b) (by omega)) (by omega) ((18, 0, 0) : Tr)
  have e1 : fX11_emit 18 0 0 (q_sI v 0 30 (nI b)) = some ((), v1) := e1
  unfold fX11_ends
  rw [hb, nI_s1, q_lt_eq, sI_same, q_lt_eq, if_pos (q_inb_nI hb8 (by omega)), q_lt_eq, q_lt_eq, if_pos (q_inb_nI hb8 (by omega)), q_lt_eq, q_ix_nI (by omega), sI_cell _ _ _ _ 16 (by decide), h16, if_pos (show (0 : Int32) = 0 from rfl), e1, q_b_some]
  exact ⟨v1, rfl, a1, by rw [b1.2.1 30 (by omega) (by omega) (by omega), sI_same], frD_t (frD_0 s v 30 _ (by omega)) (frD_C (frC_1 b1))⟩
theorem ends_if {s t b : Nat} {L : Nat × Int32} {cs : List Tr} {c : List Nat} {v : q_W} (hR : PR s t L cs [] 0 v) (hl : cs.length < 1900) (hb8 : b < 8) (hb : v.1 0 30 = nI (b + 1)) (h16 : v.1 16 b = 2 ∨ v.1 16 b = 3) (h17 : v.1 17 b = hdC s c) (hc : CHN s cs c) (hlc : c.length ≤ cs.length) : ∃ v', fX11_ends v = some ((), v') ∧ PR s t L (landT (nI (2000 * s + cs.length)) c cs) [] 0 v' ∧ v'.1 0 30 = nI b ∧ frD s v v' := by
  obtain ⟨v1, e1, a1, b1⟩ := lands_ok (c := c) (PR_set hR 30 (nI b) (by omega)) (by omega) (by omega) hc
  have n0 : ¬ v.1 16 b = 0 := by rcases h16 with h | h <;> rw [h] <;> decide
  have n1 : ¬ v.1 16 b = 1 := by rcases h16 with h | h <;> rw [h] <;> decide
  unfold fX11_ends
  rw [hb, nI_s1, q_lt_eq, sI_same, q_lt_eq, if_pos (q_inb_nI hb8 (by omega)), q_lt_eq, q_lt_eq, if_pos (q_inb_nI hb8 (by omega)), q_lt_eq, q_ix_nI (by omega), sI_cell _ _ _ _ 16 (by decide), sI_cell _ _ _ _ 17 (by decide), if_neg n0, if_neg n1, h17, e1, q_b_some]
  exact ⟨v1, rfl, a1, by rw [b1.2.1 30 (by omega) (by omega) (by omega), sI_same], frD_t (frD_0 s v 30 _ (by omega)) (frD_C (frC_1 b1))⟩
