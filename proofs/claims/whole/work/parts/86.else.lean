/-! the reference turns to else -/
theorem turnsElse_ok {s t b : Nat} {L : Nat × Int32} {cs : List Tr} {c5 : List Nat} {v : q_W} (hR : PR s t L cs [] 0 v) (hl : cs.length < 1900) (hb8 : b < 8) (hb : v.1 0 30 = nI (b + 1)) (h17 : v.1 17 b = hdC s c5) (hc : CHN s cs c5) (hl5 : c5.length ≤ cs.length) : ∃ v', fX11_turnsElse v = some ((), v') ∧ PR s t L (landT (nI (2000 * s + (cs.length + 1))) c5 (cs ++ [(13, 0, -1)])) [] 0 v' ∧ CHN s (landT (nI (2000 * s + (cs.length + 1))) c5 (cs ++ [(13, 0, -1)])) [cs.length] ∧ v'.1 16 b = 3 ∧ v'.1 17 b = hdC s [cs.length] ∧ v'.1 0 30 = nI (b + 1) ∧ (∀ i, i ≠ b → v'.1 16 i = v.1 16 i ∧ v'.1 17 i = v.1 17 i) ∧ frD s v v' := by
  obtain ⟨v1, e1, a1, b1⟩ := emit_st hR (by omega) ((13, 0, -1) : Tr)
  have e1 : fX11_emit 13 0 (-1) v = some ((), v1) := e1
  have hll : (cs ++ [((13, 0, -1) : Tr)]).length = cs.length + 1 := by rw [List.length_append]; rfl
  have n5 := CHN_app [((13, 0, -1) : Tr)] c5 cs hc
  obtain ⟨v2, e2, a2, b2⟩ := lands_ok a1 (by rw [hll]; omega) (by omega) n5
  rw [hll] at a2
  have h17' : v1.1 17 b = hdC s c5 := by rw [b1.1 17 (by decide) (by decide) (by decide) (by decide) (by decide), h17]
  have h24 : v2.1 0 24 = nI (2000 * s + cs.length + 1) := by rw [a2.2.2.2.2.2.1.1, landT_len, hll]; rfl
  have fr := frC_t (frC_1 b1) (frC_1 b2)
  have hnew : CHN s (cs ++ [((13, 0, -1) : Tr)]) [cs.length] := ⟨by rw [hll]; omega, by rw [snocT_eq]; rfl, trivial⟩
  unfold fX11_turnsElse
  rw [hb, nI_s1, q_lt_eq, e1, q_b_some, if_pos (q_inb_nI hb8 (by omega)), q_ix_nI (by omega), h17', e2, q_b_some, if_pos (q_inb_nI hb8 (by omega)), q_lt_eq, if_pos (q_inb_nI hb8 (by omega)), q_lt_eq, sI_cell _ _ _ _ 0 (by decide), h24, nI_s1]
  refine ⟨_, rfl, PR_q (PR_q a2 16 _ _ (by omega)) 17 _ _ (by omega), CHN_land c5 _ n5 hnew, ?_, sI_same _ _ _ _, ?_, fun i hi => ?_, ?_⟩
  · rw [sI_cell _ _ _ _ 16 (by decide), sI_same]
  · rw [sI_cell _ _ _ _ 0 (by decide), sI_cell _ _ _ _ 0 (by decide), fr.2.1 30 (by omega) (by omega) (by omega) (by omega) (by omega), hb]
  · rw [sI_cell _ _ _ _ 16 (by decide), sI_k _ _ _ _ _ hi, sI_k _ _ _ _ _ hi, sI_cell _ _ _ _ 17 (by decide), fr.1 16 (by decide) (by decide) (by decide) (by decide) (by decide), fr.1 17 (by decide) (by decide) (by decide) (by decide) (by decide)]
    exact ⟨rfl, rfl⟩
  · exact frD_t (frD_C fr) (frD_t (frD_q s _ 16 _ _ (by omega)) (frD_q s _ 17 _ _ (by omega)))
