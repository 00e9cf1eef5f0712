/-! strike -/
theorem sim_strike {u v : q_W} {k : Nat} (h : I_log k u v) (a : Int32) : ∃ r u1 v1 k', fX10_strike a u = some (r, u1) ∧ fX11_strike a v = some (r, v1) ∧ I_log k' u1 v1 ∧ (k' = k ∨ k' = k + 1) := by
  have hk := h.1
  unfold fX10_strike fX11_strike
  obtain ⟨w, e, s, f⟩ := put6_ok a 0 0 0 0 0 u
  have hl := I_log_22 s h
  have f0 : w.1 22 0 = a := f 0 (by decide)
  rw [e, q_b_some, if_pos (by decide), h.2.2.2.1]
  unfold fX2_tellStrike
  rw [if_pos (by decide), if_neg (by decide), if_pos (by decide), show q_ix 0 = 0 from rfl, f0]
  unfold fX2_tellStrike_n12
  rw [has_ok w k hk hl.2.1, q_b_some]
  by_cases hi : q_inb a k
  · obtain ⟨m, hm, rfl⟩ := (q_inb_iff (by omega)).mp hi
    rw [if_pos hi, if_neg i_10, kindOf_ok w k m hk hl.2.1 hm, q_b_some, log_kind hl hm, if_neg (nI_pos (by omega)), if_neg (show ¬ nI k ≤ nI m by rw [nI_leI (by omega) (by omega)]; omega), if_pos (show q_inb (nI m) 120 from q_inb_nI (by omega) (by omega)), q_ix_nI (by omega)]
    by_cases h5 : v.1 27 m = 5
    · rw [if_pos h5, if_pos h5]
      refine ⟨-1, w, v, k, rfl, ?_, hl, Or.inl rfl⟩
      by_cases h12 : nI k = 120
      · rw [if_pos h12]
      · rw [if_neg h12]
    · rw [if_neg h5, if_neg h5, if_pos (show q_inb 0 6 by decide), q_lt_eq]
      unfold fX2_tellStrike_n38
      rw [if_neg i_10, show (5 : Int32) = nI 5 from rfl]
      rcases add_ok 22 rfl rfl (by decide) (by decide) k (nI 5) w hk hl.2.1 hl.2.2.1 with ⟨t1, t2⟩ | ⟨t1, w', t2, t3⟩
      · rw [t2, q_b_some, t1, if_pos (show nI 120 = 120 from rfl)]
        exact ⟨_, _, _, 120, rfl, rfl, t1 ▸ hl, Or.inl rfl⟩
      · rw [t2, q_b_some, if_neg (by rw [show (120 : Int32) = nI 120 from rfl, nI_eq (by omega) (by omega)]; omega)]
        obtain ⟨v', e', ad⟩ := logs_ok k (nI 5) (q_sI v 26 0 (nI m)) t1 (by rw [sI_cell _ _ _ _ _ (by decide)]; exact h.2.2.2.1)
        have hl' : I_log k w (q_sI v 26 0 (nI m)) := by
          unfold I_log
          rw [sI_cell _ _ _ _ 0 (by decide), sI_cell _ _ _ _ 27 (by decide), sI_cell _ _ _ _ 28 (by decide)]
          exact hl
        rw [e', q_b_some]
        refine ⟨_, _, _, k + 1, rfl, rfl, log_add hl' t1 5 (by decide) t3 ad (fun j hj => ?_), Or.inr rfl⟩
        have : j = 0 := by have : nums 5 = 1 := rfl; omega
        subst this
        rw [f0, sI_same]
  · rw [if_neg hi, if_pos rfl]
    refine ⟨-1, w, v, k, rfl, ?_, hl, Or.inl rfl⟩
    by_cases h12 : nI k = 120
    · rw [if_pos h12]
    · rw [if_neg h12]
      by_cases h0 : a < 0
      · rw [if_pos h0]
      · rw [if_neg h0]
        obtain ⟨m, hm, rfl⟩ := nI_of h0
        rw [if_pos]
        rw [nI_leI (by omega) hm]
        apply Nat.le_of_not_lt
        intro x
        exact hi (q_inb_nI x (by omega))
