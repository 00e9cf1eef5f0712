/-! what is struck out lies before: kept -/
theorem val_add {q2 k c : Nat} {u u' : q_W} (hk : k < 120) (hc : c ≤ 5) (h : I_val k u) (a : addedC q2 k (nI c) u u') (h5 : c = 5 → ∃ t, t < k ∧ u.1 q2 0 = nI t) : I_val (k + 1) u' := by
  obtain ⟨a1, a2, a3, a4, a5, a6, a7, a8⟩ := a
  intro i hi e
  by_cases ei : i = k
  · subst ei
    rw [a5] at e
    have c5 := (nI_eq (by omega) (by omega)).mp e
    obtain ⟨t, ht, et⟩ := h5 c5
    refine ⟨t, ht, ?_⟩
    have := a7 0 (by omega)
    rw [Nat.add_zero] at this
    rw [this, et]
  · rw [a6 i ei] at e
    obtain ⟨t, ht, et⟩ := h i (by omega) e
    exact ⟨t, ht, (a8 (6 * i) (by omega)).trans et⟩
theorem I_val_22 {w w' : q_W} (h : same22 w w') (k : Nat) (x : I_val k w) : I_val k w' := by
  unfold I_val
  rw [h.1 5 (by decide), h.1 6 (by decide)]
  exact x
