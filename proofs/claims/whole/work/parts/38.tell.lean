/-! telling: the strokes, lay -/
def same22 (w w' : q_W) : Prop := (∀ q, q ≠ 22 → w'.1 q = w.1 q) ∧ w'.2 = w.2
def same26 (w w' : q_W) : Prop := (∀ q, q ≠ 26 → w'.1 q = w.1 q) ∧ w'.2 = w.2
def six (a1 a2 a3 a4 a5 a6 : Int32) (j : Nat) : Int32 := [a1, a2, a3, a4, a5, a6].getD j 0
theorem put6_ok (a1 a2 a3 a4 a5 a6 : Int32) (w : q_W) : ∃ w', fX10_put a1 a2 a3 a4 a5 a6 w = some (22, w') ∧ same22 w w' ∧ ∀ j, j < 6 → w'.1 22 j = six a1 a2 a3 a4 a5 a6 j := by
  unfold fX10_put
  rw [if_pos (by decide), q_lt_eq, if_pos (by decide), q_lt_eq, if_pos (by decide), q_lt_eq, if_pos (by decide), q_lt_eq, if_pos (by decide), q_lt_eq, if_pos (by decide), q_lt_eq]
  refine ⟨_, rfl, ⟨fun q h => ?_, rfl⟩, fun j hj => ?_⟩
  · rw [sI_cell _ _ _ _ _ h, sI_cell _ _ _ _ _ h, sI_cell _ _ _ _ _ h, sI_cell _ _ _ _ _ h, sI_cell _ _ _ _ _ h, sI_cell _ _ _ _ _ h]
  · have : j = 0 ∨ j = 1 ∨ j = 2 ∨ j = 3 ∨ j = 4 ∨ j = 5 := by omega
    rcases this with rfl | rfl | rfl | rfl | rfl | rfl <;> rfl
theorem I_log_22 {u u' v : q_W} {k : Nat} (s : same22 u u') (h : I_log k u v) : I_log k u' v := by
  unfold I_log
  rw [s.1 4 (by decide), s.1 5 (by decide), s.1 6 (by decide)]
  exact h
/-- a tell on the class's side -/
theorem tell_ok (c : Nat) (hc : c ≤ 4) (k : Nat) (w : q_W) (hk : k ≤ 120) (hw : w.1 4 2 = nI k) (hl : w.1 4 3 = nI 120) : (fX2_tell (nI c) 22 w = some (-1, w) ∧ (k = 120 ∨ fitsB (w.1 22) c 0 = false)) ∨ (k < 120 ∧ fitsB (w.1 22) c 0 = true ∧ ∃ w', fX2_tell (nI c) 22 w = some (nI k, w') ∧ addedC 22 k (nI c) w w') := by
  unfold fX2_tell
  rw [if_pos (by decide), fits_ok 22 rfl rfl c hc, q_b_some]
  cases hf : fitsB (w.1 22) c 0 with
  | false => exact Or.inl ⟨rfl, Or.inr rfl⟩
  | true =>
    rw [if_neg (by decide)]
    rcases add_ok 22 rfl rfl (by decide) (by decide) k (nI c) w hk hw hl with ⟨h1, h2⟩ | ⟨h1, w', h2, h3⟩
    · rw [h2, q_b_some]
      exact Or.inl ⟨rfl, Or.inl h1⟩
    · rw [h2, q_b_some]
      exact Or.inr ⟨h1, rfl, w', rfl, h3⟩
theorem sim_lay {u v : q_W} {k : Nat} (h : I_log k u v) (a : Int32) : ∃ r u1 v1 k', fX10_lay a u = some (r, u1) ∧ fX11_lay a v = some (r, v1) ∧ I_log k' u1 v1 ∧ (k' = k ∨ k' = k + 1) := by
  have hk := h.1
  unfold fX10_lay fX11_lay
  obtain ⟨w, e, s, f⟩ := put6_ok a 0 0 0 0 0 u
  have hl := I_log_22 s h
  rw [e, q_b_some, if_pos (by decide), h.2.2.2.1]
  have hf : fitsB (w.1 22) 4 0 = chk a 0 63 := by
    have e0 : w.1 22 0 = a := f 0 (by decide)
    show (chk (w.1 22 0) 0 63 && true) = _
    rw [e0, Bool.and_true]
  have ht := tell_ok 4 (by decide) k w hk hl.2.1 hl.2.2.1
  rw [show (4 : Int32) = nI 4 from rfl, hf] at *
  rcases ht with ⟨t1, t2⟩ | ⟨t1, t2, w', t3, t4⟩
  · rw [t1, q_b_some]
    by_cases h12 : nI k = 120
    · rw [if_pos h12]
      exact ⟨_, _, _, k, rfl, rfl, hl, Or.inl rfl⟩
    · rw [if_neg h12]
      have t2' : chk a 0 63 = false := by
        rcases t2 with x | x
        · rw [x] at h12; exact absurd rfl h12
        · exact x
      rw [in_ok, t2', q_b_some, if_pos (show b01 false = 0 from rfl)]
      exact ⟨_, _, _, k, rfl, rfl, hl, Or.inl rfl⟩
  · rw [t3, q_b_some, if_neg (by rw [show (120 : Int32) = nI 120 from rfl, nI_eq (by omega) (by omega)]; omega), in_ok, t2, q_b_some, if_neg (by decide), if_pos (by decide), q_lt_eq]
    obtain ⟨v', e', ad⟩ := logs_ok k (nI 4) (q_sI v 26 0 a) t1 (by rw [sI_cell _ _ _ _ _ (by decide)]; exact h.2.2.2.1)
    have hl' : I_log k w (q_sI v 26 0 a) := by
      unfold I_log
      rw [sI_cell _ _ _ _ 0 (by decide), sI_cell _ _ _ _ 27 (by decide), sI_cell _ _ _ _ 28 (by decide)]
      exact hl
    rw [show q_ix 0 = 0 from rfl, e', q_b_some]
    refine ⟨_, _, _, k + 1, rfl, rfl, log_add hl' t1 4 (by decide) t4 ad (fun j hj => ?_), Or.inr rfl⟩
    have : j = 0 := by have : nums 4 = 1 := rfl; omega
    subst this
    rw [f 0 (by decide), sI_same]
    rfl
