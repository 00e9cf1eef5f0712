/-! a fact more: class, reference -/
theorem add_lok (q2 : Nat) (hl6 : lC q2 = 6) (hq6 : q2 ≠ 6) (k : Nat) (hk : k < 120) : ∀ d N j (w : q_W), j + d = 6 → d < N → w.1 4 2 = nI k → ∃ w', q_it N (fX6_add_h38 4 q2) (fun _ _ => none) (nI j) w = some (nI k, w') ∧ w'.2 = w.2 ∧ (∀ q, q ≠ 6 → q ≠ 4 → w'.1 q = w.1 q) ∧ w'.1 4 2 = nI (k + 1) ∧ (∀ i, i ≠ 2 → w'.1 4 i = w.1 4 i) ∧ (∀ i, w'.1 6 i = if 6 * k + j ≤ i ∧ i < 6 * k + 6 then w.1 q2 (i - 6 * k) else w.1 6 i) := by
  intro d
  induction d with
  | zero =>
    intro N j w h hN hw
    obtain ⟨N, rfl⟩ : ∃ M, N = M + 1 := ⟨N - 1, by omega⟩
    have h6 : (6 : Int32) ≤ nI j := by rw [show (6 : Int32) = nI 6 from rfl, nI_leI (by omega) (by omega)]; omega
    rw [q_itS, fX6_add_h38, if_pos h6]
    unfold fX6_add_n73
    rw [q_lt_eq, hw, nI_1, sI_same, nI_pred]
    refine ⟨_, rfl, rfl, fun q h1 h2 => sI_cell _ _ _ _ _ h2, sI_same _ _ _ _, fun i hi => sI_k _ _ _ _ _ hi, fun i => ?_⟩
    rw [if_neg (by omega), sI_cell _ _ _ _ _ (by decide)]
  | succ d ih =>
    intro N j w h hN hw
    obtain ⟨N, rfl⟩ : ∃ M, N = M + 1 := ⟨N - 1, by omega⟩
    have h6 : ¬ (6 : Int32) ≤ nI j := by rw [show (6 : Int32) = nI 6 from rfl, nI_leI (by omega) (by omega)]; omega
    have hib : q_inb (nI j) (lC q2) := by rw [hl6]; exact q_inb_nI (show j < 6 by omega) (by decide)
    have e : nI k * 6 + nI j = nI (6 * k + j) := by
      rw [Nat.mul_comm, show (6 : Int32) = nI 6 from rfl]
      unfold nI
      rw [← Int32.ofNat_mul, ← Int32.ofNat_add]
    rw [q_itS, fX6_add_h38, if_neg h6, if_neg (show ¬ (Int32.ofNat (lC q2)) ≤ nI j by rw [hl6]; exact h6), if_pos hib, q_lt_eq, hw, e, if_pos (q_inb_nI (by omega) (by omega)), q_lt_eq, q_lt_eq, nI_1, q_ix_nI (by omega), q_ix_nI (by omega)]
    have e6 : fC 4 1 = 6 := rfl
    rw [e6]
    obtain ⟨w', e1, e2, e3, e4, e5, e6⟩ := ih N (j + 1) (q_sI w 6 (6 * k + j) (w.1 q2 j)) (by omega) (by omega) (by rw [sI_cell _ _ _ _ _ (by decide)]; exact hw)
    refine ⟨w', e1, e2, fun q h1 h2 => (e3 q h1 h2).trans (sI_cell _ _ _ _ _ h1), e4, fun i hi => (e5 i hi).trans (by rw [sI_cell _ _ _ _ _ (by decide)]), fun i => ?_⟩
    rw [e6 i, sI_cell _ _ _ _ q2 hq6]
    by_cases ei : i = 6 * k + j
    · subst ei
      rw [if_neg (by omega), if_pos (by omega), sI_same]
      rw [Nat.add_sub_cancel_left]
    · rw [sI_k _ _ _ _ _ ei]
      by_cases h1 : 6 * k + j ≤ i ∧ i < 6 * k + 6
      · rw [if_pos h1, if_pos (by omega)]
      · rw [if_neg h1, if_neg (by omega)]
/-- a fact of kind c with the six numbers that lie ready -/
def addedC (q2 k : Nat) (c : Int32) (w w' : q_W) : Prop := w'.2 = w.2 ∧ (∀ q, q ≠ 4 → q ≠ 5 → q ≠ 6 → w'.1 q = w.1 q) ∧ w'.1 4 2 = nI (k + 1) ∧ (∀ i, i ≠ 2 → w'.1 4 i = w.1 4 i) ∧ w'.1 5 k = c ∧ (∀ i, i ≠ k → w'.1 5 i = w.1 5 i) ∧ (∀ j, j < 6 → w'.1 6 (6 * k + j) = w.1 q2 j) ∧ ∀ i, i < 6 * k → w'.1 6 i = w.1 6 i
theorem add_ok (q2 : Nat) (hl6 : lC q2 = 6) (hc6 : cC q2 = 100) (hq5 : q2 ≠ 5) (hq6 : q2 ≠ 6) (k : Nat) (c : Int32) (w : q_W) (hk : k ≤ 120) (hw : w.1 4 2 = nI k) (hl : w.1 4 3 = nI 120) : (k = 120 ∧ fX6_add 4 c q2 w = some (-1, w)) ∨ (k < 120 ∧ ∃ w', fX6_add 4 c q2 w = some (nI k, w') ∧ addedC q2 k c w w') := by
  unfold fX6_add fX6_isFull
  rw [if_pos (by decide), if_pos hc6, if_pos (by decide), hw, hl]
  by_cases h : k < 120
  · refine Or.inr ⟨h, ?_⟩
    rw [if_pos (by rw [nI_ltI (by omega) (by omega)]; omega), q_b_some, if_pos rfl, hw, if_neg (nI_pos (by omega)), show (480 : Int32) = nI 480 from rfl, if_pos (by rw [nI_ltI (by omega) (by omega)]; omega), q_lt_eq, if_pos (q_inb_nI (by omega) (by omega)), q_lt_eq, q_ix_nI (by omega)]
    have e5 : fC 4 0 = 5 := rfl
    rw [e5]
    unfold fX6_add_l38
    obtain ⟨w', e1, e2, e3, e4, e5, e6⟩ := add_lok q2 hl6 hq6 k h 6 q_N 0 (q_sI w 5 k c) rfl (Nat.le_of_ble_eq_true rfl) (by rw [sI_cell _ _ _ _ _ (by decide)]; exact hw)
    rw [nI_0] at e1
    refine ⟨w', e1, e2, fun q h1 h2 h3 => (e3 q h3 h1).trans (sI_cell _ _ _ _ _ h2), e4, fun i hi => (e5 i hi).trans (by rw [sI_cell _ _ _ _ _ (by decide)]), ?_, fun i hi => ?_, fun j hj => ?_, fun i hi => ?_⟩
    · rw [e3 5 (by decide) (by decide), sI_same]
    · rw [e3 5 (by decide) (by decide), sI_k _ _ _ _ _ hi]
    · rw [e6, if_pos (by omega), sI_cell _ _ _ _ _ hq5]
      rw [Nat.add_sub_cancel_left]
    · rw [e6, if_neg (by omega), sI_cell _ _ _ _ _ (by decide)]
  · refine Or.inl ⟨by omega, ?_⟩
    rw [if_neg (by rw [nI_ltI (by omega) (by omega)]; omega), q_b_some, if_neg i_10]
theorem logs_lok (k : Nat) (hk : k < 120) : ∀ d N j (w : q_W), j + d = 6 → d < N → w.1 0 50 = nI k → ∃ w', q_it N fX11_logs_h12 (fun _ _ => none) (nI j) w = some (nI k, w') ∧ w'.2 = w.2 ∧ (∀ q, q ≠ 28 → q ≠ 0 → w'.1 q = w.1 q) ∧ w'.1 0 50 = nI (k + 1) ∧ (∀ i, i ≠ 50 → w'.1 0 i = w.1 0 i) ∧ (∀ i, w'.1 28 i = if 6 * k + j ≤ i ∧ i < 6 * k + 6 then w.1 26 (i - 6 * k) else w.1 28 i) := by
  intro d
  induction d with
  | zero =>
    intro N j w h hN hw
    obtain ⟨N, rfl⟩ : ∃ M, N = M + 1 := ⟨N - 1, by omega⟩
    have h6 : (6 : Int32) ≤ nI j := by rw [show (6 : Int32) = nI 6 from rfl, nI_leI (by omega) (by omega)]; omega
    rw [q_itS, fX11_logs_h12, if_pos h6]
    rw [q_lt_eq, hw, nI_1, sI_same, nI_pred]
    refine ⟨_, rfl, rfl, fun q h1 h2 => sI_cell _ _ _ _ _ h2, sI_same _ _ _ _, fun i hi => sI_k _ _ _ _ _ hi, fun i => ?_⟩
    rw [if_neg (by omega), sI_cell _ _ _ _ _ (by decide)]
  | succ d ih =>
    intro N j w h hN hw
    obtain ⟨N, rfl⟩ : ∃ M, N = M + 1 := ⟨N - 1, by omega⟩
    have h6 : ¬ (6 : Int32) ≤ nI j := by rw [show (6 : Int32) = nI 6 from rfl, nI_leI (by omega) (by omega)]; omega
    have e : 6 * nI k + nI j = nI (6 * k + j) := by
      rw [show (6 : Int32) = nI 6 from rfl]
      unfold nI
      rw [← Int32.ofNat_mul, ← Int32.ofNat_add]
    rw [q_itS, fX11_logs_h12, if_neg h6, if_pos (q_inb_nI (show j < 6 by omega) (by decide)), q_lt_eq, hw, e, if_pos (q_inb_nI (by omega) (by omega)), q_lt_eq, q_lt_eq, nI_1, q_ix_nI (by omega), q_ix_nI (by omega)]
    obtain ⟨w', e1, e2, e3, e4, e5, e6⟩ := ih N (j + 1) (q_sI w 28 (6 * k + j) (w.1 26 j)) (by omega) (by omega) (by rw [sI_cell _ _ _ _ _ (by decide)]; exact hw)
    refine ⟨w', e1, e2, fun q h1 h2 => (e3 q h1 h2).trans (sI_cell _ _ _ _ _ h1), e4, fun i hi => (e5 i hi).trans (by rw [sI_cell _ _ _ _ _ (by decide)]), fun i => ?_⟩
    rw [e6 i, sI_cell _ _ _ _ 26 (by decide)]
    by_cases ei : i = 6 * k + j
    · subst ei
      rw [if_neg (by omega), if_pos (by omega), sI_same]
      rw [Nat.add_sub_cancel_left]
    · rw [sI_k _ _ _ _ _ ei]
      by_cases h1 : 6 * k + j ≤ i ∧ i < 6 * k + 6
      · rw [if_pos h1, if_pos (by omega)]
      · rw [if_neg h1, if_neg (by omega)]
def addedR (k : Nat) (c : Int32) (w w' : q_W) : Prop := w'.2 = w.2 ∧ (∀ q, q ≠ 0 → q ≠ 27 → q ≠ 28 → w'.1 q = w.1 q) ∧ w'.1 0 50 = nI (k + 1) ∧ (∀ i, i ≠ 50 → w'.1 0 i = w.1 0 i) ∧ w'.1 27 k = c ∧ (∀ i, i ≠ k → w'.1 27 i = w.1 27 i) ∧ (∀ j, j < 6 → w'.1 28 (6 * k + j) = w.1 26 j) ∧ ∀ i, i < 6 * k → w'.1 28 i = w.1 28 i
theorem logs_ok (k : Nat) (c : Int32) (w : q_W) (h : k < 120) (hw : w.1 0 50 = nI k) : ∃ w', fX11_logs c w = some (nI k, w') ∧ addedR k c w w' := by
  unfold fX11_logs
  rw [hw, q_lt_eq, if_pos (q_inb_nI (by omega) (by omega)), q_lt_eq, q_ix_nI (by omega)]
  unfold fX11_logs_l12
  obtain ⟨w', e1, e2, e3, e4, e5, e6⟩ := logs_lok k h 6 q_N 0 (q_sI w 27 k c) rfl (Nat.le_of_ble_eq_true rfl) (by rw [sI_cell _ _ _ _ _ (by decide)]; exact hw)
  rw [nI_0] at e1
  refine ⟨w', e1, e2, fun q h1 h2 h3 => (e3 q h3 h1).trans (sI_cell _ _ _ _ _ h2), e4, fun i hi => (e5 i hi).trans (by rw [sI_cell _ _ _ _ _ (by decide)]), ?_, fun i hi => ?_, fun j hj => ?_, fun i hi => ?_⟩
  · rw [e3 27 (by decide) (by decide), sI_same]
  · rw [e3 27 (by decide) (by decide), sI_k _ _ _ _ _ hi]
  · rw [e6, if_pos (by omega), sI_cell _ _ _ _ _ (by decide)]
    rw [Nat.add_sub_cancel_left]
  · rw [e6, if_neg (by omega), sI_cell _ _ _ _ _ (by decide)]
/-- both logs grow alike -/
theorem log_add {q2 : Nat} {u v u' v' : q_W} {k : Nat} (h : I_log k u v) (hk : k < 120) (c : Nat) (hc : c ≤ 5) (hu : addedC q2 k (nI c) u u') (hv : addedR k (nI c) v v') (hn : ∀ j, j < nums c → u.1 q2 j = v.1 26 j) : I_log (k + 1) u' v' := by
  obtain ⟨_, h1, h2, h3, h4⟩ := h
  obtain ⟨a1, a2, a3, a4, a5, a6, a7, a8⟩ := hu
  obtain ⟨b1, b2, b3, b4, b5, b6, b7, b8⟩ := hv
  refine ⟨by omega, a3, (a4 3 (by decide)).trans h2, b3, fun i hi => ?_⟩
  by_cases e : i = k
  · subst e
    refine ⟨c, hc, a5, b5, fun j hj => ?_⟩
    have : nums c ≤ 6 := by
      have : c = 0 ∨ c = 1 ∨ c = 2 ∨ c = 3 ∨ c = 4 ∨ c = 5 := by omega
      rcases this with rfl | rfl | rfl | rfl | rfl | rfl <;> decide
    rw [a7 j (by omega), b7 j (by omega), hn j hj]
  · obtain ⟨c', hc', e1, e2, e3⟩ := h4 i (by omega)
    refine ⟨c', hc', (a6 i e).trans e1, (b6 i e).trans e2, fun j hj => ?_⟩
    have : nums c' ≤ 6 := by
      have : c' = 0 ∨ c' = 1 ∨ c' = 2 ∨ c' = 3 ∨ c' = 4 ∨ c' = 5 := by omega
      rcases this with rfl | rfl | rfl | rfl | rfl | rfl <;> decide
    rw [a8 _ (by omega), b8 _ (by omega), e3 j hj]
