/-! the class brings a name in reach -/
theorem bring_ok {P t n : Nat} {L : Nat × Int32} {ws : List Int32} {u : q_W} (hC : PC P t L ws u) (h3 : u.1 23 3 = nI n) (hn : n < 8) (x : Int64) : ∃ u', fX5_bringInReach x u = some ((), u') ∧ PC P t L ws u' ∧ u'.1 23 3 = nI (n + 1) ∧ u'.2.2 30 n = x ∧ (∀ i, i ≠ n → u'.2.2 30 i = u.2.2 30 i) ∧ (∀ q, q ≠ 30 → u'.2.2 q = u.2.2 q) ∧ u'.2.1 = u.2.1 ∧ (∀ q, q ≠ 23 → u'.1 q = u.1 q) ∧ ∀ k, k ≠ 3 → u'.1 23 k = u.1 23 k := by
  have hP := hC.1
  have hne := isP_ne hP
  obtain ⟨h1, h2, g3, h4, h5, h6, h7, h8, h9, h10, h11⟩ := hC
  unfold fX5_bringInReach fX5_bringInReach_n29
  rw [h3, if_neg (nI_pos (by omega)), if_neg (by rw [show (8 : Int32) = nI 8 from rfl, nI_leI (by omega) (by omega)]; omega), q_lt_eq, if_pos (q_inb_nI hn (by omega)), q_lt_eq, q_lt_eq, q_ix_nI (by omega)]
  have e3 : (q_sL u 30 n x).1 = u.1 := rfl
  rw [e3, h3, nI_1]
  refine ⟨_, rfl, ⟨h1, h2, ?_, ?_, ?_, ?_, ?_, h8, fun c => ?_, ?_, fun i hi => ?_⟩, sI_same _ _ _ _, ?_, fun i hi => ?_, fun q hq => ?_, rfl, fun q hq => ?_, fun k hk => ?_⟩
  · rw [sI_k _ _ _ _ _ (by decide), e3, g3]
  · rw [sI_k _ _ _ _ _ (by decide), sI_cell _ _ _ _ 26 (by decide), e3, h4]
  · rw [sI_k _ _ _ _ _ (by decide), sI_cell _ _ _ _ 27 (by decide), e3, h5]
  · rw [sI_k _ _ _ _ _ (by decide), e3, h6]
  · rw [sI_k _ _ _ _ _ (by decide), e3, h7]
  · rw [sI_k _ _ _ _ _ (by decide), e3, h9 c]
  · rw [sI_cell _ _ _ _ _ hne.1, e3, h10]
  · rw [sI_cell _ _ _ _ _ hne.2.1, e3, h11 i hi]
  · show (if 30 = 30 ∧ n = n then x else u.2.2 30 n) = x
    simp
  · show (if 30 = 30 ∧ i = n then x else u.2.2 30 i) = _
    simp [hi]
  · funext i
    show (if q = 30 ∧ i = n then x else u.2.2 q i) = _
    simp [hq]
  · rw [sI_cell _ _ _ _ _ hq, e3]
  · rw [sI_k _ _ _ _ _ hk, e3]
