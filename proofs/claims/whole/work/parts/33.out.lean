/-! what is struck out: struck, sheets -/
def same7 (w w' : q_W) : Prop := (∀ q, q ≠ 7 → w'.1 q = w.1 q) ∧ w'.2 = w.2
theorem same7_r (w : q_W) : same7 w w := ⟨fun _ _ => rfl, rfl⟩
theorem same7_t {a b c : q_W} (h : same7 a b) (h' : same7 b c) : same7 a c := ⟨fun q x => (h'.1 q x).trans (h.1 q x), h'.2.trans h.2⟩
theorem same7_w (w : q_W) (i : Nat) (x : Int32) : same7 w (q_sI w 7 i x) := ⟨fun q h => sI_cell _ _ _ _ _ h, rfl⟩
/-- t is struck out by a fact from lo on, before n -/
def strkd (w : q_W) (t lo n : Nat) : Prop := ∃ m, lo ≤ m ∧ m < n ∧ w.1 5 m = nI 5 ∧ w.1 6 (6 * m) = nI t
/-- what is struck out lies before -/
def I_val (k : Nat) (w : q_W) : Prop := ∀ i, i < k → w.1 5 i = nI 5 → ∃ t, t < i ∧ w.1 6 (6 * i) = nI t
theorem strkd_same {w w' : q_W} (h : same7 w w') (t lo n : Nat) : strkd w' t lo n ↔ strkd w t lo n := by
  unfold strkd
  rw [h.1 5 (by decide), h.1 6 (by decide)]
theorem I_val_same {w w' : q_W} (h : same7 w w') (k : Nat) (x : I_val k w) : I_val k w' := by
  unfold I_val
  rw [h.1 5 (by decide), h.1 6 (by decide)]
  exact x
theorem clr_ok (x : Int32) : ∀ d N j w, j + d = 120 → d < N → ∃ w', q_it N fX2_findOut_h2 (fun _ _ _ => none) x (nI j) w = fX2_findOut_l23 x 0 w' ∧ same7 w w' ∧ ∀ i, w'.1 7 i = if j ≤ i ∧ i < 120 then 0 else w.1 7 i := by
  intro d
  induction d with
  | zero =>
    intro N j w h hN
    obtain ⟨N, rfl⟩ : ∃ M, N = M + 1 := ⟨N - 1, by omega⟩
    rw [q_itS]
    unfold fX2_findOut_h2
    rw [show (120 : Int32) = nI 120 from rfl, if_pos (by rw [nI_leI (by omega) (by omega)]; omega)]
    refine ⟨w, rfl, same7_r w, fun i => ?_⟩
    rw [if_neg (by omega)]
  | succ d ih =>
    intro N j w h hN
    obtain ⟨N, rfl⟩ : ∃ M, N = M + 1 := ⟨N - 1, by omega⟩
    rw [q_itS]
    unfold fX2_findOut_h2
    rw [show (120 : Int32) = nI 120 from rfl, if_neg (by rw [nI_leI (by omega) (by omega)]; omega), if_pos (q_inb_nI (by omega) (by omega)), q_lt_eq, q_lt_eq, q_ix_nI (by omega), nI_1]
    obtain ⟨w', e, s, f⟩ := ih N (j + 1) (q_sI w 7 j (vp_nar .boolean 0)) (by omega) (by omega)
    refine ⟨w', e, same7_t (same7_w _ _ _) s, fun i => ?_⟩
    rw [f i]
    by_cases ei : i = j
    · subst ei
      rw [if_neg (by omega), if_pos (by omega), sI_same]
      rfl
    · rw [sI_k _ _ _ _ _ ei]
      by_cases h1 : j ≤ i ∧ i < 120
      · rw [if_pos h1, if_pos (by omega)]
      · rw [if_neg h1, if_neg (by omega)]
theorem mark_ok (n k : Nat) (hn : n ≤ k) (hk : k ≤ 120) : ∀ d N j w, j + d = n → d < N → w.1 4 2 = nI k → I_val k w → ∃ w', q_it N fX2_findOut_h23 (fun _ _ _ => none) (nI n) (nI j) w = some ((), w') ∧ same7 w w' ∧ ∀ i, i < 120 → (strkd w i j n ∧ w'.1 7 i = 1) ∨ (¬ strkd w i j n ∧ w'.1 7 i = w.1 7 i) := by
  intro d
  induction d with
  | zero =>
    intro N j w h hN hw hv
    obtain ⟨N, rfl⟩ : ∃ M, N = M + 1 := ⟨N - 1, by omega⟩
    rw [q_itS]
    unfold fX2_findOut_h23
    rw [if_pos (by rw [nI_leI (by omega) (by omega)]; omega)]
    refine ⟨w, rfl, same7_r w, fun i hi => Or.inr ⟨?_, rfl⟩⟩
    rintro ⟨m, h1, h2, _⟩
    omega
  | succ d ih =>
    intro N j w h hN hw hv
    obtain ⟨N, rfl⟩ : ∃ M, N = M + 1 := ⟨N - 1, by omega⟩
    rw [q_itS]
    unfold fX2_findOut_h23
    rw [if_neg (by rw [nI_leI (by omega) (by omega)]; omega), show (120 : Int32) = nI 120 from rfl, if_neg (by rw [nI_leI (by omega) (by omega)]; omega), kindOf_ok w k j hk hw (by omega), q_b_some]
    unfold fX2_findOut_n59
    by_cases h5 : w.1 5 j = nI 5
    · obtain ⟨t, ht, et⟩ := hv j (by omega) h5
      rw [show (5 : Int32) = nI 5 from rfl, if_pos h5, show (0 : Int32) = nI 0 from rfl, numberOf_ok w k j 0 hk hw (by omega) (by omega), q_b_some]
      unfold fX2_markOut
      rw [Nat.add_zero, et, if_neg (nI_pos (by omega)), show (120 : Int32) = nI 120 from rfl, if_neg (by rw [nI_leI (by omega) (by omega)]; omega), if_pos (q_inb_nI (by omega) (by omega)), q_lt_eq, q_b_some, q_ix_nI (by omega), q_lt_eq, nI_1]
      have s1 := same7_w w t (vp_nar .boolean 1)
      obtain ⟨w', e, s, f⟩ := ih N (j + 1) (q_sI w 7 t (vp_nar .boolean 1)) (by omega) (by omega) (by rw [s1.1 4 (by decide)]; exact hw) (I_val_same s1 k hv)
      refine ⟨w', e, same7_t s1 s, fun i hi => ?_⟩
      have fi := f i hi
      rw [strkd_same s1] at fi
      by_cases ei : i = t
      · subst ei
        refine Or.inl ⟨⟨j, by omega, by omega, h5, et⟩, ?_⟩
        rcases fi with fi | fi
        · exact fi.2
        · rw [fi.2, sI_same]; rfl
      · rw [sI_k _ _ _ _ _ ei] at fi
        have eq : strkd w i j n ↔ strkd w i (j + 1) n := by
          constructor
          · rintro ⟨m, h1, h2, h3, h4⟩
            by_cases em : m = j
            · subst em
              rw [et] at h4
              exact absurd ((nI_eq (by omega) (by omega)).mp h4).symm ei
            · exact ⟨m, by omega, h2, h3, h4⟩
          · rintro ⟨m, h1, h2, h3, h4⟩
            exact ⟨m, by omega, h2, h3, h4⟩
        rw [eq]
        exact fi
    · rw [show (5 : Int32) = nI 5 from rfl, if_neg h5, q_lt_eq, nI_1]
      obtain ⟨w', e, s, f⟩ := ih N (j + 1) w (by omega) (by omega) hw hv
      refine ⟨w', e, s, fun i hi => ?_⟩
      have eq : strkd w i j n ↔ strkd w i (j + 1) n := by
        constructor
        · rintro ⟨m, h1, h2, h3, h4⟩
          by_cases em : m = j
          · subst em; exact absurd h3 h5
          · exact ⟨m, by omega, h2, h3, h4⟩
        · rintro ⟨m, h1, h2, h3, h4⟩
          exact ⟨m, by omega, h2, h3, h4⟩
      rw [eq]
      exact f i hi
theorem findOut_ok (n k : Nat) (u : q_W) (hn : n ≤ k) (hk : k ≤ 120) (h : u.1 4 2 = nI k) (hv : I_val k u) : ∃ u', fX2_findOut (nI n) u = some ((), u') ∧ same7 u u' ∧ ∀ i, i < 120 → (strkd u i 0 n ∧ u'.1 7 i = 1) ∨ (¬ strkd u i 0 n ∧ u'.1 7 i = 0) := by
  unfold fX2_findOut fX2_findOut_l2
  obtain ⟨w1, e1, s1, f1⟩ := clr_ok (nI n) 120 q_N 0 u (by omega) (Nat.le_of_ble_eq_true rfl)
  rw [show (0 : Int32) = nI 0 from rfl, e1]
  unfold fX2_findOut_l23
  obtain ⟨w2, e2, s2, f2⟩ := mark_ok n k hn hk n q_N 0 w1 (by omega) (Nat.lt_of_le_of_lt (show n ≤ 120 by omega) (Nat.le_of_ble_eq_true rfl)) (by rw [s1.1 4 (by decide)]; exact h) (I_val_same s1 k hv)
  refine ⟨w2, e2, same7_t s1 s2, fun i hi => ?_⟩
  have fi := f2 i hi
  rw [strkd_same s1, f1 i, if_pos (by omega)] at fi
  exact fi
