theorem I_log_same {u u' v : q_W} {k : Nat} (s : same7 u u') (h : I_log k u v) : I_log k u' v := by
  unfold I_log
  rw [s.1 4 (by decide), s.1 5 (by decide), s.1 6 (by decide)]
  exact h
theorem lays_lok {n k : Nat} (hn : n ≤ k) {u0 : q_W} : ∀ d N j c (u v : q_W), j + d = n → d < N → I_log k u v → I_val k u → (∀ i, i < 120 → (strkd u i 0 n ∧ u.1 7 i = 1) ∨ (¬ strkd u i 0 n ∧ u.1 7 i = 0)) → ∃ r, q_it N fX2_laysKnown_h9 (fun _ _ _ _ => none) (nI n) c (nI j) u = some (r, u) ∧ q_it N fX11_sheets_h14 (fun _ _ _ _ => none) (nI n) c (nI j) v = some (r, v) := by
  intro d
  induction d with
  | zero =>
    intro N j c u v h hN hl hv hf
    have hk := hl.1
    obtain ⟨N, rfl⟩ : ∃ M, N = M + 1 := ⟨N - 1, by omega⟩
    rw [q_itS, q_itS, fX2_laysKnown_h9, fX11_sheets_h14]
    rw [if_pos (by rw [nI_leI (by omega) (by omega)]; omega), if_pos (by rw [nI_leI (by omega) (by omega)]; omega)]
    exact ⟨_, rfl, rfl⟩
  | succ d ih =>
    intro N j c u v h hN hl hv hf
    have hk := hl.1
    obtain ⟨N, rfl⟩ : ∃ M, N = M + 1 := ⟨N - 1, by omega⟩
    rw [q_itS, q_itS, fX2_laysKnown_h9, fX11_sheets_h14]
    have hnj : ¬ nI n ≤ nI j := by rw [nI_leI (by omega) (by omega)]; omega
    have h12 : ¬ (120 : Int32) ≤ nI j := by rw [show (120 : Int32) = nI 120 from rfl, nI_leI (by omega) (by omega)]; omega
    have hib : q_inb (nI j) 120 := q_inb_nI (by omega) (by omega)
    rw [if_neg hnj, if_neg h12, if_neg hnj, if_pos hib, if_pos hib, q_ix_nI (by omega), kindOf_ok u k j hk hl.2.1 (by omega), q_b_some, log_kind hl (show j < k by omega)]
    simp only [fX2_laysKnown_n44, fX11_sheets_n41, q_lt_eq, nI_1]
    obtain ⟨r, e1, e2⟩ := ih N (j + 1) c u v (by omega) (by omega) hl hv hf
    obtain ⟨r', e1', e2'⟩ := ih N (j + 1) (c + 1) u v (by omega) (by omega) hl hv hf
    obtain ⟨s, es, fs⟩ := isStruck_ok n j (by omega) (by omega) v
    have q := strk_eq hl hv j n (by omega) hn
    rw [es, q_b_some]
    rcases hf j (by omega) with ⟨g1, g2⟩ | ⟨g1, g2⟩
    · rw [g2, if_neg i_10]
      by_cases h4 : v.1 27 j = 4
      · rw [if_pos h4]
        have : s = 1 := by
          rcases fs with ⟨_, x⟩ | ⟨x, _⟩
          · exact x
          · exact absurd (q.mp g1) x
        rw [this, if_neg i_10]
        exact ⟨r, e1, e2⟩
      · rw [if_neg h4]
        exact ⟨r, e1, e2⟩
    · rw [g2, if_pos rfl]
      by_cases h4 : v.1 27 j = 4
      · rw [if_pos h4, if_pos h4]
        have : s = 0 := by
          rcases fs with ⟨x, _⟩ | ⟨_, x⟩
          · exact absurd (q.mpr x) g1
          · exact x
        rw [this, if_pos rfl]
        exact ⟨r', e1', e2'⟩
      · rw [if_neg h4, if_neg h4]
        exact ⟨r, e1, e2⟩
theorem sim_sheets {u v : q_W} {k : Nat} (h : I_log k u v) (hv : I_val k u) (a : Int32) : ∃ r u', fX10_sheets a u = some (r, u') ∧ fX11_sheets a v = some (r, v) ∧ same7 u u' := by
  have hk := h.1
  unfold fX10_sheets fX11_sheets
  rw [knows_ok u k hk h.2.1, isKnown_ok v k hk h.2.2.2.1, q_b_some, q_b_some]
  by_cases hi : q_inb a (k + 1)
  · obtain ⟨n, hn, rfl⟩ := (q_inb_iff (by omega)).mp hi
    rw [if_pos hi, if_neg i_10, if_neg i_10]
    unfold fX2_laysKnown fX2_laysKnown_l9 fX11_sheets_l14
    obtain ⟨u', e, s, f⟩ := findOut_ok n k u (by omega) hk h.2.1 hv
    rw [e, q_b_some]
    obtain ⟨r, e1, e2⟩ := lays_lok (u0 := u) (show n ≤ k by omega) n q_N 0 0 u' v (by omega) (Nat.lt_of_le_of_lt (show n ≤ 120 by omega) (Nat.le_of_ble_eq_true rfl)) (I_log_same s h) (I_val_same s k hv) (fun i hi => by rw [strkd_same s]; exact f i hi)
    rw [nI_0] at e1 e2
    rw [e1, e2, q_b_some]
    exact ⟨_, _, rfl, rfl, s⟩
  · rw [if_neg hi, if_pos rfl, if_pos rfl]
    exact ⟨_, _, rfl, rfl, same7_r u⟩
