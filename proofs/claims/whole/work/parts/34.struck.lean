def strkR (w : q_W) (t lo n : Nat) : Prop := ∃ m, lo ≤ m ∧ m < n ∧ w.1 27 m = nI 5 ∧ w.1 28 (6 * m) = nI t
theorem isStruck_lok (n t : Nat) (hn : n ≤ 120) : ∀ d N j w, (j + d = n ∨ (d = 0 ∧ n ≤ j ∧ j < 2 ^ 31)) → d < N → ∃ r, q_it N fX11_isStruck_h4 (fun _ _ _ _ => none) (nI t) (nI n) (nI j) w = some (r, w) ∧ ((strkR w t j n ∧ r = 1) ∨ (¬ strkR w t j n ∧ r = 0)) := by
  intro d
  induction d with
  | zero =>
    intro N j w h hN
    obtain ⟨N, rfl⟩ : ∃ M, N = M + 1 := ⟨N - 1, by omega⟩
    rw [q_itS]
    rw [fX11_isStruck_h4]
    rw [if_pos (by rw [nI_leI (by omega) (by omega)]; omega)]
    refine ⟨_, rfl, Or.inr ⟨?_, rfl⟩⟩
    rintro ⟨m, h1, h2, _⟩
    omega
  | succ d ih =>
    intro N j w h hN
    obtain ⟨N, rfl⟩ : ∃ M, N = M + 1 := ⟨N - 1, by omega⟩
    have hj : j < n := by omega
    rw [q_itS]
    rw [fX11_isStruck_h4]
    rw [if_neg (by rw [nI_leI (by omega) (by omega)]; omega), if_pos (q_inb_nI (by omega) (by omega)), q_ix_nI (by omega)]
    unfold fX11_isStruck_n34
    rw [q_lt_eq, q_lt_eq, nI_1]
    have e6 : (6 : Int32) * nI j = nI (6 * j) := by
      rw [show (6 : Int32) = nI 6 from rfl]
      unfold nI
      rw [← Int32.ofNat_mul]
    obtain ⟨r, e, f⟩ := ih N (j + 1) w (by omega) (by omega)
    by_cases h5 : w.1 27 j = nI 5
    · rw [show (5 : Int32) = nI 5 from rfl, if_pos h5, e6, if_pos (q_inb_nI (by omega) (by omega)), q_ix_nI (by omega)]
      by_cases ht : w.1 28 (6 * j) = nI t
      · rw [if_pos ht]
        exact ⟨_, rfl, Or.inl ⟨⟨j, by omega, hj, h5, ht⟩, rfl⟩⟩
      · rw [if_neg ht, e]
        have eq : strkR w t j n ↔ strkR w t (j + 1) n := by
          constructor
          · rintro ⟨m, h1, h2, h3, h4⟩
            by_cases em : m = j
            · subst em; exact absurd h4 ht
            · exact ⟨m, by omega, h2, h3, h4⟩
          · rintro ⟨m, h1, h2, h3, h4⟩
            exact ⟨m, by omega, h2, h3, h4⟩
        rw [eq]
        exact ⟨r, rfl, f⟩
    · rw [show (5 : Int32) = nI 5 from rfl, if_neg h5, e]
      have eq : strkR w t j n ↔ strkR w t (j + 1) n := by
        constructor
        · rintro ⟨m, h1, h2, h3, h4⟩
          by_cases em : m = j
          · subst em; exact absurd h3 h5
          · exact ⟨m, by omega, h2, h3, h4⟩
        · rintro ⟨m, h1, h2, h3, h4⟩
          exact ⟨m, by omega, h2, h3, h4⟩
      rw [eq]
      exact ⟨r, rfl, f⟩
theorem isStruck_ok (n t : Nat) (hn : n ≤ 120) (ht : t < n) (v : q_W) : ∃ r, fX11_isStruck (nI t) (nI n) v = some (r, v) ∧ ((strkR v t (t + 1) n ∧ r = 1) ∨ (¬ strkR v t (t + 1) n ∧ r = 0)) := by
  unfold fX11_isStruck fX11_isStruck_l4
  rw [q_lt_eq, nI_1]
  exact isStruck_lok n t hn (n - (t + 1)) q_N (t + 1) v (by omega) (Nat.lt_of_le_of_lt (show n - (t + 1) ≤ 120 by omega) (Nat.le_of_ble_eq_true rfl))
theorem log_kind {u v : q_W} {k : Nat} (h : I_log k u v) {m : Nat} (hm : m < k) : u.1 5 m = v.1 27 m := by
  obtain ⟨c, hc, e1, e2, e3⟩ := h.2.2.2.2 m hm
  rw [e1, e2]
theorem strk_eq {u v : q_W} {k : Nat} (h : I_log k u v) (hv : I_val k u) (t n : Nat) (ht : t < k) (hn : n ≤ k) : strkd u t 0 n ↔ strkR v t (t + 1) n := by
  have hk := h.1
  constructor
  · rintro ⟨m, h1, h2, h3, h4⟩
    obtain ⟨c, hc, e1, e2, e3⟩ := h.2.2.2.2 m (by omega)
    obtain ⟨s, hs, es⟩ := hv m (by omega) h3
    rw [es] at h4
    have hst := (nI_eq (by omega) (by omega)).mp h4
    have c5 : c = 5 := by
      rw [e1] at h3
      exact (nI_eq (by omega) (by omega)).mp h3
    subst c5
    refine ⟨m, by omega, h2, e2, ?_⟩
    have := e3 0 (by decide)
    rw [Nat.add_zero] at this
    rw [← this, es, hst]
  · rintro ⟨m, h1, h2, h3, h4⟩
    obtain ⟨c, hc, e1, e2, e3⟩ := h.2.2.2.2 m (by omega)
    have c5 : c = 5 := by
      rw [e2] at h3
      exact (nI_eq (by omega) (by omega)).mp h3
    subst c5
    have := e3 0 (by decide)
    rw [Nat.add_zero] at this
    exact ⟨m, by omega, h2, e1, by rw [this, h4]⟩
theorem knows_ok (u : q_W) (k : Nat) (hk : k ≤ 120) (h : u.1 4 2 = nI k) (a : Int32) : fX2_knows a u = some (if q_inb a (k + 1) then 1 else 0, u) := by
  unfold fX2_knows fX6_size
  by_cases h0 : a < 0
  · rw [if_pos h0, if_neg]
    intro x
    have x1 := x.1
    rw [i_le] at x1
    rw [i_lt] at h0
    omega
  · obtain ⟨m, hm, rfl⟩ := nI_of h0
    rw [if_neg h0, if_pos (by decide), h, q_b_some]
    by_cases hm2 : m < k + 1
    · rw [if_neg (by rw [nI_ltI (by omega) hm]; omega), if_pos (q_inb_nI hm2 (by omega))]
    · rw [if_pos (by rw [nI_ltI (by omega) hm]; omega), if_neg]
      intro x
      have x2 := x.2
      rw [nI_clamp hm] at x2
      exact hm2 x2
theorem isKnown_ok (v : q_W) (k : Nat) (hk : k ≤ 120) (h : v.1 0 50 = nI k) (a : Int32) : fX11_isKnown a v = some (if q_inb a (k + 1) then 1 else 0, v) := by
  unfold fX11_isKnown
  by_cases h0 : a < 0
  · rw [if_pos h0, if_neg]
    intro x
    have x1 := x.1
    rw [i_le] at x1
    rw [i_lt] at h0
    omega
  · obtain ⟨m, hm, rfl⟩ := nI_of h0
    rw [if_neg h0, h]
    by_cases hm2 : m < k + 1
    · rw [if_neg (by rw [nI_ltI (by omega) hm]; omega), if_pos (q_inb_nI hm2 (by omega))]
    · rw [if_pos (by rw [nI_ltI (by omega) hm]; omega), if_neg]
      intro x
      have x2 := x.2
      rw [nI_clamp hm] at x2
      exact hm2 x2
theorem isOut_ok (t n k : Nat) (u : q_W) (ht : t < 120) (hn : n ≤ k) (hk : k ≤ 120) (h : u.1 4 2 = nI k) (hv : I_val k u) : ∃ r u', fX2_isOut (nI t) (nI n) u = some (r, u') ∧ same7 u u' ∧ ((strkd u t 0 n ∧ r = 1) ∨ (¬ strkd u t 0 n ∧ r = 0)) := by
  unfold fX2_isOut
  obtain ⟨u', e, s, f⟩ := findOut_ok n k u hn hk h hv
  rw [e, q_b_some, if_neg (nI_pos (by omega)), show (120 : Int32) = nI 120 from rfl, if_neg (by rw [nI_leI (by omega) (by omega)]; omega), if_pos (q_inb_nI (by omega) (by omega)), q_ix_nI (by omega)]
  rcases f t ht with ⟨f1, f2⟩ | ⟨f1, f2⟩
  · rw [f2, if_neg i_10]
    exact ⟨_, _, rfl, s, Or.inl ⟨f1, rfl⟩⟩
  · rw [f2, if_pos rfl]
    exact ⟨_, _, rfl, s, Or.inr ⟨f1, rfl⟩⟩
theorem sim_struck {u v : q_W} {k : Nat} (h : I_log k u v) (hv : I_val k u) (a b : Int32) : ∃ r u', fX10_struck a b u = some (r, u') ∧ fX11_struck a b v = some (r, v) ∧ same7 u u' := by
  have hk := h.1
  unfold fX10_struck fX11_struck
  rw [knows_ok u k hk h.2.1, isKnown_ok v k hk h.2.2.2.1, q_b_some, q_b_some]
  by_cases hi : q_inb b (k + 1)
  · obtain ⟨n, hn, rfl⟩ := (q_inb_iff (by omega)).mp hi
    rw [if_pos hi, if_neg i_10, if_neg i_10]
    by_cases h0 : a < 0
    · rw [if_pos h0, if_pos h0]
      exact ⟨_, _, rfl, rfl, same7_r u⟩
    · rw [if_neg h0, if_neg h0]
      obtain ⟨t, ht, rfl⟩ := nI_of h0
      by_cases htn : t < n
      · rw [if_pos (by rw [nI_ltI (by omega) (by omega)]; omega), if_pos (by rw [nI_ltI (by omega) (by omega)]; omega)]
        obtain ⟨r, u', e, s, f⟩ := isOut_ok t n k u (by omega) (by omega) hk h.2.1 hv
        obtain ⟨r', e', f'⟩ := isStruck_ok n t (by omega) htn v
        rw [e, e', q_b_some, q_b_some]
        have q := strk_eq h hv t n (by omega) (by omega)
        have er : r = r' := by
          rcases f with ⟨f1, f2⟩ | ⟨f1, f2⟩ <;> rcases f' with ⟨g1, g2⟩ | ⟨g1, g2⟩
          · rw [f2, g2]
          · exact absurd (q.mp f1) g1
          · exact absurd (q.mpr g1) f1
          · rw [f2, g2]
        rw [← er]
        by_cases hr : r = 0
        · rw [if_pos hr, if_pos hr]; exact ⟨_, _, rfl, rfl, s⟩
        · rw [if_neg hr, if_neg hr]; exact ⟨_, _, rfl, rfl, s⟩
      · rw [if_neg (by rw [nI_ltI (by omega) (by omega)]; omega), if_neg (by rw [nI_ltI (by omega) (by omega)]; omega)]
        exact ⟨_, _, rfl, rfl, same7_r u⟩
  · rw [if_neg hi, if_pos rfl, if_pos rfl]
    exact ⟨_, _, rfl, rfl, same7_r u⟩
