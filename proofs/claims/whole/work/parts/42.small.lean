/-! broke, where, rowed, parameters -/
def I_misc (u v : q_W) : Prop := u.1 0 12 = v.1 0 17 ∧ u.1 0 13 = v.1 0 53 ∧ u.1 0 14 = v.1 0 54
def I_row (u v : q_W) : Prop := ∃ n, n ≤ 3 ∧ u.1 37 9 = nI n ∧ v.1 0 70 = nI n ∧ ∀ i, i < n → u.1 42 i = v.1 35 i
theorem sim_broke {u v : q_W} (h : I_misc u v) : ∃ r, fX10_broke u = some (r, u) ∧ fX11_broke v = some (r, v) := ⟨_, rfl, by unfold fX11_broke; rw [← h.2.1]⟩
theorem sim_where {u v : q_W} (h : I_misc u v) : ∃ r, fX10_where u = some (r, u) ∧ fX11_where v = some (r, v) := ⟨_, rfl, by unfold fX11_where; rw [← h.2.2]⟩
theorem sim_rowed {u v : q_W} (h : I_row u v) (a : Int32) : ∃ r, fX10_rowed a u = some (r, u) ∧ fX11_rowed a v = some (r, v) := by
  obtain ⟨n, hn, h1, h2, h3⟩ := h
  unfold fX10_rowed fX11_rowed
  by_cases h0 : a < 0
  · rw [if_pos h0, if_pos h0]
    exact ⟨_, rfl, rfl⟩
  · rw [if_neg h0, if_neg h0]
    obtain ⟨m, hm, rfl⟩ := nI_of h0
    unfold fX3_foundLength
    rw [q_b_some, h1, h2]
    by_cases hmn : m < n
    · rw [if_neg (by rw [nI_leI (by omega) (by omega)]; omega), if_neg (by rw [nI_leI (by omega) (by omega)]; omega)]
      unfold fX3_foundAt
      rw [if_neg h0, if_neg (by rw [show (3 : Int32) = nI 3 from rfl, nI_leI (by omega) (by omega)]; omega), if_pos (show q_inb (nI m) 3 from q_inb_nI (by omega) (by omega)), q_b_some, if_pos (show q_inb (nI m) 3 from q_inb_nI (by omega) (by omega)), q_ix_nI (by omega), h3 m hmn]
      exact ⟨_, rfl, rfl⟩
    · rw [if_pos (by rw [nI_leI (by omega) (by omega)]; omega), if_pos (by rw [nI_leI (by omega) (by omega)]; omega)]
      exact ⟨_, rfl, rfl⟩
/-- the live program's heads: P is the class's program, s the reference's side -/
def I_heads (P s n : Nat) (u v : q_W) : Prop := (P = 43 ∧ u.2.1 0 7 = 43 ∨ P = 47 ∧ u.2.1 0 7 = 47) ∧ s < 2 ∧ v.1 0 18 = nI s ∧ n ≤ 8 ∧ u.1 P 4 = nI n ∧ v.1 8 s = nI n ∧ ∀ i, i < n → u.1 (fC P 2) i = v.1 10 (8 * s + i)
theorem has4_ok (P : Nat) (hP : cC P = 4) (u : q_W) (n : Nat) (hn : n ≤ 8) (h : u.1 P 4 = nI n) (a : Int32) : fX4_has P a u = some (if q_inb a n then 1 else 0, u) := by
  unfold fX4_has
  rw [if_pos hP, h]
  by_cases h0 : a < 0
  · rw [if_pos h0, if_neg]
    intro x
    have x1 := x.1
    rw [i_le] at x1
    rw [i_lt] at h0
    omega
  · obtain ⟨m, hm, rfl⟩ := nI_of h0
    rw [if_neg h0]
    by_cases hm2 : m < n
    · rw [if_neg (by rw [nI_leI (by omega) hm]; omega), if_neg (by rw [show (8 : Int32) = nI 8 from rfl, nI_leI (by omega) hm]; omega), if_pos (q_inb_nI hm2 (by omega))]
    · rw [if_pos (by rw [nI_leI (by omega) hm]; omega), if_neg]
      intro x
      have x2 := x.2
      rw [nI_clamp hm] at x2
      exact hm2 x2
theorem isPattern_ok (s n : Nat) (hs : s < 2) (hn : n ≤ 8) (v : q_W) (h1 : v.1 0 18 = nI s) (h2 : v.1 8 s = nI n) (a : Int32) : fX11_isPattern a v = some (if q_inb a n then 1 else 0, v) := by
  unfold fX11_isPattern
  rw [h1, q_lt_eq, if_pos (q_inb_nI hs (by omega)), q_ix_nI (by omega), h2]
  by_cases h0 : a < 0
  · rw [if_pos h0, if_neg]
    intro x
    have x1 := x.1
    rw [i_le] at x1
    rw [i_lt] at h0
    omega
  · obtain ⟨m, hm, rfl⟩ := nI_of h0
    rw [if_neg h0]
    by_cases hm2 : m < n
    · rw [if_neg (by rw [nI_leI (by omega) hm]; omega), if_pos (q_inb_nI hm2 (by omega))]
    · rw [if_pos (by rw [nI_leI (by omega) hm]; omega), if_neg]
      intro x
      have x2 := x.2
      rw [nI_clamp hm] at x2
      exact hm2 x2
theorem sim_parameters {P s n : Nat} {u v : q_W} (h : I_heads P s n u v) (a : Int32) : ∃ r, fX10_parameters a u = some (r, u) ∧ fX11_parameters a v = some (r, v) := by
  obtain ⟨hP, hs, h1, hn, h2, h3, h4⟩ := h
  have hr : u.2.1 0 7 = P := by rcases hP with ⟨x, y⟩ | ⟨x, y⟩ <;> rw [x, y]
  have hc : cC P = 4 := by rcases hP with ⟨x, y⟩ | ⟨x, y⟩ <;> rw [x] <;> rfl
  unfold fX10_parameters fX11_parameters
  rw [isPattern_ok s n hs hn v h1 h3, q_b_some, hr, if_pos hc, has4_ok P hc u n hn h2, q_b_some]
  by_cases hi : q_inb a n
  · obtain ⟨m, hm, rfl⟩ := (q_inb_iff (by omega)).mp hi
    have e : (8 : Int32) * nI s + nI m = nI (8 * s + m) := by
      rw [show (8 : Int32) = nI 8 from rfl]
      unfold nI
      rw [← Int32.ofNat_mul, ← Int32.ofNat_add]
    rw [if_pos hi, if_neg i_10, if_neg i_10, hr, if_pos hc, h1, e, q_lt_eq, if_pos (q_inb_nI (by omega) (by omega)), q_ix_nI (by omega)]
    unfold fX4_needs
    rw [if_pos hc, has4_ok P hc u n hn h2, q_b_some, if_pos hi, if_neg i_10, if_pos (show q_inb (nI m) 8 from q_inb_nI (by omega) (by omega)), q_b_some, q_ix_nI (by omega), h4 m hm]
    exact ⟨_, rfl, rfl⟩
  · rw [if_neg hi, if_pos rfl, if_pos rfl]
    exact ⟨_, rfl, rfl⟩
