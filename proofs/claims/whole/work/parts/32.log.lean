/-! the log: kind, number, has, knows -/
theorem i_10 : ¬ (1 : Int32) = 0 := by decide
def nums (k : Nat) : Nat := [4, 4, 6, 3, 1, 1].getD k 0
/-- the log's part of the tie: k facts -/
def I_log (k : Nat) (u v : q_W) : Prop := k ≤ 120 ∧ u.1 4 2 = nI k ∧ u.1 4 3 = nI 120 ∧ v.1 0 50 = nI k ∧ ∀ i, i < k → ∃ c, c ≤ 5 ∧ u.1 5 i = nI c ∧ v.1 27 i = nI c ∧ ∀ j, j < nums c → u.1 6 (6 * i + j) = v.1 28 (6 * i + j)
theorem has_ok (u : q_W) (k : Nat) (hk : k ≤ 120) (h : u.1 4 2 = nI k) (a : Int32) : fX2_has a u = some (if q_inb a k then 1 else 0, u) := by
  unfold fX2_has fX6_size
  by_cases h0 : a < 0
  · rw [if_pos h0, if_neg]
    intro x
    have x1 := x.1
    rw [i_le] at x1
    rw [i_lt] at h0
    omega
  · obtain ⟨m, hm, rfl⟩ := nI_of h0
    rw [if_neg h0, if_pos (by decide), h, q_b_some]
    by_cases hm2 : m < k
    · rw [if_neg (by rw [nI_leI (by omega) hm]; omega), if_pos (q_inb_nI hm2 (by omega))]
    · rw [if_pos (by rw [nI_leI (by omega) hm]; omega), if_neg]
      intro x
      have x2 := x.2
      rw [nI_clamp hm] at x2
      exact hm2 x2
theorem isFact_ok (v : q_W) (k : Nat) (hk : k ≤ 120) (h : v.1 0 50 = nI k) (a : Int32) : fX11_isFact a v = some (if q_inb a k then 1 else 0, v) := by
  unfold fX11_isFact
  by_cases h0 : a < 0
  · rw [if_pos h0, if_neg]
    intro x
    have x1 := x.1
    rw [i_le] at x1
    rw [i_lt] at h0
    omega
  · obtain ⟨m, hm, rfl⟩ := nI_of h0
    rw [if_neg h0, h]
    by_cases hm2 : m < k
    · rw [if_neg (by rw [nI_leI (by omega) hm]; omega), if_pos (q_inb_nI hm2 (by omega))]
    · rw [if_pos (by rw [nI_leI (by omega) hm]; omega), if_neg]
      intro x
      have x2 := x.2
      rw [nI_clamp hm] at x2
      exact hm2 x2
theorem kindOf_ok (u : q_W) (k m : Nat) (hk : k ≤ 120) (h : u.1 4 2 = nI k) (hm : m < k) : fX6_kindOf 4 (nI m) u = some (u.1 5 m, u) := by
  unfold fX6_kindOf
  rw [if_pos (by decide), if_neg (nI_pos (by omega)), h, if_neg (by rw [nI_leI (by omega) (by omega)]; omega)]
  rw [show (480 : Int32) = nI 480 from rfl, if_neg (by rw [nI_leI (by omega) (by omega)]; omega), if_pos (q_inb_nI (by omega) (by omega)), q_ix_nI (by omega)]
  rfl
theorem numberOf_ok (u : q_W) (k m j : Nat) (hk : k ≤ 120) (h : u.1 4 2 = nI k) (hm : m < k) (hj : j < 6) : fX6_numberOf 4 (nI m) (nI j) u = some (u.1 6 (6 * m + j), u) := by
  unfold fX6_numberOf fX6_numberOf_n34
  rw [if_pos (by decide), if_neg (nI_pos (by omega)), h, if_neg (by rw [nI_leI (by omega) (by omega)]; omega)]
  rw [show (480 : Int32) = nI 480 from rfl, if_neg (by rw [nI_leI (by omega) (by omega)]; omega), if_neg (nI_pos (by omega))]
  rw [show (6 : Int32) = nI 6 from rfl, if_neg (by rw [nI_leI (by omega) (by omega)]; omega), if_neg (by decide), q_lt_eq]
  have e : nI m * nI 6 + nI j = nI (6 * m + j) := by
    rw [Nat.mul_comm]
    unfold nI
    rw [← Int32.ofNat_mul, ← Int32.ofNat_add]
  rw [e, if_pos (q_inb_nI (by omega) (by omega)), q_ix_nI (by omega)]
  rfl
theorem numbersOf_ok (c : Nat) (hc : c ≤ 5) (u : q_W) : fX6_numbersOf (nI c) u = some (nI (nums c), u) := by
  unfold fX6_numbersOf
  rw [if_neg (nI_pos (by omega)), show (6 : Int32) = nI 6 from rfl, if_neg (by rw [nI_leI (by omega) (by omega)]; omega), if_pos (q_inb_nI (by omega) (by omega)), q_ix_nI (by omega)]
  have : c = 0 ∨ c = 1 ∨ c = 2 ∨ c = 3 ∨ c = 4 ∨ c = 5 := by omega
  rcases this with rfl | rfl | rfl | rfl | rfl | rfl <;> rfl
theorem sim_kind {u v : q_W} {k : Nat} (h : I_log k u v) (a : Int32) : ∃ r, fX10_kind a u = some (r, u) ∧ fX11_kind a v = some (r, v) := by
  obtain ⟨hk, h1, h2, h3, h4⟩ := h
  unfold fX10_kind fX11_kind
  rw [has_ok u k hk h1, isFact_ok v k hk h3, q_b_some, q_b_some]
  by_cases hi : q_inb a k
  · obtain ⟨m, hm, rfl⟩ := (q_inb_iff (by omega)).mp hi
    obtain ⟨c, hc, e1, e2, e3⟩ := h4 m hm
    rw [if_pos hi, if_neg i_10, if_neg i_10]
    unfold fX2_facts
    rw [q_b_some, if_pos (by decide), kindOf_ok u k m hk h1 hm, q_b_some, if_pos (q_inb_nI (by omega) (by omega)), q_ix_nI (by omega), e1, e2]
    exact ⟨_, rfl, rfl⟩
  · rw [if_neg hi, if_pos rfl, if_pos rfl]
    exact ⟨_, rfl, rfl⟩
theorem sim_number {u v : q_W} {k : Nat} (h : I_log k u v) (a b : Int32) : ∃ r, fX10_number a b u = some (r, u) ∧ fX11_number a b v = some (r, v) := by
  obtain ⟨hk, h1, h2, h3, h4⟩ := h
  unfold fX10_number fX11_number
  rw [has_ok u k hk h1, isFact_ok v k hk h3, q_b_some, q_b_some]
  by_cases hi : q_inb a k
  · obtain ⟨m, hm, rfl⟩ := (q_inb_iff (by omega)).mp hi
    obtain ⟨c, hc, e1, e2, e3⟩ := h4 m hm
    rw [if_pos hi, if_neg i_10, if_neg i_10]
    have eR : (if q_inb (nI m) 120 then if 2 ≤ v.1 27 (q_ix (nI m)) then if q_inb (nI m) 120 then if v.1 27 (q_ix (nI m)) = 2 then fX11_number_n54 (nI m) b 6 v else if q_inb (nI m) 120 then if v.1 27 (q_ix (nI m)) = 3 then fX11_number_n54 (nI m) b 3 v else fX11_number_n54 (nI m) b 1 v else none else none else fX11_number_n54 (nI m) b 4 v else none) = fX11_number_n54 (nI m) b (nI (nums c)) v := by
      rw [if_pos (q_inb_nI (by omega) (by omega)), q_ix_nI (by omega), e2, if_pos (q_inb_nI (by omega) (by omega)), if_pos (q_inb_nI (by omega) (by omega))]
      have : c = 0 ∨ c = 1 ∨ c = 2 ∨ c = 3 ∨ c = 4 ∨ c = 5 := by omega
      rcases this with rfl | rfl | rfl | rfl | rfl | rfl <;> rfl
    rw [eR]
    unfold fX11_number_n54
    by_cases hb : b < 0
    · rw [if_pos hb, if_pos hb]
      exact ⟨_, rfl, rfl⟩
    · rw [if_neg hb, if_neg hb]
      obtain ⟨j, hj, rfl⟩ := nI_of hb
      unfold fX2_facts
      rw [q_b_some, if_pos (by decide), kindOf_ok u k m hk h1 hm, q_b_some, e1, numbersOf_ok c hc, q_b_some]
      have hn : nums c ≤ 6 := by
        have : c = 0 ∨ c = 1 ∨ c = 2 ∨ c = 3 ∨ c = 4 ∨ c = 5 := by omega
        rcases this with rfl | rfl | rfl | rfl | rfl | rfl <;> decide
      by_cases hjn : j < nums c
      · rw [if_neg (by rw [nI_leI (by omega) (by omega)]; omega), if_neg (by rw [nI_leI (by omega) (by omega)]; omega), q_lt_eq]
        have e : (6 : Int32) * nI m + nI j = nI (6 * m + j) := by
          rw [show (6 : Int32) = nI 6 from rfl]
          unfold nI
          rw [← Int32.ofNat_mul, ← Int32.ofNat_add]
        rw [e, if_pos (q_inb_nI (by omega) (by omega)), q_ix_nI (by omega)]
        unfold fX10_number_n38 fX2_facts
        rw [if_neg (by decide), q_b_some, if_pos (by decide), numberOf_ok u k m j hk h1 hm (by omega), q_b_some, e3 j hjn]
        exact ⟨_, rfl, rfl⟩
      · rw [if_pos (by rw [nI_leI (by omega) (by omega)]; omega), if_pos (by rw [nI_leI (by omega) (by omega)]; omega)]
        exact ⟨_, rfl, rfl⟩
  · rw [if_neg hi, if_pos rfl, if_pos rfl]
    exact ⟨_, rfl, rfl⟩
