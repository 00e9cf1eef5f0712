/-! the bounds of a fact's numbers -/
def chk (x lo hi : Int32) : Bool := !(decide (x < lo)) && decide (x ≤ hi)
def b01 (b : Bool) : Int32 := if b then 1 else 0
theorem in_ok (x lo hi : Int32) (w : q_W) : fX11_in x lo hi w = some (b01 (chk x lo hi), w) := by
  unfold fX11_in chk b01
  by_cases h1 : x < lo
  · rw [if_pos h1]; simp [h1]
  · rw [if_neg h1]
    by_cases h2 : hi < x
    · have h3 : ¬ x ≤ hi := by rw [i_le]; rw [i_lt] at h2; omega
      rw [if_pos h2]; simp [h3]
    · have h3 : x ≤ hi := by rw [i_le]; rw [i_lt] at h2; omega
      rw [if_neg h2]; simp [h1, h3]
def lo_ (c j : Nat) : Int32 := (q_stab 1).getD (6 * c + j) 0
def hi_ (c j : Nat) : Int32 := (q_stab 2).getD (6 * c + j) 0
/-- the numbers from j on keep their bounds -/
def fitsB (x : Nat → Int32) (c j : Nat) : Bool := (List.range' j (nums c - j)).all (fun i => chk (x i) (lo_ c i) (hi_ c i))
theorem fits_lok (q2 : Nat) (hl6 : lC q2 = 6) (c : Nat) (hc : c ≤ 4) (w : q_W) : ∀ d N j, j + d = nums c → d < N → q_it N (fX6_fits_h2 q2) (fun _ _ _ => none) (nI c) (nI j) w = some (b01 (fitsB (w.1 q2) c j), w) := by
  have hn : nums c ≤ 6 := by
    have : c = 0 ∨ c = 1 ∨ c = 2 ∨ c = 3 ∨ c = 4 := by omega
    rcases this with rfl | rfl | rfl | rfl | rfl <;> decide
  intro d
  induction d with
  | zero =>
    intro N j h hN
    obtain ⟨N, rfl⟩ : ∃ M, N = M + 1 := ⟨N - 1, by omega⟩
    rw [q_itS, fX6_fits_h2, numbersOf_ok c (by omega), q_b_some, if_pos (by rw [nI_leI (by omega) (by omega)]; omega)]
    unfold fX6_fits_n71 fitsB
    rw [if_neg (nI_pos (by omega)), show (4 : Int32) = nI 4 from rfl, if_neg (by rw [nI_ltI (by omega) (by omega)]; omega), show nums c - j = 0 by omega]
    rfl
  | succ d ih =>
    intro N j h hN
    obtain ⟨N, rfl⟩ : ∃ M, N = M + 1 := ⟨N - 1, by omega⟩
    have h6 : ¬ (Int32.ofNat (lC q2)) ≤ nI j := by
      rw [hl6, show Int32.ofNat 6 = nI 6 from rfl, nI_leI (by omega) (by omega)]; omega
    have hib : q_inb (nI j) (lC q2) := by rw [hl6]; exact q_inb_nI (by omega) (by omega)
    have e : nI c * 6 + nI j = nI (6 * c + j) := by
      rw [Nat.mul_comm, show (6 : Int32) = nI 6 from rfl]
      unfold nI
      rw [← Int32.ofNat_mul, ← Int32.ofNat_add]
    have h30 : ¬ (30 : Int32) ≤ nI (6 * c + j) := by rw [show (30 : Int32) = nI 30 from rfl, nI_leI (by omega) (by omega)]; omega
    have h30' : nI (6 * c + j) < (30 : Int32) := by rw [show (30 : Int32) = nI 30 from rfl, nI_ltI (by omega) (by omega)]; omega
    have hi3 : q_inb (nI (6 * c + j)) 30 := q_inb_nI (by omega) (by omega)
    rw [q_itS, fX6_fits_h2, numbersOf_ok c (by omega), q_b_some, if_neg (by rw [nI_leI (by omega) (by omega)]; omega), if_neg h6, q_lt_eq, e, if_neg h30, if_pos h30', if_pos hib, if_pos hi3, q_ix_nI (by omega), q_ix_nI (by omega)]
    have ef : fitsB (w.1 q2) c j = (chk (w.1 q2 j) (lo_ c j) (hi_ c j) && fitsB (w.1 q2) c (j + 1)) := by
      unfold fitsB
      rw [show nums c - j = (nums c - (j + 1)) + 1 by omega, List.range'_succ, List.all_cons]
    rw [ef]
    have i := ih N (j + 1) (by omega) (by omega)
    unfold chk lo_ hi_
    by_cases h1 : w.1 q2 j < (q_stab 1).getD (6 * c + j) 0
    · rw [if_pos h1, decide_eq_true h1]
      rfl
    · rw [if_neg h1, if_pos hib, if_pos hi3, decide_eq_false h1]
      by_cases h2 : w.1 q2 j ≤ (q_stab 2).getD (6 * c + j) 0
      · rw [if_pos h2, decide_eq_true h2, q_lt_eq, nI_1, i]
        rfl
      · rw [if_neg h2, decide_eq_false h2]
        rfl
theorem fits_ok (q2 : Nat) (hl6 : lC q2 = 6) (hc6 : cC q2 = 100) (c : Nat) (hc : c ≤ 4) (w : q_W) : fX6_fits (nI c) q2 w = some (b01 (fitsB (w.1 q2) c 0), w) := by
  have hn : nums c ≤ 6 := by
    have : c = 0 ∨ c = 1 ∨ c = 2 ∨ c = 3 ∨ c = 4 := by omega
    rcases this with rfl | rfl | rfl | rfl | rfl <;> decide
  unfold fX6_fits fX6_fits_l2
  rw [if_pos hc6]
  have := fits_lok q2 hl6 c hc w (nums c) q_N 0 (by omega) (Nat.lt_of_le_of_lt hn (Nat.le_of_ble_eq_true rfl))
  rw [nI_0] at this
  exact this
