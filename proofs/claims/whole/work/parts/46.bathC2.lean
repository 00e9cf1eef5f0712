/-! the bath of the class: forth, colours -/
theorem b01_or (b : Bool) : b01 b = 0 ∨ b01 b = 1 := by cases b <;> decide
theorem forth_out (w : q_W) (x y : Int32) (h : ptB x y = false) (N : Nat) (x3 : Int32) : q_it (N + 1) fX0_goForth_h12 (fun _ _ => none) x3 (atC w x y) = some (0, atC w x y) := by
  have e : fX0_goForth_n87 (atC w x y) = some (0, atC w x y) := by
    unfold fX0_goForth_n87
    rw [atC_x, atC_y, isPointC, q_b_some, h, if_pos (Or.inl b01_f), b01_f]
  rw [q_itS, fX0_goForth_h12]
  by_cases hx : (atC w x y).1 12 2 ≤ x3
  · rw [if_pos hx, e]
  · rw [if_neg hx]
    by_cases hx : 120 ≤ x3
    · rw [if_pos hx, e]
    · rw [if_neg hx, atC_x, atC_y, isPointC, q_b_some, h, if_pos b01_f, e]
theorem forthC_lok {q m t : Nat} {g K : Nat → Nat} {Z : Nat → Nat → Int32} {u : q_W} (H : BC q m t g K Z u) (V : BV m t K Z) : ∀ n i N x y, i + n = m → n < N → ptB x y = true → q_it N fX0_goForth_h12 (fun _ _ => none) (nI i) (atC u x y) = some (b01 (fwl t K Z n i x y).1, atC u (fwl t K Z n i x y).2.1 (fwl t K Z n i x y).2.2) := by
  have hm := V.1
  intro n
  induction n with
  | zero =>
    intro i N x y h1 h2 h3
    obtain ⟨N, rfl⟩ : ∃ M, N = M + 1 := ⟨N - 1, by omega⟩
    rw [q_itS, fX0_goForth_h12, atC_k _ _ _ 2 (by decide) (by decide), H.2.2.1, if_pos (by rw [nI_leI (by omega) (by omega)]; omega)]
    unfold fX0_goForth_n87
    rw [atC_x, atC_y, isPointC, q_b_some, if_pos (b01_or _), h3]
    rfl
  | succ n ih =>
    intro i N x y h1 h2 h3
    obtain ⟨N, rfl⟩ : ∃ M, N = M + 1 := ⟨N - 1, by omega⟩
    obtain ⟨M, rfl⟩ : ∃ M, N = M + 1 := ⟨N - 1, by omega⟩
    have H' := BC_at H x y
    obtain ⟨a, b, ha, hb, rfl, rfl⟩ := ptB_of h3
    have hp : (atC u (nI a) (nI b)).1 13 i = nI (g i) := (by obtain ⟨_, _, _, _, L, _, _, h5⟩ := H'; exact (h5 i (by omega)).2.1)
    rw [q_itS, fX0_goForth_h12, H'.2.2.1, if_neg (by rw [nI_leI (by omega) (by omega)]; omega), if_neg (by rw [show (120 : Int32) = nI 120 from rfl, nI_leI (by omega) (by omega)]; omega), atC_x, atC_y, isPointC, q_b_some, h3, if_neg b01_t, if_pos (q_inb_nI (by omega) (by omega)), q_lt_eq, q_ix_nI (by omega), hp, H'.2.1, if_pos (BC_c H), kind1 H' (show i < m by omega), q_b_some]
    unfold fX0_goForth_n81
    have eo : fwl t K Z (n + 1) i (nI a) (nI b) = if ptB (fww t (K i) (Z i) (nI a) (nI b)).1 (fww t (K i) (Z i) (nI a) (nI b)).2 then fwl t K Z n (i + 1) (fww t (K i) (Z i) (nI a) (nI b)).1 (fww t (K i) (Z i) (nI a) (nI b)).2 else (false, (fww t (K i) (Z i) (nI a) (nI b)).1, (fww t (K i) (Z i) (nI a) (nI b)).2) := rfl
    have key : (if nI (K i) = 0 then q_b (fX0_makeWay (nI (g i)) (atC u (nI a) (nI b))) (fun r7 w8 => q_lt (nI i + 1) fun y1 => q_it (M + 1) fX0_goForth_h12 (fun _ _ => none) y1 w8) else q_b (fX0_dragOf (nI (g i)) (atC u (nI a) (nI b))) (fun r9 w10 => q_b (fX0_moveBy (nI (g i)) r9 w10) (fun r11 w12 => q_lt (nI i + 1) fun y1 => q_it (M + 1) fX0_goForth_h12 (fun _ _ => none) y1 w12))) = q_it (M + 1) fX0_goForth_h12 (fun _ _ => none) (nI (i + 1)) (atC u (fww t (K i) (Z i) (nI a) (nI b)).1 (fww t (K i) (Z i) (nI a) (nI b)).2) := by
      unfold fww
      by_cases h0 : K i = 0
      · rw [h0, if_pos (show nI 0 = 0 from rfl), makeC H V (show i < m by omega) h0 ha hb, q_b_some, q_lt_eq, nI_1, if_pos rfl]
      · have hK := (V.2.2 i (by omega)).1
        rw [if_neg (nI_ne0 (by omega) (by omega)), dragC H' V (show i < m by omega) h0 ha hb (atC_x _ _ _) (atC_y _ _ _), q_b_some, moveC H V (show i < m by omega), q_b_some, q_lt_eq, nI_1, if_neg h0]
        by_cases hz : Z i 0 = 0
        · simp only [if_pos hz]
        · simp only [if_neg hz]
    rw [eo]
    refine Eq.trans key ?_
    generalize fww t (K i) (Z i) (nI a) (nI b) = p
    cases hpp : ptB p.1 p.2 with
    | true =>
      rw [if_pos rfl]
      exact ih (i + 1) (M + 1) p.1 p.2 (by omega) (by omega) hpp
    | false =>
      rw [if_neg (by decide), forth_out _ _ _ hpp]
      rfl
theorem forthC {q m t : Nat} {g K : Nat → Nat} {Z : Nat → Nat → Int32} {u : q_W} (H : BC q m t g K Z u) (V : BV m t K Z) (x y : Int32) (hp : ptB x y = true) : fX0_goForth x y u = some (b01 (fwl t K Z m 0 x y).1, atC u (fwl t K Z m 0 x y).2.1 (fwl t K Z m 0 x y).2.2) := by
  have hm := V.1
  unfold fX0_goForth fX0_goForth_l12
  rw [q_lt_eq, q_lt_eq]
  exact forthC_lok H V m 0 q_N x y (by omega) (Nat.lt_of_le_of_lt hm (Nat.le_of_ble_eq_true rfl)) hp
/-- the colour at a point -/
noncomputable def colS (m t : Nat) (K : Nat → Nat) (Z : Nat → Nat → Int32) (x y : Int32) : Int32 := if ptB x y then (if (org t K Z m x y).1 < 2 then -1 else Z ((org t K Z m x y).1 - 2) 3) else -1
/-- where the walk back ends -/
noncomputable def endS (m t : Nat) (K : Nat → Nat) (Z : Nat → Nat → Int32) (x y : Int32) : Int32 × Int32 := if ptB x y then (org t K Z m x y).2 else (x, y)
theorem org_lt (t : Nat) (K : Nat → Nat) (Z : Nat → Nat → Int32) : ∀ i x y, (org t K Z i x y).1 < i + 2 ∧ (1 < (org t K Z i x y).1 → K ((org t K Z i x y).1 - 2) = 0) := by
  intro i
  induction i with
  | zero => intro x y; exact ⟨by show 0 < 2; decide, by intro h; exact absurd h (by show ¬ 1 < 0; decide)⟩
  | succ i ih =>
    intro x y
    unfold org
    cases h : bkw t (K i) (Z i) x y with
    | none =>
      refine ⟨by show i + 2 < i + 1 + 2; omega, fun _ => ?_⟩
      show K (i + 2 - 2) = 0
      rw [Nat.add_sub_cancel]
      unfold bkw at h
      by_cases h0 : K i = 0
      · exact h0
      · rw [if_neg h0] at h
        by_cases hz : Z i 0 = 0
        · rw [if_pos hz] at h; cases h
        · rw [if_neg hz] at h; cases h
    | some p =>
      show (if ptB p.1 p.2 then org t K Z i p.1 p.2 else (1, p.1, p.2)).1 < _ ∧ (1 < (if ptB p.1 p.2 then org t K Z i p.1 p.2 else (1, p.1, p.2)).1 → K ((if ptB p.1 p.2 then org t K Z i p.1 p.2 else (1, p.1, p.2)).1 - 2) = 0)
      cases hp : ptB p.1 p.2 with
      | true =>
        rw [if_pos rfl]
        have := ih p.1 p.2
        exact ⟨by omega, this.2⟩
      | false =>
        rw [if_neg (by decide)]
        exact ⟨by show 1 < i + 1 + 2; omega, fun h => absurd h (by show ¬ 1 < 1; decide)⟩
theorem colC {q m t : Nat} {g K : Nat → Nat} {Z : Nat → Nat → Int32} {u : q_W} (H : BC q m t g K Z u) (V : BV m t K Z) (x y : Int32) : fX0_colourOf x y u = some (colS m t K Z x y, atC u (endS m t K Z x y).1 (endS m t K Z x y).2) := by
  unfold fX0_colourOf colS endS
  rw [backC H V]
  cases hp : ptB x y with
  | false =>
    rw [if_neg (by decide), if_neg (by decide), if_neg (by decide), q_b_some, if_pos (by decide)]
  | true =>
    have ho := org_lt t K Z m x y
    rw [if_pos rfl, if_pos rfl, if_pos rfl, q_b_some]
    unfold cvC
    by_cases h2 : (org t K Z m x y).1 < 2
    · rw [if_pos h2]
      by_cases h0 : (org t K Z m x y).1 = 0
      · rw [if_pos h0, if_pos (by decide)]
      · rw [if_neg h0, if_pos (show (org t K Z m x y).1 = 1 by omega), if_pos (by decide)]
    · have hm := V.1
      have hg : g ((org t K Z m x y).1 - 2) < 2 ^ 31 := (by obtain ⟨_, _, _, _, L, hL, _, h5⟩ := H; have := (h5 ((org t K Z m x y).1 - 2) (by omega)).1; omega)
      have H' := BC_at H (org t K Z m x y).2.1 (org t K Z m x y).2.2
      have hk := ho.2 (by omega)
      have n3 := num1 H' (i := (org t K Z m x y).1 - 2) (j := 3) (by omega) (by omega) (by rw [hk]; decide)
      rw [if_neg h2, if_neg (show ¬ (org t K Z m x y).1 = 0 by omega), if_neg (show ¬ (org t K Z m x y).1 = 1 by omega), if_neg (nI_pos hg), H'.2.1, if_pos (BC_c H)]
      rw [show (3 : Int32) = nI 3 from rfl, n3, q_b_some]
