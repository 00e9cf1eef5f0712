/-! the end of a for, both sides -/
theorem for_tail {P T s t d mm i j n sv r N : Nat} {L1 L2 : Nat × Int32} {ws : List Int32} {cs : List Tr} {nl : List (List Nat)} {sl : Nat → Nat} {pl : List (List Nat)} {pm : Nat → Nat} {u v : q_W} (hX : CX P T s t (d + 1) mm L1 L2 ws cs nl sl pl pm u v) (hd : d ≤ 5) (h3 : v.1 3 t = nI r) (hr : rOK r) (hD : ¬ isD r) (h16 : v.1 16 (d + 1) = 1) (h17 : v.1 17 (d + 1) = nI (2000 * s + i)) (hi : i < cs.length) (h18 : v.1 18 (d + 1) = nI sv) (h28 : v.1 0 28 = nI (n + 1)) (hj : j < ws.length) (r26 : Int32) : (t < T ∧ r = 21 ∧ ∃ u' v', forE (nI n) r26 (nI j) u = some ((), u') ∧ LQ (N + 2) v = LQ (N + 1) v' ∧ PC P (t + 1) L1 ((ws ++ [20, nI n, r26]).set j (nI (ws.length + 3))) u' ∧ PR s (t + 1) L2 (setB i (nI (2000 * s + (cs.length + 1))) (cs ++ [(12, nI sv, nI (2000 * s + (i + 1)))])) [] 0 v' ∧ v'.1 0 30 = nI (d + 1) ∧ v'.1 0 28 = nI n ∧ u'.1 23 3 = nI n ∧ frE P u u' ∧ u'.2.2 = u.2.2 ∧ frH s v v' ∧ v'.2 = v.2 ∧ (∀ q, q ≠ 0 → q ≠ 12 → q ≠ 13 → q ≠ 14 → q ≠ 20 → v'.1 q = v.1 q)) ∨ XB P s u v (forE (nI n) r26 (nI j) u) (LQ (N + 2) v) := by
  obtain ⟨x1, x2, x3, x4, x5, x6, x7, x8, x9, x10, x11, x12, x13, x14, x15⟩ := hX
  have hT := x1.1.1
  have hP := x3.1
  have hs2 := x4.1
  obtain ⟨r', q1, q2, q3, q4, q5, q6, q7⟩ := tkn x1 x7
  clear q5 q6
  have e : r' = r := by
    by_cases e : r' = r
    · exact e
    · rw [h3] at q2
      unfold rOK at q1 hr
      exact absurd q2 (nI_ne (by omega) (by omega) (fun c => e c.symm))
  subst e
  by_cases c21 : r' = 21
  · subst c21
    rw [LQ_S x4 x5 (by omega), td_end x4 (by omega) h3]
    by_cases h5 : t = 500
    · subst h5
      obtain ⟨u1, e1, a1, b1⟩ := take_room x3 (k := km 21) q3
      have e1 : fX5_take 4 u = some ((), u1) := e1
      obtain ⟨u2, e2, a2, b2⟩ := add3_F a1 20 (nI n) r26
      obtain ⟨u3, e3, a3, b3⟩ := aim_F a2 (nI j)
      obtain ⟨v1, f1, a4, b4, z1, z2, z3⟩ := next_room0 x4 (by omega)
      obtain ⟨v2, m, f2, a5, b5⟩ := ends_F a4 z1 (by rw [z3 30 (by decide) (by decide), x5]) (by omega) (Or.inr (Or.inl ⟨by rw [z2 16 (by decide)]; exact h16, i, by omega, by rw [z2 17 (by decide)]; exact h17⟩))
      unfold forE
      rw [e1, q_b_some, a1.2.1, if_pos (isP_c hP), e2, q_b_some, a2.2.1, if_pos (isP_c hP), e3, q_b_some, q_lt_eq, f1, q_b_some, f2, q_b_some, q_b_some, LQ_F a5]
      rw [← q4] at a3
      exact Or.inr ⟨2, _, _, v2, m, rfl, set3_F a3 _, frE_t (frE_1 (frP1_t b1 (frP1_t b2 b3))) (frE_23 P u3 _ hP), rfl, a5, frH_t (frH_1 b4) b5⟩
    · obtain ⟨u1, e1, a1, b1⟩ := take_st x3 (by omega) (k := km 21) q3
      have e1 : fX5_take 4 u = some ((), u1) := e1
      obtain ⟨u2, e2, a2, b2⟩ := add3_st a1 (by omega) 20 (nI n) r26
      have hl : (ws ++ [20, nI n, r26]).length = ws.length + 3 := by rw [List.length_append]; rfl
      obtain ⟨u3, e3, a3, b3⟩ := aim_st a2 (by rw [hl]; omega) (some j) (fun k hk => by cases hk; rw [hl]; omega)
      have e3 : fX4_aimHere P (nI j) u2 = some ((), u3) := e3
      have a3 : PC P (t + 1) L1 ((ws ++ [20, nI n, r26]).set j (nI (ws ++ [20, nI n, r26]).length)) u3 := a3
      rw [hl] at a3
      obtain ⟨v1, f1, a4, b4⟩ := next_st x4 (by omega)
      have g : ∀ q, q ≠ 0 → q ≠ 12 → q ≠ 13 → q ≠ 14 → q ≠ 20 → v1.1 q = v.1 q := b4.1
      obtain ⟨v2, f2, a5, z1, z2, z3, z4, b5⟩ := ends_1 (i := i) (n := n) (sv := sv) a4 (by omega) (show d + 1 < 8 by omega) (by rw [b4.2.1 30 (by omega) (by omega) (by omega), x5]) (by rw [g 16 (by decide) (by decide) (by decide) (by decide) (by decide)]; exact h16) (by rw [g 17 (by decide) (by decide) (by decide) (by decide) (by decide)]; exact h17) hi (by rw [g 18 (by decide) (by decide) (by decide) (by decide) (by decide)]; exact h18) (by rw [b4.2.1 28 (by omega) (by omega) (by omega), h28])
      unfold forE
      rw [e1, q_b_some, a1.2.1, if_pos (isP_c hP), e2, q_b_some, a2.2.1, if_pos (isP_c hP), e3, q_b_some, q_lt_eq, f1, q_b_some, f2, q_b_some, q_b_some]
      exact Or.inl ⟨q7 (by decide) (by decide) (by omega), rfl, _, v2, rfl, rfl, PC_3 a3 _, a5, z1, z2, sI_same _ _ _ _, frE_t (frE_1 (frP1_t b1 (frP1_t b2 b3))) (frE_23 P u3 _ hP), by show u3.2.2 = _; rw [(frP1_t b1 (frP1_t b2 b3)).2.2.2], frH_t (frH_1 b4) b5, by rw [z4, b4.2.2.2], fun q x0 x1 x2 x3 x4 => by rw [z3 q x0 x1 x2 x3 x4, g q x0 x1 x2 x3 x4]⟩
  · obtain ⟨v1, f1, a3, b3⟩ := LQ_no (N := N) x4 (by omega) h3 q1 hD c21 x5 (by omega) (fun _ => by rw [h16]; decide) (by omega)
    obtain ⟨u1, e1, a1, b1⟩ := take_no x3 (k := 4) (by rw [q3]; exact km_ne (b := 21) q1 (Or.inr (Or.inl (by omega))) c21)
    obtain ⟨u2, e2, a2, b2⟩ := add3_F a1 20 (nI n) r26
    obtain ⟨u3, e3, a4, b4⟩ := aim_F a2 (nI j)
    unfold forE
    rw [e1, q_b_some, a1.2.1, if_pos (isP_c hP), e2, q_b_some, a2.2.1, if_pos (isP_c hP), e3, q_b_some, q_lt_eq, f1]
    rw [← q4] at a4
    exact Or.inr ⟨1, _, _, v1, 40, rfl, set3_F a4 _, frE_t (frE_1 (frP1_t b1 (frP1_t b2 b4))) (frE_23 P u3 _ hP), rfl, a3, frH_1 b3⟩
theorem says_st {P t : Nat} {L : Nat × Int32} {ws : List Int32} {u : q_W} (h : PC P t L ws u) (ht : t ≤ 500) : fX7_saysAt (u.1 23 4) u = some (u.2.2 28 t, u) := by
  rw [h.2.2.1]
  unfold fX7_saysAt
  rw [if_neg (nI_pos (by omega)), if_neg (by rw [show (501 : Int32) = nI 501 from rfl, nI_leI (by omega) (by omega)]; omega), if_pos (q_inb_nI (by omega) (by omega)), q_ix_nI (by omega)]
/-- the name of a for (or of a parameter): both take it -/
def NMK (P T s t : Nat) (L1 L2 : Nat × Int32) (ws : List Int32) (cs : List Tr) (nl : List (List Nat)) (u v : q_W) (cu rv : Option (Unit × q_W)) : Prop :=
  ∃ l u' v', okL l ∧ u.2.2 28 t = lN (q2 l) ∧ v.2.2 6 t = lN (r2 l) ∧ v.1 4 t = u.1 27 t ∧ cu = some ((), u') ∧ rv = some ((), v') ∧ PC P (t + 1) (adI (idF nl l nl.length 0) (u.1 27 t) L1) ws u' ∧ PR s (t + 1) L2 cs [] 0 v' ∧ frP1 P u u' ∧ frR1 s v v' ∧ t < T
theorem name_both {P T s t : Nat} {nl : List (List Nat)} {sl : Nat → Nat} {L1 L2 : Nat × Int32} {ws : List Int32} {cs : List Tr} {u v : q_W} (E : EC T s nl sl u v) (hC : PC P t L1 ws u) (hR : PR s t L2 cs [] 0 v) (ht : t ≤ T) (hc : cs.length ≤ 1400) : NMK P T s t L1 L2 ws cs nl u v (q_b (fX5_noteIfReached (u.2.2 28 t) u) fun _ w => fX5_take 1 w) (fX11_must 1 v) ∨ XF P s u v (q_b (fX5_noteIfReached (u.2.2 28 t) u) fun _ w => fX5_take 1 w) (fX11_must 1 v) := by
  have hT := E.1.1
  obtain ⟨r, q1, q2, q3, q4, q5, q6, q7⟩ := tkn E ht
  clear q6
  by_cases c1 : r = 1
  · subst c1
    obtain ⟨l, hl, y1, y2⟩ := q5 rfl
    clear q5
    obtain ⟨u1, e1, a1, b1⟩ := noteIf_ok E hC hl
    rw [y1, e1, q_b_some]
    rcases tok_both (EC_fr hC.1 E b1 (frR1_r s v)) a1 hR ht hc (r := 1) (Or.inl (by omega)) (by decide) (by decide) with ⟨hlt, _, u2, v2, e2, e3, a2, a3, b2, b3⟩ | ⟨f, p, u2, v2, m, e2, a2, b2, e3, a3, b3⟩
    · exact Or.inl ⟨l, u2, v2, hl, y1, y2, q4, e2, e3, a2, a3, frP1_t b1 b2, b3, hlt⟩
    · exact Or.inr ⟨f, p, u2, v2, m, e2, a2, frP1_t b1 b2, e3, a3, b3⟩
  · clear q5
    obtain ⟨u1, L', e1, a1, b1⟩ := noteIf_any hC (u.2.2 28 t)
    rw [e1, q_b_some]
    rcases tok_both (EC_fr hC.1 E b1 (frR1_r s v)) a1 hR ht hc (r := 1) (Or.inl (by omega)) (by decide) (by decide) with ⟨hlt, h3, _⟩ | ⟨f, p, u2, v2, m, e2, a2, b2, e3, a3, b3⟩
    · rw [q2] at h3
      unfold rOK at q1
      exact absurd h3 (nI_ne (by omega) (by omega) c1)
    · exact Or.inr ⟨f, p, u2, v2, m, e2, a2, frP1_t b1 b2, e3, a3, b3⟩
