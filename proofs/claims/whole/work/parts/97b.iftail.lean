/-! the end of an if, both sides -/
theorem set_mid2 {a b : List Int32} {x y z : Int32} : (a ++ ([x, y] ++ b)).set (a.length + 1) z = a ++ ([x, z] ++ b) := by
  rw [List.set_append_right _ _ (by omega), show a.length + 1 - a.length = 1 by omega]
  rfl
theorem set_mid3 {a b : List Int32} {w x y z : Int32} : (a ++ ([w, x, y] ++ b)).set (a.length + 2) z = a ++ ([w, x, z] ++ b) := by
  rw [List.set_append_right _ _ (by omega), show a.length + 2 - a.length = 2 by omega]
  rfl
theorem setT_mid {a b : List Tr} {t : Tr} {x : Int32} : setT a.length x (a ++ (t :: b)) = a ++ ((t.1, x, t.2.2) :: b) := by
  have : a ++ (t :: b) = (a ++ [t]) ++ b := by rw [List.append_assoc]; rfl
  rw [this, setT_left (by rw [List.length_append]; show a.length < a.length + 1; omega), setT_last, List.append_assoc]
  rfl
theorem CHN_lt {s : Nat} {cs : List Tr} : ∀ (c : List Nat), CHN s cs c → ∀ i, i ∈ c → i < cs.length := by
  intro c
  induction c with
  | nil => intro _ i hi; cases hi
  | cons j c ih =>
    intro h i hi
    rcases List.mem_cons.mp hi with e | e
    · rw [e]; exact h.1
    · exact ih h.2.2 i e
theorem ends_if2 {s t b : Nat} {L : Nat × Int32} {cs : List Tr} {c : List Nat} {v : q_W} (hR : PR s t L cs [] 0 v) (hl : cs.length < 1900) (hb8 : b < 8) (hb : v.1 0 30 = nI (b + 1)) (h16 : v.1 16 b = 2 ∨ v.1 16 b = 3) (h17 : v.1 17 b = hdC s c) (hc : CHN s cs c) (hlc : c.length ≤ cs.length) : ∃ v', fX11_ends v = some ((), v') ∧ PR s t L (landT (nI (2000 * s + cs.length)) c cs) [] 0 v' ∧ v'.1 0 30 = nI b ∧ frD s v v' ∧ (∀ q, q ≠ 0 → q ≠ 12 → q ≠ 13 → q ≠ 14 → q ≠ 20 → v'.1 q = v.1 q) := by
  obtain ⟨v1, e1, a1, b1⟩ := lands_ok (c := c) (PR_set hR 30 (nI b) (by omega)) (by omega) (by omega) hc
  have n0 : ¬ v.1 16 b = 0 := by rcases h16 with h | h <;> rw [h] <;> decide
  have n1 : ¬ v.1 16 b = 1 := by rcases h16 with h | h <;> rw [h] <;> decide
  unfold fX11_ends
  rw [hb, nI_s1, q_lt_eq, sI_same, q_lt_eq, if_pos (q_inb_nI hb8 (by omega)), q_lt_eq, q_lt_eq, if_pos (q_inb_nI hb8 (by omega)), q_lt_eq, q_ix_nI (by omega), sI_cell _ _ _ _ 16 (by decide), sI_cell _ _ _ _ 17 (by decide), if_neg n0, if_neg n1, h17, e1, q_b_some]
  exact ⟨v1, rfl, a1, by rw [b1.2.1 30 (by omega) (by omega) (by omega), sI_same], frD_t (frD_0 s v 30 _ (by omega)) (frD_C (frC_1 b1)), fun q x0 x1 x2 x3 x4 => by rw [b1.1 q x0 x1 x2 x3 x4, sI_cell _ _ _ _ _ x0]⟩
/-- the class's last step of an if against the reference's loop -/
theorem if_tail {P T s t d mm j r N : Nat} {L1 L2 : Nat × Int32} {ws : List Int32} {cs : List Tr} {nl : List (List Nat)} {sl : Nat → Nat} {pl : List (List Nat)} {pm : Nat → Nat} {c : List Nat} {u v : q_W} (hX : CX P T s t (d + 1) mm L1 L2 ws cs nl sl pl pm u v) (hd : d ≤ 5) (h3 : v.1 3 t = nI r) (hr : rOK r) (hD : ¬ isD r) (n29 : r = 29 → v.1 16 (d + 1) ≠ 2) (h16 : v.1 16 (d + 1) = 2 ∨ v.1 16 (d + 1) = 3) (h17 : v.1 17 (d + 1) = hdC s c) (hc : CHN s cs c) (hlc : c.length ≤ cs.length) (hj : j < ws.length) (rB : Int32 → q_W → Option (Unit × q_W)) : (t < T ∧ r = 21 ∧ ∃ u' v', fX5_readIf_n83 rB (nI j) u = some ((), u') ∧ LQ (N + 2) v = LQ (N + 1) v' ∧ PC P (t + 1) L1 (ws.set j (nI ws.length)) u' ∧ PR s (t + 1) L2 (landT (nI (2000 * s + cs.length)) c cs) [] 0 v' ∧ v'.1 0 30 = nI (d + 1) ∧ frP1 P u u' ∧ frD s v v' ∧ (∀ q, q ≠ 0 → q ≠ 12 → q ≠ 13 → q ≠ 14 → q ≠ 20 → v'.1 q = v.1 q)) ∨ XB P s u v (fX5_readIf_n83 rB (nI j) u) (LQ (N + 2) v) := by
  obtain ⟨x1, x2, x3, x4, x5, x6, x7, x8, x9, x10, x11, x12, x13, x14, x15⟩ := hX
  have hT := x1.1.1
  have hP := x3.1
  unfold fX5_readIf_n83
  obtain ⟨r', q1, q2, q3, q4, q5, q6, q7⟩ := tkn x1 x7
  clear q5 q6
  have e : r' = r := by
    by_cases e : r' = r
    · exact e
    · rw [h3] at q2
      unfold rOK at q1 hr
      exact absurd q2 (nI_ne (by omega) (by omega) (fun c => e c.symm))
  subst e
  by_cases c21 : r' = 21
  · subst c21
    rw [LQ_S x4 x5 (by omega), td_end x4 (by omega) h3]
    by_cases h5 : t = 500
    · subst h5
      obtain ⟨u1, e1, a1, b1⟩ := take_room x3 (k := km 21) q3
      have e1 : fX5_take 4 u = some ((), u1) := e1
      obtain ⟨u2, e2, a2, b2⟩ := aim_F a1 (nI j)
      obtain ⟨v1, f1, a3, b3, z1, z2, z3⟩ := next_room0 x4 (by omega)
      have c16 : v1.1 16 (d + 1) = v.1 16 (d + 1) := by rw [z2 16 (by decide)]
      have c17 : v1.1 17 (d + 1) = v.1 17 (d + 1) := by rw [z2 17 (by decide)]
      obtain ⟨v2, m, f2, a4, b4⟩ := ends_F a3 z1 (by rw [z3 30 (by decide) (by decide), x5]) (by omega) (Or.inr (Or.inr ⟨by rw [c16]; exact h16, c, by rw [c17]; exact h17, CHW_eq (z2 14 (by decide)) c (CHW_of x4.1 x4.2.2.2.2.2.1 (by omega) c hc), by omega⟩))
      rw [e1, q_b_some, a1.2.1, if_pos (isP_c hP), e2, q_b_some, f1, q_b_some, f2, q_b_some, q_b_some, LQ_F a4]
      rw [← q4] at a2
      exact Or.inr ⟨2, _, u2, v2, m, rfl, a2, frE_1 (frP1_t b1 b2), rfl, a4, frH_t (frH_1 b3) b4⟩
    · obtain ⟨u1, e1, a1, b1⟩ := take_st x3 (by omega) (k := km 21) q3
      have e1 : fX5_take 4 u = some ((), u1) := e1
      obtain ⟨u2, e2, a2, b2⟩ := aim_st a1 (by omega) (some j) (fun i hi => by cases hi; exact hj)
      have e2 : fX4_aimHere P (nI j) u1 = some ((), u2) := e2
      obtain ⟨v1, f1, a3, b3⟩ := next_st x4 (by omega)
      obtain ⟨v2, f2, a4, z1, b4, z2⟩ := ends_if2 a3 (by omega) (show d + 1 < 8 by omega) (by rw [b3.2.1 30 (by omega) (by omega) (by omega), x5]) (by rw [b3.1 16 (by decide) (by decide) (by decide) (by decide) (by decide)]; exact h16) (by rw [b3.1 17 (by decide) (by decide) (by decide) (by decide) (by decide)]; exact h17) hc hlc
      rw [e1, q_b_some, a1.2.1, if_pos (isP_c hP), e2, q_b_some, f1, q_b_some, f2, q_b_some, q_b_some]
      exact Or.inl ⟨q7 (by decide) (by decide) (by omega), rfl, u2, v2, rfl, rfl, a2, a4, z1, frP1_t b1 b2, frD_t (frD_C (frC_1 b3)) b4, fun q x0 x1 x2 x3 x4 => by rw [z2 q x0 x1 x2 x3 x4, b3.1 q x0 x1 x2 x3 x4]⟩
  · obtain ⟨v1, f1, a3, b3⟩ := LQ_no (N := N) x4 (by omega) h3 q1 hD c21 x5 (by omega) n29 (by omega)
    obtain ⟨u1, e1, a1, b1⟩ := take_no x3 (k := 4) (by rw [q3]; exact km_ne (b := 21) q1 (Or.inr (Or.inl (by omega))) c21)
    obtain ⟨u2, e2, a2, b2⟩ := aim_F a1 (nI j)
    rw [e1, q_b_some, a1.2.1, if_pos (isP_c hP), e2, q_b_some, f1]
    rw [← q4] at a2
    exact Or.inr ⟨1, _, u2, v1, 40, rfl, a2, frE_1 (frP1_t b1 b2), rfl, a3, frH_1 b3⟩
