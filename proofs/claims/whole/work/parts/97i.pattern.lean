/-! a pattern: what both keep, tokens alone -/
def ET (T : Nat) (u v : q_W) : Prop := toks T u v ∧ True
theorem tknT {T t : Nat} {u v : q_W} (E : ET T u v) (ht : t ≤ T) : ∃ r, rOK r ∧ v.1 3 t = nI r ∧ u.1 26 t = km r ∧ v.1 4 t = u.1 27 t ∧ (r = 1 → ∃ l, okL l ∧ u.2.2 28 t = lN (q2 l) ∧ v.2.2 6 t = lN (r2 l)) ∧ (r = 2 → ∃ y, y < 10000 ∧ u.2.2 28 t = lN y ∧ v.1 5 t = nI y) ∧ (r ≠ 0 → r ≠ 3 → t < 500 → t < T) := by
  obtain ⟨h1, h2, h3, h4⟩ := E.1
  obtain ⟨r, a, b, c, d, e, f⟩ := h2 t ht
  refine ⟨r, a, b, c, d, e, f, fun n0 n3 h5 => ?_⟩
  rcases Nat.lt_or_ge t T with c1 | c1
  · exact c1
  · have : t = T := by omega
    subst this
    rcases h4 with c2 | c2 | c2
    · omega
    · rw [b] at c2
      exact absurd c2 (nI_ne (b := 0) (by clear d e; omega) (by decide) n0)
    · rw [b] at c2
      exact absurd c2 (nI_ne (b := 3) (by clear d e; omega) (by decide) n3)
theorem tok_bothT {P T s t r op : Nat} {L1 L2 : Nat × Int32} {ws : List Int32} {cs : List Tr} {u v : q_W} (E : ET T u v) (hC : PC P t L1 ws u) (hR : PR s t L2 cs [] op v) (ht : t ≤ T) (hc : cs.length ≤ 1400) (hr : rOK r) (h0 : r ≠ 0) (h3 : r ≠ 3) : (t < T ∧ v.1 3 t = nI r ∧ ∃ u' v', fX5_take (km r) u = some ((), u') ∧ fX11_must (nI r) v = some ((), v') ∧ PC P (t + 1) L1 ws u' ∧ PR s (t + 1) L2 cs [] op v' ∧ frP1 P u u' ∧ frR1 s v v') ∨ XF P s u v (fX5_take (km r) u) (fX11_must (nI r) v) := by
  have hT := E.1.1
  obtain ⟨r', q1, q2, q3, q4, q5, q6, q7⟩ := tknT E ht
  clear q5 q6
  by_cases hrr : r' = r
  · subst hrr
    by_cases h5 : t = 500
    · subst h5
      obtain ⟨u1, e1, a1, b1⟩ := take_room hC (k := km r') q3
      obtain ⟨v1, e2, a2, b2⟩ := must_room hR (k := nI r') q2 40 (by show 0 ≤ 40; omega) (by omega) (by omega)
      exact Or.inr ⟨2, _, u1, v1, 40, e1, a1, b1, e2, by rw [← q4]; exact a2, b2⟩
    · obtain ⟨u1, e1, a1, b1⟩ := take_st hC (by omega) (k := km r') q3
      obtain ⟨v1, e2, a2, b2⟩ := must_st hR (by omega) (k := nI r') q2
      exact Or.inl ⟨q7 h0 h3 (by omega), q2, u1, v1, e1, e2, a1, a2, b1, b2⟩
  · obtain ⟨u1, e1, a1, b1⟩ := take_no hC (k := km r) (by rw [q3]; exact km_ne q1 hr hrr)
    obtain ⟨v1, e2, a2, b2⟩ := must_no hR (by omega) (k := nI r) (by rw [q2]; unfold rOK at q1 hr; exact nI_ne (by omega) (by omega) hrr) 40 (by show 0 ≤ 40; omega) (by omega) (by omega)
    exact Or.inr ⟨1, _, u1, v1, 40, e1, a1, b1, e2, by rw [← q4]; exact a2, b2⟩
theorem step_bothT {P T s t r op : Nat} {L1 L2 : Nat × Int32} {ws : List Int32} {cs : List Tr} {u v : q_W} (E : ET T u v) (hC : PC P t L1 ws u) (hR : PR s t L2 cs [] op v) (ht : t ≤ T) (hc : cs.length ≤ 1400) (h3 : v.1 3 t = nI r) (hr : rOK r) (n0 : r ≠ 0) (n3 : r ≠ 3) : (t < T ∧ ∃ u' v', fX5_take (km r) u = some ((), u') ∧ fX11_next v = some ((), v') ∧ PC P (t + 1) L1 ws u' ∧ PR s (t + 1) L2 cs [] op v' ∧ frP1 P u u' ∧ frR1 s v v') ∨ XF P s u v (fX5_take (km r) u) (fX11_next v) := by
  have hT := E.1.1
  obtain ⟨r', q1, q2, q3, q4, q5, q6, q7⟩ := tknT E ht
  clear q5 q6
  have e : r' = r := by
    by_cases e : r' = r
    · exact e
    · rw [h3] at q2
      unfold rOK at q1 hr
      exact absurd q2 (nI_ne (by omega) (by omega) (fun c => e c.symm))
  subst e
  by_cases h5 : t = 500
  · subst h5
    obtain ⟨u1, e1, a1, b1⟩ := take_room hC (k := km r') q3
    obtain ⟨v1, e2, a2, b2⟩ := next_room hR 40 (by show 0 ≤ 40; omega) (by omega) (by omega)
    exact Or.inr ⟨2, _, u1, v1, 40, e1, a1, b1, e2, by rw [← q4]; exact a2, b2⟩
  · obtain ⟨u1, e1, a1, b1⟩ := take_st hC (by omega) (k := km r') q3
    obtain ⟨v1, e2, a2, b2⟩ := next_st hR (by omega)
    exact Or.inl ⟨q7 n0 n3 (by omega), u1, v1, e1, e2, a1, a2, b1, b2⟩
def frPT (s : Nat) (v v' : q_W) : Prop := (∀ q, q ≠ 0 → q ≠ 8 → q ≠ 10 → q ≠ 11 → q ≠ 12 → q ≠ 13 → q ≠ 14 → q ≠ 16 → q ≠ 17 → q ≠ 18 → q ≠ 19 → q ≠ 20 → v'.1 q = v.1 q) ∧ (∀ k, ¬ (11 ≤ k ∧ k ≤ 16) → k ≠ 24 → k ≠ 28 → k ≠ 30 → k ≠ 35 → k ≠ 36 → k ≠ 38 → v'.1 0 k = v.1 0 k) ∧ (∀ i, ¬ (2000 * s ≤ i ∧ i < 2000 * s + 2000) → v'.1 12 i = v.1 12 i ∧ v'.1 13 i = v.1 13 i ∧ v'.1 14 i = v.1 14 i) ∧ (∀ i, i ≠ s → v'.1 8 i = v.1 8 i) ∧ (∀ i, ¬ (8 * s ≤ i ∧ i < 8 * s + 8) → v'.1 10 i = v.1 10 i ∧ v'.1 11 i = v.1 11 i ∧ v'.2.2 9 i = v.2.2 9 i) ∧ v'.2.1 = v.2.1 ∧ ∀ q, q ≠ 9 → q ≠ 15 → v'.2.2 q = v.2.2 q
theorem frPT_t {s : Nat} {a b c : q_W} (h : frPT s a b) (h' : frPT s b c) : frPT s a c := ⟨fun q x1 x2 x3 x4 x5 x6 x7 x8 x9 y1 y2 y3 => (h'.1 q x1 x2 x3 x4 x5 x6 x7 x8 x9 y1 y2 y3).trans (h.1 q x1 x2 x3 x4 x5 x6 x7 x8 x9 y1 y2 y3), fun k x1 x2 x3 x4 x5 x6 x7 => (h'.2.1 k x1 x2 x3 x4 x5 x6 x7).trans (h.2.1 k x1 x2 x3 x4 x5 x6 x7), fun i hi => ⟨(h'.2.2.1 i hi).1.trans (h.2.2.1 i hi).1, (h'.2.2.1 i hi).2.1.trans (h.2.2.1 i hi).2.1, (h'.2.2.1 i hi).2.2.trans (h.2.2.1 i hi).2.2⟩, fun i hi => (h'.2.2.2.1 i hi).trans (h.2.2.2.1 i hi), fun i hi => ⟨(h'.2.2.2.2.1 i hi).1.trans (h.2.2.2.2.1 i hi).1, (h'.2.2.2.2.1 i hi).2.1.trans (h.2.2.2.2.1 i hi).2.1, (h'.2.2.2.2.1 i hi).2.2.trans (h.2.2.2.2.1 i hi).2.2⟩, h'.2.2.2.2.2.1.trans h.2.2.2.2.2.1, fun q x y => (h'.2.2.2.2.2.2 q x y).trans (h.2.2.2.2.2.2 q x y)⟩
theorem frPT_H {s : Nat} {a b : q_W} (h : frH s a b) : frPT s a b := ⟨fun q x1 x2 x3 x4 x5 x6 x7 x8 x9 y1 y2 y3 => h.1 q x1 x5 x6 x7 x8 x9 y1 y2 y3, h.2.1, h.2.2.1, fun i _ => by rw [h.1 8 (by decide) (by decide) (by decide) (by decide) (by decide) (by decide) (by decide) (by decide) (by decide)], fun i _ => ⟨by rw [h.1 10 (by decide) (by decide) (by decide) (by decide) (by decide) (by decide) (by decide) (by decide) (by decide)], by rw [h.1 11 (by decide) (by decide) (by decide) (by decide) (by decide) (by decide) (by decide) (by decide) (by decide)], by rw [h.2.2.2.2 9 (by decide)]⟩, h.2.2.2.1, fun q _ y => h.2.2.2.2 q y⟩
theorem frPT_r (s : Nat) (v : q_W) : frPT s v v := frPT_H (frH_r s v)
theorem frPT_1 {s : Nat} {a b : q_W} (h : frR1 s a b) : frPT s a b := frPT_H (frH_1 h)
theorem frF_E {P : Nat} {a b : q_W} (h : frE P a b) : frF1 P a b := ⟨fun q x y z _ _ => h.1 q x y z, h.2.2.2.1, fun q _ y => h.2.2.2.2 q y⟩
/-- a fault in a pattern -/
def XQ (P s : Nat) (u v : q_W) (cu rv : Option (Unit × q_W)) : Prop := ∃ f p u' v' m, cu = some ((), u') ∧ FC P f p u' ∧ frF1 P u u' ∧ rv = some ((), v') ∧ FR s f p m v' ∧ frPT s v v'
theorem XQ_t {P s : Nat} {u v u1 v1 : q_W} {cu rv : Option (Unit × q_W)} (b1 : frF1 P u u1) (b2 : frPT s v v1) (h : XQ P s u1 v1 cu rv) : XQ P s u v cu rv := by
  obtain ⟨f, p, u', v', m, a, b, c, d, e, g⟩ := h
  exact ⟨f, p, u', v', m, a, b, frF1_t b1 c, d, e, frPT_t b2 g⟩
-- the class in a fault
theorem open_F {P f : Nat} {p : Int32} {u : q_W} (h : FC P f p u) (x : Int32) : ∃ u', fX4_open P x u = some ((), u') ∧ FC P f p u' ∧ frF1 P u u' := by
  have hP := h.1
  unfold fX4_open
  rw [if_pos (isP_c hP)]
  by_cases c1 : u.1 P 4 < 0
  · rw [if_pos c1]; exact ⟨u, rfl, h, frF1_r P u⟩
  · rw [if_neg c1]
    by_cases c2 : 8 ≤ u.1 P 4
    · rw [if_pos c2]; exact ⟨u, rfl, h, frF1_r P u⟩
    · obtain ⟨m, hm, em⟩ := nI_of c1
      rw [em, show (8 : Int32) = nI 8 from rfl, nI_leI (by omega) hm] at c2
      have n1 : P ≠ fC P 1 := by rcases hP with e | e <;> subst e <;> decide
      rw [if_neg (show ¬ (8 : Int32) ≤ u.1 P 4 by rw [em, show (8 : Int32) = nI 8 from rfl, nI_leI (by omega) hm]; exact c2), q_lt_eq, em, if_pos (q_inb_nI (by omega) (by omega)), q_lt_eq, q_lt_eq, sI_cell _ _ _ _ P n1, em, if_pos (q_inb_nI (by omega) (by omega)), q_lt_eq]
      obtain ⟨_, h2, h3, h4, h5, h6, h7⟩ := h
      rw [isP_1 hP, isP_2 hP]
      have a1 : (23 : Nat) ≠ P + 2 := by rcases hP with e | e <;> omega
      have a2 : (23 : Nat) ≠ P + 3 := by rcases hP with e | e <;> omega
      refine ⟨_, rfl, ⟨hP, h2, ?_, h4, h5, ?_, ?_⟩, ⟨fun q x1 x2 x3 x4 x5 => ?_, rfl, fun _ _ _ => rfl⟩⟩
      · rw [sI_cell _ _ _ _ 23 a2, sI_cell _ _ _ _ 23 a1, h3]
      · rw [sI_cell _ _ _ _ 23 a2, sI_cell _ _ _ _ 23 a1, h6]
      · rw [sI_cell _ _ _ _ 23 a2, sI_cell _ _ _ _ 23 a1, h7]
      · rw [sI_cell _ _ _ _ _ x5, sI_cell _ _ _ _ _ x4]
theorem close_F {P f : Nat} {p : Int32} {u : q_W} (h : FC P f p u) : ∃ u', fX4_close P u = some ((), u') ∧ FC P f p u' ∧ frF1 P u u' := by
  have hP := h.1
  have hne := isP_ne hP
  unfold fX4_close
  rw [if_pos (isP_c hP)]
  by_cases c2 : 8 ≤ u.1 P 4
  · rw [if_pos c2]; exact ⟨u, rfl, h, frF1_r P u⟩
  · rw [if_neg c2, q_lt_eq]
    obtain ⟨_, h2, h3, h4, h5, h6, h7⟩ := h
    refine ⟨_, rfl, ⟨hP, h2, ?_, h4, h5, ?_, ?_⟩, ⟨fun q x1 x2 x3 x4 x5 => sI_cell _ _ _ _ _ x2, rfl, fun _ _ _ => rfl⟩⟩
    · rw [sI_cell _ _ _ _ 23 (fun e => hne.1 e.symm), h3]
    · rw [sI_cell _ _ _ _ 23 (fun e => hne.1 e.symm), h6]
    · rw [sI_cell _ _ _ _ 23 (fun e => hne.1 e.symm), h7]
theorem n92_F {P f : Nat} {p : Int32} {u : q_W} (h : FC P f p u) : ∃ u', fX5_readPattern_n92 u = some ((), u') ∧ FC P f p u' ∧ frF1 P u u' := by
  have hP := h.1
  obtain ⟨u1, e1, a1, b1⟩ := open_F h (u.1 23 3)
  obtain ⟨u2, e2, a2, b2⟩ := take_F a1 4
  obtain ⟨u3, e3, a3, b3⟩ := add_F a2 0
  obtain ⟨u4, e4, a4, b4⟩ := close_F a3
  unfold fX5_readPattern_n92
  rw [h.2.1, if_pos (isP_c hP), e1, q_b_some, show q_deedsT 0 u1 = some ((), u1) from deeds_F a1 7 0, q_b_some, e2, q_b_some, a2.2.1, if_pos (isP_c hP), e3, q_b_some, a3.2.1, if_pos (isP_c hP), e4, q_b_some]
  exact ⟨u4, rfl, a4, frF1_t b1 (frF1_t (frF1_1 (frP1_t b2 b3)) b4)⟩
theorem n86_F {P f : Nat} {p : Int32} {u : q_W} (h : FC P f p u) : ∃ u', fX5_readPattern_n86 u = some ((), u') ∧ FC P f p u' ∧ frF1 P u u' := by
  obtain ⟨u1, e1, a1, b1⟩ := take_F h 41
  obtain ⟨u2, e2, a2, b2⟩ := n92_F a1
  unfold fX5_readPattern_n86
  rw [e1, q_b_some, e2]
  exact ⟨u2, rfl, a2, frF1_t (frF1_1 b1) b2⟩
theorem readReach_F {P f : Nat} {p : Int32} {u : q_W} (h : FC P f p u) : ∃ u', fX5_readReach u = some ((), u') ∧ FC P f p u' ∧ frE P u u' := by
  obtain ⟨r, e0⟩ := says_any (u.1 23 4) u
  obtain ⟨u1, e1, a1, b1⟩ := noteIf_F h r
  obtain ⟨u2, e2, a2, b2⟩ := take_F a1 1
  obtain ⟨u3, e3, a3, b3⟩ := bring_F a2 r
  unfold fX5_readReach
  rw [e0, q_b_some, e1, q_b_some, e2, q_b_some, e3, q_b_some]
  exact ⟨u3, rfl, a3, frE_t (frE_1 (frP1_t b1 b2)) b3⟩
-- the reference in a fault
theorem par_F {s f m : Nat} {p : Int32} {v : q_W} (h : FR s f p m v) : fX11_tellParameter v = some ((), v) := by
  unfold fX11_tellParameter
  rw [q_lt_eq, must_F h, q_b_some, h.2.2.2.1, if_neg (nI_ne0 (by have := h.2.1; omega) (by have := h.2.2.1; omega))]
theorem n177p_F {s f m n : Nat} {p : Int32} {v : q_W} (h : FR s f p m v) (hn : n < 8) : ∃ v', fX11_tellPattern_n177 (nI (8 * s + n)) v = some ((), v') ∧ FR s f p m v' ∧ frPT s v v' := by
  have hs := h.1
  have h1 : FR s f p m (q_sI (q_sI (q_sI v 10 (8 * s + n) (v.1 0 28)) 0 30 1) 16 0 0) := FR_13 (FR_0 (FR_13 h 10 _ _ (by decide)) 30 _ (by omega)) 16 _ _ (by decide)
  have hL : fX11_tellPattern_l199 (q_sI (q_sI (q_sI v 10 (8 * s + n) (v.1 0 28)) 0 30 1) 16 0 0) = some ((), (q_sI (q_sI (q_sI v 10 (8 * s + n) (v.1 0 28)) 0 30 1) 16 0 0)) := LQ_F (N := 3999999999) h1
  unfold fX11_tellPattern_n177
  rw [if_pos (q_inb_nI (by omega) (by omega)), q_lt_eq, q_lt_eq, if_pos (show q_inb 0 8 from q_inb_nI (n := 0) (by omega) (by omega)), q_lt_eq, q_ix_nI (by omega)]
  refine ⟨_, hL, h1, frPT_t ?_ (frPT_H (frH_t (frH_0 s _ 30 _ (by omega)) (frH_q s _ 16 _ _ (by omega))))⟩
  exact ⟨fun q _ _ h10 _ _ _ _ _ _ _ _ _ => sI_cell _ _ _ _ _ h10, fun k _ _ _ _ _ _ _ => by rw [sI_cell _ _ _ _ 0 (by decide)], fun i _ => ⟨by rw [sI_cell _ _ _ _ 12 (by decide)], by rw [sI_cell _ _ _ _ 13 (by decide)], by rw [sI_cell _ _ _ _ 14 (by decide)]⟩, fun i _ => by rw [sI_cell _ _ _ _ 8 (by decide)], fun i hi => ⟨sI_k _ _ _ _ _ (by omega), by rw [sI_cell _ _ _ _ 11 (by decide)], rfl⟩, rfl, fun _ _ _ => rfl⟩
theorem n171_F {s f m n : Nat} {p : Int32} {v : q_W} (h : FR s f p m v) (hn : n < 8) : ∃ v', fX11_tellPattern_n171 (nI (8 * s + n)) v = some ((), v') ∧ FR s f p m v' ∧ frPT s v v' := by
  obtain ⟨v1, e1, a1, b1⟩ := n177p_F h hn
  unfold fX11_tellPattern_n171
  rw [must_F h, q_b_some, e1]
  exact ⟨v1, rfl, a1, b1⟩
/-- a parameter: both -/
theorem par_both {P T s t : Nat} {nl : List (List Nat)} {L1 L2 : Nat × Int32} {ws : List Int32} {cs : List Tr} {u v : q_W} (E : EN T s nl u v) (hn : nl.length < 8) (hC : PC P t L1 ws u) (hR : PR s t L2 cs [] 0 v) (hL : L2.1 ≤ 5) (ht : t ≤ T) (hc : cs.length ≤ 1400) : (∃ l p u' v', okL l ∧ fX5_readReach u = some ((), u') ∧ fX11_tellParameter v = some ((), v') ∧ PC P (t + 1) (adI (idF nl l nl.length 0) p L1) ws u' ∧ PR s (t + 1) (adI (idF nl l nl.length 0) p L2) cs [] 0 v' ∧ EN T s (nl ++ [l]) u' v' ∧ frE P u u' ∧ frH s v v' ∧ t < T) ∨ XB P s u v (fX5_readReach u) (fX11_tellParameter v) := by
  have hT := E.1.1
  have hP := hC.1
  have hne := isP_ne hP
  unfold fX5_readReach fX11_tellParameter
  rw [says_st hC (by omega), q_b_some, q_lt_eq]
  have e0 : (q_b (fX5_noteIfReached (u.2.2 28 t) u) fun _ w4 => q_b (fX5_take 1 w4) fun _ w6 => q_b (fX5_bringInReach (u.2.2 28 t) w6) fun _ w8 => some ((), w8)) = q_b (q_b (fX5_noteIfReached (u.2.2 28 t) u) fun _ w => fX5_take 1 w) fun _ w6 => q_b (fX5_bringInReach (u.2.2 28 t) w6) fun _ w8 => some ((), w8) := (q_b_as _ _ _).symm
  rw [e0]
  rcases name_bothN E hC hR ht hc with ⟨l, u1, v1, hl, y1, y2, y4, g1, g2, a1, a2, b1, b2, hlt⟩ | ⟨f, p, u1, v1, m, g1, g2, g3, g4, g5, g6⟩
  · have E1 := EN_fr hP E b1 b2
    obtain ⟨v2, r1, r2', r3, r4, r5, r6, r7, r8⟩ := reaches_okN E1 a2 hL hn hl (tk := t) (by omega) (by rw [b2.2.2.2]; exact y2)
    rw [(frR4 b2).2.1, y4] at r2'
    obtain ⟨u2, k1, k2, k3, k4, k5, k6, k7, k8, k9⟩ := bring_ok a1 E1.2.2.2.1 hn (u.2.2 28 t)
    rw [g1, q_b_some, k1, q_b_some, g2, q_b_some, a2.2.2.1, if_pos rfl, hR.2.1, r1, q_b_some]
    have fE : frE P u u2 := frE_t (frE_1 b1) ⟨fun q h _ _ => k8 q h, fun k hk => k9 k (by omega), fun k _ => by rw [k8 P hne.1], k7, k6⟩
    have fH : frH s v v2 := frH_t (frH_1 b2) r8
    have hlen : (nl ++ [l]).length = nl.length + 1 := by rw [List.length_append]; rfl
    refine Or.inl ⟨l, u.1 27 t, u2, v2, hl, rfl, rfl, k2, r2', ⟨toks_H hP E.1 fE fH, E.2.1, by rw [hlen]; omega, by rw [hlen, k3], by rw [hlen, r3], fun i hi => ?_, trivial⟩, fE, fH, hlt⟩
    rw [hlen] at hi
    rw [gN_snoc]
    by_cases ei : i = nl.length
    · rw [if_pos ei, ei, k4, r4]
      exact ⟨hl, y1, rfl⟩
    · rw [if_neg ei, k5 i ei, r5 i ei, b1.2.2.2, b2.2.2.2]
      exact E.2.2.2.2.2.1 i (by omega)
  · obtain ⟨u2, w1, w2, w3⟩ := bring_F g2 (u.2.2 28 t)
    rw [g1, q_b_some, w1, q_b_some, g4, q_b_some, g5.2.2.2.1, if_neg (nI_ne0 (by have := g5.2.1; omega) (by have := g5.2.2.1; omega))]
    exact Or.inr ⟨f, p, u2, v1, m, rfl, w2, frE_t (frE_1 g3) w3, rfl, g5, frH_1 g6⟩

