/-! the reference's waiting signs -/
theorem next_F {s f m : Nat} {p : Int32} {v : q_W} (h : FR s f p m v) : ∃ v', fX11_next v = some ((), v') ∧ FR s f p m v' ∧ frR1 s v v' := by
  have h0 := h
  obtain ⟨h1, h2, h3, h4, h5, h6, h7, t, ht, e⟩ := h
  unfold fX11_next
  rw [e]
  by_cases c : t = 500
  · rw [if_pos (by rw [c]; rfl), failR_F h0, q_b_some]
    exact ⟨v, rfl, h0, frR1_r s v⟩
  · rw [if_neg (show ¬ nI t = 500 from nI_ne (b := 500) (by omega) (by omega) c), q_lt_eq, nI_1]
    refine ⟨_, rfl, ⟨h1, h2, h3, ?_, ?_, ?_, ?_, t + 1, by omega, sI_same _ _ _ _⟩, frR1_0 s v 11 _ (by omega)⟩
    · rw [sI_k _ _ _ _ _ (by decide), h4]
    · rw [sI_k _ _ _ _ _ (by decide), h5]
    · rw [sI_k _ _ _ _ _ (by decide)]; exact h6
    · rw [sI_k _ _ _ _ _ (by decide)]; exact h7
/-- in a fault a sign may come out: there is room -/
theorem pop_F {s f m : Nat} {p : Int32} {v : q_W} (h : FR s f p m v) (hn : ∃ n, v.1 0 38 = nI (n + 1) ∧ n < 2 ^ 31 - 1) (k : Int32) (w : q_W) (hw : w = q_sI v 0 38 (v.1 0 38 - 1) ∨ ∃ x, w = q_sI (q_sI v 0 38 (v.1 0 38 - 1)) 0 12 x) : ∃ v' m', fX11_emit k 0 0 w = some ((), v') ∧ FR s f p m' v' ∧ frR1 s v v' ∧ m' + 1 = m := by
  obtain ⟨h1, h2, h3, h4, h5, ⟨c, hc, ec⟩, ⟨n, hnm, hm, en⟩, t, ht, et⟩ := h
  obtain ⟨n', en', hn'⟩ := hn
  have e1 : n = n' + 1 := by rw [en, nI_eq (by omega) (by omega)] at en'; exact en'
  subst e1
  have fw : frR1 s v w ∧ w.1 0 24 = nI (2000 * s + c) ∧ w.1 0 13 = nI f ∧ w.1 0 14 = p ∧ w.1 0 38 = nI n' ∧ w.1 0 11 = nI t := by
    rcases hw with rfl | ⟨x, rfl⟩
    · refine ⟨frR1_0 s v 38 _ (by omega), ?_, ?_, ?_, ?_, ?_⟩
      · rw [sI_k _ _ _ _ _ (by decide), ec]
      · rw [sI_k _ _ _ _ _ (by decide), h4]
      · rw [sI_k _ _ _ _ _ (by decide), h5]
      · rw [sI_same, en, nI_pred]
      · rw [sI_k _ _ _ _ _ (by decide), et]
    · refine ⟨frR1_t (frR1_0 s v 38 _ (by omega)) (frR1_0 s _ 12 _ (by omega)), ?_, ?_, ?_, ?_, ?_⟩
      · rw [sI_k _ _ _ _ _ (by decide), sI_k _ _ _ _ _ (by decide), ec]
      · rw [sI_k _ _ _ _ _ (by decide), sI_k _ _ _ _ _ (by decide), h4]
      · rw [sI_k _ _ _ _ _ (by decide), sI_k _ _ _ _ _ (by decide), h5]
      · rw [sI_k _ _ _ _ _ (by decide), sI_same, en, nI_pred]
      · rw [sI_k _ _ _ _ _ (by decide), sI_k _ _ _ _ _ (by decide), et]
  obtain ⟨f1, f2, f3, f4, f5, f6⟩ := fw
  -- any list of that length will do
  have hcd : CD s ((List.range c).map (fun i => ((w.1 12 (2000 * s + i), w.1 13 (2000 * s + i), w.1 14 (2000 * s + i)) : Tr))) w := by
    refine ⟨by rw [f2, List.length_map, List.length_range], fun i hi => ?_⟩
    rw [List.length_map, List.length_range] at hi
    rw [List.getD_eq_getElem?_getD, List.getElem?_map, List.getElem?_range hi]
    exact ⟨rfl, rfl, rfl⟩
  obtain ⟨v', e, a, b, d, g⟩ := emit_cd h1 hcd (by rw [List.length_map, List.length_range]; omega) (k, 0, 0)
  refine ⟨v', m - 1, e, ⟨h1, h2, h3, ?_, ?_, ⟨c + 1, by omega, ?_⟩, ⟨n', by omega, by omega, ?_⟩, t, ht, ?_⟩, frR1_t f1 b, by omega⟩
  · rw [d 13 (by decide), f3]
  · rw [d 14 (by decide), f4]
  · rw [a.1, List.length_append, List.length_map, List.length_range]; rfl
  · rw [d 38 (by decide), f5]
  · rw [d 11 (by decide), f6]
theorem come_F {s f : Nat} {p : Int32} (x : Int32) : ∀ m N (v : q_W), m < N → FR s f p m v → ∃ v' m', q_it N fX11_comesOut_h0 (fun _ _ => none) x v = some ((), v') ∧ FR s f p m' v' ∧ frR1 s v v' := by
  intro m
  induction m with
  | zero =>
    intro N v hN h
    obtain ⟨N, rfl⟩ : ∃ M, N = M + 1 := ⟨N - 1, by omega⟩
    obtain ⟨n, hn, _, en⟩ := h.2.2.2.2.2.2.1
    rw [q_itS, fX11_comesOut_h0, en, if_pos (by rw [show n = 0 by omega]; decide)]
    exact ⟨v, 0, rfl, h, frR1_r s v⟩
  | succ m ih =>
    intro N v hN h
    obtain ⟨N, rfl⟩ : ∃ M, N = M + 1 := ⟨N - 1, by omega⟩
    obtain ⟨n, hn, hm, en⟩ := h.2.2.2.2.2.2.1
    rw [q_itS, fX11_comesOut_h0, en]
    cases n with
    | zero =>
      rw [if_pos (by decide)]
      exact ⟨v, _, rfl, h, frR1_r s v⟩
    | succ n =>
      rw [if_neg (nI_nle (by omega) (by omega)), nI_pred, q_lt_eq, if_pos (q_inb_nI (by omega) (by omega)), q_lt_eq, q_ix_nI (by omega)]
      have pop : ∀ k : Int32, ∃ v' m', fX11_comesOut_n110 (q_it N fX11_comesOut_h0 (fun _ _ => none)) x k (q_sI v 0 38 (v.1 0 38 - 1)) = some ((), v') ∧ FR s f p m' v' ∧ frR1 s v v' := by
        intro k
        obtain ⟨v1, m1, e1, a1, b1, c1⟩ := pop_F h ⟨n, en, by omega⟩ k _ (Or.inl rfl)
        unfold fX11_comesOut_n110
        rw [e1, q_b_some]
        have : m1 = m := by omega
        subst this
        obtain ⟨v', m', e, a, b⟩ := ih N v1 (by omega) a1
        exact ⟨v', m', e, a, frR1_t b1 b⟩
      have n57 : ∃ v' m', fX11_comesOut_n57 (q_it N fX11_comesOut_h0 (fun _ _ => none)) x (v.1 20 n) v = some ((), v') ∧ FR s f p m' v' ∧ frR1 s v v' := by
        unfold fX11_comesOut_n57
        rw [q_lt_eq]
        by_cases c1 : v.1 20 n = 8
        · rw [if_pos c1]; exact pop 2
        · rw [if_neg c1]
          by_cases c2 : v.1 20 n = 9
          · rw [if_pos c2]; exact pop 3
          · rw [if_neg c2]
            by_cases c3 : v.1 20 n = 10
            · rw [if_pos c3]; exact pop 4
            · rw [if_neg c3]
              by_cases c4 : v.1 20 n = 15
              · rw [if_pos c4]; exact pop 5
              · rw [if_neg c4]; exact pop 6
      have n36 : ∀ z : Int32, ∃ v' m', fX11_comesOut_n36 (q_it N fX11_comesOut_h0 (fun _ _ => none)) x (v.1 20 n) z v = some ((), v') ∧ FR s f p m' v' ∧ frR1 s v v' := by
        intro z
        unfold fX11_comesOut_n36
        by_cases c1 : v.1 20 n = 6
        · rw [if_pos c1]; exact ⟨v, _, rfl, h, frR1_r s v⟩
        · rw [if_neg c1]
          by_cases c2 : v.1 20 n = 1
          · rw [if_pos c2]; exact ⟨v, _, rfl, h, frR1_r s v⟩
          · rw [if_neg c2]
            by_cases c3 : z = 0
            · rw [if_pos c3]; exact n57
            · rw [if_neg c3]
              by_cases c4 : x = 0
              · rw [if_pos c4]; exact n57
              · rw [if_neg c4]; exact ⟨v, _, rfl, h, frR1_r s v⟩
      unfold fX11_comesOut_n31
      by_cases c1 : v.1 20 n = 8
      · rw [if_pos c1]; exact n36 1
      · rw [if_neg c1]
        by_cases c2 : v.1 20 n = 9
        · rw [if_pos c2]; exact n36 1
        · rw [if_neg c2]; exact n36 0
theorem comeF {s f m : Nat} {p : Int32} {v : q_W} (h : FR s f p m v) (x : Int32) : ∃ v' m', fX11_comesOut x v = some ((), v') ∧ FR s f p m' v' ∧ frR1 s v v' := by
  obtain ⟨n, hn, hm, en⟩ := h.2.2.2.2.2.2.1
  exact come_F x m q_N v (Nat.lt_of_le_of_lt hm (Nat.le_of_ble_eq_true rfl)) h
theorem turn_F {s f : Nat} {p : Int32} : ∀ m N (v : q_W), m < N → FR s f p m v → ∃ v' m', q_it N fX11_turnsRound_h0 (fun _ => none) v = some ((), v') ∧ FR s f p m' v' ∧ frR1 s v v' := by
  intro m
  induction m with
  | zero =>
    intro N v hN h
    obtain ⟨N, rfl⟩ : ∃ M, N = M + 1 := ⟨N - 1, by omega⟩
    obtain ⟨n, hn, _, en⟩ := h.2.2.2.2.2.2.1
    rw [q_itS, fX11_turnsRound_h0, en, if_pos (by rw [show n = 0 by omega]; decide)]
    exact ⟨v, 0, rfl, h, frR1_r s v⟩
  | succ m ih =>
    intro N v hN h
    obtain ⟨N, rfl⟩ : ∃ M, N = M + 1 := ⟨N - 1, by omega⟩
    obtain ⟨n, hn, hm, en⟩ := h.2.2.2.2.2.2.1
    rw [q_itS, fX11_turnsRound_h0, en]
    cases n with
    | zero =>
      rw [if_pos (by decide)]
      exact ⟨v, _, rfl, h, frR1_r s v⟩
    | succ n =>
      rw [if_neg (nI_nle (by omega) (by omega)), nI_pred, q_lt_eq, if_pos (q_inb_nI (by omega) (by omega)), q_ix_nI (by omega)]
      by_cases c1 : v.1 20 n = 1
      · rw [if_pos c1, q_lt_eq, q_lt_eq]
        obtain ⟨v1, m1, e1, a1, b1, c1'⟩ := pop_F h ⟨n, en, by omega⟩ 7 _ (Or.inr ⟨(q_sI v 0 38 (v.1 0 38 - 1)).1 0 12 - 1, rfl⟩)
        rw [en, nI_pred] at e1
        rw [e1, q_b_some]
        have : m1 = m := by omega
        subst this
        obtain ⟨v', m', e, a, b⟩ := ih N v1 (by omega) a1
        exact ⟨v', m', e, a, frR1_t b1 b⟩
      · rw [if_neg c1]
        exact ⟨v, _, rfl, h, frR1_r s v⟩
theorem turnF {s f m : Nat} {p : Int32} {v : q_W} (h : FR s f p m v) : ∃ v' m', fX11_turnsRound v = some ((), v') ∧ FR s f p m' v' ∧ frR1 s v v' := by
  obtain ⟨n, hn, hm, en⟩ := h.2.2.2.2.2.2.1
  exact turn_F m q_N v (Nat.lt_of_le_of_lt hm (Nat.le_of_ble_eq_true rfl)) h
/-- the reference's two loops -/
def R9 (N : Nat) : Int32 → Int32 → Int32 → q_W → Option (Unit × q_W) := q_it N fX11_expression_h9 (fun _ _ _ _ => none)
def X20 (N M : Nat) (b o : Int32) (v : q_W) : Option (Unit × q_W) := q_it M (fX11_expression_h20 (R9 N)) (fun _ _ _ => none) b o v
def Z31 (N M : Nat) (b o : Int32) (v : q_W) : Option (Unit × q_W) := q_it M (fX11_expression_h131 (R9 N)) (fun _ _ _ => none) b o v
def Y31 (N M : Nat) (b o : Int32) (v : q_W) : Option (Unit × q_W) := q_b (fX11_turnsRound v) fun _ w => Z31 N M b o w
theorem n247_F {s f m : Nat} {p : Int32} {v : q_W} (h : FR s f p m v) (b : Int32) : ∃ v' m', fX11_expression_n247 b v = some ((), v') ∧ FR s f p m' v' ∧ frR1 s v v' := by
  obtain ⟨v', m', e, a, d⟩ := comeF h 0
  unfold fX11_expression_n247
  rw [e, q_b_some, a.2.2.2.1, if_neg (nI_ne0 (by have := a.2.1; omega) (by have := a.2.2.1; omega))]
  exact ⟨v', m', rfl, a, d⟩
theorem Z31_F {s f m N M : Nat} {p : Int32} {v : q_W} (h : FR s f p m v) (b o : Int32) : ∃ v' m', Z31 N (M + 1) b o v = some ((), v') ∧ FR s f p m' v' ∧ frR1 s v v' := by
  obtain ⟨v', m', e, a, d⟩ := n247_F h b
  unfold Z31
  rw [q_itS, fX11_expression_h131, is_F h, q_b_some, if_pos rfl]
  unfold fX11_expression_n183
  rw [is_F h, q_b_some, if_pos rfl, is_F h, q_b_some, if_pos rfl, is_F h, q_b_some, if_pos rfl, is_F h, q_b_some, if_pos rfl, is_F h, q_b_some, if_pos rfl]
  unfold fX11_expression_n233
  rw [if_pos rfl]
  refine ⟨v', m', ?_, a, d⟩
  by_cases c : o ≤ 0
  · rw [if_pos c, e]
  · rw [if_neg c, failR_F h, q_b_some, e]
/-- a sign's item -/
def opIt (k : Nat) : It := if k = 8 then ([5], 2, 0, 0) else if k = 9 then ([6], 3, 0, 0) else if k = 10 then ([7], 4, 0, 0) else if k = 15 then ([8], 5, 0, 0) else ([9], 6, 0, 0)
def isOp (k : Nat) : Prop := k = 8 ∨ k = 9 ∨ k = 10 ∨ k = 15 ∨ k = 16
def stOp (k : Nat) : Prop := k = 10 ∨ k = 15 ∨ k = 16
theorem opIt_gI (nr : Nat) (sl : Nat → Nat) {k : Nat} (h : isOp k) : gI nr sl (opIt k) := by
  rcases h with rfl | rfl | rfl | rfl | rfl
  · exact Or.inr (Or.inr (Or.inr ⟨2, by omega, by omega, rfl⟩))
  · exact Or.inr (Or.inr (Or.inr ⟨3, by omega, by omega, rfl⟩))
  · exact Or.inr (Or.inr (Or.inr ⟨4, by omega, by omega, rfl⟩))
  · exact Or.inr (Or.inr (Or.inr ⟨5, by omega, by omega, rfl⟩))
  · exact Or.inr (Or.inr (Or.inr ⟨6, by omega, by omega, rfl⟩))
theorem opIt_len (k : Nat) : (opIt k).1.length = 1 := by
  unfold opIt
  repeat (first | rfl | split)
theorem wt_pop {W : List Nat} {k : Nat} {v : q_W} (h : WT (W ++ [k]) v) : v.1 0 38 = nI (W.length + 1) ∧ W.length < 40 ∧ v.1 20 W.length = nI k := by
  obtain ⟨h1, h2, h3⟩ := h
  have hl : (W ++ [k]).length = W.length + 1 := by rw [List.length_append]; rfl
  rw [hl] at h1 h2 h3
  refine ⟨h1, by omega, ?_⟩
  rw [h3 W.length (by omega), snoc_eq]
/-- one sign comes out -/
theorem come_pop {s t op : Nat} {L : Nat × Int32} {cs : List Tr} {W : List Nat} {k : Nat} {v : q_W} (h : PR s t L cs (W ++ [k]) op v) (hc : cs.length < 2000) (hk : isOp k) (x : Int32) (hx : stOp k ∨ x = 0) (N : Nat) : ∃ v', q_it (N + 1) fX11_comesOut_h0 (fun _ _ => none) x v = q_it N fX11_comesOut_h0 (fun _ _ => none) x v' ∧ PR s t L (cs ++ [(opIt k).2]) W op v' ∧ frR1 s v v' := by
  obtain ⟨w1, w2, w3⟩ := wt_pop h.2.2.2.2.2.2.1
  have h1 : PR s t L cs W op (q_sI v 0 38 (v.1 0 38 - 1)) := by
    obtain ⟨a1, a2, a3, a4, a5, a6, a7, a8⟩ := h
    refine ⟨a1, by rw [sI_k _ _ _ _ _ (by decide), a2], by rw [sI_k _ _ _ _ _ (by decide), a3], by rw [sI_k _ _ _ _ _ (by decide), a4], fun g => by rw [sI_k _ _ _ _ _ (by decide), a5 g], ⟨by rw [sI_k _ _ _ _ _ (by decide), a6.1], fun i hi => by rw [sI_cell _ _ _ _ 12 (by decide), sI_cell _ _ _ _ 13 (by decide), sI_cell _ _ _ _ 14 (by decide)]; exact a6.2 i hi⟩, ⟨by rw [sI_same, w1, nI_pred], by omega, fun i hi => ?_⟩, by rw [sI_k _ _ _ _ _ (by decide), a8]⟩
    rw [sI_cell _ _ _ _ _ (by decide), a7.2.2 i (by rw [List.length_append]; show i < W.length + 1; omega), snoc_lt hi]
  obtain ⟨v', e, a, b⟩ := emit_st h1 hc (opIt k).2
  refine ⟨v', ?_, a, frR1_t (frR1_0 s v 38 _ (by omega)) b⟩
  have n57 : fX11_comesOut_n57 (q_it N fX11_comesOut_h0 (fun _ _ => none)) x (nI k) v = q_it N fX11_comesOut_h0 (fun _ _ => none) x v' := by
    unfold fX11_comesOut_n57 fX11_comesOut_n110
    rw [q_lt_eq]
    rcases hk with rfl | rfl | rfl | rfl | rfl
    · rw [if_pos (show nI 8 = 8 from rfl)]
      have e : fX11_emit 2 0 0 (q_sI v 0 38 (v.1 0 38 - 1)) = some ((), v') := e
      rw [e, q_b_some]
    · rw [if_neg (show ¬ nI 9 = 8 by decide), if_pos (show nI 9 = 9 from rfl)]
      have e : fX11_emit 3 0 0 (q_sI v 0 38 (v.1 0 38 - 1)) = some ((), v') := e
      rw [e, q_b_some]
    · rw [if_neg (show ¬ nI 10 = 8 by decide), if_neg (show ¬ nI 10 = 9 by decide), if_pos (show nI 10 = 10 from rfl)]
      have e : fX11_emit 4 0 0 (q_sI v 0 38 (v.1 0 38 - 1)) = some ((), v') := e
      rw [e, q_b_some]
    · rw [if_neg (show ¬ nI 15 = 8 by decide), if_neg (show ¬ nI 15 = 9 by decide), if_neg (show ¬ nI 15 = 10 by decide), if_pos (show nI 15 = 15 from rfl)]
      have e : fX11_emit 5 0 0 (q_sI v 0 38 (v.1 0 38 - 1)) = some ((), v') := e
      rw [e, q_b_some]
    · rw [if_neg (show ¬ nI 16 = 8 by decide), if_neg (show ¬ nI 16 = 9 by decide), if_neg (show ¬ nI 16 = 10 by decide), if_neg (show ¬ nI 16 = 15 by decide)]
      have e : fX11_emit 6 0 0 (q_sI v 0 38 (v.1 0 38 - 1)) = some ((), v') := e
      rw [e, q_b_some]
  have k6 : ¬ nI k = 6 := nI_ne (b := 6) (by rcases hk with rfl | rfl | rfl | rfl | rfl <;> decide) (by decide) (by rcases hk with rfl | rfl | rfl | rfl | rfl <;> decide)
  have k1 : ¬ nI k = 1 := nI_ne (b := 1) (by rcases hk with rfl | rfl | rfl | rfl | rfl <;> decide) (by decide) (by rcases hk with rfl | rfl | rfl | rfl | rfl <;> decide)
  rw [q_itS, fX11_comesOut_h0, w1, if_neg (nI_nle (by omega) (by omega)), nI_pred, q_lt_eq, if_pos (q_inb_nI (by omega) (by omega)), q_lt_eq, q_ix_nI (by omega), w3]
  unfold fX11_comesOut_n31 fX11_comesOut_n36
  rw [if_neg k6, if_neg k1, if_neg k6, if_neg k1, if_neg i_10, if_pos (show (0 : Int32) = 0 from rfl), n57]
  by_cases c8 : nI k = 8
  · have hx0 : x = 0 := by
      rcases hx with hx | hx
      · exfalso
        rcases hx with rfl | rfl | rfl <;> exact absurd c8 (by decide)
      · exact hx
    rw [if_pos c8, if_pos hx0]
  · rw [if_neg c8]
    by_cases c9 : nI k = 9
    · have hx0 : x = 0 := by
        rcases hx with hx | hx
        · exfalso
          rcases hx with rfl | rfl | rfl <;> exact absurd c9 (by decide)
        · exact hx
      rw [if_pos c9, if_pos hx0]
    · rw [if_neg c9]
/-- there it ends -/
def stops (W : List Nat) (x : Int32) : Prop := W = [] ∨ ∃ U k, W = U ++ [k] ∧ (k = 6 ∨ k = 1 ∨ (k = 8 ∨ k = 9) ∧ x = 1)
theorem come_end {s t op : Nat} {L : Nat × Int32} {cs : List Tr} {W : List Nat} {v : q_W} (h : PR s t L cs W op v) (x : Int32) (hs : stops W x) (N : Nat) : q_it (N + 1) fX11_comesOut_h0 (fun _ _ => none) x v = some ((), v) := by
  rcases hs with rfl | ⟨U, k, rfl, hk⟩
  · rw [q_itS, fX11_comesOut_h0, h.2.2.2.2.2.2.1.1, if_pos (show nI ([] : List Nat).length ≤ 0 by decide)]
  · obtain ⟨w1, w2, w3⟩ := wt_pop h.2.2.2.2.2.2.1
    rw [q_itS, fX11_comesOut_h0, w1, if_neg (nI_nle (by omega) (by omega)), nI_pred, q_lt_eq, if_pos (q_inb_nI (by omega) (by omega)), q_lt_eq, q_ix_nI (by omega), w3]
    unfold fX11_comesOut_n31 fX11_comesOut_n36
    rcases hk with rfl | rfl | ⟨rfl | rfl, rfl⟩
    · rw [if_neg (show ¬ nI 6 = 8 by decide), if_neg (show ¬ nI 6 = 9 by decide), if_pos (show nI 6 = 6 from rfl)]
    · rw [if_neg (show ¬ nI 1 = 8 by decide), if_neg (show ¬ nI 1 = 9 by decide), if_neg (show ¬ nI 1 = 6 by decide), if_pos (show nI 1 = 1 from rfl)]
    · rw [if_pos (show nI 8 = 8 from rfl), if_neg (show ¬ nI 8 = 6 by decide), if_neg (show ¬ nI 8 = 1 by decide), if_neg i_10, if_neg i_10]
    · rw [if_neg (show ¬ nI 9 = 8 by decide), if_pos (show nI 9 = 9 from rfl), if_neg (show ¬ nI 9 = 6 by decide), if_neg (show ¬ nI 9 = 1 by decide), if_neg i_10, if_neg i_10]
def opIts (pd : List Nat) : List It := pd.reverse.map opIt
theorem come_all {s t op : Nat} {L : Nat × Int32} {W : List Nat} (x : Int32) (hs : stops W x) : ∀ (n : Nat) (pd : List Nat) (cs : List Tr) (v : q_W) (N : Nat), pd.length = n → n < N → PR s t L cs (W ++ pd) op v → cs.length + pd.length < 2000 → (∀ k, k ∈ pd → isOp k ∧ (stOp k ∨ x = 0)) → ∃ v', q_it N fX11_comesOut_h0 (fun _ _ => none) x v = some ((), v') ∧ PR s t L (cs ++ trs (opIts pd)) W op v' ∧ frR1 s v v' := by
  intro n
  induction n with
  | zero =>
    intro pd cs v N hn hN h hc hp
    have : pd = [] := List.eq_nil_of_length_eq_zero hn
    subst this
    obtain ⟨N, rfl⟩ : ∃ M, N = M + 1 := ⟨N - 1, by omega⟩
    rw [List.append_nil] at h
    rw [come_end h x hs]
    refine ⟨v, rfl, ?_, frR1_r s v⟩
    have : cs ++ trs (opIts []) = cs := List.append_nil cs
    rw [this]; exact h
  | succ n ih =>
    intro pd cs v N hn hN h hc hp
    obtain ⟨N, rfl⟩ : ∃ M, N = M + 1 := ⟨N - 1, by omega⟩
    have hne : pd ≠ [] := by intro c; rw [c] at hn; exact absurd hn (by simp)
    obtain ⟨qd, k, rfl⟩ := dropLast_snoc hne
    have hlen : (qd ++ [k]).length = qd.length + 1 := by rw [List.length_append]; rfl
    rw [hlen] at hn hc
    rw [← List.append_assoc] at h
    obtain ⟨a1, a2⟩ := hp k (List.mem_append.mpr (Or.inr (List.mem_singleton.mpr rfl)))
    obtain ⟨v1, e1, h1, f1⟩ := come_pop h (by omega) a1 x a2 N
    obtain ⟨v', e, h2, f2⟩ := ih qd (cs ++ [(opIt k).2]) v1 N (by omega) (by omega) h1 (by rw [List.length_append]; show cs.length + 1 + qd.length < 2000; omega) (fun j hj => hp j (List.mem_append.mpr (Or.inl hj)))
    refine ⟨v', e1.trans e, ?_, frR1_t f1 f2⟩
    have : cs ++ [(opIt k).2] ++ trs (opIts qd) = cs ++ trs (opIts (qd ++ [k])) := by
      unfold opIts trs
      rw [List.reverse_append, List.append_assoc]
      rfl
    rw [← this]
    exact h2
theorem comeAll {s t op : Nat} {L : Nat × Int32} {W pd : List Nat} {cs : List Tr} {v : q_W} (x : Int32) (hs : stops W x) (h : PR s t L cs (W ++ pd) op v) (hc : cs.length + pd.length < 2000) (hp : ∀ k, k ∈ pd → isOp k ∧ (stOp k ∨ x = 0)) : ∃ v', fX11_comesOut x v = some ((), v') ∧ PR s t L (cs ++ trs (opIts pd)) W op v' ∧ frR1 s v v' :=
  come_all x hs pd.length pd cs v q_N rfl (Nat.lt_of_le_of_lt (show pd.length ≤ 40 by have := h.2.2.2.2.2.2.1.2.1; rw [List.length_append] at this; omega) (Nat.le_of_ble_eq_true rfl)) h hc hp
/-- a sign is put to wait -/
theorem push_wt {s t op op' : Nat} {L : Nat × Int32} {cs : List Tr} {W : List Nat} {v w : q_W} (h : PR s t L cs W op v) (hW : W.length < 40) (k : Nat) (hw : w = v ∨ w = q_sI v 0 12 (nI op')) (ho : w = v → op' = op) : PR s t L cs (W ++ [k]) op' (q_sI (q_sI w 20 W.length (nI k)) 0 38 (nI (W.length + 1))) ∧ frR1 s v (q_sI (q_sI w 20 W.length (nI k)) 0 38 (nI (W.length + 1))) := by
  have fw : frR1 s v w := by
    rcases hw with rfl | rfl
    · exact frR1_r s _
    · exact frR1_0 s v 12 _ (by omega)
  obtain ⟨a1, a2, a3, a4, a5, a6, a7, a8⟩ := h
  have g (j : Nat) (hj : j ≠ 12) : w.1 0 j = v.1 0 j := by
    rcases hw with rfl | rfl
    · rfl
    · exact sI_k _ _ _ _ _ hj
  have g12 : w.1 0 12 = nI op' := by
    rcases hw with rfl | rfl
    · rw [a8, ho rfl]
    · exact sI_same _ _ _ _
  have gc (q : Nat) (hq : q ≠ 0) : w.1 q = v.1 q := by
    rcases hw with rfl | rfl
    · rfl
    · exact sI_cell _ _ _ _ _ hq
  refine ⟨⟨a1, ?_, ?_, ?_, fun c => ?_, ⟨?_, fun i hi => ?_⟩, ⟨?_, ?_, fun i hi => ?_⟩, ?_⟩, frR1_t fw (frR1_t (frR1_20 s w _ _) (frR1_0 s _ 38 _ (by omega)))⟩
  · rw [sI_k _ _ _ _ _ (by decide), sI_cell _ _ _ _ _ (by decide), g 11 (by decide), a2]
  · rw [sI_k _ _ _ _ _ (by decide), sI_cell _ _ _ _ _ (by decide), g 13 (by decide), a3]
  · rw [sI_k _ _ _ _ _ (by decide), sI_cell _ _ _ _ _ (by decide), g 15 (by decide), a4]
  · rw [sI_k _ _ _ _ _ (by decide), sI_cell _ _ _ _ _ (by decide), g 16 (by decide), a5 c]
  · rw [sI_k _ _ _ _ _ (by decide), sI_cell _ _ _ _ _ (by decide), g 24 (by decide), a6.1]
  · rw [sI_cell _ _ _ _ 12 (by decide), sI_cell _ _ _ _ 13 (by decide), sI_cell _ _ _ _ 14 (by decide), sI_cell _ _ _ _ 12 (by decide), sI_cell _ _ _ _ 13 (by decide), sI_cell _ _ _ _ 14 (by decide), gc 12 (by decide), gc 13 (by decide), gc 14 (by decide)]
    exact a6.2 i hi
  · rw [sI_same, List.length_append]; rfl
  · rw [List.length_append]; show W.length + 1 ≤ 40; omega
  · rw [List.length_append, show [k].length = 1 from rfl] at hi
    rw [sI_cell _ _ _ _ 20 (by decide)]
    by_cases e : i = W.length
    · subst e; rw [sI_same, snoc_eq]
    · rw [sI_k _ _ _ _ _ e, snoc_lt (by omega), gc 20 (by decide), a7.2.2 i (by omega)]
  · rw [sI_k _ _ _ _ _ (by decide), sI_cell _ _ _ _ _ (by decide), g12]
