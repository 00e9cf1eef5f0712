/-! a stroke's deed is read alike -/
theorem expr_F {s f m : Nat} {p : Int32} {v : q_W} (h : FR s f p m v) : fX11_expression v = some ((), v) := by
  unfold fX11_expression fX11_expression_l9
  rw [q_lt_eq, q_itN, fX11_expression_h9, if_neg i_10, h.2.2.2.1, if_neg (nI_ne0 (by have := h.2.1; omega) (by have := h.2.2.1; omega))]
theorem qsum_F {P f : Nat} {p : Int32} {u : q_W} (h : FC P f p u) : ∃ u', q_sum 0 u = some ((), u') ∧ FC P f p u' ∧ frP1 P u u' := sum_F (n := 7) h 0
theorem add2_F {P f : Nat} {p : Int32} {u : q_W} (h : FC P f p u) (x y : Int32) : ∃ u', fX4_add_ P x y u = some ((), u') ∧ FC P f p u' ∧ frP1 P u u' := by
  obtain ⟨u1, e1, a1, b1⟩ := add_F h x
  obtain ⟨u2, e2, a2, b2⟩ := add_F a1 y
  unfold fX4_add_
  rw [if_pos (isP_c h.1), e1, q_b_some, e2, q_b_some]
  exact ⟨u2, rfl, a2, frP1_t b1 b2⟩
/-- a token that must come: both -/
theorem tok_both {P T s t r op : Nat} {nl : List (List Nat)} {sl : Nat → Nat} {L1 L2 : Nat × Int32} {ws : List Int32} {cs : List Tr} {u v : q_W} (E : EC T s nl sl u v) (hC : PC P t L1 ws u) (hR : PR s t L2 cs [] op v) (ht : t ≤ T) (hc : cs.length ≤ 1400) (hr : rOK r) (h0 : r ≠ 0) (h3 : r ≠ 3) : (t < T ∧ v.1 3 t = nI r ∧ ∃ u' v', fX5_take (km r) u = some ((), u') ∧ fX11_must (nI r) v = some ((), v') ∧ PC P (t + 1) L1 ws u' ∧ PR s (t + 1) L2 cs [] op v' ∧ frP1 P u u' ∧ frR1 s v v') ∨ XF P s u v (fX5_take (km r) u) (fX11_must (nI r) v) := by
  have hT := E.1.1
  obtain ⟨r', q1, q2, q3, q4, q5, q6, q7⟩ := tkn E ht
  clear q5 q6
  by_cases hrr : r' = r
  · subst hrr
    by_cases h5 : t = 500
    · subst h5
      obtain ⟨u1, e1, a1, b1⟩ := take_room hC (k := km r') q3
      obtain ⟨v1, e2, a2, b2⟩ := must_room hR (k := nI r') q2 40 (by show 0 ≤ 40; omega) (by omega) (by omega)
      exact Or.inr ⟨2, _, u1, v1, 40, e1, a1, b1, e2, by rw [← q4]; exact a2, b2⟩
    · obtain ⟨u1, e1, a1, b1⟩ := take_st hC (by omega) (k := km r') q3
      obtain ⟨v1, e2, a2, b2⟩ := must_st hR (by omega) (k := nI r') q2
      exact Or.inl ⟨q7 h0 h3 (by omega), q2, u1, v1, e1, e2, a1, a2, b1, b2⟩
  · obtain ⟨u1, e1, a1, b1⟩ := take_no hC (k := km r) (by rw [q3]; exact km_ne q1 hr hrr)
    obtain ⟨v1, e2, a2, b2⟩ := must_no hR (by omega) (k := nI r) (by rw [q2]; unfold rOK at q1 hr; exact nI_ne (by omega) (by omega) hrr) 40 (by show 0 ≤ 40; omega) (by omega) (by omega)
    exact Or.inr ⟨1, _, u1, v1, 40, e1, a1, b1, e2, by rw [← q4]; exact a2, b2⟩
/-- the arguments of a stroke -/
def DOK (P T s t : Nat) (L1 L2 : Nat × Int32) (ws : List Int32) (cs : List Tr) (nl : List (List Nat)) (sl : Nat → Nat) (u v : q_W) (kC : List Int32) (kR : List Tr) (ar : Nat) (cu rv : Option (Unit × q_W)) : Prop :=
  ∃ u' v' t' es ns, cu = some ((), u') ∧ rv = some ((), v') ∧ PC P t' (adN ns L1) (ws ++ wds es ++ kC) u' ∧ PR s t' (adN ns L2) (cs ++ trs es ++ kR) [] 0 v' ∧ frP1 P u u' ∧ frR1 s v v' ∧ t < t' ∧ t' ≤ T ∧ okNs ns ∧ (wds es).length + 2 ≤ 2 * (t' - t) ∧ es.length + 1 ≤ t' - t ∧ (ns = [] → ndp nl → ∀ x, x ∈ es → gI nl.length sl x) ∧ HX es ar
theorem args_F {P s f m : Nat} {p : Int32} {k c many ax : Nat} (hk : k ≤ 3) (hmany : nums k = c + many) : ∀ d N M j (u v : q_W), j + d = many → d < N → d < M → FC P f p u → FR s f p m v → ∃ u' , q_it N fX5_readStroke_h52 (fun _ _ _ _ => none) (nI k) (nI c) (nI (c + j)) u = some ((), u') ∧ q_it M fX11_tellStroke_h80 (fun _ _ _ _ _ => none) (nI k) (nI ax) (nI many) (nI j) v = some ((), v) ∧ FC P f p u' ∧ frP1 P u u' := by
  have hn6 := nums_le k (by omega)
  intro d
  induction d with
  | zero =>
    intro N M j u v hj hN hM hC hR
    obtain ⟨N, rfl⟩ : ∃ X, N = X + 1 := ⟨N - 1, by omega⟩
    obtain ⟨M, rfl⟩ : ∃ X, M = X + 1 := ⟨M - 1, by omega⟩
    obtain ⟨u1, e1, a1, b1⟩ := take_F hC 59
    obtain ⟨u2, e2, a2, b2⟩ := add2_F a1 21 (nI k)
    rw [q_itS, fX5_readStroke_h52, numbersOf_ok k (by omega), q_b_some, if_pos (by rw [nI_leI (by omega) (by omega)]; omega), e1, q_b_some, a1.2.1, if_pos (isP_c hC.1), e2, q_b_some]
    rw [q_itS, fX11_tellStroke_h80, if_pos (by rw [nI_leI (by omega) (by omega)]; omega), must_F hR, q_b_some, hR.2.2.2.1, if_neg (nI_ne0 (by have := hR.2.1; omega) (by have := hR.2.2.1; omega))]
    exact ⟨u2, rfl, rfl, a2, frP1_t b1 b2⟩
  | succ d ih =>
    intro N M j u v hj hN hM hC hR
    obtain ⟨N, rfl⟩ : ∃ X, N = X + 1 := ⟨N - 1, by omega⟩
    obtain ⟨M, rfl⟩ : ∃ X, M = X + 1 := ⟨M - 1, by omega⟩
    rw [q_itS, fX5_readStroke_h52, numbersOf_ok k (by omega), q_b_some, if_neg (by rw [nI_leI (by omega) (by omega)]; omega)]
    rw [q_itS, fX11_tellStroke_h80, if_neg (show ¬ nI many ≤ nI j by rw [nI_leI (by omega) (by omega)]; omega)]
    unfold fX5_readStroke_n71 fX11_tellStroke_n97
    rw [expr_F hR, q_b_some, q_lt_eq, nI_1, must_F hR, q_b_some, expr_F hR, q_b_some, q_lt_eq, nI_1]
    have hc : ∃ u1, (if nI (c + j) ≤ nI c then (q_b (q_sum 0 u) fun _ w2 => q_lt (nI (c + j + 1)) fun y3 => q_it N fX5_readStroke_h52 (fun _ _ _ _ => none) (nI k) (nI c) y3 w2) else (q_b (fX5_take 44 u) fun _ w9 => q_b (q_sum 0 w9) fun _ w2 => q_lt (nI (c + j + 1)) fun y3 => q_it N fX5_readStroke_h52 (fun _ _ _ _ => none) (nI k) (nI c) y3 w2)) = q_it N fX5_readStroke_h52 (fun _ _ _ _ => none) (nI k) (nI c) (nI (c + (j + 1))) u1 ∧ FC P f p u1 ∧ frP1 P u u1 := by
      by_cases h0 : nI (c + j) ≤ nI c
      · obtain ⟨u1, e1, a1, b1⟩ := qsum_F hC
        rw [if_pos h0, e1, q_b_some, q_lt_eq]
        exact ⟨u1, rfl, a1, b1⟩
      · obtain ⟨u1, e1, a1, b1⟩ := take_F hC 44
        obtain ⟨u2, e2, a2, b2⟩ := qsum_F a1
        rw [if_neg h0, e1, q_b_some, e2, q_b_some, q_lt_eq]
        exact ⟨u2, rfl, a2, frP1_t b1 b2⟩
    obtain ⟨u1, e1, a1, b1⟩ := hc
    obtain ⟨u2, e2, e3, a2, b2⟩ := ih N M (j + 1) u1 v (by omega) (by omega) (by omega) a1 hR
    refine ⟨u2, e1.trans e2, ?_, a2, frP1_t b1 b2⟩
    by_cases h0 : nI j ≤ 0
    · rw [if_pos h0]; exact e3
    · rw [if_neg h0]; exact e3
theorem args_ok {P T s k c many ax : Nat} {nl : List (List Nat)} {sl : Nat → Nat} (hk : k ≤ 3) (hmany : nums k = c + many) (hax : ax < 2) : ∀ d N M j t L1 L2 ws cs (u v : q_W), j + d = many → d < N → d < M → EC T s nl sl u v → PC P t L1 ws u → PR s t L2 cs [] 0 v → L2.1 ≤ 5 → t ≤ T → ws.length ≤ 3 * t + 20 → cs.length ≤ 2 * t + 20 → DOK P T s t L1 L2 ws cs nl sl u v [21, nI k] [(9, nI k, nI ax)] d (q_it N fX5_readStroke_h52 (fun _ _ _ _ => none) (nI k) (nI c) (nI (c + j)) u) (q_it M fX11_tellStroke_h80 (fun _ _ _ _ _ => none) (nI k) (nI ax) (nI many) (nI j) v) ∨ XF P s u v (q_it N fX5_readStroke_h52 (fun _ _ _ _ => none) (nI k) (nI c) (nI (c + j)) u) (q_it M fX11_tellStroke_h80 (fun _ _ _ _ _ => none) (nI k) (nI ax) (nI many) (nI j) v) := by
  have hn6 := nums_le k (by omega)
  intro d
  induction d with
  | zero =>
    intro N M j t L1 L2 ws cs u v hj hN hM E hC hR hL ht hw hc
    have hT := E.1.1
    obtain ⟨N, rfl⟩ : ∃ X, N = X + 1 := ⟨N - 1, by omega⟩
    obtain ⟨M, rfl⟩ : ∃ X, M = X + 1 := ⟨M - 1, by omega⟩
    rw [q_itS, fX5_readStroke_h52, numbersOf_ok k (by omega), q_b_some, if_pos (by rw [nI_leI (by omega) (by omega)]; omega)]
    rw [q_itS, fX11_tellStroke_h80, if_pos (by rw [nI_leI (by omega) (by omega)]; omega)]
    rw [show (59 : Int32) = km 4 from rfl, show (4 : Int32) = nI 4 from rfl]
    rcases tok_both E hC hR ht (by omega) (r := 4) (Or.inl (by omega)) (by decide) (by decide) with ⟨hlt, _, u1, v1, e1, e2, a1, a2, b1, b2⟩ | ⟨f, p, u1, v1, m, e1, a1, b1, e2, a2, b2⟩
    · obtain ⟨u2, e3, a3, b3⟩ := add2_st a1 (by omega) 21 (nI k)
      obtain ⟨v2, e4, a4, b4⟩ := emit_st a2 (by omega) ((9, nI k, nI ax) : Tr)
      have e4 : fX11_emit 9 (nI k) (nI ax) v1 = some ((), v2) := e4
      rw [e1, q_b_some, a1.2.1, if_pos (isP_c hC.1), e3, q_b_some, e2, q_b_some, a2.2.2.1, if_pos rfl, e4, q_b_some]
      refine Or.inl ⟨u2, v2, t + 1, [], [], rfl, rfl, ?_, ?_, frP1_t b1 b3, frR1_t b2 b4, by omega, by omega, okNs_nil, ?_, ?_, (fun _ _ x hx => by cases hx), HX_nil⟩
      · rw [wds_nil, List.append_nil]; exact a3
      · have : cs ++ trs [] = cs := List.append_nil cs
        rw [this]; exact a4
      · show 0 + 2 ≤ _; omega
      · show 0 + 1 ≤ _; omega
    · obtain ⟨u2, e3, a3, b3⟩ := add2_F a1 21 (nI k)
      rw [e1, q_b_some, a1.2.1, if_pos (isP_c hC.1), e3, q_b_some, e2, q_b_some, a2.2.2.2.1, if_neg (nI_ne0 (by have := a2.2.1; omega) (by have := a2.2.2.1; omega))]
      exact Or.inr ⟨f, p, u2, v1, m, rfl, a3, frP1_t b1 b3, rfl, a2, b2⟩
  | succ d ih =>
    intro N M j t L1 L2 ws cs u v hj hN hM E hC hR hL ht hw hc
    have hT := E.1.1
    obtain ⟨N, rfl⟩ : ∃ X, N = X + 1 := ⟨N - 1, by omega⟩
    obtain ⟨M, rfl⟩ : ∃ X, M = X + 1 := ⟨M - 1, by omega⟩
    rw [q_itS, fX5_readStroke_h52, numbersOf_ok k (by omega), q_b_some, if_neg (by rw [nI_leI (by omega) (by omega)]; omega)]
    rw [q_itS, fX11_tellStroke_h80, if_neg (show ¬ nI many ≤ nI j by rw [nI_leI (by omega) (by omega)]; omega)]
    unfold fX5_readStroke_n71 fX11_tellStroke_n97
    -- behind the comma, if there is one
    have go : ∀ t1 (u1 v1 : q_W), EC T s nl sl u1 v1 → PC P t1 L1 ws u1 → PR s t1 L2 cs [] 0 v1 → frP1 P u u1 → frR1 s v v1 → t ≤ t1 → t1 ≤ T → DOK P T s t L1 L2 ws cs nl sl u v [21, nI k] [(9, nI k, nI ax)] (d + 1) (q_b (q_sum 0 u1) fun _ w2 => q_lt (nI (c + j) + 1) fun y3 => q_it N fX5_readStroke_h52 (fun _ _ _ _ => none) (nI k) (nI c) y3 w2) (q_b (fX11_expression v1) fun _ w2 => q_lt (nI j + 1) fun y3 => q_it M fX11_tellStroke_h80 (fun _ _ _ _ _ => none) (nI k) (nI ax) (nI many) y3 w2) ∨ XF P s u v (q_b (q_sum 0 u1) fun _ w2 => q_lt (nI (c + j) + 1) fun y3 => q_it N fX5_readStroke_h52 (fun _ _ _ _ => none) (nI k) (nI c) y3 w2) (q_b (fX11_expression v1) fun _ w2 => q_lt (nI j + 1) fun y3 => q_it M fX11_tellStroke_h80 (fun _ _ _ _ _ => none) (nI k) (nI ax) (nI many) y3 w2) := by
      intro t1 u1 v1 E1 a1 a2 b1 b2 h1 h2
      rcases expr_ok E1 a1 a2 hL h2 (by omega) (by omega) with ⟨u2, v2, t2, es, ns, f1, f2, f3, f4, f5, f6, f7, f8, f9, f10, f11, f12, f13⟩ | ⟨f, p, u2, v2, m, f1, f2, f3, f4, f5, f6⟩
      · have hl1 : (ws ++ wds es).length = ws.length + (wds es).length := List.length_append
        have hl2 : (cs ++ trs es).length = cs.length + es.length := by rw [List.length_append, trs_len]
        rw [f1, q_b_some, q_lt_eq, nI_1, f2, q_b_some, q_lt_eq, nI_1]
        rcases ih N M (j + 1) t2 (adN ns L1) (adN ns L2) (ws ++ wds es) (cs ++ trs es) u2 v2 (by omega) (by omega) (by omega) (EC_fr hC.1 E1 f5 f6) f3 f4 (adN_5 ns L2 f9 hL) f8 (by rw [hl1]; omega) (by rw [hl2]; omega) with ⟨u3, v3, t3, es3, ns3, g1, g2, g3, g4, g5, g6, g7, g8, g9, g10, g11, g12, g13⟩ | ⟨f, p, u3, v3, m, g1, g2, g3, g4, g5, g6⟩
        · refine Or.inl ⟨u3, v3, t3, es ++ es3, ns ++ ns3, g1, g2, ?_, ?_, frP1_t b1 (frP1_t f5 g5), frR1_t b2 (frR1_t f6 g6), by omega, g8, okNs_app f9 g9, ?_, ?_, fun hn nd x hx => ?_, ?_⟩
          · rw [adN_app, wds_app, ← List.append_assoc]; exact g3
          · rw [adN_app, trs_app, ← List.append_assoc]; exact g4
          · rw [wds_app, List.length_append]; omega
          · rw [List.length_append]; omega
          · have hn1 : ns = [] := List.append_eq_nil_iff.mp hn |>.1
            have hn2 : ns3 = [] := List.append_eq_nil_iff.mp hn |>.2
            rcases List.mem_append.mp hx with hx | hx
            · exact f12 hn1 nd x hx
            · exact g12 hn2 nd x hx
          · rw [Nat.add_comm]; exact HX_app f13 g13
        · exact Or.inr ⟨f, p, u3, v3, m, g1, g2, frP1_t b1 (frP1_t f5 g3), g4, g5, frR1_t b2 (frR1_t f6 g6)⟩
      · obtain ⟨u3, g1, g2, g3, g4⟩ := args_F (ax := ax) (s := s) hk hmany d N M (j + 1) u2 v2 (by omega) (by omega) (by omega) f2 f5
        rw [f1, q_b_some, q_lt_eq, nI_1, f4, q_b_some, q_lt_eq, nI_1]
        exact Or.inr ⟨f, p, u3, v2, m, g1, g3, frP1_t b1 (frP1_t f3 g4), g2, f5, frR1_t b2 f6⟩
    by_cases h0 : j = 0
    · subst h0
      rw [if_pos (by rw [nI_leI (by omega) (by omega)]; omega), if_pos (show nI 0 ≤ 0 by decide)]
      exact go t u v E hC hR (frP1_r P u) (frR1_r s v) (Nat.le_refl _) ht
    · rw [if_neg (show ¬ nI (c + j) ≤ nI c by rw [nI_leI (by omega) (by omega)]; omega), if_neg (nI_nle (by omega) (by omega))]
      rw [show (44 : Int32) = km 5 from rfl, show (5 : Int32) = nI 5 from rfl]
      rcases tok_both E hC hR ht (by omega) (r := 5) (Or.inl (by omega)) (by decide) (by decide) with ⟨hlt, _, u1, v1, e1, e2, a1, a2, b1, b2⟩ | ⟨f, p, u1, v1, m, e1, a1, b1, e2, a2, b2⟩
      · rw [e1, q_b_some, e2, q_b_some]
        exact go (t + 1) u1 v1 (EC_fr hC.1 E b1 b2) a1 a2 b1 b2 (by omega) (by omega)
      · obtain ⟨u2, e3, a3, b3⟩ := qsum_F a1
        obtain ⟨u3, g1, g2, g3, g4⟩ := args_F (ax := ax) (s := s) hk hmany d N M (j + 1) u2 v1 (by omega) (by omega) (by omega) a3 a2
        rw [e1, q_b_some, e3, q_b_some, q_lt_eq, nI_1, e2, q_b_some, expr_F a2, q_b_some, q_lt_eq, nI_1]
        exact Or.inr ⟨f, p, u3, v1, m, g1, g3, frP1_t b1 (frP1_t b3 g4), g2, a2, b2⟩
