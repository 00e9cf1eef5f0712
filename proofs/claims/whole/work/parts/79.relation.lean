/-! relations -/
theorem aim_F {P f : Nat} {p : Int32} {u : q_W} (h : FC P f p u) (x : Int32) : ∃ u', fX4_aimHere P x u = some ((), u') ∧ FC P f p u' ∧ frP1 P u u' := by
  have h1 := h.1
  have hne := isP_ne h1
  unfold fX4_aimHere
  rw [if_pos (isP_c h1)]
  by_cases c1 : x < 0
  · rw [if_pos c1]; exact ⟨u, rfl, h, frP1_r P u⟩
  · rw [if_neg c1]
    by_cases c2 : 2000 ≤ x
    · rw [if_pos c2]; exact ⟨u, rfl, h, frP1_r P u⟩
    · obtain ⟨m, hm, em⟩ := nI_of c1
      rw [em, show (2000 : Int32) = nI 2000 from rfl, nI_leI (by omega) hm] at c2
      rw [em, if_neg (by rw [show (2000 : Int32) = nI 2000 from rfl, nI_leI (by omega) hm]; exact c2), if_pos (q_inb_nI (by omega) (by omega)), q_lt_eq, isP_0 h1]
      obtain ⟨_, h2, h3, h4, h5, h6, h7⟩ := h
      refine ⟨_, rfl, ⟨h1, h2, ?_, h4, h5, ?_, ?_⟩, ⟨fun q a b c => ?_, fun k hk => ?_, fun k hk => ?_, rfl⟩⟩
      · rw [sI_cell _ _ _ _ 23 (by omega), h3]
      · rw [sI_cell _ _ _ _ 23 (by omega), h6]
      · rw [sI_cell _ _ _ _ 23 (by omega), h7]
      · rw [sI_cell _ _ _ _ _ c]
      · rw [sI_cell _ _ _ _ 23 (by omega)]
      · rw [sI_cell _ _ _ _ P (by omega)]
/-- the word at i aims at the end -/
def aimW (o : Option Nat) (ws : List Int32) : List Int32 := match o with
  | none => ws
  | some i => ws.set i (nI ws.length)
theorem aimW_len (o : Option Nat) (ws : List Int32) : (aimW o ws).length = ws.length := by
  cases o with
  | none => rfl
  | some i => exact List.length_set
theorem aim_st {P t : Nat} {L : Nat × Int32} {ws : List Int32} {u : q_W} (h : PC P t L ws u) (hl : ws.length < 2000) (o : Option Nat) (ho : ∀ i, o = some i → i < ws.length) : ∃ u', fX4_aimHere P (ixV o) u = some ((), u') ∧ PC P t L (aimW o ws) u' ∧ frP1 P u u' := by
  have h0 := h
  obtain ⟨h1, h2, h3, h4, h5, h6, h7, h8, h9, h10, h11⟩ := h
  have hne := isP_ne h1
  unfold fX4_aimHere
  rw [if_pos (isP_c h1)]
  cases o with
  | none =>
    rw [if_pos (show ixV none < 0 by decide)]
    exact ⟨u, rfl, h0, frP1_r P u⟩
  | some i =>
    have hi := ho i rfl
    show ∃ u', (if nI i < 0 then _ else if 2000 ≤ nI i then _ else if q_inb (nI i) 2000 then q_lt (q_sI u (fC P 0) (q_ix (nI i)) _) _ else none) = _ ∧ _
    rw [if_neg (nI_pos (by omega)), if_neg (by rw [show (2000 : Int32) = nI 2000 from rfl, nI_leI (by omega) (by omega)]; omega), if_pos (q_inb_nI (by omega) (by omega)), q_lt_eq, isP_0 h1, q_ix_nI (by omega), h10]
    refine ⟨_, rfl, ⟨h1, h2, ?_, ?_, ?_, ?_, ?_, h8, fun c => ?_, ?_, fun j hj => ?_⟩, ⟨fun q a b c => ?_, fun k hk => ?_, fun k hk => ?_, rfl⟩⟩
    · rw [sI_cell _ _ _ _ 23 (by omega), h3]
    · rw [sI_cell _ _ _ _ 23 (by omega), sI_cell _ _ _ _ 26 (by omega), h4]
    · rw [sI_cell _ _ _ _ 23 (by omega), sI_cell _ _ _ _ 27 (by omega), h5]
    · rw [sI_cell _ _ _ _ 23 (by omega), h6]
    · rw [sI_cell _ _ _ _ 23 (by omega), h7]
    · rw [sI_cell _ _ _ _ 23 (by omega), h9 c]
    · rw [sI_cell _ _ _ _ P (by omega), h10, aimW_len]
    · rw [aimW_len] at hj
      show _ = (ws.set i (nI ws.length)).getD j 0
      rw [List.getD_eq_getElem?_getD, List.getElem?_set]
      by_cases e : i = j
      · subst e
        rw [sI_same, if_pos rfl, if_pos hj]; rfl
      · rw [sI_k _ _ _ _ _ (fun c => e c.symm), if_neg e, h11 j hj, List.getD_eq_getElem?_getD]
    · rw [sI_cell _ _ _ _ _ c]
    · rw [sI_cell _ _ _ _ 23 (by omega)]
    · rw [sI_cell _ _ _ _ P (by omega)]
def rv (r : Nat) : Int32 := if 11 ≤ r ∧ r ≤ 14 then nI (r - 1) else -1
theorem km_rel : ∀ r, r < 35 → ((km r = 60 ↔ r = 13) ∧ (km r = 289 ↔ r = 12) ∧ (km r = 316 ↔ r = 14) ∧ (km r = 317 ↔ r = 11)) ∧ ((nI r - 11 < 0 ↔ r < 11) ∧ (nI r - 11 ≤ 3 ↔ r ≤ 14)) := by decide
theorem km_rel2 : ∀ r, r < 35 → 11 ≤ r → nI r - 11 = nI (r - 11) ∧ nI (r - 1) - 10 = nI (r - 11) := by decide
theorem rOK_35 {r : Nat} (h : rOK r) : r < 35 := by unfold rOK at h; omega
theorem relationOf_ok (r : Nat) (h : rOK r) (u : q_W) : fX5_relationOf (km r) u = some (rv r, u) := by
  obtain ⟨⟨a, b, c, d⟩, _⟩ := km_rel r (rOK_35 h)
  unfold fX5_relationOf rv
  by_cases e : r = 13
  · rw [if_pos (a.mpr e), if_pos (by omega)]; subst e; rfl
  · rw [if_neg (fun x => e (a.mp x))]
    by_cases e : r = 12
    · rw [if_pos (b.mpr e), if_pos (by omega)]; subst e; rfl
    · rw [if_neg (fun x => e (b.mp x))]
      by_cases e : r = 14
      · rw [if_pos (c.mpr e), if_pos (by omega)]; subst e; rfl
      · rw [if_neg (fun x => e (c.mp x))]
        by_cases e : r = 11
        · rw [if_pos (d.mpr e), if_pos (by omega)]; subst e; rfl
        · rw [if_neg (fun x => e (d.mp x)), if_neg (by omega)]
theorem relationOf_F (u : q_W) : fX5_relationOf (-1) u = some (-1, u) := by
  unfold fX5_relationOf
  rw [if_neg (by decide), if_neg (by decide), if_neg (by decide), if_neg (by decide)]
/-- what comes behind a relation of the class -/
def cRest (rec9 : Int32 → Int32 → Int32 → Int32 → q_W → Option (Unit × q_W)) (x1 x2 x4 : Int32) (w : q_W) : Option (Unit × q_W) :=
  if cC (w.2.1 23 11) = 4 then
    q_b (fX4_aimHere (w.2.1 23 11) x1 w) fun _ w16 =>
    if (w16.1 23 5) = 17 then
      q_b (fX5_take 17 w16) fun _ w18 =>
      if cC (w18.2.1 23 11) = 4 then
      q_b (fX4_add_ (w18.2.1 23 11) 14 0 w18) fun _ w21 =>
      if cC (w21.2.1 23 11) = 4 then
      q_b (fX4_here (w21.2.1 23 11) w21) fun r23 w24 =>
      q_lt (r23 - 1) fun y25 =>
      fX5_readCondition_n170 rec9 y25 x2 1 x4 w24
      else none
      else none
    else
      if cC (w16.2.1 23 11) = 4 then
      q_b (fX4_aimHere (w16.2.1 23 11) x2 w16) fun _ w28 =>
      if (w28.1 23 5) = 16 then
        fX5_readCondition_n139 rec9 (-1) x2 x4 1 w28
      else
        fX5_readCondition_n139 rec9 (-1) x2 x4 0 w28
      else none
  else none
theorem relation_F {s f m : Nat} {p : Int32} {v : q_W} (h : FR s f p m v) : ∃ v', fX11_relation v = some ((), v') ∧ FR s f p m v' ∧ frR1 s v v' := by
  obtain ⟨v1, e1, a1, b1⟩ := next_F h
  have h0 := h
  obtain ⟨h1, h2, h3, h4, h5, h6, h7, t, ht, e⟩ := h
  unfold fX11_relation fX11_relation_n38
  rw [expr_F h0, q_b_some, e, q_lt_eq, if_pos (q_inb_nI (by omega) (by omega)), q_lt_eq, h4, if_neg (nI_ne0 (by omega) (by omega)), e1, q_b_some, expr_F a1, q_b_some, a1.2.2.2.1, if_neg (nI_ne0 (by omega) (by omega))]
  exact ⟨v1, rfl, a1, b1⟩
theorem rest_F {P f : Nat} {p : Int32} {u : q_W} (h : FC P f p u) (N : Nat) (hN : 0 < N) (x1 x2 x4 : Int32) : ∃ u', cRest (q_it N fX5_readCondition_h9 (fun _ _ _ _ _ => none)) x1 x2 x4 u = some ((), u') ∧ FC P f p u' ∧ frP1 P u u' := by
  obtain ⟨N, rfl⟩ : ∃ M, N = M + 1 := ⟨N - 1, by omega⟩
  obtain ⟨u1, e1, a1, b1⟩ := aim_F h x1
  obtain ⟨u2, e2, a2, b2⟩ := aim_F a1 x2
  unfold cRest fX5_readCondition_n139 fX5_readCondition_n170
  rw [h.2.1, if_pos (isP_c h.1), e1, q_b_some, a1.2.2.2.2.2.2, if_neg (by decide), a1.2.1, if_pos (isP_c h.1), e2, q_b_some, a2.2.2.2.2.2.2, if_neg (by decide), if_pos rfl, q_lt_eq, q_itS, fX5_readCondition_h9]
  by_cases c : 501 ≤ x4 + 1
  · rw [if_pos c]; exact ⟨u2, rfl, a2, frP1_t b1 b2⟩
  · rw [if_neg c, if_pos rfl]; exact ⟨u2, rfl, a2, frP1_t b1 b2⟩
/-- a relation: both, or a fault -/
def ROK (P T s t : Nat) (L1 L2 : Nat × Int32) (ws : List Int32) (cs : List Tr) (nl : List (List Nat)) (sl : Nat → Nat) (u v u' : q_W) (rv : Option (Unit × q_W)) : Prop :=
  ∃ v' t' k es ns, rv = some ((), v') ∧ PC P t' (adN ns L1) (ws ++ (wds es ++ [nI (k + 10)])) u' ∧ PR s t' (adN ns L2) (cs ++ (trs es ++ [(14, nI k, 0)])) [] 0 v' ∧ frP1 P u u' ∧ frR1 s v v' ∧ t < t' ∧ t' ≤ T ∧ okNs ns ∧ (wds es).length + 1 ≤ 2 * (t' - t) ∧ es.length + 1 ≤ t' - t ∧ k < 4 ∧ (ns = [] → ndp nl → ∀ x, x ∈ es → gI nl.length sl x) ∧ HX es 2
theorem relation_ok {P T s t : Nat} {L1 L2 : Nat × Int32} {ws : List Int32} {cs : List Tr} {nl : List (List Nat)} {sl : Nat → Nat} {u v : q_W} (E : EC T s nl sl u v) (hC : PC P t L1 ws u) (hR : PR s t L2 cs [] 0 v) (hL : L2.1 ≤ 5) (ht : t ≤ T) (hw : ws.length ≤ 3 * t + 20) (hc : cs.length ≤ 2 * t + 20) (N : Nat) (hN : 0 < N) (x1 x2 : Int32) (n4 : Nat) (h4 : n4 < 501) : (∃ u', fX5_readCondition_h9 (q_it N fX5_readCondition_h9 (fun _ _ _ _ _ => none)) x1 x2 1 (nI n4) u = cRest (q_it N fX5_readCondition_h9 (fun _ _ _ _ _ => none)) x1 x2 (nI n4) u' ∧ ROK P T s t L1 L2 ws cs nl sl u v u' (fX11_relation v)) ∨ XF P s u v (fX5_readCondition_h9 (q_it N fX5_readCondition_h9 (fun _ _ _ _ _ => none)) x1 x2 1 (nI n4) u) (fX11_relation v) := by
  have hT := E.1.1
  have hP := hC.1
  rw [fX5_readCondition_h9, if_neg (by rw [show (501 : Int32) = nI 501 from rfl, nI_leI (by omega) (by omega)]; omega), if_neg i_10]
  -- a fault before the second side
  have flt : ∀ f m p (r3 : Int32) (u1 v1 : q_W), FC P f p u1 → FR s f p m v1 → frP1 P u u1 → frR1 s v v1 → XF P s u v (q_b (q_sum 0 u1) fun _ w10 => if cC (w10.2.1 23 11) = 4 then q_b (fX4_add (w10.2.1 23 11) r3 w10) fun _ w13 => cRest (q_it N fX5_readCondition_h9 (fun _ _ _ _ _ => none)) x1 x2 (nI n4) w13 else none) (q_b (fX11_expression v1) fun _ w4 => if (w4.1 0 13) = 0 then q_b (fX11_emit 14 (r3 - 10) 0 w4) fun _ w6 => some ((), w6) else some ((), w4)) := by
    intro f m p r3 u1 v1 a1 a2 b1 b2
    obtain ⟨u2, e1, a3, b3⟩ := qsum_F a1
    obtain ⟨u3, e2, a4, b4⟩ := add_F a3 r3
    obtain ⟨u4, e3, a5, b5⟩ := rest_F a4 N hN x1 x2 (nI n4)
    rw [e1, q_b_some, a3.2.1, if_pos (isP_c hP), e2, q_b_some, e3, expr_F a2, q_b_some, a2.2.2.2.1, if_neg (nI_ne0 (by have := a2.2.1; omega) (by have := a2.2.2.1; omega))]
    exact ⟨f, p, u4, v1, m, rfl, a5, frP1_t b1 (frP1_t b3 (frP1_t b4 b5)), rfl, a2, b2⟩
  -- the reference in a fault behind the first side
  have fltR : ∀ f m p (y : Int32) (v1 : q_W), FR s f p m v1 → frR1 s v v1 → ∃ v2, fX11_relation_n38 y v1 = some ((), v2) ∧ FR s f p m v2 ∧ frR1 s v v2 := by
    intro f m p y v1 a2 b2
    obtain ⟨v2, e1, a1, b1⟩ := next_F a2
    unfold fX11_relation_n38
    rw [e1, q_b_some, expr_F a1, q_b_some, a1.2.2.2.1, if_neg (nI_ne0 (by have := a1.2.1; omega) (by have := a1.2.2.1; omega))]
    exact ⟨v2, rfl, a1, frR1_t b2 b1⟩
  unfold fX11_relation
  rcases expr_ok E hC hR hL ht (by omega) (by omega) with ⟨u1, v1, t1, es, ns, f1, f2, f3, f4, f5, f6, f7, f8, f9, f10, f11, f12, f13⟩ | ⟨f, p, u1, v1, m, f1, f2, f3, f4, f5, f6⟩
  · have hl1 : (ws ++ wds es).length = ws.length + (wds es).length := List.length_append
    have hl2 : (cs ++ trs es).length = cs.length + es.length := by rw [List.length_append, trs_len]
    have E1 := EC_fr hP E f5 f6
    obtain ⟨r, q1, q2, q3, q4, q5, q6, q7⟩ := tkn E1 f8
    clear q5 q6
    have hr35 := rOK_35 q1
    obtain ⟨_, k1, k2⟩ := km_rel r hr35
    rw [f1, q_b_some, f2, q_b_some, f3.2.2.2.1, q3, relationOf_ok r q1, q_b_some, f4.2.1, q_lt_eq, if_pos (q_inb_nI (by omega) (by omega)), q_ix_nI (by omega), q2, q_lt_eq, f4.2.2.1, if_pos (show (0 : Int32) = 0 from rfl)]
    by_cases hr : 11 ≤ r ∧ r ≤ 14
    · obtain ⟨k3, k4⟩ := km_rel2 r hr35 hr.1
      have hrv : rv r = nI (r - 1) := if_pos hr
      rw [hrv, if_neg (fun c => nI_pos (n := r - 1) (by omega) (by rw [show nI (r - 1) = -1 from c]; decide)), if_neg (fun c => by have := k1.mp c; omega), if_pos (k2.mpr hr.2), k3, f3.2.2.2.1, q3]
      unfold fX11_relation_n38
      rcases step_both E1 f3 f4 f8 (by omega) q2 q1 (by omega) (by omega) with ⟨hlt2, u2, v2, e3, e4, a3, a4, b3, b4⟩ | ⟨f, p, u2, v2, m, e3, a3, b3, e4, a4, b4⟩
      · have c1 := frP1_t f5 b3
        have c2 := frR1_t f6 b4
        have E2 := EC_fr hP E c1 c2
        rw [e3, q_b_some, e4, q_b_some]
        rcases expr_ok E2 a3 a4 (adN_5 ns L2 f9 hL) (by omega) (by omega) (by omega) with ⟨u3, v3, t3, es3, ns3, g1, g2, g3, g4, g5, g6, g7, g8, g9, g10, g11, g12, g13⟩ | ⟨f, p, u3, v3, m, g1, g2, g3, g4, g5, g6⟩
        · have hl3 : (ws ++ wds es ++ wds es3).length = ws.length + (wds es).length + (wds es3).length := by rw [List.length_append, List.length_append]
          have hl4 : (cs ++ trs es ++ trs es3).length = cs.length + es.length + es3.length := by rw [List.length_append, List.length_append, trs_len, trs_len]
          obtain ⟨u4, e5, a5, b5⟩ := add_st g3 (by omega) (nI (r - 1))
          obtain ⟨v4, e6, a6, b6⟩ := emit_st g4 (by omega) ((14, nI (r - 11), 0) : Tr)
          have e6 : fX11_emit 14 (nI (r - 11)) 0 v3 = some ((), v4) := e6
          rw [g1, q_b_some, g2, q_b_some, g3.2.1, if_pos (isP_c hP), e5, q_b_some, g4.2.2.1, if_pos rfl, e6, q_b_some]
          refine Or.inl ⟨u4, rfl, v4, t3, r - 11, es ++ es3, ns ++ ns3, rfl, ?_, ?_, frP1_t c1 (frP1_t g5 b5), frR1_t c2 (frR1_t g6 b6), by omega, g8, okNs_app f9 g9, ?_, ?_, by omega, fun c nd x hx => ?_, HX_app f13 g13⟩
          · rw [adN_app, wds_app, show r - 11 + 10 = r - 1 by omega, ← List.append_assoc, ← List.append_assoc]; exact a5
          · rw [adN_app, trs_app, ← List.append_assoc, ← List.append_assoc]; exact a6
          · rw [wds_app, List.length_append]; omega
          · rw [List.length_append]; omega
          · rcases List.mem_append.mp hx with hx | hx
            · exact f12 (List.append_eq_nil_iff.mp c).1 nd x hx
            · exact g12 (List.append_eq_nil_iff.mp c).2 nd x hx
        · obtain ⟨u4, e5, a5, b5⟩ := add_F g2 (nI (r - 1))
          obtain ⟨u5, e6, a6, b6⟩ := rest_F a5 N hN x1 x2 (nI n4)
          rw [g1, q_b_some, g4, q_b_some, g2.2.1, if_pos (isP_c hP), e5, q_b_some, g5.2.2.2.1, if_neg (nI_ne0 (by have := g5.2.1; omega) (by have := g5.2.2.1; omega))]
          exact Or.inr ⟨f, p, u5, v3, m, e6, a6, frP1_t c1 (frP1_t g3 (frP1_t b5 b6)), rfl, g5, frR1_t c2 g6⟩
      · have := flt f m p (nI (r - 1)) u2 v2 a3 a4 (frP1_t f5 b3) (frR1_t f6 b4)
        rw [k4] at this
        rw [e3, q_b_some, e4, q_b_some]
        exact Or.inr this
    · have hrv : rv r = -1 := if_neg hr
      obtain ⟨u2, e3, a3, b3⟩ := fail_st f3 1 (by omega)
      obtain ⟨v2, e4, a4, b4⟩ := failR_st f4 (by omega) 1 (by omega) 40 (by show 0 ≤ 40; omega) (by omega) (by omega)
      have e3 : fX5_fail 1 u1 = some ((), u2) := e3
      have e4 : fX11_fail 1 v1 = some ((), v2) := e4
      obtain ⟨v3, e5, a5, b5⟩ := fltR _ _ _ (nI r - 11) v2 a4 (frR1_t f6 b4)
      have hn : fX11_relation_n33 (nI r - 11) v1 = some ((), v3) := by
        unfold fX11_relation_n33
        rw [e4, q_b_some, e5]
      have hif : (if nI r - 11 < 0 then fX11_relation_n33 (nI r - 11) v1 else if nI r - 11 ≤ 3 then fX11_relation_n38 (nI r - 11) v1 else fX11_relation_n33 (nI r - 11) v1) = some ((), v3) := by
        by_cases c : r < 11
        · rw [if_pos (k1.mpr c), hn]
        · rw [if_neg (fun x => c (k1.mp x)), if_neg (fun x => hr ⟨by omega, k2.mp x⟩), hn]
      rw [hrv, if_pos rfl, e3, q_b_some, hif]
      exact Or.inr ⟨1, _, u2, v3, 40, rfl, a3, frP1_t f5 b3, rfl, by rw [← q4]; exact a5, b5⟩
  · have f50 := f5
    obtain ⟨_, _, _, h4', _, _, _, tt, htt, ett⟩ := f5
    obtain ⟨u2, e3, a3, b3⟩ := fail_F f2 1
    obtain ⟨v2, e4, a4, b4⟩ := fltR f m p (v1.1 3 tt - 11) v1 f50 f6
    rw [f1, q_b_some, f4, q_b_some, f2.2.2.2.2.2.2, relationOf_F, q_b_some, if_pos rfl, e3, q_b_some, ett, q_lt_eq, if_pos (q_inb_nI (by omega) (by omega)), q_ix_nI (by omega), q_lt_eq, h4', if_neg (nI_ne0 (by omega) (by omega)), e4]
    exact Or.inr ⟨f, p, u2, v2, m, rfl, a3, frP1_t f3 b3, rfl, a4, b4⟩
