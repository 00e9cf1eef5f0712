/-! do: the whole of it -/
theorem do_close {P T s t na tk : Nat} {L1 L2 : Nat × Int32} {ws : List Int32} {cs : List Tr} {nl pl : List (List Nat)} {sl pm : Nat → Nat} {u v : q_W} (E : EC T s nl sl u v) (D : DC P s pl pm u v) (hC : PC P t L1 ws u) (hR : PR s t L2 cs [] 0 v) (hL : L2.1 ≤ 5) (ht : t ≤ T) (hw : ws.length ≤ 3 * t + 30) (hc : cs.length ≤ 2 * t + 30) (hna : na ≤ 2) {l : List Nat} (hl : okL l) (htk : tk ≤ 500) (hy : v.2.2 6 tk = lN (r2 l)) (hp : v.1 4 tk = u.1 27 tk) : DTK P T s t na L1 L2 ws cs pl pm u v (fX5_readDo_n72 (u.1 27 tk) (ixV (idF pl l pl.length 0)) (nI na) u) (fX11_tellDo_n49 (nI tk) (nI na) v) ∨ XF P s u v (fX5_readDo_n72 (u.1 27 tk) (ixV (idF pl l pl.length 0)) (nI na) u) (fX11_tellDo_n49 (nI tk) (nI na) v) := by
  have hT := E.1.1
  have hne := isP_ne hC.1
  unfold fX5_readDo_n72 fX11_tellDo_n49
  rcases tok_both E hC hR ht (by omega) (r := 7) (Or.inl (by omega)) (by decide) (by decide) with ⟨hlt, _, u1, v1, e1, e2, a1, a2, b1, b2⟩ | ⟨f, p, u1, v1, m, e1, a1, b1, e2, a2, b2⟩
  · have e1 : fX5_take 41 u = some ((), u1) := e1
    have e2 : fX11_must 7 v = some ((), v1) := e2
    have f27 := (fr26 hC.1 b1).2
    rw [e1, q_b_some, e2, q_b_some, ← f27]
    rcases do_tail (na := na) (tk := tk) (EC_fr hC.1 E b1 b2) (DC_fr D b1 b2) a1 a2 hL (by omega) (by omega) (by omega) hna hl htk (by rw [b2.2.2.2]; exact hy) (by rw [(frR4 b2).2.1, f27, hp]) with ⟨u3, v3, t3, p, ns, g1, g2, g3, g4, g5, g6, g7, g8, g9, g10⟩ | ⟨f, p, u3, v3, m, g1, g2, g3, g4, g5, g6⟩
    · exact Or.inl ⟨u3, v3, t3, p, ns, g1, g2, g3, g4, frP1_t b1 g5, frR1_t b2 g6, by omega, g8, g9, g10⟩
    · exact Or.inr ⟨f, p, u3, v3, m, g1, g2, frP1_t b1 g3, g4, g5, frR1_t b2 g6⟩
  · have e1 : fX5_take 41 u = some ((), u1) := e1
    have e2 : fX11_must 7 v = some ((), v1) := e2
    obtain ⟨u2, e3, a3, b3⟩ := n78_F (DC_fr D b1 b2) a1 (u.1 27 tk) (ixV (idF pl l pl.length 0)) (nI na)
    rw [e1, q_b_some, e2, q_b_some, e3, n55_F a2]
    exact Or.inr ⟨f, p, u2, v1, m, rfl, a3, frP1_t b1 b3, rfl, a2, b2⟩
/-- what a do gives -/
def DOO (P T s t : Nat) (L1 L2 : Nat × Int32) (ws : List Int32) (cs : List Tr) (nl : List (List Nat)) (sl : Nat → Nat) (pl : List (List Nat)) (pm : Nat → Nat) (u v : q_W) (cu rv : Option (Unit × q_W)) : Prop :=
  ∃ u' v' t' p na es ns, cu = some ((), u') ∧ rv = some ((), v') ∧ PC P t' (adN ns L1) (ws ++ (wds es ++ [22, p])) u' ∧ PR s t' (adN ns L2) (cs ++ (trs es ++ [(17, p, nI na)])) [] 0 v' ∧ frP1 P u u' ∧ frR1 s v v' ∧ t < t' ∧ t' ≤ T ∧ okNs ns ∧ (wds es).length + 2 ≤ 2 * (t' - t) ∧ es.length + 1 ≤ t' - t ∧ na ≤ 2 ∧ (ns = [] → ndp nl → ∀ x, x ∈ es → gI nl.length sl x) ∧ HX es na ∧ (ns = [] → ∃ i, i < pl.length ∧ p = nI i ∧ pm i = na)
/-- from a middle to the whole -/
theorem doo_of {P T s t t1 na : Nat} {L1 L2 : Nat × Int32} {ws : List Int32} {cs : List Tr} {nl pl : List (List Nat)} {sl pm : Nat → Nat} {u v u1 v1 : q_W} {es : List It} {ns : List (Nat × Int32)} {cu rv : Option (Unit × q_W)} (hna : na ≤ 2) (b1 : frP1 P u u1) (b2 : frR1 s v v1) (h1 : t < t1) (ho : okNs ns) (hw : (wds es).length + 2 ≤ 2 * (t1 - t)) (hc : es.length + 1 ≤ t1 - t) (hg : ns = [] → ndp nl → ∀ x, x ∈ es → gI nl.length sl x) (hx : HX es na) (h : DTK P T s t1 na (adN ns L1) (adN ns L2) (ws ++ wds es) (cs ++ trs es) pl pm u1 v1 cu rv ∨ XF P s u1 v1 cu rv) : DOO P T s t L1 L2 ws cs nl sl pl pm u v cu rv ∨ XF P s u v cu rv := by
  rcases h with ⟨u3, v3, t3, p, ns3, g1, g2, g3, g4, g5, g6, g7, g8, g9, g10⟩ | ⟨f, p, u3, v3, m, g1, g2, g3, g4, g5, g6⟩
  · refine Or.inl ⟨u3, v3, t3, p, na, es, ns ++ ns3, g1, g2, ?_, ?_, frP1_t b1 g5, frR1_t b2 g6, by omega, g8, okNs_app ho g9, by omega, by omega, hna, fun c => hg (List.append_eq_nil_iff.mp c).1, hx, fun c => g10 (List.append_eq_nil_iff.mp c).2⟩
    · rw [adN_app, ← List.append_assoc]; exact g3
    · rw [adN_app, ← List.append_assoc]; exact g4
  · exact Or.inr ⟨f, p, u3, v3, m, g1, g2, frP1_t b1 g3, g4, g5, frR1_t b2 g6⟩
/-- a token that is there: both go on -/
theorem step_both {P T s t r op : Nat} {nl : List (List Nat)} {sl : Nat → Nat} {L1 L2 : Nat × Int32} {ws : List Int32} {cs : List Tr} {u v : q_W} (E : EC T s nl sl u v) (hC : PC P t L1 ws u) (hR : PR s t L2 cs [] op v) (ht : t ≤ T) (hc : cs.length ≤ 1400) (h3 : v.1 3 t = nI r) (hr : rOK r) (n0 : r ≠ 0) (n3 : r ≠ 3) : (t < T ∧ ∃ u' v', fX5_take (km r) u = some ((), u') ∧ fX11_next v = some ((), v') ∧ PC P (t + 1) L1 ws u' ∧ PR s (t + 1) L2 cs [] op v' ∧ frP1 P u u' ∧ frR1 s v v') ∨ XF P s u v (fX5_take (km r) u) (fX11_next v) := by
  have hT := E.1.1
  obtain ⟨r', q1, q2, q3, q4, q5, q6, q7⟩ := tkn E ht
  clear q5 q6
  have e : r' = r := by
    by_cases e : r' = r
    · exact e
    · rw [h3] at q2
      unfold rOK at q1 hr
      exact absurd q2 (nI_ne (by omega) (by omega) (fun c => e c.symm))
  subst e
  by_cases h5 : t = 500
  · subst h5
    obtain ⟨u1, e1, a1, b1⟩ := take_room hC (k := km r') q3
    obtain ⟨v1, e2, a2, b2⟩ := next_room hR 40 (by show 0 ≤ 40; omega) (by omega) (by omega)
    exact Or.inr ⟨2, _, u1, v1, 40, e1, a1, b1, e2, by rw [← q4]; exact a2, b2⟩
  · obtain ⟨u1, e1, a1, b1⟩ := take_st hC (by omega) (k := km r') q3
    obtain ⟨v1, e2, a2, b2⟩ := next_st hR (by omega)
    exact Or.inl ⟨q7 n0 n3 (by omega), u1, v1, e1, e2, a1, a2, b1, b2⟩
theorem do_ok {P T s t : Nat} {L1 L2 : Nat × Int32} {ws : List Int32} {cs : List Tr} {nl pl : List (List Nat)} {sl pm : Nat → Nat} {u v : q_W} (E : EC T s nl sl u v) (D : DC P s pl pm u v) (hC : PC P t L1 ws u) (hR : PR s t L2 cs [] 0 v) (hL : L2.1 ≤ 5) (ht : t ≤ T) (hw : ws.length ≤ 3 * t + 20) (hc : cs.length ≤ 2 * t + 20) : DOO P T s t L1 L2 ws cs nl sl pl pm u v (fX5_readDo u) (fX11_tellDo v) ∨ XF P s u v (fX5_readDo u) (fX11_tellDo v) := by
  have hT := E.1.1
  have hP := hC.1
  have hsay : fX7_saysAt (nI t) u = some (u.2.2 28 t, u) := by
    unfold fX7_saysAt
    rw [if_neg (nI_pos (by omega)), if_neg (by rw [show (501 : Int32) = nI 501 from rfl, nI_leI (by omega) (by omega)]; omega), if_pos (q_inb_nI (by omega) (by omega)), q_ix_nI (by omega)]
  unfold fX5_readDo fX11_tellDo
  rw [q_lt_eq, q_lt_eq, hC.2.2.1, hsay, q_b_some, hR.2.1, hC.2.2.2.2.1]
  -- a fault before the text
  have flt : ∀ f m p y (u1 v1 : q_W), FC P f p u1 → FR s f p m v1 → frP1 P u u1 → frR1 s v v1 → XF P s u v (if (u1.1 23 5) = 40 then q_b (fX5_take 40 u1) fun r8 w9 => q_b (q_sum 0 w9) fun r10 w11 => if (w11.1 23 5) = 44 then q_b (fX5_take 44 w11) fun r12 w13 => q_b (q_sum 0 w13) fun r14 w15 => fX5_readDo_n72 (u.1 27 t) y 2 w15 else fX5_readDo_n72 (u.1 27 t) y 1 w11 else fX5_readDo_n78 (u.1 27 t) y 0 u1) (q_b (fX11_is 6 v1) fun r4 w5 => if r4 = 0 then fX11_tellDo_n55 (nI t) 0 w5 else q_b (fX11_next w5) fun r6 w7 => q_b (fX11_expression w7) fun r8 w9 => q_b (fX11_is 5 w9) fun r10 w11 => if r10 = 0 then fX11_tellDo_n49 (nI t) 1 w11 else q_b (fX11_next w11) fun r12 w13 => q_b (fX11_expression w13) fun r14 w15 => fX11_tellDo_n49 (nI t) 2 w15) := by
    intro f m p y u1 v1 a1 a2 b1 b2
    obtain ⟨u2, e3, a3, b3⟩ := n78_F (DC_fr D b1 b2) a1 (u.1 27 t) y 0
    rw [a1.2.2.2.2.2.2, if_neg (by decide), e3, is_F a2, q_b_some, if_pos rfl, n55_F a2]
    exact ⟨f, p, u2, v1, m, rfl, a3, frP1_t b1 b3, rfl, a2, b2⟩
  -- a fault within the brackets
  have flt2 : ∀ f m p y (na : Int32) (u1 v1 : q_W), FC P f p u1 → FR s f p m v1 → frP1 P u u1 → frR1 s v v1 → XF P s u v (fX5_readDo_n72 (u.1 27 t) y na u1) (fX11_tellDo_n49 (nI t) na v1) := by
    intro f m p y na u1 v1 a1 a2 b1 b2
    obtain ⟨u2, e3, a3, b3⟩ := n72_F (DC_fr D b1 b2) a1 (u.1 27 t) y na
    rw [e3, n49_F a2]
    exact ⟨f, p, u2, v1, m, rfl, a3, frP1_t b1 b3, rfl, a2, b2⟩
  have flt1 : ∀ f m p y (u1 v1 : q_W), FC P f p u1 → FR s f p m v1 → frP1 P u u1 → frR1 s v v1 → XF P s u v (if (u1.1 23 5) = 44 then q_b (fX5_take 44 u1) fun r12 w13 => q_b (q_sum 0 w13) fun r14 w15 => fX5_readDo_n72 (u.1 27 t) y 2 w15 else fX5_readDo_n72 (u.1 27 t) y 1 u1) (q_b (fX11_is 5 v1) fun r10 w11 => if r10 = 0 then fX11_tellDo_n49 (nI t) 1 w11 else q_b (fX11_next w11) fun r12 w13 => q_b (fX11_expression w13) fun r14 w15 => fX11_tellDo_n49 (nI t) 2 w15) := by
    intro f m p y u1 v1 a1 a2 b1 b2
    rw [a1.2.2.2.2.2.2, if_neg (by decide), is_F a2, q_b_some, if_pos rfl]
    exact flt2 f m p y 1 u1 v1 a1 a2 b1 b2
  rcases tok_both E hC hR ht (by omega) (r := 1) (Or.inl (by omega)) (by decide) (by decide) with ⟨hlt, h3, u1, v1, e1, e2, a1, a2, b1, b2⟩ | ⟨f, p, u1, v1, m, e1, a1, b1, e2, a2, b2⟩
  · have e1 : fX5_take 1 u = some ((), u1) := e1
    have e2 : fX11_must 1 v = some ((), v1) := e2
    obtain ⟨l, hl, hy1, hy2, hp⟩ : ∃ l, okL l ∧ u.2.2 28 t = lN (q2 l) ∧ v.2.2 6 t = lN (r2 l) ∧ v.1 4 t = u.1 27 t := by
      obtain ⟨r, q1, q2, q3, q4, q5, q6, q7⟩ := tkn E ht
      clear q6
      have e : r = 1 := by
        by_cases e : r = 1
        · exact e
        · rw [h3] at q2
          unfold rOK at q1
          clear q5
          exact absurd q2 (nI_ne (by omega) (by omega) (fun c => e c.symm))
      obtain ⟨l, x, y, z⟩ := q5 e
      exact ⟨l, x, y, z, q4⟩
    have E1 := EC_fr hP E b1 b2
    have D1 := DC_fr D b1 b2
    obtain ⟨r1, q1, q2, q3, q4, q5, q6, q7⟩ := tkn E1 (show t + 1 ≤ T by omega)
    clear q5 q6
    rw [hy1, patternOf_ok D hl, q_b_some, e1, q_b_some, e2, q_b_some, a1.2.2.2.1, q3]
    by_cases r6 : r1 = 6
    · subst r6
      rw [if_pos (show km 6 = 40 from rfl), show (6 : Int32) = nI 6 from rfl, isR1 a2 (by omega) q2, q_b_some, if_neg i_10]
      rcases step_both E1 a1 a2 (by omega) (by omega) q2 q1 (by decide) (by decide) with ⟨hlt2, u2, v2, e3, e4, a3, a4, b3, b4⟩ | ⟨f, p, u2, v2, m, e3, a3, b3, e4, a4, b4⟩
      · have e3 : fX5_take 40 u1 = some ((), u2) := e3
        have E2 := EC_fr hP E1 b3 b4
        rw [e3, q_b_some, e4, q_b_some]
        rcases expr_ok E2 a3 a4 hL (by omega) (by omega) (by omega) with ⟨u3, v3, t3, es, ns, f1, f2, f3, f4, f5, f6, f7, f8, f9, f10, f11, f12, f13⟩ | ⟨f, p, u3, v3, m, f1, f2, f3, f4, f5, f6⟩
        · have hl1 : (ws ++ wds es).length = ws.length + (wds es).length := List.length_append
          have hl2 : (cs ++ trs es).length = cs.length + es.length := by rw [List.length_append, trs_len]
          have c1 := frP1_t b1 (frP1_t b3 f5)
          have c2 := frR1_t b2 (frR1_t b4 f6)
          have E3 := EC_fr hP E c1 c2
          obtain ⟨r3, p1, p2, p3, p4, p5, p6, p7⟩ := tkn E3 f8
          clear p5 p6
          rw [f1, q_b_some, f2, q_b_some, f3.2.2.2.1, p3]
          by_cases r5 : r3 = 5
          · subst r5
            rw [if_pos (show km 5 = 44 from rfl), show (5 : Int32) = nI 5 from rfl, isR1 f4 (by omega) p2, q_b_some, if_neg i_10]
            rcases step_both E3 f3 f4 f8 (by omega) p2 p1 (by decide) (by decide) with ⟨hlt4, u4, v4, e5, e6, a5, a6, b5, b6⟩ | ⟨f, p, u4, v4, m, e5, a5, b5, e6, a6, b6⟩
            · have e5 : fX5_take 44 u3 = some ((), u4) := e5
              have E4 := EC_fr hP E3 b5 b6
              rw [e5, q_b_some, e6, q_b_some]
              rcases expr_ok E4 a5 a6 (adN_5 ns L2 f9 hL) (by omega) (by omega) (by omega) with ⟨u5, v5, t5, es5, ns5, g1, g2, g3, g4, g5, g6, g7, g8, g9, g10, g11, g12, g13⟩ | ⟨f, p, u5, v5, m, g1, g2, g3, g4, g5, g6⟩
              · have d1 := frP1_t c1 (frP1_t b5 g5)
                have d2 := frR1_t c2 (frR1_t b6 g6)
                have hl3 : (ws ++ wds (es ++ es5)).length = ws.length + (wds es).length + (wds es5).length := by rw [wds_app, List.length_append, List.length_append]; omega
                have hl4 : (cs ++ trs (es ++ es5)).length = cs.length + es.length + es5.length := by rw [List.length_append, trs_len, List.length_append]; omega
                have g3 : PC P t5 (adN (ns ++ ns5) L1) (ws ++ wds (es ++ es5)) u5 := by rw [adN_app, wds_app, ← List.append_assoc]; exact g3
                have g4 : PR s t5 (adN (ns ++ ns5) L2) (cs ++ trs (es ++ es5)) [] 0 v5 := by rw [adN_app, trs_app, ← List.append_assoc]; exact g4
                rw [g1, q_b_some, g2, q_b_some]
                have f27 := (fr26 hP d1).2
                rw [← f27]
                exact doo_of (na := 2) (es := es ++ es5) (ns := ns ++ ns5) (by omega) d1 d2 (by omega) (okNs_app f9 g9) (by rw [wds_app, List.length_append]; omega) (by rw [List.length_append]; omega) (fun c nd x hx => by
                  rcases List.mem_append.mp hx with hx | hx
                  · exact f12 (List.append_eq_nil_iff.mp c).1 nd x hx
                  · exact g12 (List.append_eq_nil_iff.mp c).2 nd x hx) (HX_app f13 g13) (do_close (EC_fr hP E d1 d2) (DC_fr D d1 d2) g3 g4 (adN_5 _ L2 (okNs_app f9 g9) hL) g8 (by omega) (by omega) (by omega) hl (by omega) (by rw [d2.2.2.2]; exact hy2) (by rw [(frR4 d2).2.1, f27, hp]))
              · rw [g1, q_b_some, g4, q_b_some]
                exact Or.inr (flt2 f m p _ 2 u5 v5 g2 g5 (frP1_t c1 (frP1_t b5 g3)) (frR1_t c2 (frR1_t b6 g6)))
            · have e5 : fX5_take 44 u3 = some ((), u4) := e5
              obtain ⟨u5, e7, a7, b7⟩ := qsum_F a5
              rw [e5, q_b_some, e6, q_b_some, e7, q_b_some, expr_F a6, q_b_some]
              exact Or.inr (flt2 f m p _ 2 u5 v4 a7 a6 (frP1_t c1 (frP1_t b5 b7)) (frR1_t c2 b6))
          · have n44 : ¬ km r3 = 44 := km_ne (b := 5) p1 (Or.inl (by omega)) r5
            rw [if_neg n44, show (5 : Int32) = nI 5 from rfl, isR0 f4 (by omega) p2 p1 5 (by decide) r5, q_b_some, if_pos rfl]
            have f27 := (fr26 hP c1).2
            rw [← f27]
            exact doo_of (na := 1) (es := es) (ns := ns) (by omega) c1 c2 (by omega) f9 (by omega) (by omega) f12 f13 (do_close E3 (DC_fr D c1 c2) f3 f4 (adN_5 _ L2 f9 hL) f8 (by omega) (by omega) (by omega) hl (by omega) (by rw [c2.2.2.2]; exact hy2) (by rw [(frR4 c2).2.1, f27, hp]))
        · rw [f1, q_b_some, f4, q_b_some]
          exact Or.inr (flt1 f m p _ u3 v3 f2 f5 (frP1_t b1 (frP1_t b3 f3)) (frR1_t b2 (frR1_t b4 f6)))
      · have e3 : fX5_take 40 u1 = some ((), u2) := e3
        obtain ⟨u3, e7, a7, b7⟩ := qsum_F a3
        rw [e3, q_b_some, e4, q_b_some, e7, q_b_some, expr_F a4, q_b_some]
        exact Or.inr (flt1 f m p _ u3 v2 a7 a4 (frP1_t b1 (frP1_t b3 b7)) (frR1_t b2 b4))
    · have n40 : ¬ km r1 = 40 := km_ne (b := 6) q1 (Or.inl (by omega)) r6
      rw [if_neg n40, show (6 : Int32) = nI 6 from rfl, isR0 a2 (by omega) q2 q1 6 (by decide) r6, q_b_some, if_pos rfl]
      have f27 := (fr26 hP b1).2
      rw [← f27]
      have a1' : PC P (t + 1) (adN [] L1) (ws ++ wds []) u1 := by rw [wds_nil, List.append_nil]; exact a1
      have a2' : PR s (t + 1) (adN [] L2) (cs ++ trs []) [] 0 v1 := by
        have : cs ++ trs [] = cs := List.append_nil cs
        rw [this]; exact a2
      exact doo_of (na := 0) (es := []) (ns := []) (by omega) b1 b2 (by omega) okNs_nil (by show 0 + 2 ≤ _; omega) (by show 0 + 1 ≤ _; omega) (fun _ _ x hx => by cases hx) HX_nil (do_tail (na := 0) E1 D1 a1' a2' hL (by omega) (by rw [wds_nil, List.append_nil]; omega) (by show (cs ++ []).length ≤ _; rw [List.append_nil]; omega) (by omega) hl (by omega) (by rw [b2.2.2.2]; exact hy2) (by rw [(frR4 b2).2.1, f27, hp]))
  · have e1 : fX5_take 1 u = some ((), u1) := e1
    have e2 : fX11_must 1 v = some ((), v1) := e2
    obtain ⟨y, hy⟩ := patternOf_any D (u.2.2 28 t)
    rw [hy, q_b_some, e1, q_b_some, e2, q_b_some]
    exact Or.inr (flt f m p y u1 v1 a1 a2 b1 b2)
