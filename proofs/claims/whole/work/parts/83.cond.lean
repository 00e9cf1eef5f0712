/-! conditions: the loop -/
theorem nI_s1 (n : Nat) : nI (n + 1) - 1 = nI n := by rw [← nI_1]; grind
theorem CHN_land {s : Nat} {x : Int32} {c : List Nat} : ∀ (c' : List Nat) (cs : List Tr), CHN s cs c' → CHN s cs c → CHN s (landT x c' cs) c := by
  intro c'
  induction c' with
  | nil => intro cs _ h; exact h
  | cons i c' ih =>
    intro cs h' h
    obtain ⟨a, b, d⟩ := h'
    exact ih _ (CHN_set c' cs a d) (CHN_set c cs a h)
theorem CHN_new {s : Nat} {a : Int32} {c : List Nat} {cs : List Tr} (h : CHN s cs c) : CHN s (cs ++ [(a, 0, hdC s c)]) (cs.length :: c) := ⟨by rw [List.length_append]; show cs.length < cs.length + 1; omega, by rw [snocT_eq], CHN_app _ c cs h⟩
theorem emit15 {s t : Nat} {L : Nat × Int32} {cs : List Tr} {c5 c6 : List Nat} {v : q_W} (h : PB s t L cs c5 c6 v) (hl : cs.length < 1900) (K : q_W → Option (Unit × q_W)) : ∃ v', (q_b (fX11_emit 15 0 (v.1 0 35) v) fun _ w6 => q_lt (q_sI w6 0 35 ((w6.1 0 24) - 1)) fun w7 => K w7) = K v' ∧ PB s t L (cs ++ [(15, 0, hdC s c5)]) (cs.length :: c5) c6 v' ∧ frC s v v' := by
  obtain ⟨hR, k5, k6, n5, n6, l5, l6⟩ := h
  obtain ⟨v1, e1, a1, b1⟩ := emit_st hR (by omega) ((15, 0, hdC s c5) : Tr)
  have e1 : fX11_emit 15 0 (hdC s c5) v = some ((), v1) := e1
  have h24 : v1.1 0 24 = nI (2000 * s + cs.length + 1) := by rw [a1.2.2.2.2.2.1.1, List.length_append]; rfl
  have hll : (cs ++ [((15, 0, hdC s c5) : Tr)]).length = cs.length + 1 := by rw [List.length_append]; rfl
  rw [k5, e1, q_b_some, q_lt_eq, h24, nI_s1]
  refine ⟨_, rfl, ⟨PR_set a1 35 _ (by omega), sI_same _ _ _ _, ?_, CHN_new n5, CHN_app _ c6 cs n6, ?_, ?_⟩, frC_t (frC_1 b1) (frC_0 s _ 35 _ (by omega))⟩
  · rw [sI_k _ _ _ _ _ (by decide), b1.2.1 36 (by omega) (by omega) (by omega), k6]
  · rw [hll]; show c5.length + 1 ≤ _; omega
  · rw [hll]; omega
theorem emit16 {s t : Nat} {L : Nat × Int32} {cs : List Tr} {c5 c6 : List Nat} {v : q_W} (h : PB s t L cs c5 c6 v) (hl : cs.length < 1900) (K : q_W → Option (Unit × q_W)) : ∃ v', (q_b (fX11_emit 16 0 (v.1 0 36) v) fun _ w9 => q_lt (q_sI w9 0 36 ((w9.1 0 24) - 1)) fun w10 => q_b (fX11_lands (w10.1 0 35) w10) fun _ w12 => q_lt (q_sI w12 0 35 (-1)) fun w13 => K w13) = K v' ∧ PB s t L (landT (nI (2000 * s + (cs.length + 1))) c5 (cs ++ [(16, 0, hdC s c6)])) [] (cs.length :: c6) v' ∧ frC s v v' := by
  obtain ⟨hR, k5, k6, n5, n6, l5, l6⟩ := h
  obtain ⟨v1, e1, a1, b1⟩ := emit_st hR (by omega) ((16, 0, hdC s c6) : Tr)
  have e1 : fX11_emit 16 0 (hdC s c6) v = some ((), v1) := e1
  have h24 : v1.1 0 24 = nI (2000 * s + cs.length + 1) := by rw [a1.2.2.2.2.2.1.1, List.length_append]; rfl
  have hll : (cs ++ [((16, 0, hdC s c6) : Tr)]).length = cs.length + 1 := by rw [List.length_append]; rfl
  have h35 : (q_sI v1 0 36 (nI (2000 * s + cs.length))).1 0 35 = hdC s c5 := by rw [sI_k _ _ _ _ _ (by decide), b1.2.1 35 (by omega) (by omega) (by omega), k5]
  obtain ⟨v2, e2, a2, b2⟩ := lands_ok (c := c5) (PR_set a1 36 (nI (2000 * s + cs.length)) (by omega)) (by rw [hll]; omega) (by omega) (CHN_app _ c5 cs n5)
  rw [hll] at a2
  rw [k6, e1, q_b_some, q_lt_eq, h24, nI_s1, h35, e2, q_b_some, q_lt_eq]
  refine ⟨_, rfl, ⟨PR_set a2 35 _ (by omega), sI_same _ _ _ _, ?_, trivial, CHN_land c5 _ (CHN_app _ c5 cs n5) (CHN_new n6), ?_, ?_⟩, frC_t (frC_1 b1) (frC_t (frC_0 s _ 36 _ (by omega)) (frC_t (frC_1 b2) (frC_0 s _ 35 _ (by omega))))⟩
  · rw [sI_k _ _ _ _ _ (by decide), b2.2.1 36 (by omega) (by omega) (by omega), sI_same]; rfl
  · exact Nat.zero_le _
  · rw [landT_len, hll]; show c6.length + 1 ≤ _; omega
def CQ (P T s t : Nat) (L1 L2 : Nat × Int32) (x1 x2 : Option Nat) (ws : List Int32) (cs : List Tr) (c5 c6 : List Nat) (nl : List (List Nat)) (sl : Nat → Nat) (u v : q_W) (cu rv : Option (Unit × q_W)) : Prop :=
  ∃ u' v' t' rl ns, cu = some ((), u') ∧ rv = fX11_tellIf_n137 v' ∧ okRl rl ∧ PC P t' (adN ns L1) (cdC x1 x2 ws rl) u' ∧ PB s t' (adN ns L2) (cdR s c5 c6 cs rl).1 (cdR s c5 c6 cs rl).2.1 (cdR s c5 c6 cs rl).2.2 v' ∧ frP1 P u u' ∧ frC s v v' ∧ t < t' ∧ t' ≤ T ∧ okNs ns ∧ (cdC x1 x2 ws rl).length ≤ ws.length + 2 * (t' - t) ∧ (cdR s c5 c6 cs rl).1.length ≤ cs.length + (t' - t) + 1 ∧ (ns = [] → ndp nl → ∀ r, r ∈ rl → ∀ x, x ∈ r.1 → gI nl.length sl x) ∧ ∀ r, r ∈ rl → HX r.1 2
theorem here_st {P t : Nat} {L : Nat × Int32} {ws : List Int32} {u : q_W} (h : PC P t L ws u) : fX4_here P u = some (nI ws.length, u) := by
  unfold fX4_here
  rw [if_pos (isP_c h.1), h.2.2.2.2.2.2.2.2.2.1]
theorem XG_t {P s : Nat} {u v u1 v1 : q_W} {cu rv : Option (Unit × q_W)} (b1 : frP1 P u u1) (b2 : frD s v v1) (h : XG P s u1 v1 cu rv) : XG P s u v cu rv := by
  obtain ⟨f, p, u', v', m, x1, x2, x3, x4, x5, x6⟩ := h
  exact ⟨f, p, u', v', m, x1, x2, frP1_t b1 x3, x4, x5, frD_t b2 x6⟩
theorem CQ_t {P T s t t1 k op : Nat} {L1 L2 : Nat × Int32} {x1 x2 y1 y2 : Option Nat} {ws ws1 : List Int32} {cs cs1 : List Tr} {c5 c6 d5 d6 : List Nat} {nl : List (List Nat)} {sl : Nat → Nat} {u v u1 v1 : q_W} {cu rv : Option (Unit × q_W)} {es : List It} {ns : List (Nat × Int32)} (hk : k < 4) (hop : op = 1 ∨ op = 2) (b1 : frP1 P u u1) (b2 : frC s v v1) (h1 : t < t1) (ho : okNs ns) (eC : ∀ rl, cdC x1 x2 ws ((es, k, op) :: rl) = cdC y1 y2 ws1 rl) (eR : ∀ rl, cdR s c5 c6 cs ((es, k, op) :: rl) = cdR s d5 d6 cs1 rl) (hw : ws1.length ≤ ws.length + 2 * (t1 - t)) (hc : cs1.length ≤ cs.length + (t1 - t)) (hg : ns = [] → ndp nl → ∀ x, x ∈ es → gI nl.length sl x) (hx : HX es 2) (h : CQ P T s t1 (adN ns L1) (adN ns L2) y1 y2 ws1 cs1 d5 d6 nl sl u1 v1 cu rv) : CQ P T s t L1 L2 x1 x2 ws cs c5 c6 nl sl u v cu rv := by
  obtain ⟨u', v', t', rl, ns', q1, q2, q3, q4, q5, q6, q7, q8, q9, q10, q11, q12, q13, q14⟩ := h
  refine ⟨u', v', t', (es, k, op) :: rl, ns ++ ns', q1, q2, ⟨hk, Or.inr ⟨hop, q3⟩⟩, ?_, ?_, frP1_t b1 q6, frC_t b2 q7, by omega, q9, okNs_app ho q10, ?_, ?_, fun c nd r hr x hx => ?_, fun r hr => ?_⟩
  · rw [eC, adN_app]; exact q4
  · rw [eR, adN_app]; exact q5
  · rw [eC]; omega
  · rw [eR]; omega
  · rcases List.mem_cons.mp hr with e | hr
    · subst e
      exact hg (List.append_eq_nil_iff.mp c).1 nd x hx
    · exact q13 (List.append_eq_nil_iff.mp c).2 nd r hr x hx
  · rcases List.mem_cons.mp hr with e | hr
    · subst e; exact hx
    · exact q14 r hr
theorem cond_lok {P T s b : Nat} {nl : List (List Nat)} {sl : Nat → Nat} (hb8 : b < 8) : ∀ (d N M : Nat) (x1 x2 : Option Nat) (n4 t : Nat) (L1 L2 : Nat × Int32) (ws : List Int32) (cs : List Tr) (c5 c6 : List Nat) (u v : q_W), 501 ≤ t + d → d < N → d + 1 < M → EC T s nl sl u v → PC P t L1 ws u → PB s t L2 cs c5 c6 v → L2.1 ≤ 5 → t ≤ T → ws.length ≤ 3 * t + 20 → cs.length ≤ 2 * t + 20 → n4 ≤ t → (∀ i, x1 = some i → i < ws.length) → (∀ i, x2 = some i → i < ws.length) → v.1 0 30 = nI b → CQ P T s t L1 L2 x1 x2 ws cs c5 c6 nl sl u v (q_it N fX5_readCondition_h9 (fun _ _ _ _ _ => none) (ixV x1) (ixV x2) 1 (nI n4) u) (q_it M fX11_tellIf_h12 (fun _ _ => none) 1 v) ∨ XG P s u v (q_it N fX5_readCondition_h9 (fun _ _ _ _ _ => none) (ixV x1) (ixV x2) 1 (nI n4) u) (q_it M fX11_tellIf_h12 (fun _ _ => none) 1 v) := by
  intro d
  induction d with
  | zero =>
    intro N M x1 x2 n4 t L1 L2 ws cs c5 c6 u v hd _ _ E _ _ _ ht
    have hT := E.1.1
    omega
  | succ d ih =>
    intro N M x1 x2 n4 t L1 L2 ws cs c5 c6 u v hd hN hM E hC hB hL ht hw hc h4 hx1 hx2 hb
    have hT := E.1.1
    have hP := hC.1
    obtain ⟨N, rfl⟩ : ∃ X, N = X + 1 := ⟨N - 1, by omega⟩
    obtain ⟨M, rfl⟩ : ∃ X, M = X + 1 := ⟨M - 1, by omega⟩
    have hR := hB.1
    rw [q_itS, q_itS, fX11_tellIf_h12, if_neg i_10, hR.2.2.1, if_pos (show (0 : Int32) = 0 from rfl)]
    rcases relation_ok E hC hR hL ht hw hc N (by omega) (ixV x1) (ixV x2) n4 (by omega) with ⟨u1, e0, v1, t1, k, es, ns, e1, a1, a2, b1, b2, h1, h2, o1, w1, w2, k1, g1, y1⟩ | ⟨f, p, u1, v1, m, e1, a1, b1, e2, a2, b2⟩
    · have B1 : PB s t1 (adN ns L2) (cs ++ (trs es ++ [(14, nI k, 0)])) c5 c6 v1 := ⟨a2, by rw [b2.2.1 35 (by omega) (by omega) (by omega), hB.2.1], by rw [b2.2.1 36 (by omega) (by omega) (by omega), hB.2.2.1], CHN_app _ c5 cs hB.2.2.2.1, CHN_app _ c6 cs hB.2.2.2.2.1, by rw [List.length_append]; have := hB.2.2.2.2.2.1; omega, by rw [List.length_append]; have := hB.2.2.2.2.2.2; omega⟩
      have hl1 : (cs ++ (trs es ++ [((14, nI k, 0) : Tr)])).length = cs.length + es.length + 1 := by rw [List.length_append, List.length_append, trs_len]; rfl
      have hlw : (ws ++ (wds es ++ [nI (k + 10)])).length = ws.length + (wds es).length + 1 := by rw [List.length_append, List.length_append]; rfl
      have E1 := EC_fr hP E b1 b2
      obtain ⟨u2, f1, a3, b3⟩ := aim_st a1 (by omega) x1 (fun i hi => by have := hx1 i hi; omega)
      have hlw1 := aimW_len x1 (ws ++ (wds es ++ [nI (k + 10)]))
      have E2 := EC_frC hP E1 b3 (frC_1 (frR1_r s v1))
      obtain ⟨r, q1, q2, q3, q4, q5, q6, q7⟩ := tkn E2 h2
      clear q5 q6
      have hb1 : v1.1 0 30 = nI b := by rw [b2.2.1 30 (by omega) (by omega) (by omega), hb]
      have c1 := frP1_t b1 b3
      rw [e0, e1, q_b_some, a2.2.2.1, if_pos (show (0 : Int32) ≤ 0 by decide)]
      unfold cRest
      rw [a1.2.1, if_pos (isP_c hP), f1, q_b_some, a3.2.2.2.1, q3, show (31 : Int32) = nI 31 from rfl, isR a2 (by omega) q2 q1 31 (by decide), q_b_some]
      by_cases r32 : r = 32
      · subst r32
        obtain ⟨v3, e3, B3, f3⟩ := emit15 B1 (by omega) (fX11_tellIf_n102 (q_it M fX11_tellIf_h12 (fun _ _ => none)))
        have hl3 : (cs ++ (trs es ++ [((14, nI k, 0) : Tr)]) ++ [(15, 0, hdC s c5)]).length = cs.length + es.length + 2 := by rw [List.length_append, hl1]; rfl
        have q2' : v3.1 3 t1 = nI 32 := by rw [f3.1 3 (by decide) (by decide) (by decide) (by decide) (by decide), q2]
        have hb3 : v3.1 0 30 = nI b := by rw [f3.2.1 30 (by omega) (by omega) (by omega) (by omega) (by omega), hb1]
        have E3 := EC_frC hP E2 (frP1_r P u2) f3
        rw [if_pos (show km 32 = 17 from rfl), if_neg (show ¬ (32 : Nat) = 31 by decide), if_pos (show (0 : Int32) = 0 from rfl), e3]
        unfold fX11_tellIf_n102 fX11_tellIf_n120 fX11_tellIf_n125
        rw [show (31 : Int32) = nI 31 from rfl, isR0 B3.1 (by omega) q2' q1 31 (by decide) (by decide), q_b_some, if_pos (show (0 : Int32) = 0 from rfl), show (32 : Int32) = nI 32 from rfl, isR1 B3.1 (by omega) q2', q_b_some, if_neg i_10, if_neg i_10]
        rcases conn_both (r := 32) E3 a3 B3 h2 (by omega) q2' (Or.inr rfl) hb3 hb8 N M (by omega) (by omega) 14 (fun y => y) (fun _ => ixV x2) (nI n4) with ⟨hlt, u3, v4, e4, e5, a5, B5, b5, b6⟩ | xg
        · have e4 : fX5_take 17 u2 = some ((), u3) := e4
          obtain ⟨u4, e6, a6, b7⟩ := add2_st a5 (by omega) 14 0
          have hl6 : (aimW x1 (ws ++ (wds es ++ [nI (k + 10)])) ++ [14, 0]).length = (aimW x1 (ws ++ (wds es ++ [nI (k + 10)]))).length + 1 + 1 := by rw [List.length_append]; rfl
          unfold fX5_readCondition_n170
          rw [e4, q_b_some, a5.2.1, if_pos (isP_c hP), e6, q_b_some, a6.2.1, if_pos (isP_c hP), here_st a6, q_b_some, hl6, nI_s1, q_lt_eq, q_lt_eq, nI_1, e5, q_b_some]
          have d1 := frP1_t c1 (frP1_t b5 b7)
          have d2 := frC_t (frC_1 b2) (frC_t f3 (frC_1 b6))
          rcases ih N M (some ((aimW x1 (ws ++ (wds es ++ [nI (k + 10)]))).length + 1)) x2 (n4 + 1) (t1 + 1) (adN ns L1) (adN ns L2) _ _ _ _ u4 v4 (by omega) (by omega) (by omega) (EC_frC hP E d1 d2) a6 B5 (adN_5 ns L2 o1 hL) (by omega) (by rw [hl6, hlw1]; omega) (by rw [hl3]; omega) (by omega) (fun i hi => by cases hi; rw [hl6]; omega) (fun i hi => by have := hx2 i hi; rw [hl6]; omega) (by rw [b6.2.1 30 (by omega) (by omega) (by omega), hb3]) with h | h
          · exact Or.inl (CQ_t (op := 2) k1 (Or.inr rfl) d1 d2 (by omega) o1 (fun _ => rfl) (fun _ => rfl) (by rw [hl6, hlw1]; omega) (by rw [hl3]; omega) g1 y1 h)
          · exact Or.inr (XG_t d1 (frD_C d2) h)
        · exact Or.inr (XG_t c1 (frD_C (frC_t (frC_1 b2) f3)) xg)
      · have n17 : ¬ km r = 17 := km_ne (b := 32) q1 (Or.inr (Or.inl (by omega))) r32
        obtain ⟨u3, f2, a4, b4⟩ := aim_st a3 (by rw [hlw1]; omega) x2 (fun i hi => by have := hx2 i hi; rw [hlw1]; omega)
        have hlw2 := aimW_len x2 (aimW x1 (ws ++ (wds es ++ [nI (k + 10)])))
        have c2 := frP1_t c1 b4
        have E3 := EC_frC hP E2 b4 (frC_1 (frR1_r s v1))
        have q3' : u3.1 26 t1 = km r := by rw [(fr26 hP b4).1, q3]
        rw [if_neg n17, a3.2.1, if_pos (isP_c hP), f2, q_b_some, a4.2.2.2.1, q3']
        by_cases r31 : r = 31
        · subst r31
          obtain ⟨v3, e3, B3, f3⟩ := emit16 B1 (by omega) (fX11_tellIf_n102 (q_it M fX11_tellIf_h12 (fun _ _ => none)))
          have hl3 : (landT (nI (2000 * s + ((cs ++ (trs es ++ [((14, nI k, 0) : Tr)])).length + 1))) c5 (cs ++ (trs es ++ [((14, nI k, 0) : Tr)]) ++ [(16, 0, hdC s c6)])).length = cs.length + es.length + 2 := by rw [landT_len, List.length_append, hl1]; rfl
          have q2' : v3.1 3 t1 = nI 31 := by rw [f3.1 3 (by decide) (by decide) (by decide) (by decide) (by decide), q2]
          have hb3 : v3.1 0 30 = nI b := by rw [f3.2.1 30 (by omega) (by omega) (by omega) (by omega) (by omega), hb1]
          have E4 := EC_frC hP E3 (frP1_r P u3) f3
          rw [if_pos (show km 31 = 16 from rfl), if_pos (show (31 : Nat) = 31 from rfl), if_neg i_10, e3]
          unfold fX11_tellIf_n102 fX11_tellIf_n120 fX11_tellIf_n125 fX5_readCondition_n139
          rw [show (31 : Int32) = nI 31 from rfl, isR1 B3.1 (by omega) q2', q_b_some, if_neg i_10, if_neg i_10, if_neg i_10]
          rcases conn_both (r := 31) E4 a4 B3 h2 (by omega) q2' (Or.inl rfl) hb3 hb8 N M (by omega) (by omega) 15 (fun _ => -1) (fun y => y) (nI n4) with ⟨hlt, u4, v4, e4, e5, a5, B5, b5, b6⟩ | xg
          · have e4 : fX5_take 16 u3 = some ((), u4) := e4
            obtain ⟨u5, e6, a6, b7⟩ := add2_st a5 (by omega) 15 0
            have hl6 : (aimW x2 (aimW x1 (ws ++ (wds es ++ [nI (k + 10)]))) ++ [15, 0]).length = (aimW x2 (aimW x1 (ws ++ (wds es ++ [nI (k + 10)])))).length + 1 + 1 := by rw [List.length_append]; rfl
            unfold fX5_readCondition_n170
            rw [e4, q_b_some, a5.2.1, if_pos (isP_c hP), e6, q_b_some, a6.2.1, if_pos (isP_c hP), here_st a6, q_b_some, hl6, nI_s1, q_lt_eq, q_lt_eq, nI_1, e5, q_b_some]
            have d1 := frP1_t c2 (frP1_t b5 b7)
            have d2 := frC_t (frC_1 b2) (frC_t f3 (frC_1 b6))
            rcases ih N M none (some ((aimW x2 (aimW x1 (ws ++ (wds es ++ [nI (k + 10)])))).length + 1)) (n4 + 1) (t1 + 1) (adN ns L1) (adN ns L2) _ _ _ _ u5 v4 (by omega) (by omega) (by omega) (EC_frC hP E d1 d2) a6 B5 (adN_5 ns L2 o1 hL) (by omega) (by rw [hl6, hlw2, hlw1]; omega) (by rw [hl3]; omega) (by omega) (fun i hi => by cases hi) (fun i hi => by cases hi; rw [hl6]; omega) (by rw [b6.2.1 30 (by omega) (by omega) (by omega), hb3]) with h | h
            · exact Or.inl (CQ_t (op := 1) k1 (Or.inl rfl) d1 d2 (by omega) o1 (fun _ => rfl) (fun _ => rfl) (by rw [hl6, hlw2, hlw1]; omega) (by rw [hl3]; omega) g1 y1 h)
            · exact Or.inr (XG_t d1 (frD_C d2) h)
          · exact Or.inr (XG_t c2 (frD_C (frC_t (frC_1 b2) f3)) xg)
        · have n16 : ¬ km r = 16 := km_ne (b := 31) q1 (Or.inr (Or.inl (by omega))) r31
          obtain ⟨v3, e3, B3, f3⟩ := emit15 B1 (by omega) (fX11_tellIf_n102 (q_it M fX11_tellIf_h12 (fun _ _ => none)))
          have hl3 : (cs ++ (trs es ++ [((14, nI k, 0) : Tr)]) ++ [(15, 0, hdC s c5)]).length = cs.length + es.length + 2 := by rw [List.length_append, hl1]; rfl
          have q2' : v3.1 3 t1 = nI r := by rw [f3.1 3 (by decide) (by decide) (by decide) (by decide) (by decide), q2]
          obtain ⟨N', rfl⟩ : ∃ X, N = X + 1 := ⟨N - 1, by omega⟩
          obtain ⟨M', rfl⟩ : ∃ X, M = X + 1 := ⟨M - 1, by omega⟩
          rw [if_neg n16, if_neg r31, if_pos (show (0 : Int32) = 0 from rfl), e3]
          unfold fX11_tellIf_n102 fX11_tellIf_n125 fX5_readCondition_n139 fX5_readCondition_n170
          rw [if_pos (show (0 : Int32) = 0 from rfl), q_lt_eq, show (31 : Int32) = nI 31 from rfl, isR0 B3.1 (by omega) q2' q1 31 (by decide) r31, q_b_some, if_pos (show (0 : Int32) = 0 from rfl), show (32 : Int32) = nI 32 from rfl, isR0 B3.1 (by omega) q2' q1 32 (by decide) r32, q_b_some, if_pos (show (0 : Int32) = 0 from rfl), if_pos (show (0 : Int32) = 0 from rfl), q_itS, fX5_readCondition_h9, q_itS, fX11_tellIf_h12, if_pos (show (0 : Int32) = 0 from rfl), ite_self]
          refine Or.inl ⟨u3, v3, t1, [(es, k, 0)], ns, rfl, rfl, ⟨k1, Or.inl ⟨rfl, rfl⟩⟩, a4, B3, c2, frC_t (frC_1 b2) f3, h1, h2, o1, ?_, ?_, fun c nd r hr x hx => ?_, fun r hr => ?_⟩
          · show (aimW x2 (aimW x1 (ws ++ (wds es ++ [nI (k + 10)])))).length ≤ _
            rw [hlw2, hlw1]; omega
          · show (cs ++ (trs es ++ [((14, nI k, 0) : Tr)]) ++ [(15, 0, hdC s c5)]).length ≤ _
            rw [hl3]; omega
          · rw [List.mem_singleton.mp hr] at hx
            exact g1 c nd x hx
          · rw [List.mem_singleton.mp hr]; exact y1
    · rw [e1, e2, q_b_some, a2.2.2.2.1, if_neg (nI_nle (by have := a2.2.1; omega) (by have := a2.2.2.1; omega))]
      exact Or.inr ⟨f, p, u1, v1, m, rfl, a1, b1, rfl, a2, frD_C (frC_1 b2)⟩
