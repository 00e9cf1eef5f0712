/-! units at every depth, expressions -/
theorem isR0 {s t op r : Nat} {L : Nat × Int32} {cs : List Tr} {W : List Nat} {v : q_W} (h : PR s t L cs W op v) (ht : t ≤ 500) (hr : v.1 3 t = nI r) (hrr : rOK r) (k : Nat) (hk : k < 2 ^ 31) (h0 : r ≠ k) : fX11_is (nI k) v = some (0, v) := by
  rw [isR h ht hr hrr k hk, if_neg h0]
theorem isR1 {s t op : Nat} {L : Nat × Int32} {cs : List Tr} {W : List Nat} {v : q_W} (h : PR s t L cs W op v) (ht : t ≤ 500) {k : Nat} (hr : v.1 3 t = nI k) : fX11_is (nI k) v = some (1, v) := by
  rw [is_st h ht, hr, if_pos rfl]
/-- what comes behind a sum is no sign: the reference's loop -/
theorem z_end {s t d r : Nat} {L : Nat × Int32} {cs : List Tr} {W : List Nat} {v : q_W} (hR : PR s t L cs W d v) (ht : t ≤ 500) (h3 : v.1 3 t = nI r) (hrr : rOK r) (hno : noOp v t) (N : Nat) (b o : Int32) : fX11_expression_n183 (R9 N) b o v = fX11_expression_n233 (R9 N) b o 0 v := by
  unfold noOp noStr at hno
  rw [h3] at hno
  obtain ⟨h8, h9, h10, h15, h16⟩ := hno
  have i8 : fX11_is 8 v = some (0, v) := isR0 hR ht h3 hrr 8 (by decide) (fun c => h8 (by rw [c]; rfl))
  have i9 : fX11_is 9 v = some (0, v) := isR0 hR ht h3 hrr 9 (by decide) (fun c => h9 (by rw [c]; rfl))
  have i10 : fX11_is 10 v = some (0, v) := isR0 hR ht h3 hrr 10 (by decide) (fun c => h10 (by rw [c]; rfl))
  have i15 : fX11_is 15 v = some (0, v) := isR0 hR ht h3 hrr 15 (by decide) (fun c => h15 (by rw [c]; rfl))
  have i16 : fX11_is 16 v = some (0, v) := isR0 hR ht h3 hrr 16 (by decide) (fun c => h16 (by rw [c]; rfl))
  unfold fX11_expression_n183
  rw [i8, q_b_some, if_pos rfl, i9, q_b_some, if_pos rfl, i10, q_b_some, if_pos rfl, i15, q_b_some, if_pos rfl, i16, q_b_some, if_pos rfl]
/-- a parenthesis closes: the reference -/
theorem close_st {s t d : Nat} {L : Nat × Int32} {cs : List Tr} {W pd : List Nat} {v : q_W} (hR : PR s t L cs (W ++ [6] ++ pd) (d + 1) v) (ht : t ≤ 500) (hc : cs.length + pd.length ≤ 1400) (h3 : v.1 3 t = nI 7) (hpd : pdOK pd) (N M o : Nat) (b : Int32) (ho : o ≤ 10) : (t < 500 ∧ ∃ v', Z31 N (M + 1) b (nI (o + 1)) v = Y31k q_N N M b (nI o) v' ∧ PR s (t + 1) L (cs ++ trs (opIts pd)) W d v' ∧ frR1 s v v') ∨ (t = 500 ∧ ∀ M', M = M' + 1 → ∃ v' m, Z31 N (M + 1) b (nI (o + 1)) v = some ((), v') ∧ FR s 2 (v.1 4 t) m v' ∧ frR1 s v v') := by
  have i7 : fX11_is 7 v = some (1, v) := isR1 hR ht h3
  obtain ⟨v1, e1, a1, b1⟩ := comeAll 0 (Or.inr ⟨W, 6, rfl, Or.inl rfl⟩) hR (by omega) (fun k hk => ⟨hpd.2 k hk, Or.inr rfl⟩)
  obtain ⟨w1, w2, w3⟩ := wt_pop a1.2.2.2.2.2.2.1
  have h2 : PR s t L (cs ++ trs (opIts pd)) W d (q_sI (q_sI v1 0 38 (nI W.length)) 0 12 (nI d)) := by
    obtain ⟨c1, c2, c3, c4, c5, c6, c7, c8⟩ := a1
    refine ⟨c1, by rw [sI_k _ _ _ _ _ (by decide), sI_k _ _ _ _ _ (by decide), c2], by rw [sI_k _ _ _ _ _ (by decide), sI_k _ _ _ _ _ (by decide), c3], by rw [sI_k _ _ _ _ _ (by decide), sI_k _ _ _ _ _ (by decide), c4], fun g => by rw [sI_k _ _ _ _ _ (by decide), sI_k _ _ _ _ _ (by decide), c5 g], ⟨by rw [sI_k _ _ _ _ _ (by decide), sI_k _ _ _ _ _ (by decide), c6.1], fun i hi => by rw [sI_cell _ _ _ _ 12 (by decide), sI_cell _ _ _ _ 13 (by decide), sI_cell _ _ _ _ 14 (by decide), sI_cell _ _ _ _ 12 (by decide), sI_cell _ _ _ _ 13 (by decide), sI_cell _ _ _ _ 14 (by decide)]; exact c6.2 i hi⟩, ⟨by rw [sI_k _ _ _ _ _ (by decide), sI_same], by omega, fun i hi => ?_⟩, sI_same _ _ _ _⟩
    rw [sI_cell _ _ _ _ _ (by decide), sI_cell _ _ _ _ _ (by decide), c7.2.2 i (by rw [List.length_append]; show i < W.length + 1; omega), snoc_lt hi]
  have f2 := frR1_t b1 (frR1_t (frR1_0 s v1 38 (nI W.length) (by omega)) (frR1_0 s _ 12 (nI d) (by omega)))
  have e12 : (q_sI v1 0 38 (nI W.length)).1 0 12 - 1 = nI d := by rw [sI_k _ _ _ _ _ (by decide), a1.2.2.2.2.2.2.2, nI_pred]
  have eZ : Z31 N (M + 1) b (nI (o + 1)) v = q_b (fX11_next (q_sI (q_sI v1 0 38 (nI W.length)) 0 12 (nI d))) fun _ w9 => q_b (fX11_turnsRound w9) fun _ w11 => Z31 N M b (nI o) w11 := by
    unfold Z31
    rw [q_itS, fX11_expression_h131, i7, q_b_some, if_neg i_10, if_neg (nI_nle (by omega) (by omega)), e1, q_b_some, w1, nI_pred, q_lt_eq, e12, q_lt_eq, pk_m1, q_lt_eq]
  rw [eZ]
  have hl : (trs (opIts pd)).length = pd.length := by rw [trs_len]; exact (opIts_len pd).2
  by_cases h5 : t = 500
  · right
    refine ⟨h5, fun M' hM' => ?_⟩
    subst h5 hM'
    obtain ⟨v3, e3, a3, b3⟩ := next_room h2 40 (by omega) (by omega) (by rw [List.length_append, hl]; omega)
    obtain ⟨v4, m4, e4, a4, b4⟩ := turnF a3
    obtain ⟨v5, m5, e5, a5, b5⟩ := Z31_F (N := N) (M := M') a4 b (nI o)
    rw [e3, q_b_some, e4, q_b_some, e5]
    refine ⟨v5, m5, rfl, ?_, frR1_t f2 (frR1_t b3 (frR1_t b4 b5))⟩
    rw [(frR4 f2).2.1] at a5
    exact a5
  · left
    obtain ⟨v3, e3, a3, b3⟩ := next_st h2 (by omega)
    rw [e3, q_b_some]
    exact ⟨by omega, v3, rfl, a3, frR1_t f2 b3⟩
theorem unit_deep {P T s t d : Nat} {nl : List (List Nat)} {sl : Nat → Nat} {L1 L2 : Nat × Int32} {ws : List Int32} {cs : List Tr} {W : List Nat} {u v : q_W} (E : EC T s nl sl u v) (hC : PC P t L1 ws u) (hR : PR s t L2 cs W d v) (ht : t ≤ T) (hc : cs.length ≤ 2 * t + 30) (hW : W.length ≤ 3 * d + 3) (hd : d = 6) (N9 M : Nat) (o : Nat) (b : Int32) (rU rS : Int32 → q_W → Option (Unit × q_W)) {r : Nat} (hr : r = 6 ∨ r = 9) (h2 : u.1 26 t = km r) (h3 : v.1 3 t = nI r) (hp : v.1 4 t = u.1 27 t) : XF P s u v (fX5_readUnit rU rS (nI d) u) (X20 N9 (M + 1 + 1) b (nI o) v) := by
  rcases pre_st E hC hR ht hc hW (by omega) N9 M o b hr h3 with ⟨c, _⟩ | ⟨_, v1, e1, a1, b1⟩
  · omega
  · obtain ⟨u1, e2, a2, b2⟩ := fail_st hC 2 (by omega)
    have e2 : fX5_fail 2 u = some ((), u1) := e2
    have n116 : fX5_readUnit_n116 rU rS (nI d) u = some ((), u1) := by
      unfold fX5_readUnit_n116
      rw [hd, if_neg (by decide), e2, q_b_some]
    refine ⟨2, _, u1, v1, 40, ?_, a2, b2, e1, by rw [← hp]; exact a1, b1⟩
    unfold fX5_readUnit
    rw [hC.2.2.2.1, h2, n116]
    rcases hr with rfl | rfl
    · rw [if_neg (show ¬ km 6 = 2 by decide), if_neg (show ¬ km 6 = 1 by decide), if_neg (show ¬ km 6 = 45 by decide), if_pos (show km 6 = 40 from rfl)]
    · rw [if_neg (show ¬ km 9 = 2 by decide), if_neg (show ¬ km 9 = 1 by decide), if_pos (show km 9 = 45 from rfl)]
theorem unit_pre {P T s n d : Nat} {nl : List (List Nat)} {sl : Nat → Nat} (hd : d < 6) (hU : UL P T s nl sl (n + 1) (d + 1)) (hS : SLs P T s nl sl (n + 1) (d + 1)) (N9 M o t : Nat) (L1 L2 : Nat × Int32) (ws : List Int32) (cs : List Tr) (W : List Nat) (u v : q_W) (b : Int32) (E : EC T s nl sl u v) (hC : PC P t L1 ws u) (hR : PR s t L2 cs W d v) (hL : L2.1 ≤ 5) (ht : t ≤ T) (hw : ws.length ≤ 3 * t + 30) (hc : cs.length ≤ 2 * t + 30) (hW : W.length ≤ 3 * d + 3) (hN9 : 501 < N9 + t) (hM : 8 ≤ M + 1 + d) (ho : o ≤ d) {r : Nat} (hr : r = 6 ∨ r = 9) (h2 : u.1 26 t = km r) (h3 : v.1 3 t = nI r) (hp : v.1 4 t = u.1 27 t) (hlt : t < 500 → t < T) : XOK P T s t d L1 L2 ws cs W nl sl u v [] 0 (bU d) 0 N9 (fun K N M w => Y31k K N M b (nI o) w) (fun t' => t < t') (q_unit (n + 1 + 1) (nI d) u) (X20 N9 (M + 1) b (nI o) v) ∨ XF P s u v (q_unit (n + 1 + 1) (nI d) u) (X20 N9 (M + 1) b (nI o) v) := by
  have hT := E.1.1
  have hNb : q_N = 4000000000 := rfl
  obtain ⟨M, rfl⟩ : ∃ X, M = X + 1 := ⟨M - 1, by omega⟩
  have hcu : q_unit (n + 1 + 1) (nI d) u = (if r = 9 then (q_b (fX5_take 45 u) fun _ w2 => q_b (q_unit (n + 1) (nI (d + 1)) w2) fun _ w4 => if cC (w4.2.1 23 11) = 4 then q_b (fX4_add (w4.2.1 23 11) 4 w4) fun _ w7 => some ((), w7) else none) else (q_b (fX5_take 40 u) fun _ w9 => q_b (fX5_readSum (fX5_readProduct (q_unit (n + 1))) (nI (d + 1)) w9) fun _ w11 => q_b (fX5_take 41 w11) fun _ w13 => some ((), w13))) := by
    rw [q_unit_S]
    unfold fX5_readUnit fX5_readUnit_n116
    rw [hC.2.2.2.1, h2, if_pos (show nI d < 6 by rw [show (6 : Int32) = nI 6 from rfl, nI_ltI (by omega) (by omega)]; exact hd), nI_1]
    rcases hr with rfl | rfl
    · rw [if_neg (show ¬ km 6 = 2 by decide), if_neg (show ¬ km 6 = 1 by decide), if_neg (show ¬ km 6 = 45 by decide), if_pos (show km 6 = 40 from rfl), if_neg (show ¬ km 6 = 45 by decide), if_neg (show ¬ (6 : Nat) = 9 by decide)]
    · rw [if_neg (show ¬ km 9 = 2 by decide), if_neg (show ¬ km 9 = 1 by decide), if_pos (show km 9 = 45 from rfl), if_pos (show km 9 = 45 from rfl), if_pos (show (9 : Nat) = 9 from rfl)]
  rw [hcu]
  rcases pre_st E hC hR ht hc hW (by omega) N9 M o b hr h3 with ⟨_, h5, v1, e1, a1, b1⟩ | ⟨h5, v1, e1, a1, b1⟩
  · have hlt' := hlt h5
    obtain ⟨u1, e2, a2, b2⟩ := take_st hC h5 (k := u.1 26 t) rfl
    rw [h2] at e2
    have E1 := EC_fr hC.1 E b2 b1
    rcases hr with rfl | rfl
    · -- a parenthesis
      rw [if_neg (show ¬ (6 : Nat) = 9 by decide), show (40 : Int32) = km 6 from rfl, e2, q_b_some, e1]
      rw [if_pos rfl] at a1
      rw [if_pos rfl]
      rcases hS N9 (M + 1) (o + 1) (t + 1) L1 L2 ws cs (W ++ [6]) u1 v1 b E1 a2 a1 hL (by omega) (by omega) (by omega) (by rw [List.length_append]; show W.length + 1 ≤ _; omega) (Or.inr ⟨W, rfl⟩) (by omega) (by omega) (by omega) with ⟨pd, hpd, ok⟩ | bad
      · obtain ⟨u2, t2, es, ns, v2, K2, N2, M2, f1, f2, f3, f4, f5, f6, f7, f8, f9, f10, f11, f12, f13, f14, f15, f16⟩ := ok
        have f7 : X20 N9 (M + 1) b (nI (o + 1)) v1 = Z31 N2 M2 b (nI (o + 1)) v2 := f7
        have hlo := opIts_len pd
        have f13' : (wds es).length + pd.length ≤ 2 * (t2 - (t + 1)) + 0 := f13
        have f14' : es.length + pd.length ≤ t2 - (t + 1) + 0 := f14
        obtain ⟨M2, rfl⟩ : ∃ X, M2 = X + 1 := ⟨M2 - 1, by omega⟩
        have E2 := EC_fr hC.1 E1 f3 f9
        obtain ⟨r2, q1, q2, q3, q4, q5, q6, q7⟩ := tkn E2 f5
        clear q5 q6
        have hl2 : (cs ++ trs es).length = cs.length + es.length := by rw [List.length_append, trs_len]
        rw [f1, q_b_some, f7]
        by_cases h7 : r2 = 7
        · subst h7
          rcases close_st f8 (by omega) (by rw [hl2]; omega) q2 hpd N2 M2 o b (by omega) with ⟨g5, v3, g1, g2, g3⟩ | ⟨g5, g⟩
          · have hlt2 := q7 (by decide) (by decide) g5
            obtain ⟨u3, k1, k2, k3⟩ := take_st f2 g5 (k := km 7) q3
            rw [show (41 : Int32) = km 7 from rfl, k1, q_b_some, g1]
            refine Or.inl ⟨u3, t2 + 1, es ++ opIts pd, ns, v3, q_N, N2, M2, rfl, ?_, frP1_t b2 (frP1_t f3 k3), by omega, by omega, f6, rfl, ?_, frR1_t b1 (frR1_t f9 g3), by omega, by omega, by omega, ?_, ?_, fun hn nd x hx => ?_, fun h hh => ?_, by omega⟩
            · rw [opIts_nil, List.append_nil]; exact k2
            · rw [List.append_nil, trs_app, ← List.append_assoc]; exact g2
            · rw [wds_app, List.length_append, hlo.1]; show _ + 0 ≤ _; omega
            · rw [List.length_append, hlo.2]; show _ + 0 ≤ _; omega
            · rcases List.mem_append.mp hx with hx | hx
              · exact f15 hn nd x hx
              · unfold opIts at hx
                obtain ⟨k, hk, rfl⟩ := List.mem_map.mp hx
                exact opIt_gI _ _ (hpd.2 k (List.mem_reverse.mp hk))
            · rw [opIts_nil, List.append_nil]
              exact f16.1 h (by unfold bU at hh ⊢; omega)
          · subst g5
            obtain ⟨M3, hM3⟩ : ∃ X, M2 = X + 1 := ⟨M2 - 1, by omega⟩
            obtain ⟨v3, m3, g1, g2, g3⟩ := g M3 hM3
            obtain ⟨u3, k1, k2, k3⟩ := take_room f2 (k := km 7) q3
            rw [show (41 : Int32) = km 7 from rfl, k1, q_b_some, g1]
            refine Or.inr ⟨2, _, u3, v3, m3, rfl, k2, frP1_t b2 (frP1_t f3 k3), rfl, ?_, frR1_t b1 (frR1_t f9 g3)⟩
            rw [← q4]; exact g2
        · obtain ⟨u3, k1, k2, k3⟩ := take_no f2 (k := km 7) (by rw [q3]; exact km_ne q1 (Or.inl (by omega)) h7)
          have i7 : fX11_is 7 v2 = some (0, v2) := isR0 f8 (by omega) q2 q1 7 (by decide) h7
          have hno2 : noOp v2 t2 := by unfold noOp noStr at *; rw [(frR4 f9).1]; exact f16.2.2
          obtain ⟨v3, g1, g2, g3⟩ := failR_st f8 (by omega) 1 (by omega) 40 f8.2.2.2.2.2.2.1.2.1 (by omega) (by rw [hl2]; omega)
          have g1 : fX11_fail 1 v2 = some ((), v3) := g1
          obtain ⟨v4, m4, g4, g5, g6⟩ := n247_F g2 b
          have eZ : Z31 N2 (M2 + 1) b (nI (o + 1)) v2 = some ((), v4) := by
            have := z_end f8 (by omega) q2 q1 hno2 N2 b (nI (o + 1))
            unfold Z31
            rw [q_itS, fX11_expression_h131, i7, q_b_some, if_pos rfl, this]
            unfold fX11_expression_n233
            rw [if_pos rfl, if_neg (nI_nle (by omega) (by omega)), g1, q_b_some, g4]
          rw [show (41 : Int32) = km 7 from rfl, k1, q_b_some, eZ]
          refine Or.inr ⟨1, _, u3, v4, m4, rfl, k2, frP1_t b2 (frP1_t f3 k3), rfl, ?_, frR1_t b1 (frR1_t f9 (frR1_t g3 g6))⟩
          rw [← q4]; exact g5
      · obtain ⟨f, p, u2, v2, m, f1, f2, f3, f4, f5, f6⟩ := bad
        obtain ⟨u3, k1, k2, k3⟩ := take_F f2 41
        rw [f1, q_b_some, k1, q_b_some, f4]
        exact Or.inr ⟨f, p, u3, v2, m, rfl, k2, frP1_t b2 (frP1_t f3 k3), rfl, f5, frR1_t b1 f6⟩
    · -- a minus
      rw [if_pos (show (9 : Nat) = 9 from rfl), show (45 : Int32) = km 9 from rfl, e2, q_b_some, e1]
      rw [if_neg (show ¬ (9 : Nat) = 6 by decide)] at a1
      rw [if_neg (show ¬ (9 : Nat) = 6 by decide), show o + 0 = o from rfl]
      rcases hU N9 (M + 1) o (t + 1) L1 L2 ws cs (W ++ [1]) u1 v1 b E1 a2 a1 hL (by omega) (by omega) (by omega) (by rw [List.length_append]; show W.length + 1 ≤ _; omega) (by omega) (by omega) (by omega) with ok | bad
      · obtain ⟨u2, t2, es, ns, v2, K2, N2, M2, f1, f2, f3, f4, f5, f6, f7, f8, f9, f10, f11, f12, f13, f14, f15, f16⟩ := ok
        have f7 : X20 N9 (M + 1) b (nI o) v1 = Y31k K2 N2 M2 b (nI o) v2 := f7
        rw [opIts_nil, List.append_nil] at f2
        rw [List.append_nil] at f8
        have f13' : (wds es).length + 0 ≤ 2 * (t2 - (t + 1)) + 0 := f13
        have f14' : es.length + 0 ≤ t2 - (t + 1) + 0 := f14
        obtain ⟨K2, rfl⟩ : ∃ X, K2 = X + 1 := ⟨K2 - 1, by omega⟩
        have hl2 : (cs ++ trs es).length = cs.length + es.length := by rw [List.length_append, trs_len]
        obtain ⟨v3, g1, g2, g3⟩ := turn_pop f8 (by rw [hl2]; omega) K2
        obtain ⟨u3, k1, k2, k3⟩ := add_st f2 (by rw [List.length_append]; omega) 4
        rw [f1, q_b_some, f2.2.1, if_pos (isP_c hC.1), k1, q_b_some, f7]
        have eY : Y31k (K2 + 1) N2 M2 b (nI o) v2 = Y31k K2 N2 M2 b (nI o) v3 := by
          unfold Y31k
          rw [g1]
        rw [eY]
        refine Or.inl ⟨u3, t2, es ++ [([4], 7, 0, 0)], ns, v3, K2, N2, M2, rfl, ?_, frP1_t b2 (frP1_t f3 k3), by omega, f5, f6, rfl, ?_, frR1_t b1 (frR1_t f9 g3), by omega, by omega, by omega, ?_, ?_, fun hn nd x hx => ?_, fun h hh => ?_, by omega⟩
        · rw [opIts_nil, List.append_nil, wds_app, wds_one, ← List.append_assoc]; exact k2
        · rw [List.append_nil, trs_app, ← List.append_assoc]; exact g2
        · rw [wds_app, List.length_append, wds_one]; show _ + 1 + 0 ≤ _; omega
        · rw [List.length_append]; show _ + 1 + 0 ≤ _; omega
        · rcases List.mem_append.mp hx with hx | hx
          · exact f15 hn nd x hx
          · rw [List.mem_singleton.mp hx]
            exact Or.inr (Or.inr (Or.inl rfl))
        · rw [opIts_nil, List.append_nil] at f16 ⊢
          exact HG_app (show HG 40 [([4], 7, 0, 0)] (h + 1) (h + 1) from ⟨by show 1 ≤ h + 1; omega, by show h + 1 - 1 + 1 ≤ 40; unfold bU at hh; omega, by show h + 1 - 1 + 1 = h + 1; omega⟩) es _ (f16.1 h (by unfold bU at hh ⊢; omega))
      · obtain ⟨f, p, u2, v2, m, f1, f2, f3, f4, f5, f6⟩ := bad
        obtain ⟨u3, k1, k2, k3⟩ := add_F f2 4
        rw [f1, q_b_some, f2.2.1, if_pos (isP_c hC.1), k1, q_b_some, f4]
        exact Or.inr ⟨f, p, u3, v2, m, rfl, k2, frP1_t b2 (frP1_t f3 k3), rfl, f5, frR1_t b1 f6⟩
  · have h5 : t = 500 := by omega
    subst h5
    obtain ⟨u1, e2, a2, b2⟩ := take_room hC (k := u.1 26 500) rfl
    rw [h2] at e2
    rcases hr with rfl | rfl
    · obtain ⟨u2, k1, k2, k3⟩ := sum_F (n := n) a2 (nI (d + 1))
      obtain ⟨u3, k4, k5, k6⟩ := take_F k2 41
      rw [if_neg (show ¬ (6 : Nat) = 9 by decide), show (40 : Int32) = km 6 from rfl, e2, q_b_some, k1, q_b_some, k4, q_b_some, e1]
      exact Or.inr ⟨2, _, u3, v1, 40, rfl, k5, frP1_t b2 (frP1_t k3 k6), rfl, by rw [← hp]; exact a1, b1⟩
    · obtain ⟨u2, k1, k2, k3⟩ := unit_F a2 (q_unit n) (fX5_readSum (fX5_readProduct (q_unit n))) (nI (d + 1))
      obtain ⟨u3, k4, k5, k6⟩ := add_F k2 4
      rw [if_pos (show (9 : Nat) = 9 from rfl), show (45 : Int32) = km 9 from rfl, e2, q_b_some, q_unit_S, k1, q_b_some, k2.2.1, if_pos (isP_c hC.1), k4, q_b_some, e1]
      exact Or.inr ⟨2, _, u3, v1, 40, rfl, k5, frP1_t b2 (frP1_t k3 k6), rfl, by rw [← hp]; exact a1, b1⟩
theorem UL_all {P T s : Nat} {nl : List (List Nat)} {sl : Nat → Nat} : ∀ k d n, d + k = 6 → k ≤ n → UL P T s nl sl (n + 1) d := by
  intro k
  induction k with
  | zero =>
    intro d n hd hn N9 M o t L1 L2 ws cs W u v b E hC hR hL ht hw hc hW hN9 hM ho
    obtain ⟨M, rfl⟩ : ∃ X, M = X + 1 + 1 := ⟨M - 2, by omega⟩
    obtain ⟨r, q1, q2, q3, q4, q5, q6, q7⟩ := tkn E ht
    rw [q_unit_S]
    by_cases c2 : r = 2
    · subst c2
      obtain ⟨y, y1, y2, y3⟩ := q6 rfl
      exact unit_int E hC hR ht hw hc hW (by clear q5 q6; omega) N9 _ o b _ _ q3 q2 q4 y1 y2 y3
    · by_cases c1 : r = 1
      · subst c1
        obtain ⟨l, y1, y2, y3⟩ := q5 rfl
        exact unit_name E hC hR hL ht hw hc hW (by clear q5 q6; omega) N9 _ o b _ _ q3 q2 q4 y1 y2 y3 (q7 (by decide) (by decide))
      · clear q5 q6
        by_cases c6 : r = 6 ∨ r = 9
        · exact Or.inr (unit_deep E hC hR ht hc hW (by omega) N9 M o b _ _ c6 q3 q2 q4)
        · exact Or.inr (unit_no E hC hR ht hc hW (by omega) N9 _ _ b _ _ q1 q3 q2 q4 c1 c2 (fun c => c6 (Or.inl c)) (fun c => c6 (Or.inr c)))
  | succ k ih =>
    intro d n hd hn N9 M o t L1 L2 ws cs W u v b E hC hR hL ht hw hc hW hN9 hM ho
    obtain ⟨n, rfl⟩ : ∃ X, n = X + 1 := ⟨n - 1, by omega⟩
    obtain ⟨M, rfl⟩ : ∃ X, M = X + 1 := ⟨M - 1, by omega⟩
    have hU := ih (d + 1) n (by omega) (by omega)
    have hS := sum_ok (prod_ok hU (by omega)) (by omega)
    obtain ⟨r, q1, q2, q3, q4, q5, q6, q7⟩ := tkn E ht
    by_cases c2 : r = 2
    · subst c2
      obtain ⟨y, y1, y2, y3⟩ := q6 rfl
      rw [q_unit_S]
      exact unit_int E hC hR ht hw hc hW (by clear q5 q6; omega) N9 _ o b _ _ q3 q2 q4 y1 y2 y3
    · by_cases c1 : r = 1
      · subst c1
        obtain ⟨l, y1, y2, y3⟩ := q5 rfl
        rw [q_unit_S]
        exact unit_name E hC hR hL ht hw hc hW (by clear q5 q6; omega) N9 _ o b _ _ q3 q2 q4 y1 y2 y3 (q7 (by decide) (by decide))
      · clear q5 q6
        by_cases c6 : r = 6 ∨ r = 9
        · exact unit_pre (by omega) hU hS N9 M o t L1 L2 ws cs W u v b E hC hR hL ht hw hc hW (by omega) (by omega) ho c6 q3 q2 q4 (q7 (by omega) (by omega))
        · rw [q_unit_S]
          exact Or.inr (unit_no E hC hR ht hc hW (by omega) N9 _ _ b _ _ q1 q3 q2 q4 c1 c2 (fun c => c6 (Or.inl c)) (fun c => c6 (Or.inr c)))
/-- an expression is read alike -/
theorem expr_ok {P T s t : Nat} {nl : List (List Nat)} {sl : Nat → Nat} {L1 L2 : Nat × Int32} {ws : List Int32} {cs : List Tr} {u v : q_W} (E : EC T s nl sl u v) (hC : PC P t L1 ws u) (hR : PR s t L2 cs [] 0 v) (hL : L2.1 ≤ 5) (ht : t ≤ T) (hw : ws.length ≤ 3 * t + 30) (hc : cs.length ≤ 2 * t + 30) : (∃ u' v' t' es ns, q_sum 0 u = some ((), u') ∧ fX11_expression v = some ((), v') ∧ PC P t' (adN ns L1) (ws ++ wds es) u' ∧ PR s t' (adN ns L2) (cs ++ trs es) [] 0 v' ∧ frP1 P u u' ∧ frR1 s v v' ∧ t < t' ∧ t' ≤ T ∧ okNs ns ∧ (wds es).length ≤ 2 * (t' - t) ∧ es.length ≤ t' - t ∧ (ns = [] → ndp nl → ∀ x, x ∈ es → gI nl.length sl x) ∧ HX es 1) ∨ XF P s u v (q_sum 0 u) (fX11_expression v) := by
  have hT := E.1.1
  have hS : SLs P T s nl sl 8 0 := sum_ok (prod_ok (UL_all 6 0 7 rfl (by decide)) (by decide)) (by decide)
  have eX : fX11_expression v = X20 3999999999 q_N 0 (nI 0) v := by
    unfold fX11_expression fX11_expression_l9
    rw [hR.2.2.2.2.2.2.1.1, q_lt_eq, q_itN, fX11_expression_h9, if_neg i_10, hR.2.2.1, if_pos rfl]
    rfl
  rw [eX]
  have eS : q_sum 0 u = fX5_readSum (fX5_readProduct (q_unit 8)) (nI 0) u := rfl
  rw [eS]
  rcases hS 3999999999 q_N 0 t L1 L2 ws cs [] u v 0 E hC hR hL ht hw hc (by decide) (Or.inl rfl) (by omega) (Nat.le_of_ble_eq_true rfl) (Nat.le_refl _) with ⟨pd, hpd, u2, t2, es, ns, v2, K2, N2, M2, f1, f2, f3, f4, f5, f6, f7, f8, f9, f10, f11, f12, f13, f14, f15, f16⟩ | bad
  · have f7 : X20 3999999999 q_N 0 (nI 0) v = Z31 N2 M2 0 (nI 0) v2 := f7
    have hNb : q_N = 4000000000 := rfl
    have hlo := opIts_len pd
    have hpl := hpd.1
    have f13' : (wds es).length + pd.length ≤ 2 * (t2 - t) + 0 := f13
    have f14' : es.length + pd.length ≤ t2 - t + 0 := f14
    obtain ⟨M2, rfl⟩ : ∃ X, M2 = X + 1 := ⟨M2 - 1, by omega⟩
    have E2 := EC_fr hC.1 E f3 f9
    obtain ⟨r2, q1, q2, q3, q4, q5, q6, q7⟩ := tkn E2 f5
    clear q5 q6
    have hno2 : noOp v2 t2 := by unfold noOp noStr at *; rw [(frR4 f9).1]; exact f16.2.2
    have hl2 : (cs ++ trs es).length = cs.length + es.length := by rw [List.length_append, trs_len]
    obtain ⟨v3, g1, g2, g3⟩ := comeAll 0 (Or.inl rfl) f8 (by rw [hl2]; omega) (fun k hk => ⟨hpd.2 k hk, Or.inr rfl⟩)
    have e183 : fX11_expression_n183 (R9 N2) 0 (nI 0) v2 = some ((), q_sI v3 0 38 0) := by
      rw [z_end f8 (by omega) q2 q1 hno2 N2 0 (nI 0)]
      unfold fX11_expression_n233 fX11_expression_n247
      rw [if_pos rfl, if_pos (show nI 0 ≤ 0 by decide), g1, q_b_some, g2.2.2.1, if_pos rfl, q_lt_eq]
    have eZ : Z31 N2 (M2 + 1) 0 (nI 0) v2 = some ((), q_sI v3 0 38 0) := by
      unfold Z31
      rw [q_itS, fX11_expression_h131, show (7 : Int32) = nI 7 from rfl, isR f8 (by omega) q2 q1 7 (by decide), q_b_some]
      by_cases c7 : r2 = 7
      · rw [if_pos c7, if_neg i_10, if_pos (show nI 0 ≤ 0 by decide), e183]
      · rw [if_neg c7, if_pos rfl, e183]
    have h3 : PR s t2 (adN ns L2) (cs ++ trs (es ++ opIts pd)) [] 0 (q_sI v3 0 38 0) := by
      obtain ⟨c1, c2, c3, c4, c5, c6, c7, c8⟩ := g2
      rw [trs_app, ← List.append_assoc]
      exact ⟨c1, by rw [sI_k _ _ _ _ _ (by decide), c2], by rw [sI_k _ _ _ _ _ (by decide), c3], by rw [sI_k _ _ _ _ _ (by decide), c4], fun g => by rw [sI_k _ _ _ _ _ (by decide), c5 g], ⟨by rw [sI_k _ _ _ _ _ (by decide), c6.1], fun i hi => by rw [sI_cell _ _ _ _ 12 (by decide), sI_cell _ _ _ _ 13 (by decide), sI_cell _ _ _ _ 14 (by decide)]; exact c6.2 i hi⟩, ⟨sI_same _ _ _ _, by decide, fun i hi => absurd hi (Nat.not_lt_zero i)⟩, by rw [sI_k _ _ _ _ _ (by decide), c8]⟩
    rw [f1, f7, eZ]
    refine Or.inl ⟨u2, _, t2, es ++ opIts pd, ns, rfl, rfl, f2, h3, f3, frR1_t f9 (frR1_t g3 (frR1_0 s v3 38 0 (by omega))), f16.2.1, f5, f6, ?_, ?_, fun hn nd x hx => ?_, fun h hh => f16.1 h (by unfold bU; omega)⟩
    · rw [wds_app, List.length_append, hlo.1]; omega
    · rw [List.length_append, hlo.2]; omega
    · rcases List.mem_append.mp hx with hx | hx
      · exact f15 hn nd x hx
      · unfold opIts at hx
        obtain ⟨k, hk, rfl⟩ := List.mem_map.mp hx
        exact opIt_gI _ _ (hpd.2 k (List.mem_reverse.mp hk))
  · exact Or.inr bad
