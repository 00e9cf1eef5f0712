/-! a for among deeds: the whole -/
theorem q_b_as {ρ σ τ : Type} (o : Option (ρ × q_W)) (f : ρ → q_W → Option (σ × q_W)) (g : σ → q_W → Option τ) : q_b (q_b o f) g = q_b o (fun r w => q_b (f r w) g) := by
  cases o with
  | none => rfl
  | some x => rfl
def tfS (a1 : Int32) (w13 : q_W) : Option (Unit × q_W) :=
    q_lt (w13.1 0 30) fun y14 =>
    if q_inb y14 8 then
    q_lt (q_sI w13 16 (q_ix y14) 1) fun w15 =>
    q_lt (w15.1 0 30) fun y16 =>
    if q_inb y16 8 then
    q_lt (q_sI w15 17 (q_ix y16) (w15.1 0 24)) fun w17 =>
    q_lt (w17.1 0 30) fun y18 =>
    if q_inb y18 8 then
    q_lt (q_sI w17 18 (q_ix y18) (1 + (w17.1 0 30))) fun w19 =>
    q_lt ((w19.1 0 28) - 1) fun y20 =>
    if q_inb y20 8 then
    q_lt (q_sI w19 19 (q_ix y20) (1 + (w19.1 0 30))) fun w21 =>
    q_b (fX11_emit 10 (1 + (w21.1 0 30)) 0 w21) fun _ w23 =>
    q_b (fX11_emit 11 a1 0 w23) fun _ w25 =>
    q_lt (q_sI w25 0 30 ((w25.1 0 30) + 1)) fun w26 =>
    some ((), w26)
    else none
    else none
    else none
    else none
theorem tfE_eq (y1 a1 : Int32) (w11 : q_W) (h : w11.1 0 13 = 0) : tfE y1 a1 w11 = q_b (fX11_reaches y1 w11) fun _ w13 => tfS a1 w13 := by
  unfold tfE tfS
  rw [h, if_pos (by decide)]
theorem nI_1' (n : Nat) : 1 + nI n = nI (n + 1) := by rw [Int32.add_comm, nI_1]
theorem for_set {s t b n : Nat} {L : Nat × Int32} {cs : List Tr} {v : q_W} (hR : PR s t L cs [] 0 v) (hl : cs.length < 1900) (hb : v.1 0 30 = nI b) (hb8 : b < 8) (h28 : v.1 0 28 = nI (n + 1)) (hn : n < 8) (a1 : Int32) : ∃ v', tfS a1 v = some ((), v') ∧ PR s t L (cs ++ [(10, nI (b + 1), 0), (11, a1, 0)]) [] 0 v' ∧ v'.1 0 30 = nI (b + 1) ∧ v'.1 0 28 = nI (n + 1) ∧ v'.1 16 b = 1 ∧ v'.1 17 b = nI (2000 * s + cs.length) ∧ v'.1 18 b = nI (b + 1) ∧ (∀ i, i ≠ b → v'.1 16 i = v.1 16 i ∧ v'.1 17 i = v.1 17 i ∧ v'.1 18 i = v.1 18 i) ∧ v'.1 19 n = nI (b + 1) ∧ (∀ i, i ≠ n → v'.1 19 i = v.1 19 i) ∧ v'.2 = v.2 ∧ frH s v v' := by
  have h24 := hR.2.2.2.2.2.1.1
  generalize hw : q_sI (q_sI (q_sI (q_sI v 16 b 1) 17 b (nI (2000 * s + cs.length))) 18 b (nI (b + 1))) 19 n (nI (b + 1)) = w
  have w0 : ∀ k, w.1 0 k = v.1 0 k := fun k => by
    rw [← hw, sI_cell _ _ _ _ 0 (by decide), sI_cell _ _ _ _ 0 (by decide), sI_cell _ _ _ _ 0 (by decide), sI_cell _ _ _ _ 0 (by decide)]
  have hRw : PR s t L cs [] 0 w := by
    rw [← hw]
    exact PR_q (PR_q (PR_q (PR_q hR 16 _ _ (by omega)) 17 _ _ (by omega)) 18 _ _ (by omega)) 19 _ _ (by omega)
  have fw : frH s v w := by
    rw [← hw]
    exact frH_t (frH_q s _ 16 _ _ (by omega)) (frH_t (frH_q s _ 17 _ _ (by omega)) (frH_t (frH_q s _ 18 _ _ (by omega)) (frH_q s _ 19 _ _ (by omega))))
  have c16 : ∀ i, w.1 16 i = if i = b then 1 else v.1 16 i := fun i => by
    rw [← hw, sI_cell _ _ _ _ 16 (by decide), sI_cell _ _ _ _ 16 (by decide), sI_cell _ _ _ _ 16 (by decide), sI_if]
  have c17 : ∀ i, w.1 17 i = if i = b then nI (2000 * s + cs.length) else v.1 17 i := fun i => by
    rw [← hw, sI_cell _ _ _ _ 17 (by decide), sI_cell _ _ _ _ 17 (by decide), sI_if, sI_cell _ _ _ _ 17 (by decide)]
  have c18 : ∀ i, w.1 18 i = if i = b then nI (b + 1) else v.1 18 i := fun i => by
    rw [← hw, sI_cell _ _ _ _ 18 (by decide), sI_if, sI_cell _ _ _ _ 18 (by decide), sI_cell _ _ _ _ 18 (by decide)]
  have c19 : ∀ i, w.1 19 i = if i = n then nI (b + 1) else v.1 19 i := fun i => by
    rw [← hw, sI_if, sI_cell _ _ _ _ 19 (by decide), sI_cell _ _ _ _ 19 (by decide), sI_cell _ _ _ _ 19 (by decide)]
  have cw2 : w.2 = v.2 := by rw [← hw]; rfl
  obtain ⟨v1, e1, a1', b1⟩ := emit_st hRw (by omega) ((10, nI (b + 1), 0) : Tr)
  have e1 : fX11_emit 10 (nI (b + 1)) 0 w = some ((), v1) := e1
  obtain ⟨v2, e2, a2, b2⟩ := emit_st a1' (by rw [List.length_append]; show cs.length + 1 < _; omega) ((11, a1, 0) : Tr)
  have e2 : fX11_emit 11 a1 0 v1 = some ((), v2) := e2
  have b12 := frR1_t b1 b2
  have h30 : v2.1 0 30 = nI b := by rw [b12.2.1 30 (by omega) (by omega) (by omega), w0, hb]
  have hrun : tfS a1 v = some ((), q_sI v2 0 30 (nI (b + 1))) := by
    have z16 : ∀ (w : q_W) (k : Nat) (x : Int32), (q_sI w 16 k x).1 0 = w.1 0 := fun w k x => sI_cell _ _ _ _ 0 (by decide)
    have z17 : ∀ (w : q_W) (k : Nat) (x : Int32), (q_sI w 17 k x).1 0 = w.1 0 := fun w k x => sI_cell _ _ _ _ 0 (by decide)
    have z18 : ∀ (w : q_W) (k : Nat) (x : Int32), (q_sI w 18 k x).1 0 = w.1 0 := fun w k x => sI_cell _ _ _ _ 0 (by decide)
    have z19 : ∀ (w : q_W) (k : Nat) (x : Int32), (q_sI w 19 k x).1 0 = w.1 0 := fun w k x => sI_cell _ _ _ _ 0 (by decide)
    have ib : q_inb (nI b) 8 := q_inb_nI hb8 (by omega)
    have ibn : q_inb (nI n) 8 := q_inb_nI hn (by omega)
    unfold tfS
    simp only [q_lt_eq, z16, z17, z18, z19, hb, h24, h28, nI_1', nI_s1, if_pos ib, if_pos ibn, q_ix_nI (show b < 2 ^ 31 by omega), q_ix_nI (show n < 2 ^ 31 by omega)]
    rw [hw, e1, q_b_some, e2, q_b_some, h30, nI_1]
  rw [List.append_assoc] at a2
  refine ⟨_, hrun, PR_set a2 30 _ (by omega), sI_same _ _ _ _, ?_, ?_, ?_, ?_, fun i hi => ⟨?_, ?_, ?_⟩, ?_, fun i hi => ?_, ?_, frH_t fw (frH_t (frH_1 b12) (frH_0 s v2 30 _ (by omega)))⟩
  · rw [sI_k _ _ _ _ _ (by decide), b12.2.1 28 (by omega) (by omega) (by omega), w0, h28]
  · rw [sI_cell _ _ _ _ 16 (by decide), b12.1 16 (by decide) (by decide) (by decide) (by decide) (by decide), c16, if_pos rfl]
  · rw [sI_cell _ _ _ _ 17 (by decide), b12.1 17 (by decide) (by decide) (by decide) (by decide) (by decide), c17, if_pos rfl]
  · rw [sI_cell _ _ _ _ 18 (by decide), b12.1 18 (by decide) (by decide) (by decide) (by decide) (by decide), c18, if_pos rfl]
  · rw [sI_cell _ _ _ _ 16 (by decide), b12.1 16 (by decide) (by decide) (by decide) (by decide) (by decide), c16, if_neg hi]
  · rw [sI_cell _ _ _ _ 17 (by decide), b12.1 17 (by decide) (by decide) (by decide) (by decide) (by decide), c17, if_neg hi]
  · rw [sI_cell _ _ _ _ 18 (by decide), b12.1 18 (by decide) (by decide) (by decide) (by decide) (by decide), c18, if_neg hi]
  · rw [sI_cell _ _ _ _ 19 (by decide), b12.1 19 (by decide) (by decide) (by decide) (by decide) (by decide), c19, if_pos rfl]
  · rw [sI_cell _ _ _ _ 19 (by decide), b12.1 19 (by decide) (by decide) (by decide) (by decide) (by decide), c19, if_neg hi]
  · show v2.2 = _
    rw [b12.2.2.2, cw2]
theorem deed_for {P T s t d mm m : Nat} {L1 L2 : Nat × Int32} {ws : List Int32} {cs : List Tr} {nl : List (List Nat)} {sl : Nat → Nat} {pl : List (List Nat)} {pm : Nat → Nat} {u v : q_W} (hB : BLK P T s (m + 1) (d + 1) mm pl pm) (hX : CX P T s t d mm L1 L2 ws cs nl sl pl pm u v) (hd : d ≤ 5) (h3 : v.1 3 t = nI 26) (rI : Int32 → q_W → Option (Unit × q_W)) (N : Nat) (hN : 510 < N + 1 + t) : DR P T s t d mm L1 L2 ws cs nl sl pl pm u v (N + 1) (fun t' => t < t') (fX5_readDeed (fX5_readFor (q_deeds (m + 1))) rI (nI d) u) (q_b (fX11_tellDeed v) fun _ w => LQ N w) ∨ XB P s u v (fX5_readDeed (fX5_readFor (q_deeds (m + 1))) rI (nI d) u) (q_b (fX11_tellDeed v) fun _ w => LQ N w) := by
  have hX0 := hX
  obtain ⟨x1, x2, x3, x4, x5, x6, x7, x8, x9, x10, x11, x12, x13, x14, x15⟩ := hX
  have hT := x1.1.1
  have hP := x3.1
  have hr : rOK 26 := Or.inr (Or.inl (by omega))
  have hD : isD 26 := by unfold isD; omega
  obtain ⟨r', q1, q2, q3, q4, q5, q6, q7⟩ := tkn x1 x7
  clear q5 q6 q7
  have e : r' = 26 := by
    by_cases e : r' = 26
    · exact e
    · rw [h3] at q2
      unfold rOK at q1
      exact absurd q2 (nI_ne (by omega) (by omega) (fun c => e c.symm))
  subst e
  rw [rd_enter x3 q3 hD (by omega), if_neg (by omega), td_deed x4 (by omega) h3 hr hD x5 (by omega), if_neg (by omega)]
  obtain ⟨u1, v1, u2, v2, e1, f1, e2, e3, e4, b1, b2, hh⟩ := enter_both x1 x3 x4 x7 (by omega) (by omega) h3 hr (by omega) (by omega)
  have e2 : fX5_take 9 u1 = some ((), u2) := e2
  generalize hpc : u.1 27 t = pc at *
  have hc1 : fX5_readDeed_n34 (fX5_readFor (q_deeds (m + 1))) rI (nI d) (nI (26 - 17)) pc u = fX5_readFor (q_deeds (m + 1)) pc (nI d) u2 := by
    show fX5_readDeed_n34 (fX5_readFor (q_deeds (m + 1))) rI (nI d) 9 pc u = _
    unfold fX5_readDeed_n34
    rw [x3.2.1, if_pos (isP_c x3.1), e1, q_b_some, e2, q_b_some, if_pos rfl, q_b_id]
  have hr1 : fX11_tellDeed_n177 (nI t) (v.1 4 t) v = fX11_tellFor pc v2 := by
    unfold fX11_tellDeed_n177
    rw [x4.2.2.1, if_pos (show (0 : Int32) ≤ 0 by decide), x4.2.1, q_lt_eq, if_pos (q_inb_nI (by omega) (by omega)), q_ix_nI (show t < 2 ^ 31 by omega), h3, q_lt_eq, e3, q_b_some, e4, q_b_some, if_pos (show nI 26 = 26 from rfl), q_b_id, q4]
  rw [hc1, hr1]
  obtain ⟨N, rfl⟩ : ∃ X, N = X + 1 := ⟨N - 1, by omega⟩
  have hb2 : v2.1 0 30 = nI (d + 1) := by rw [b2.2.1 30 (by omega) (by omega) (by omega), x5]
  rcases hh with ⟨h1, a1, a2⟩ | ⟨f, p, m', a1, a2⟩
  · have hl1 : (ws ++ [1, pc]).length = ws.length + 2 := by rw [List.length_append]; rfl
    have hl2 : (cs ++ [((8, pc, 0) : Tr)]).length = cs.length + 1 := by rw [List.length_append]; rfl
    have E2 := EC_fr hP x1 b1 b2
    rw [for_eq, says_st a1 (by omega), q_b_some, ← q_b_as, tf_eq, a2.2.1]
    rcases name_both E2 a1 a2 h1 (by rw [hl2]; omega) with ⟨l, u3, v3, hl, y1, y2, y4, g1, g2, a3, a4, b3, b4, hlt⟩ | ⟨f, p, u3, v3, m', g1, g2, g3, g4, g5, g6⟩
    · rw [g1, q_b_some, g2, q_b_some]
      unfold forB tfA
      have d1 := frP1_t b1 b3
      have d2 := frR1_t b2 b4
      have E3 := EC_fr hP x1 d1 d2
      rw [show (61 : Int32) = km 17 from rfl, show (17 : Int32) = nI 17 from rfl]
      rcases tok_both E3 a3 a4 (by omega) (by rw [hl2]; omega) (r := 17) (Or.inl (by omega)) (by decide) (by decide) with ⟨ht17, _, u4, v4, e5, e6, a5, a6, b5, b6⟩ | ⟨f, p, u4, v4, m', e5, a5, b5, e6, a6, b6⟩
      · rw [e5, q_b_some, e6, q_b_some]
        unfold tfB
        have d3 := frP1_t d1 b5
        have d4 := frR1_t d2 b6
        have E4 := EC_fr hP x1 d3 d4
        rcases expr_ok E4 a5 a6 x6 (by omega) (by rw [hl1]; omega) (by rw [hl2]; omega) with ⟨u5, v5, t5, es1, ns1, f1', f2, f3, f4, f5, f6, f7, f8, f9, f10, f11, f12, f13⟩ | ⟨f, p, u5, v5, m', f1', f2, f3, f4, f5, f6⟩
        · rw [f1', q_b_some, f2, q_b_some]
          unfold forC tfC
          have d5 := frP1_t d3 f5
          have d6 := frR1_t d4 f6
          have E5 := EC_fr hP x1 d5 d6
          have hl3 : (ws ++ [1, pc] ++ wds es1).length = ws.length + 2 + (wds es1).length := by rw [List.length_append, hl1]
          have hl4 : (cs ++ [((8, pc, 0) : Tr)] ++ trs es1).length = cs.length + 1 + es1.length := by rw [List.length_append, hl2, trs_len]
          rw [show (10 : Int32) = km 27 from rfl, show (27 : Int32) = nI 27 from rfl]
          rcases tok_both E5 f3 f4 f8 (by rw [hl4]; omega) (r := 27) (Or.inr (Or.inl (by omega))) (by decide) (by decide) with ⟨ht27, _, u6, v6, e7, e8, a7, a8, b7, b8⟩ | ⟨f, p, u6, v6, m', e7, a7, b7, e8, a8, b8⟩
          · rw [e7, q_b_some, e8, q_b_some]
            unfold tfD
            have d7 := frP1_t d5 b7
            have d8 := frR1_t d6 b8
            have E6 := EC_fr hP x1 d7 d8
            rcases expr_ok E6 a7 a8 (adN_5 ns1 L2 f9 x6) (by omega) (by rw [hl3]; omega) (by rw [hl4]; omega) with ⟨u7, v7, t7, es2, ns2, i1, i2, i3, i4, i5, i6, i7, i8, i9, i10, i11, i12, i13⟩ | ⟨f, p, u7, v7, m', i1, i2, i3, i4, i5, i6⟩
            · rw [i1, q_b_some, i2, q_b_some]
              have d9 := frP1_t d7 i5
              have d10 := frR1_t d8 i6
              have E7 := EC_fr hP x1 d9 d10
              have hl5 : (ws ++ [1, pc] ++ wds es1 ++ wds es2).length = ws.length + 2 + (wds es1).length + (wds es2).length := by rw [List.length_append, hl3]
              have hl6 : (cs ++ [((8, pc, 0) : Tr)] ++ trs es1 ++ trs es2).length = cs.length + 1 + es1.length + es2.length := by rw [List.length_append, hl4, trs_len]
              -- the name
              have hnm7 : v7.2.2 6 (t + 1) = lN (r2 l) := by rw [(frR1_t b4 (frR1_t b6 (frR1_t f6 (frR1_t b8 i6)))).2.2.2]; exact y2
              have hp7 : v7.1 4 (t + 1) = u2.1 27 (t + 1) := by rw [(frR4 (frR1_t b4 (frR1_t b6 (frR1_t f6 (frR1_t b8 i6))))).2.1]; exact y4
              have hn8 : nl.length < 8 := by omega
              obtain ⟨v8, r1, r2', r3, r4, r5, r6, r7, r8⟩ := reaches_ok E7 i4 (adN_5 ns2 _ i9 (adN_5 ns1 L2 f9 x6)) hn8 hl (tk := t + 1) (by omega) hnm7
              rw [hp7] at r2'
              rw [tfE_eq _ _ _ i4.2.2.1, r1, q_b_some]
              obtain ⟨v9, s1, s2, s3, s4, s5, s6, s7, s8, s9, s10, s11, s12⟩ := for_set r2' (by rw [hl6]; omega) (by rw [r7, d10.2.1 30 (by omega) (by omega) (by omega), x5]) (show d + 1 < 8 by omega) r3 hn8 pc
              rw [s1, q_b_some]
              have h23 : u7.1 23 3 = nI nl.length := E7.2.2.2.1
              obtain ⟨u8, k1, k2, k3, k4, k5, k6, k7, k8, k9⟩ := bring_ok i3 h23 hn8 (u2.2.2 28 (t + 1))
              obtain ⟨u9, l1, l2, l3⟩ := add3_st k2 (by rw [hl5]; omega) 18 (nI nl.length) 0
              have hl9 : (ws ++ [1, pc] ++ wds es1 ++ wds es2 ++ [18, nI nl.length, 0]).length = ws.length + 2 + (wds es1).length + (wds es2).length + 2 + 1 := by rw [List.length_append, hl5]; rfl
              obtain ⟨u10, l4, l5, l6⟩ := add2_st l2 (by rw [hl9]; omega) 19 pc
              have hl10 : (ws ++ [1, pc] ++ wds es1 ++ wds es2 ++ [18, nI nl.length, 0] ++ [19, pc]).length = ws.length + 2 + (wds es1).length + (wds es2).length + 2 + 1 + 2 := by rw [List.length_append, hl9]; rfl
              have hl11 : (cs ++ [((8, pc, 0) : Tr)] ++ trs es1 ++ trs es2 ++ [((10, nI (d + 1 + 1), 0) : Tr), ((11, pc, 0) : Tr)]).length = cs.length + 1 + es1.length + es2.length + 2 := by rw [List.length_append, hl6]; rfl
              have l36 := frP1_t l3 l6
              have hne := isP_ne hP
              have fE : frE P u u10 := frE_t (frE_1 d9) (frE_t ⟨fun q h _ _ => k8 q h, fun k hk => k9 k (by omega), fun k _ => by rw [k8 P hne.1], k7, k6⟩ (frE_1 l36))
              have fH : frH s v v9 := frH_t (frH_1 d10) (frH_t r8 s12)
              have n19 : ∀ i, i ≠ nl.length → v9.1 19 i = v.1 19 i := fun i hi => by rw [s10 i hi, r6 19 (by decide) (by decide) (by decide) (by decide) (by decide), d10.1 19 (by decide) (by decide) (by decide) (by decide) (by decide)]
              unfold forD
              rw [h23, q_lt_eq, k1, q_b_some, k2.2.1, if_pos (isP_c hP), l1, q_b_some, l2.2.1, if_pos (isP_c hP), here_st l2, q_b_some, hl9, nI_s1, q_lt_eq, l2.2.1, if_pos (isP_c hP), here_st l2, q_b_some, hl9, l2.2.1, if_pos (isP_c hP), l4, q_b_some, nI_1 d]
              generalize hlw : ws.length + 2 + (wds es1).length + (wds es2).length = lw at *
              have hE9 : EC T s (nl ++ [l]) (fun i => if i = nl.length then d + 2 else sl i) u10 v9 := by
                obtain ⟨z1, z2, z3, z4, z5, z6, z7, c0, many0, z8, z9, z10, z11, z12⟩ := x1
                have hlen : (nl ++ [l]).length = nl.length + 1 := by rw [List.length_append]; rfl
                have e8 : v.1 8 s = nI pl.length := x2.2.2.2.2.2.1
                have ec : c0 = pl.length := by
                  rw [e8] at z9
                  exact ((nI_eq (by omega) (by omega)).mp z9).symm
                subst ec
                have em : many0 = mm := by
                  rw [x13] at z10
                  exact ((nI_eq (by omega) (by omega)).mp z10).symm
                subst em
                have g8 : v9.1 8 = v.1 8 := fH.1 8 (by decide) (by decide) (by decide) (by decide) (by decide) (by decide) (by decide) (by decide) (by decide)
                have g10 : v9.1 10 = v.1 10 := fH.1 10 (by decide) (by decide) (by decide) (by decide) (by decide) (by decide) (by decide) (by decide) (by decide)
                refine ⟨toks_H hP z1 fE fH, z2, by rw [hlen]; omega, by rw [hlen, l36.2.1 3 (by omega), k3], by rw [hlen, s4], fun i hi => ?_, by rw [fH.2.1 19 (by omega) (by omega) (by omega) (by omega) (by omega) (by omega) (by omega), z7], pl.length, many0, z8, by rw [g8, z9], by rw [g10, z10], z11, fun i hi => ?_⟩
                · rw [hlen] at hi
                  rw [gN_snoc, l36.2.2.2, s11]
                  by_cases ei : i = nl.length
                  · rw [if_pos ei, ei, k4, r4]
                    exact ⟨hl, y1, rfl⟩
                  · rw [if_neg ei, k5 i ei, r5 i ei, d9.2.2.2, d10.2.2.2]
                    exact z6 i (by omega)
                · rw [hlen] at hi
                  by_cases ei : i = nl.length
                  · subst ei
                    show (if nl.length = nl.length then d + 2 else sl nl.length) < 8 ∧ (if many0 ≤ nl.length then v9.1 19 nl.length else nI nl.length) = nI (if nl.length = nl.length then d + 2 else sl nl.length)
                    rw [if_pos rfl, if_pos x11, s9]
                    exact ⟨by omega, rfl⟩
                  · show (if i = nl.length then d + 2 else sl i) < 8 ∧ (if many0 ≤ i then v9.1 19 i else nI i) = nI (if i = nl.length then d + 2 else sl i)
                    rw [if_neg ei, n19 i ei]
                    exact z12 i (by omega)
              have hlen : (nl ++ [l]).length = nl.length + 1 := by rw [List.length_append]; rfl
              have X9 : CX P T s t7 (d + 1) mm _ _ _ _ (nl ++ [l]) (fun i => if i = nl.length then d + 2 else sl i) pl pm u10 v9 :=
                ⟨hE9, DC_H x2 fE fH, l5, s2, s3, adI_5 (adN_5 ns2 _ i9 (adN_5 ns1 L2 f9 x6)), i8, by rw [hl10]; omega, by rw [hl11]; omega, by rw [hlen]; omega, by rw [hlen]; omega, x12, by rw [fH.1 10 (by decide) (by decide) (by decide) (by decide) (by decide) (by decide) (by decide) (by decide) (by decide), x13], x14, fun i hi => by
                  rw [hlen] at hi
                  show (if i = nl.length then d + 2 else sl i) < d + 1 + 2
                  by_cases ei : i = nl.length
                  · rw [if_pos ei]; omega
                  · rw [if_neg ei]; have := x15 i (by omega); omega⟩
              rcases hB (N + 1) t7 _ _ _ _ _ _ u10 v9 X9 (by omega) with ⟨u11, v11, t8, B, ns5, N5, j1, j2, j3, j4, j5, j6, j7, j8, j9, j10, j11, j12, j13⟩ | ⟨f, p, u11, v11, m', j1, j2, j3, j4, j5, j6⟩
              · rw [j1, q_b_some, j2]
                obtain ⟨r5', p1, p2, p3, p4, p5, p6, p7⟩ := tkn j4.1 j4.2.2.2.2.2.2.1
                clear p5 p6
                have hD5 : ¬ isD r5' := j13 r5' p1 (by rw [← j6.1 3 (by decide) (by decide) (by decide) (by decide) (by decide) (by decide) (by decide) (by decide) (by decide)]; exact p2)
                obtain ⟨t16, t17, t18⟩ := j7 (d + 1) (Nat.le_refl _)
                rw [s5] at t16
                rw [s6, hl6] at t17
                rw [s7] at t18
                have h28' : v11.1 0 28 = nI (nl.length + 1) := by rw [j4.1.2.2.2.2.1, hlen]
                have hl12 : (ws ++ [1, pc] ++ wds es1 ++ wds es2 ++ [18, nI nl.length, 0] ++ [19, pc] ++ wds (B.map Prod.fst)).length = lw + 2 + 1 + 2 + (wds (B.map Prod.fst)).length := by rw [List.length_append, hl10]
                have hl13 : (cs ++ [((8, pc, 0) : Tr)] ++ trs es1 ++ trs es2 ++ [((10, nI (d + 1 + 1), 0) : Tr), ((11, pc, 0) : Tr)] ++ trs (B.map Prod.fst)).length = cs.length + 1 + es1.length + es2.length + 2 + B.length := by rw [List.length_append, hl11, trs_len, List.length_map]
                have ht8 : t8 ≤ T := j4.2.2.2.2.2.2.1
                obtain ⟨K, rfl⟩ : ∃ X, N5 = X + 2 := ⟨N5 - 2, by omega⟩
                rcases for_tail (N := K) (j := lw + 2) j4 hd p2 p1 hD5 t16 t17 (by rw [hl13]; omega) t18 h28' (by rw [hl12]; omega) (nI (lw + 2 + 1)) with ⟨w1, _, u12, v12, w2, w3, w4, w5, w6, w7, w8, w9, w10, w11, w12, w13⟩ | bad
                · rw [w2, w3]
                  rw [hl12] at w4
                  rw [hl13] at w5
                  generalize hjc : nI (lw + 2 + 1 + 2 + (wds (B.map Prod.fst)).length + 3) = jc at *
                  generalize hjr : nI (2000 * s + (cs.length + 1 + es1.length + es2.length + 2 + B.length + 1)) = jr at *
                  have hmap : (([deedA (none, nl.length, sl) pc] ++ (annE 0 (some 8, nl.length, sl) (es1 ++ es2) ++ ((([18, nI nl.length, jc], 10, nI (d + 1 + 1), jr), (2, some 8, nl.length, sl)) :: (([19, pc], 11, pc, 0), (0, none, nl.length + 1, fun i => if i = nl.length then d + 2 else sl i)) :: (B ++ [(([20, nI nl.length, nI (lw + 2 + 1)], 12, nI (d + 1 + 1), nI (2000 * s + (cs.length + 1 + es1.length + es2.length + 1))), (0, none, nl.length + 1, fun i => if i = nl.length then d + 2 else sl i))])))).map Prod.fst) = ([1, pc], 8, pc, 0) :: (es1 ++ es2 ++ (([18, nI nl.length, jc], 10, nI (d + 1 + 1), jr) :: ([19, pc], 11, pc, 0) :: (B.map Prod.fst ++ [([20, nI nl.length, nI (lw + 2 + 1)], 12, nI (d + 1 + 1), nI (2000 * s + (cs.length + 1 + es1.length + es2.length + 1)))]))) := by
                    simp only [List.map_append, List.map_cons, List.map_nil, annE_map, List.nil_append, List.cons_append, deedA]
                  generalize hA : [deedA (none, nl.length, sl) pc] ++ (annE 0 (some 8, nl.length, sl) (es1 ++ es2) ++ ((([18, nI nl.length, jc], 10, nI (d + 1 + 1), jr), (2, some 8, nl.length, sl)) :: (([19, pc], 11, pc, 0), (0, none, nl.length + 1, fun i => if i = nl.length then d + 2 else sl i)) :: (B ++ [(([20, nI nl.length, nI (lw + 2 + 1)], 12, nI (d + 1 + 1), nI (2000 * s + (cs.length + 1 + es1.length + es2.length + 1))), (0, none, nl.length + 1, fun i => if i = nl.length then d + 2 else sl i))]))) = A at *
                  have hws : (ws ++ [1, pc] ++ wds es1 ++ wds es2 ++ [18, nI nl.length, 0] ++ [19, pc] ++ wds (B.map Prod.fst) ++ [20, nI nl.length, nI (lw + 2 + 1)]).set (lw + 2) jc = ws ++ wds (A.map Prod.fst) := by
                    have e9 : ws ++ [1, pc] ++ wds es1 ++ wds es2 ++ [18, nI nl.length, 0] ++ [19, pc] ++ wds (B.map Prod.fst) ++ [20, nI nl.length, nI (lw + 2 + 1)] = (ws ++ [1, pc] ++ wds es1 ++ wds es2) ++ ([18, nI nl.length, 0] ++ ([19, pc] ++ wds (B.map Prod.fst) ++ [20, nI nl.length, nI (lw + 2 + 1)])) := by simp only [List.append_assoc]
                    rw [e9, ← hl5, set_mid3, hl5, hmap, wds_cons, wds_app, wds_app, wds_cons, wds_cons, wds_app, wds_one]
                    simp only [List.append_assoc]
                  have hcs : setB (cs.length + 1 + es1.length + es2.length) jr (cs ++ [((8, pc, 0) : Tr)] ++ trs es1 ++ trs es2 ++ [((10, nI (d + 1 + 1), 0) : Tr), ((11, pc, 0) : Tr)] ++ trs (B.map Prod.fst) ++ [(12, nI (d + 1 + 1), nI (2000 * s + (cs.length + 1 + es1.length + es2.length + 1)))]) = cs ++ trs (A.map Prod.fst) := by
                    have e9 : cs ++ [((8, pc, 0) : Tr)] ++ trs es1 ++ trs es2 ++ [((10, nI (d + 1 + 1), 0) : Tr), ((11, pc, 0) : Tr)] ++ trs (B.map Prod.fst) ++ [(12, nI (d + 1 + 1), nI (2000 * s + (cs.length + 1 + es1.length + es2.length + 1)))] = (cs ++ [((8, pc, 0) : Tr)] ++ trs es1 ++ trs es2) ++ (((10, nI (d + 1 + 1), 0) : Tr) :: (((11, pc, 0) : Tr) :: (trs (B.map Prod.fst) ++ [(12, nI (d + 1 + 1), nI (2000 * s + (cs.length + 1 + es1.length + es2.length + 1)))]))) := by simp only [List.append_assoc, List.cons_append, List.nil_append]
                    rw [e9, ← hl6, setB_mid, hl6, hmap, trs_cons, trs_app, trs_app, trs_cons, trs_cons, trs_app]
                    simp only [List.append_assoc, List.cons_append, List.nil_append]
                    rfl
                  have hal : A.length = 1 + es1.length + es2.length + 2 + B.length + 1 := by
                    rw [← List.length_map (f := Prod.fst), hmap]
                    simp only [List.length_cons, List.length_append, List.length_map, List.length_nil]
                    omega
                  have hwl : (wds (A.map Prod.fst)).length = 2 + (wds es1).length + (wds es2).length + 5 + (wds (B.map Prod.fst)).length + 3 := by
                    rw [hmap, wds_cons, wds_app, wds_app, wds_cons, wds_cons, wds_app, wds_one]
                    simp only [List.length_cons, List.length_append, List.length_nil]
                    omega
                  have oN : okNs (ntI (idF nl l nl.length 0) (u2.1 27 (t + 1)) ++ (ns1 ++ ns2) ++ ns5) := okNs_app (okNs_app (ntI_ok _ _) (okNs_app f9 i9)) j9
                  have eL1 : adN ns5 (adN ns2 (adN ns1 (adI (idF nl l nl.length 0) (u2.1 27 (t + 1)) L1))) = adN (ntI (idF nl l nl.length 0) (u2.1 27 (t + 1)) ++ (ns1 ++ ns2) ++ ns5) L1 := by
                    rw [adN_app, adN_app, adN_app, adI_nt]
                  have eL2 : adN ns5 (adI (idF nl l nl.length 0) (u2.1 27 (t + 1)) (adN ns2 (adN ns1 L2))) = adN (ntI (idF nl l nl.length 0) (u2.1 27 (t + 1)) ++ (ns1 ++ ns2) ++ ns5) L2 := by
                    rw [← adN_app, adI_late _ _ _ _ (okNs_app f9 i9), ← adN_app]
                  rw [eL1, hws] at w4
                  rw [eL2, hcs] at w5
                  have fE2 := frE_t fE (frE_t j5 w9)
                  have fH2 := frH_t fH (frH_t j6 w11)
                  have hEf : EC T s nl sl u12 v12 := EC_less j4.1 (fun i hi => if_neg (by omega)) (toks_H hP x1.1 fE2 fH2) w8 w7 (by rw [w10]) (by rw [w12]) (w11.2.1 19 (by omega) (by omega) (by omega) (by omega) (by omega) (by omega) (by omega)) (w13 8 (by decide) (by decide) (by decide) (by decide) (by decide)) (w13 10 (by decide) (by decide) (by decide) (by decide) (by decide)) (w13 19 (by decide) (by decide) (by decide) (by decide) (by decide))
                  refine Or.inl ⟨u12, v12, t8 + 1, A, _, K + 1, rfl, rfl, by omega, ⟨hEf, DC_H x2 fE2 fH2, w4, w5, w6, adN_5 _ L2 oN x6, by omega, by rw [List.length_append, hwl]; omega, by rw [List.length_append, trs_len, List.length_map, hal]; omega, x10, x11, x12, by rw [fH2.1 10 (by decide) (by decide) (by decide) (by decide) (by decide) (by decide) (by decide) (by decide) (by decide), x13], x14, x15⟩, fE2, fH2, fun i hi => ?_, by omega, oN, by rw [hwl]; omega, by rw [hal]; omega, fun c nd => ?_, by omega⟩
                  · obtain ⟨o1, o2, o3⟩ := j7 i (by omega)
                    obtain ⟨z1, z2, z3⟩ := s8 i (by omega)
                    rw [w13 16 (by decide) (by decide) (by decide) (by decide) (by decide), w13 17 (by decide) (by decide) (by decide) (by decide) (by decide), w13 18 (by decide) (by decide) (by decide) (by decide) (by decide), o1, o2, o3, z1, z2, z3, r6 16 (by decide) (by decide) (by decide) (by decide) (by decide), r6 17 (by decide) (by decide) (by decide) (by decide) (by decide), r6 18 (by decide) (by decide) (by decide) (by decide) (by decide), d10.1 16 (by decide) (by decide) (by decide) (by decide) (by decide), d10.1 17 (by decide) (by decide) (by decide) (by decide) (by decide), d10.1 18 (by decide) (by decide) (by decide) (by decide) (by decide)]
                    exact ⟨rfl, rfl, rfl⟩
                  · obtain ⟨c1, c5⟩ := List.append_eq_nil_iff.mp c
                    obtain ⟨c0, c1⟩ := List.append_eq_nil_iff.mp c1
                    obtain ⟨c1, c2⟩ := List.append_eq_nil_iff.mp c1
                    have hno : idF nl l nl.length 0 = none := by
                      cases hid : idF nl l nl.length 0 with
                      | none => rfl
                      | some i => rw [hid] at c0; cases c0
                    have nd' : ndp (nl ++ [l]) := ndp_snoc nd (fun i hi => idF_none _ _ hno i (Nat.zero_le _) (by omega))
                    obtain ⟨D1, D2⟩ := j12 c5 nd'
                    rw [hlen, hl10, hl11] at D1
                    rw [hlen] at D2
                    have hes : (wds (es1 ++ es2)).length = (wds es1).length + (wds es2).length := by rw [wds_app, List.length_append]
                    have G := GD_for (n := nl.length) (v := d + 1 + 1) (sl := sl) (sl' := fun i => if i = nl.length then d + 2 else sl i) (q := pc) (q' := pc) (es := es1 ++ es2) (B := B) (o := ws.length) (c := cs.length) (s := s) (p := pl.length) (pm := pm) hn8 ⟨by omega, by omega⟩ (fun k hk => ⟨if_neg (by omega), by have := x15 k hk; omega⟩) (if_pos rfl) (HX_app f13 i13) (fun x hx => by
                      rcases List.mem_append.mp hx with hx | hx
                      · exact f12 c1 nd x hx
                      · exact i12 c2 nd x hx) (by
                      rw [hes, List.length_append]
                      have z1 : ws.length + 2 + ((wds es1).length + (wds es2).length) + 5 = lw + 2 + 1 + 2 := by omega
                      have z2 : cs.length + 1 + (es1.length + es2.length) + 2 = cs.length + 1 + es1.length + es2.length + 2 := by omega
                      rw [z1, z2]; exact D1) D2
                    rw [hes, List.length_append] at G
                    have z3 : nI (ws.length + 2 + ((wds es1).length + (wds es2).length) + 5 + (wds (B.map Prod.fst)).length + 3) = jc := by rw [← hjc]; congr 1; omega
                    have z4 : nI (2000 * s + (cs.length + 1 + (es1.length + es2.length) + 2 + B.length + 1)) = jr := by rw [← hjr]; congr 1; omega
                    have z5 : ws.length + 2 + ((wds es1).length + (wds es2).length) + 3 = lw + 2 + 1 := by omega
                    have z6 : cs.length + 1 + (es1.length + es2.length) + 1 = cs.length + 1 + es1.length + es2.length + 1 := by omega
                    rw [z3, z4, z5, z6, hA] at G
                    exact ⟨G, by rw [← hA]; rfl⟩
                · exact Or.inr (XB_t (frE_t fE j5) (frH_t fH j6) bad)
              · obtain ⟨u12, w1, w2, w3⟩ := forE_F j2 (nI nl.length) (nI (lw + 2 + 1)) (nI (lw + 2))
                rw [j1, q_b_some, w1, j4]
                exact Or.inr (XB_t fE fH ⟨f, p, u12, v11, m', rfl, w2, frE_t j3 w3, rfl, j5, j6⟩)
            · obtain ⟨u8, w1, w2, w3⟩ := forD_F i2 m pc (nI d) (u2.2.2 28 (t + 1))
              rw [i1, q_b_some, w1, i4, q_b_some, tfE_F i5, q_b_some, LQ_F i5]
              exact Or.inr (XB_t (frE_1 d7) (frH_1 d8) ⟨f, p, u8, v7, m', rfl, w2, frE_t (frE_1 i3) w3, rfl, i5, frH_1 i6⟩)
          · obtain ⟨u7, w4, w5, w6⟩ := qsum_F a7
            obtain ⟨u8, w1, w2, w3⟩ := forD_F w5 m pc (nI d) (u2.2.2 28 (t + 1))
            rw [e7, q_b_some, w4, q_b_some, w1, e8, q_b_some, tfD_F a8, q_b_some, LQ_F a8]
            exact Or.inr (XB_t (frE_1 d5) (frH_1 d6) ⟨f, p, u8, v6, m', rfl, w2, frE_t (frE_1 (frP1_t b7 w6)) w3, rfl, a8, frH_1 b8⟩)
        · obtain ⟨u8, w1, w2, w3⟩ := forC_F f2 m pc (nI d) (u2.2.2 28 (t + 1))
          rw [f1', q_b_some, w1, f4, q_b_some, tfC_F f5, q_b_some, LQ_F f5]
          exact Or.inr (XB_t (frE_1 d3) (frH_1 d4) ⟨f, p, u8, v5, m', rfl, w2, frE_t (frE_1 f3) w3, rfl, f5, frH_1 f6⟩)
      · obtain ⟨u7, w4, w5, w6⟩ := qsum_F a5
        obtain ⟨u8, w1, w2, w3⟩ := forC_F w5 m pc (nI d) (u2.2.2 28 (t + 1))
        rw [e5, q_b_some, w4, q_b_some, w1, e6, q_b_some, tfB_F a6, q_b_some, LQ_F a6]
        exact Or.inr (XB_t (frE_1 d1) (frH_1 d2) ⟨f, p, u8, v4, m', rfl, w2, frE_t (frE_1 (frP1_t b5 w6)) w3, rfl, a6, frH_1 b6⟩)
    · obtain ⟨u8, w1, w2, w3⟩ := forB_F g2 m pc (nI d) (u2.2.2 28 (t + 1))
      rw [g1, q_b_some, w1, g4, q_b_some, tfA_F g5, q_b_some, LQ_F g5]
      exact Or.inr (XB_t (frE_1 b1) (frH_1 b2) ⟨f, p, u8, v3, m', rfl, w2, frE_t (frE_1 g3) w3, rfl, g5, frH_1 g6⟩)
  · obtain ⟨u3, g1, g2, g3⟩ := for_F a1 m pc (nI d)
    rw [g1, forR_F a2, q_b_some, LQ_F a2]
    exact Or.inr ⟨f, p, u3, v2, m', rfl, g2, frE_t (frE_1 b1) g3, rfl, a2, frH_1 b2⟩
