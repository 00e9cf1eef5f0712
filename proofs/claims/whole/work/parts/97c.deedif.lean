/-! an if among deeds -/
theorem q_b_id (o : Option (Unit × q_W)) : (q_b o fun _ w => some ((), w)) = o := by
  cases o with
  | none => rfl
  | some x => rfl
theorem cond_words {s n : Nat} {ws : List Int32} {rl : List Rl} {sk fR tR : Int32} (h : okRl rl) : cdC none none ws rl ++ [16, sk] = ws ++ wds (cI s ws.length n [] [] rl sk fR tR) :=
  cdC_cI rl none none ws n [] [] h (fun i hi => by cases hi) (fun i hi => by cases hi)
theorem cond_codes {s o : Nat} {cs : List Tr} {rl : List Rl} {sk fR tR : Int32} (h : okRl rl) (ht : tR = nI (2000 * s + (cdL s cs rl).length)) : landT fR (cdR s [] [] cs rl).2.1 (cdL s cs rl) = cs ++ trs (cI s o cs.length [] [] rl sk fR tR) := by
  have hl : (cdL s cs rl).length = (cdR s [] [] cs rl).1.length := landT_len _ _ _
  have := cdR_cI (s := s) (sk := sk) (fR := fR) (tR := tR) rl [] [] cs o h (fun i hi => by cases hi) (fun i hi => by cases hi) (fun i hi => by cases hi)
  unfold cdL
  rw [hl] at ht
  rw [← ht]
  exact this
def BLK (P T s n d mm : Nat) (pl : List (List Nat)) (pm : Nat → Nat) : Prop := ∀ (N t : Nat) (L1 L2 : Nat × Int32) (ws : List Int32) (cs : List Tr) (nl : List (List Nat)) (sl : Nat → Nat) (u v : q_W), CX P T s t d mm L1 L2 ws cs nl sl pl pm u v → 510 < N + t → DR P T s t d mm L1 L2 ws cs nl sl pl pm u v N (fun t' => ∀ r, rOK r → v.1 3 t' = nI r → ¬ isD r) (q_deeds n (nI d) u) (LQ N v) ∨ XB P s u v (q_deeds n (nI d) u) (LQ N v)
theorem CX_mk {P T s t t' d d' mm : Nat} {L1 L2 L1' L2' : Nat × Int32} {ws ws' : List Int32} {cs cs' : List Tr} {nl : List (List Nat)} {sl : Nat → Nat} {pl : List (List Nat)} {pm : Nat → Nat} {u v u' v' : q_W} (hX : CX P T s t d mm L1 L2 ws cs nl sl pl pm u v) (hd : d ≤ d') (b1 : frP1 P u u') (b2 : frD s v v') (hC : PC P t' L1' ws' u') (hR : PR s t' L2' cs' [] 0 v') (hb : v'.1 0 30 = nI (d' + 1)) (hL : L2'.1 ≤ 5) (ht : t' ≤ T) (hw : ws'.length ≤ 3 * t' + 20) (hc : cs'.length ≤ 2 * t' + 20) : CX P T s t' d' mm L1' L2' ws' cs' nl sl pl pm u' v' := by
  obtain ⟨x1, x2, x3, x4, x5, x6, x7, x8, x9, x10, x11, x12, x13, x14, x15⟩ := hX
  exact ⟨EC_D x3.1 x1 b1 b2, DC_H x2 (frE_1 b1) (frH_D b2), hC, hR, hb, hL, ht, hw, hc, by omega, x11, x12, by rw [b2.1 10 (by decide) (by decide) (by decide) (by decide) (by decide) (by decide) (by decide), x13], x14, fun i hi => by have := x15 i hi; omega⟩
theorem CX_dn {P T s t t' d mm : Nat} {L1 L2 L1' L2' : Nat × Int32} {ws ws' : List Int32} {cs cs' : List Tr} {nl : List (List Nat)} {sl : Nat → Nat} {pl : List (List Nat)} {pm : Nat → Nat} {u v u' v' : q_W} (hX : CX P T s t (d + 1) mm L1 L2 ws cs nl sl pl pm u v) (hn : nl.length ≤ d + 2) (hs : ∀ i, i < nl.length → sl i < d + 2) (b1 : frP1 P u u') (b2 : frD s v v') (hC : PC P t' L1' ws' u') (hR : PR s t' L2' cs' [] 0 v') (hb : v'.1 0 30 = nI (d + 1)) (hL : L2'.1 ≤ 5) (ht : t' ≤ T) (hw : ws'.length ≤ 3 * t' + 20) (hc : cs'.length ≤ 2 * t' + 20) : CX P T s t' d mm L1' L2' ws' cs' nl sl pl pm u' v' := by
  obtain ⟨x1, x2, x3, x4, x5, x6, x7, x8, x9, x10, x11, x12, x13, x14, x15⟩ := hX
  exact ⟨EC_D x3.1 x1 b1 b2, DC_H x2 (frE_1 b1) (frH_D b2), hC, hR, hb, hL, ht, hw, hc, hn, x11, x12, by rw [b2.1 10 (by decide) (by decide) (by decide) (by decide) (by decide) (by decide) (by decide), x13], x14, hs⟩
theorem deed_if {P T s t d mm m : Nat} {L1 L2 : Nat × Int32} {ws : List Int32} {cs : List Tr} {nl : List (List Nat)} {sl : Nat → Nat} {pl : List (List Nat)} {pm : Nat → Nat} {u v : q_W} (hB : BLK P T s (m + 1) (d + 1) mm pl pm) (hX : CX P T s t d mm L1 L2 ws cs nl sl pl pm u v) (hd : d ≤ 5) (h3 : v.1 3 t = nI 28) (rF : Int32 → Int32 → q_W → Option (Unit × q_W)) (N : Nat) (hN : 510 < N + 1 + t) : DR P T s t d mm L1 L2 ws cs nl sl pl pm u v (N + 1) (fun t' => t < t') (fX5_readDeed rF (fX5_readIf (q_deeds (m + 1))) (nI d) u) (q_b (fX11_tellDeed v) fun _ w => LQ N w) ∨ XB P s u v (fX5_readDeed rF (fX5_readIf (q_deeds (m + 1))) (nI d) u) (q_b (fX11_tellDeed v) fun _ w => LQ N w) := by
  have hX0 := hX
  obtain ⟨x1, x2, x3, x4, x5, x6, x7, x8, x9, x10, x11, x12, x13, x14, x15⟩ := hX
  have hT := x1.1.1
  have hP := x3.1
  have hr : rOK 28 := Or.inr (Or.inl (by omega))
  have hD : isD 28 := by unfold isD; omega
  obtain ⟨r', q1, q2, q3, q4, q5, q6, q7⟩ := tkn x1 x7
  clear q5 q6 q7
  have e : r' = 28 := by
    by_cases e : r' = 28
    · exact e
    · rw [h3] at q2
      unfold rOK at q1
      exact absurd q2 (nI_ne (by omega) (by omega) (fun c => e c.symm))
  subst e
  rw [rd_enter x3 q3 hD (by omega), if_neg (by omega), td_deed x4 (by omega) h3 hr hD x5 (by omega), if_neg (by omega)]
  obtain ⟨u1, v1, u2, v2, e1, f1, e2, e3, e4, b1, b2, hh⟩ := enter_both x1 x3 x4 x7 (by omega) (by omega) h3 hr (by omega) (by omega)
  have e2 : fX5_take 11 u1 = some ((), u2) := e2
  have hc1 : fX5_readDeed_n34 rF (fX5_readIf (q_deeds (m + 1))) (nI d) (nI (28 - 17)) (u.1 27 t) u = q_b (fX5_readCondition u2) fun _ w2 => ifA (q_deeds (m + 1)) (nI d) w2 := by
    show fX5_readDeed_n34 rF (fX5_readIf (q_deeds (m + 1))) (nI d) 11 (u.1 27 t) u = _
    unfold fX5_readDeed_n34
    rw [x3.2.1, if_pos (isP_c x3.1), e1, q_b_some, e2, q_b_some, if_neg (by decide), if_pos rfl, q_b_id, if_eq]
  have hr1 : fX11_tellDeed_n177 (nI t) (v.1 4 t) v = fX11_tellIf v2 := by
    unfold fX11_tellDeed_n177
    rw [x4.2.2.1, if_pos (show (0 : Int32) ≤ 0 by decide), x4.2.1, q_lt_eq, if_pos (q_inb_nI (by omega) (by omega)), q_ix_nI (show t < 2 ^ 31 by omega), h3, q_lt_eq, e3, q_b_some, e4, q_b_some, if_neg (show ¬ nI 28 = 26 by decide), if_pos (show nI 28 = 28 from rfl), q_b_id]
  rw [hc1, hr1]
  obtain ⟨N, rfl⟩ : ∃ X, N = X + 1 := ⟨N - 1, by omega⟩
  have hb2 : v2.1 0 30 = nI (d + 1) := by rw [b2.2.1 30 (by omega) (by omega) (by omega), x5]
  rcases hh with ⟨h1, a1, a2⟩ | ⟨f, p, m', a1, a2⟩
  · have hl1 : (ws ++ [1, u.1 27 t]).length = ws.length + 2 := by rw [List.length_append]; rfl
    have hl2 : (cs ++ [((8, u.1 27 t, 0) : Tr)]).length = cs.length + 1 := by rw [List.length_append]; rfl
    rcases cond_ok (b := d + 1) (EC_fr x3.1 x1 b1 b2) a1 a2 x6 (by omega) (by rw [hl1]; omega) (by rw [hl2]; omega) (by omega) hb2 with ⟨u3, v3, t1, rl, ns1, g1, g2, g3, g4, g5, g6, g7, g8, g9, g10, g11, g12, g13, g14, g15, g16, g17, g18, g19, g20⟩ | ⟨f, p, u3, v3, m', g1, g2, g3, g4, g5, g6⟩
    · rw [g1, q_b_some, g2, q_b_some]
      generalize hlc : (cdC none none (ws ++ [1, u.1 27 t]) rl).length = lc at *
      generalize hld : (cdL s (cs ++ [((8, u.1 27 t, 0) : Tr)]) rl).length = ld at *
      rw [hl1] at g17
      rw [hl2] at g18
      obtain ⟨u4, e5, a5, b5⟩ := add2_st g4 (by omega) 16 0
      have hlen : (cdC none none (ws ++ [1, u.1 27 t]) rl ++ [16, 0]).length = lc + 1 + 1 := by rw [List.length_append, hlc]; rfl
      -- the closed forms' lengths
      have kw := congrArg List.length (cond_words (s := s) (n := cs.length + 1) (ws := ws ++ [1, u.1 27 t]) (sk := 0) (fR := 0) (tR := nI (2000 * s + ld)) g3)
      rw [List.length_append, hlc, List.length_append, hl1] at kw
      have kc := congrArg List.length (cond_codes (s := s) (o := ws.length + 2) (cs := cs ++ [((8, u.1 27 t, 0) : Tr)]) (sk := 0) (fR := 0) (tR := nI (2000 * s + ld)) g3 (by rw [hld]))
      rw [landT_len, hld, List.length_append, trs_len, hl2] at kc
      have kw : lc + 2 = ws.length + 2 + (wds (cI s (ws.length + 2) (cs.length + 1) [] [] rl 0 0 (nI (2000 * s + ld)))).length := kw
      -- nothing of a word's value counts for lengths
      have wlen : ∀ (sk fR tR : Int32), (wds (cI s (ws.length + 2) (cs.length + 1) [] [] rl sk fR tR)).length = lc - ws.length := by
        intro sk fR tR
        have := congrArg List.length (cond_words (s := s) (n := cs.length + 1) (ws := ws ++ [1, u.1 27 t]) (sk := sk) (fR := fR) (tR := tR) g3)
        rw [List.length_append, hlc, List.length_append, hl1] at this
        have : lc + 2 = ws.length + 2 + (wds (cI s (ws.length + 2) (cs.length + 1) [] [] rl sk fR tR)).length := this
        omega
      have clen : ∀ (sk fR : Int32), (cI s (ws.length + 2) (cs.length + 1) [] [] rl sk fR (nI (2000 * s + ld))).length = ld - (cs.length + 1) := by
        intro sk fR
        have := congrArg List.length (cond_codes (s := s) (o := ws.length + 2) (cs := cs ++ [((8, u.1 27 t, 0) : Tr)]) (sk := sk) (fR := fR) (tR := nI (2000 * s + ld)) g3 (by rw [hld]))
        rw [landT_len, hld, List.length_append, trs_len, hl2] at this
        omega
      have X5 : CX P T s t1 (d + 1) mm (adN ns1 L1) (adN ns1 L2) (cdC none none (ws ++ [1, u.1 27 t]) rl ++ [16, 0]) (cdL s (cs ++ [((8, u.1 27 t, 0) : Tr)]) rl) nl sl pl pm u4 v3 :=
        CX_mk hX0 (by omega) (frP1_t b1 (frP1_t g12 b5)) (frD_t (frD_C (frC_1 b2)) g13) a5 g5 g10 (adN_5 ns1 L2 g16 x6) g15 (by rw [hlen]; omega) (by rw [hld]; omega)
      have frC0 : frE P u u4 := frE_1 (frP1_t b1 (frP1_t g12 b5))
      have frR0 : frH s v v3 := frH_t (frH_1 b2) (frH_D g13)
      unfold ifA
      rw [g4.2.1, if_pos (isP_c hP), e5, q_b_some, a5.2.1, if_pos (isP_c hP), here_st a5, q_b_some, hlen, nI_s1, q_lt_eq, nI_1]
      rcases hB (N + 1) t1 _ _ _ _ _ _ u4 v3 X5 (by omega) with ⟨u5, v5, t2, A5, ns2, N2, k1, k2, k3, k4, k5, k6, k7, k8, k9, k10, k11, k12, k13⟩ | ⟨f, p, u5, v5, m', k1, k2, k3, k4, k5, k6⟩
      · rw [k1, q_b_some, k2]
        obtain ⟨r2, p1, p2, p3, p4, p5, p6, p7⟩ := tkn k4.1 k4.2.2.2.2.2.2.1
        clear p5 p6
        have hD2 : ¬ isD r2 := k13 r2 p1 (by rw [← k6.1 3 (by decide) (by decide) (by decide) (by decide) (by decide) (by decide) (by decide) (by decide) (by decide)]; exact p2)
        have c16 : v5.1 16 (d + 1) = 2 := by rw [(k7 (d + 1) (Nat.le_refl _)).1, g8]
        have c17 : v5.1 17 (d + 1) = hdC s (cdR s [] [] (cs ++ [((8, u.1 27 t, 0) : Tr)]) rl).2.1 := by rw [(k7 (d + 1) (Nat.le_refl _)).2.1, g9]
        have cn := CHN_app (trs (A5.map Prod.fst)) _ _ g6
        have hl5 : (cdC none none (ws ++ [1, u.1 27 t]) rl ++ [16, 0] ++ wds (A5.map Prod.fst)).length = lc + 2 + (wds (A5.map Prod.fst)).length := by rw [List.length_append, hlen]
        have hm5 : (cdL s (cs ++ [((8, u.1 27 t, 0) : Tr)]) rl ++ trs (A5.map Prod.fst)).length = ld + A5.length := by rw [List.length_append, hld, trs_len, List.length_map]
        have ht2 : t2 ≤ T := k4.2.2.2.2.2.2.1
        have hK := k4.2.2.1
        have hKR := k4.2.2.2.1
        unfold ifB
        rw [hK.2.2.2.1, p3]
        by_cases c29 : r2 = 29
        · subst c29
          rw [if_pos (show km 29 = 12 from rfl)]
          obtain ⟨K, rfl⟩ : ∃ X, N2 = X + 2 := ⟨N2 - 2, by omega⟩
          rw [LQ_S hKR k4.2.2.2.2.1 (by omega), td_else hKR (by omega) p2 k4.2.2.2.2.1 (by omega) c16]
          by_cases h5 : t2 = 500
          · subst h5
            obtain ⟨u6, w1, w2, w3⟩ := take_room hK (k := km 29) p3
            have w1 : fX5_take 12 u5 = some ((), u6) := w1
            obtain ⟨u7, w4, w5, w6⟩ := add2_F w2 17 0
            obtain ⟨u8, w7, w8, w9⟩ := aim_F w5 (nI (lc + 1))
            obtain ⟨u9, w10, w11, w12⟩ := n83_F w8 (q_deeds (m + 1)) (u7.1 P 3 - 1)
            obtain ⟨v6, s1, s2, s3, z1, z2, z3⟩ := next_room0 hKR (by rw [hm5]; omega)
            obtain ⟨v7, m', s4, s5, s6⟩ := turnsElse_F (b := d + 1) s2 z1 (by rw [z3 30 (by decide) (by decide), k4.2.2.2.2.1]) (by omega) (by rw [z2 17 (by decide)]; exact c17) (CHW_eq (z2 14 (by decide)) _ (CHW_of hKR.1 hKR.2.2.2.2.2.1 (by rw [hm5]; omega) _ cn)) (by omega) (fun i hi => by
              have hi2 := CHN_lt _ g6 i hi
              rw [hld] at hi2
              rw [z3 24 (by decide) (by decide), hKR.2.2.2.2.2.1.1, hm5]
              have := hKR.1
              exact nI_ne (by omega) (by omega) (by omega))
            rw [w1, q_b_some, w2.2.1, if_pos (isP_c hP), w4, q_b_some, w5.2.1, if_pos (isP_c hP), here_any hP, q_b_some, q_lt_eq, w5.2.1, if_pos (isP_c hP), w7, q_b_some, deeds_F w8, q_b_some, w10, s1, q_b_some, s4, q_b_some, q_b_some, LQ_F s5]
            rw [← p4] at w11
            exact Or.inr (XB_t (frE_t frC0 k5) (frH_t frR0 k6) ⟨2, _, u9, v7, m', rfl, w11, frE_t (frE_1 (frP1_t w3 (frP1_t w6 w9))) w12, rfl, s5, frH_t (frH_1 s3) s6⟩)
          · have hlt := p7 (by decide) (by decide) (by omega)
            obtain ⟨u6, w1, w2, w3⟩ := take_st hK (by omega) (k := km 29) p3
            have w1 : fX5_take 12 u5 = some ((), u6) := w1
            obtain ⟨u7, w4, w5, w6⟩ := add2_st w2 (by rw [hl5]; omega) 17 0
            have hl7 : (cdC none none (ws ++ [1, u.1 27 t]) rl ++ [16, 0] ++ wds (A5.map Prod.fst) ++ [17, 0]).length = lc + 2 + (wds (A5.map Prod.fst)).length + 1 + 1 := by rw [List.length_append, hl5]; rfl
            obtain ⟨u8, w7, w8, w9⟩ := aim_st w5 (by rw [hl7]; omega) (some (lc + 1)) (fun i hi => by cases hi; rw [hl7]; omega)
            have w7 : fX4_aimHere P (nI (lc + 1)) u7 = some ((), u8) := w7
            have hl8 : (aimW (some (lc + 1)) (cdC none none (ws ++ [1, u.1 27 t]) rl ++ [16, 0] ++ wds (A5.map Prod.fst) ++ [17, 0])).length = lc + 2 + (wds (A5.map Prod.fst)).length + 1 + 1 := by rw [aimW_len, hl7]
            obtain ⟨v6, s1, s2, s3⟩ := next_st hKR (by omega)
            obtain ⟨v7, s4, s5, s6, s7, s8, s9, s10, s11⟩ := turnsElse_ok (b := d + 1) s2 (by rw [hm5]; omega) (by omega) (by rw [s3.2.1 30 (by omega) (by omega) (by omega), k4.2.2.2.2.1]) (by rw [s3.1 17 (by decide) (by decide) (by decide) (by decide) (by decide)]; exact c17) cn (by rw [hm5]; omega)
            have hm7 : (landT (nI (2000 * s + ((cdL s (cs ++ [((8, u.1 27 t, 0) : Tr)]) rl ++ trs (A5.map Prod.fst)).length + 1))) (cdR s [] [] (cs ++ [((8, u.1 27 t, 0) : Tr)]) rl).2.1 (cdL s (cs ++ [((8, u.1 27 t, 0) : Tr)]) rl ++ trs (A5.map Prod.fst) ++ [(13, 0, -1)])).length = ld + A5.length + 1 := by rw [landT_len, List.length_append, hm5]; rfl
            rw [w1, q_b_some, w2.2.1, if_pos (isP_c hP), w4, q_b_some, w5.2.1, if_pos (isP_c hP), here_st w5, q_b_some, hl7, nI_s1, q_lt_eq, w5.2.1, if_pos (isP_c hP), w7, q_b_some, s1, q_b_some, s4, q_b_some, q_b_some]
            have X8 := CX_mk k4 (Nat.le_refl _) (frP1_t w3 (frP1_t w6 w9)) (frD_t (frD_C (frC_1 s3)) s11) w8 s5 s9 (adN_5 ns2 _ k9 (adN_5 ns1 L2 g16 x6)) (show t2 + 1 ≤ T by omega) (by rw [hl8]; omega) (by rw [hm7]; omega)
            have frC1 := frE_t frC0 (frE_t k5 (frE_1 (frP1_t w3 (frP1_t w6 w9))))
            have frR1' := frH_t frR0 (frH_t k6 (frH_t (frH_1 s3) (frH_D s11)))
            rcases hB (K + 1) (t2 + 1) _ _ _ _ _ _ u8 v7 X8 (by omega) with ⟨u9, v9, t3, A9, ns3, N9, j1, j2, j3, j4, j5, j6, j7, j8, j9, j10, j11, j12, j13⟩ | ⟨f, p, u9, v9, m', j1, j2, j3, j4, j5, j6⟩
            · rw [nI_1 d, j1, q_b_some, j2]
              obtain ⟨r3, i1, i2, i3, i4, i5, i6, i7⟩ := tkn j4.1 j4.2.2.2.2.2.2.1
              clear i5 i6
              have hD3 : ¬ isD r3 := j13 r3 i1 (by rw [← j6.1 3 (by decide) (by decide) (by decide) (by decide) (by decide) (by decide) (by decide) (by decide) (by decide)]; exact i2)
              have c16' : v9.1 16 (d + 1) = 3 := by rw [(j7 (d + 1) (Nat.le_refl _)).1, s7]
              have c17' : v9.1 17 (d + 1) = hdC s [ld + A5.length] := by rw [(j7 (d + 1) (Nat.le_refl _)).2.1, s8, hm5]
              rw [hm5] at s6
              have cn9 := CHN_app (trs (A9.map Prod.fst)) _ _ s6
              have ht3 : t3 ≤ T := j4.2.2.2.2.2.2.1
              have hl9 : (aimW (some (lc + 1)) (cdC none none (ws ++ [1, u.1 27 t]) rl ++ [16, 0] ++ wds (A5.map Prod.fst) ++ [17, 0]) ++ wds (A9.map Prod.fst)).length = lc + 2 + (wds (A5.map Prod.fst)).length + 2 + (wds (A9.map Prod.fst)).length := by rw [List.length_append, hl8]
              have hm9 : (landT (nI (2000 * s + ((cdL s (cs ++ [((8, u.1 27 t, 0) : Tr)]) rl ++ trs (A5.map Prod.fst)).length + 1))) (cdR s [] [] (cs ++ [((8, u.1 27 t, 0) : Tr)]) rl).2.1 (cdL s (cs ++ [((8, u.1 27 t, 0) : Tr)]) rl ++ trs (A5.map Prod.fst) ++ [(13, 0, -1)]) ++ trs (A9.map Prod.fst)).length = ld + A5.length + 1 + A9.length := by rw [List.length_append, hm7, trs_len, List.length_map]
              rw [hm5] at hm9 j4
              obtain ⟨K9, rfl⟩ : ∃ X, N9 = X + 2 := ⟨N9 - 2, by omega⟩
              rcases if_tail (N := K9) j4 hd i2 i1 hD3 (fun _ => by rw [c16']; decide) (Or.inr c16') c17' cn9 (by show 1 ≤ _; rw [hm9]; omega) (show lc + 2 + (wds (A5.map Prod.fst)).length + 1 < _ by rw [hl9]; omega) (q_deeds (m + 1)) with ⟨y1, _, u10, v10, y2, y3, y4, y5, y6, y7, y8, y9⟩ | bad
              · rw [y2, y3]
                rw [hl9] at y4
                rw [hm9] at y5
                generalize hsk : nI (lc + 2 + (wds (A5.map Prod.fst)).length + 1 + 1) = sk at *
                generalize hfR : nI (2000 * s + (ld + A5.length + 1)) = fR at *
                generalize hjc : nI (lc + 2 + (wds (A5.map Prod.fst)).length + 2 + (wds (A9.map Prod.fst)).length) = jc at *
                generalize hjr : nI (2000 * s + (ld + A5.length + 1 + A9.length)) = jr at *
                have hmap : (([deedA (none, nl.length, sl) (u.1 27 t)] ++ (anC (some 8, nl.length, sl) s (ws.length + 2) (cs.length + 1) [] [] rl sk fR (nI (2000 * s + ld)) ++ (A5 ++ ((([17, jc], 13, jr, -1), (0, none, nl.length, sl)) :: A9)))).map Prod.fst) = ([1, u.1 27 t], 8, u.1 27 t, 0) :: (cI s (ws.length + 2) (cs.length + 1) [] [] rl sk fR (nI (2000 * s + ld)) ++ (A5.map Prod.fst ++ (([17, jc], 13, jr, -1) :: A9.map Prod.fst))) := by
                  rw [List.map_append, List.map_append, List.map_append, anC_map, List.map_cons]
                  rfl
                have hws : (aimW (some (lc + 1)) (cdC none none (ws ++ [1, u.1 27 t]) rl ++ [16, 0] ++ wds (A5.map Prod.fst) ++ [17, 0]) ++ wds (A9.map Prod.fst)).set (lc + 2 + (wds (A5.map Prod.fst)).length + 1) jc = ws ++ wds (([deedA (none, nl.length, sl) (u.1 27 t)] ++ (anC (some 8, nl.length, sl) s (ws.length + 2) (cs.length + 1) [] [] rl sk fR (nI (2000 * s + ld)) ++ (A5 ++ ((([17, jc], 13, jr, -1), (0, none, nl.length, sl)) :: A9)))).map Prod.fst) := by
                  have cw := cond_words (s := s) (n := cs.length + 1) (ws := ws ++ [1, u.1 27 t]) (sk := sk) (fR := fR) (tR := nI (2000 * s + ld)) g3
                  rw [hl1] at cw
                  have e1 : aimW (some (lc + 1)) (cdC none none (ws ++ [1, u.1 27 t]) rl ++ [16, 0] ++ wds (A5.map Prod.fst) ++ [17, 0]) = cdC none none (ws ++ [1, u.1 27 t]) rl ++ [16, sk] ++ wds (A5.map Prod.fst) ++ [17, 0] := by
                    show (cdC none none (ws ++ [1, u.1 27 t]) rl ++ [16, 0] ++ wds (A5.map Prod.fst) ++ [17, 0]).set (lc + 1) (nI _) = _
                    rw [hl7, hsk, List.append_assoc, List.append_assoc, ← hlc, set_mid2]
                    simp only [List.append_assoc]
                  have e2 : (cdC none none (ws ++ [1, u.1 27 t]) rl ++ [16, sk] ++ wds (A5.map Prod.fst)).length = lc + 2 + (wds (A5.map Prod.fst)).length := by rw [List.length_append, List.length_append, hlc]; rfl
                  rw [e1, List.append_assoc _ [17, 0], ← e2, set_mid2, cw, hmap, wds_cons, wds_app, wds_app, wds_cons]
                  simp only [List.append_assoc]
                have hcs : landT jr [ld + A5.length] (landT fR (cdR s [] [] (cs ++ [((8, u.1 27 t, 0) : Tr)]) rl).2.1 (cdL s (cs ++ [((8, u.1 27 t, 0) : Tr)]) rl ++ trs (A5.map Prod.fst) ++ [(13, 0, -1)]) ++ trs (A9.map Prod.fst)) = cs ++ trs (([deedA (none, nl.length, sl) (u.1 27 t)] ++ (anC (some 8, nl.length, sl) s (ws.length + 2) (cs.length + 1) [] [] rl sk fR (nI (2000 * s + ld)) ++ (A5 ++ ((([17, jc], 13, jr, -1), (0, none, nl.length, sl)) :: A9)))).map Prod.fst) := by
                  have cc := cond_codes (s := s) (o := ws.length + 2) (cs := cs ++ [((8, u.1 27 t, 0) : Tr)]) (sk := sk) (fR := fR) (tR := nI (2000 * s + ld)) g3 (by rw [hld])
                  have cl : (cs ++ [((8, u.1 27 t, 0) : Tr)] ++ trs (cI s (ws.length + 2) (cs ++ [((8, u.1 27 t, 0) : Tr)]).length [] [] rl sk fR (nI (2000 * s + ld))) ++ trs (A5.map Prod.fst)).length = ld + A5.length := by
                    rw [← cc, List.length_append, landT_len, hld, trs_len, List.length_map]
                  rw [List.append_assoc (cdL s _ rl), landT_app _ _ (CHN_lt _ g6), cc]
                  show setT (ld + A5.length) jr _ = _
                  have e3 : cs ++ [((8, u.1 27 t, 0) : Tr)] ++ trs (cI s (ws.length + 2) (cs ++ [((8, u.1 27 t, 0) : Tr)]).length [] [] rl sk fR (nI (2000 * s + ld))) ++ (trs (A5.map Prod.fst) ++ [(13, 0, -1)]) ++ trs (A9.map Prod.fst) = (cs ++ [((8, u.1 27 t, 0) : Tr)] ++ trs (cI s (ws.length + 2) (cs ++ [((8, u.1 27 t, 0) : Tr)]).length [] [] rl sk fR (nI (2000 * s + ld))) ++ trs (A5.map Prod.fst)) ++ (((13, 0, -1) : Tr) :: trs (A9.map Prod.fst)) := by simp only [List.append_assoc, List.cons_append, List.nil_append]
                  rw [e3, ← cl, setT_mid, hl2, hmap, trs_cons, trs_app, trs_app, trs_cons]
                  simp only [List.append_assoc, List.cons_append, List.nil_append]
                have hal : ([deedA (none, nl.length, sl) (u.1 27 t)] ++ (anC (some 8, nl.length, sl) s (ws.length + 2) (cs.length + 1) [] [] rl sk fR (nI (2000 * s + ld)) ++ (A5 ++ ((([17, jc], 13, jr, -1), (0, none, nl.length, sl)) :: A9)))).length = 1 + (ld - (cs.length + 1)) + A5.length + 1 + A9.length := by
                  rw [← List.length_map (f := Prod.fst), hmap, List.length_cons, List.length_append, clen, List.length_append, List.length_map, List.length_cons, List.length_map]
                  omega
                have hwl : (wds (([deedA (none, nl.length, sl) (u.1 27 t)] ++ (anC (some 8, nl.length, sl) s (ws.length + 2) (cs.length + 1) [] [] rl sk fR (nI (2000 * s + ld)) ++ (A5 ++ ((([17, jc], 13, jr, -1), (0, none, nl.length, sl)) :: A9)))).map Prod.fst)).length = 2 + (lc - ws.length) + (wds (A5.map Prod.fst)).length + 2 + (wds (A9.map Prod.fst)).length := by
                  rw [hmap, wds_cons, wds_app, wds_app, wds_cons, List.length_append, List.length_append, wlen, List.length_append, List.length_append]
                  show 2 + (_ + (_ + (2 + _))) = _
                  omega
                refine Or.inl ⟨u10, v10, t3 + 1, _, ns1 ++ ns2 ++ ns3, K9 + 1, rfl, rfl, by omega, CX_dn j4 x10 x15 y7 y8 (by rw [← hws, adN_app, adN_app]; exact y4) (by rw [← hcs, adN_app, adN_app]; exact y5) y6 (adN_5 _ L2 (okNs_app (okNs_app g16 k9) j9) x6) (by omega) (by rw [List.length_append, hwl]; omega) (by rw [List.length_append, trs_len, List.length_map, hal]; omega), frE_t frC1 (frE_t j5 (frE_1 y7)), frH_t frR1' (frH_t j6 (frH_D y8)), fun i hi => ?_, by omega, okNs_app (okNs_app g16 k9) j9, by rw [hwl]; omega, by rw [hal]; omega, fun c nd => ?_, by omega⟩
                · obtain ⟨o1, o2, o3⟩ := k7 i (by omega)
                  obtain ⟨z1, z2⟩ := g11 i (by omega)
                  obtain ⟨a1', a2'⟩ := s10 i (by omega)
                  obtain ⟨l1, l2, l3⟩ := j7 i (by omega)
                  rw [y9 16 (by decide) (by decide) (by decide) (by decide) (by decide), y9 17 (by decide) (by decide) (by decide) (by decide) (by decide), y9 18 (by decide) (by decide) (by decide) (by decide) (by decide), l1, l2, l3, a1', a2', s11.1 18 (by decide) (by decide) (by decide) (by decide) (by decide) (by decide) (by decide), s3.1 16 (by decide) (by decide) (by decide) (by decide) (by decide), s3.1 17 (by decide) (by decide) (by decide) (by decide) (by decide), s3.1 18 (by decide) (by decide) (by decide) (by decide) (by decide), o1, o2, o3, z1, z2, g13.1 18 (by decide) (by decide) (by decide) (by decide) (by decide) (by decide) (by decide), b2.1 16 (by decide) (by decide) (by decide) (by decide) (by decide), b2.1 17 (by decide) (by decide) (by decide) (by decide) (by decide), b2.1 18 (by decide) (by decide) (by decide) (by decide) (by decide)]
                  exact ⟨rfl, rfl, rfl⟩
                · obtain ⟨c1, c3⟩ := List.append_eq_nil_iff.mp c
                  obtain ⟨c1, c2⟩ := List.append_eq_nil_iff.mp c1
                  obtain ⟨d1, d2⟩ := k12 c2 nd
                  obtain ⟨d3, d4⟩ := j12 c3 nd
                  rw [hlen, hld] at d1
                  rw [hl8, hm7] at d3
                  have hJ : nI (ws.length + 2 + (wds ((anC (some 8, nl.length, sl) s (ws.length + 2) (cs.length + 1) [] [] rl sk fR (nI (2000 * s + ld))).map Prod.fst)).length + (wds (A5.map Prod.fst)).length + 2 + (wds (A9.map Prod.fst)).length) = jc := by
                    rw [anC_map, wlen, ← hjc]; congr 1; omega
                  have hJr : nI (2000 * s + (cs.length + 1 + (anC (some 8, nl.length, sl) s (ws.length + 2) (cs.length + 1) [] [] rl sk fR (nI (2000 * s + ld))).length + A5.length + 1 + A9.length)) = jr := by
                    rw [anC_len, clen, ← hjr]; congr 1; omega
                  have G := GD_ife (n := nl.length) (sl := sl) (q := u.1 27 t) (sk := sk) (fR := fR) (tR := nI (2000 * s + ld)) (t := -1) (rl := rl) (C := anC (some 8, nl.length, sl) s (ws.length + 2) (cs.length + 1) [] [] rl sk fR (nI (2000 * s + ld))) (T := A5) (E := A9) (o := ws.length) (c := cs.length) (s := s) (p := pl.length) (pm := pm) rfl g3 g20 (g19 c1 nd) (by
                    rw [anC_map, wlen, anC_len, clen]
                    have z1 : ws.length + 2 + (lc - ws.length) = lc + 1 + 1 := by omega
                    have z2 : cs.length + 1 + (ld - (cs.length + 1)) = ld := by omega
                    rw [z1, z2]; exact d1) d2 (by
                    rw [anC_map, wlen, anC_len, clen]
                    have z1 : ws.length + 2 + (lc - ws.length) + (wds (A5.map Prod.fst)).length + 2 = lc + 2 + (wds (A5.map Prod.fst)).length + 1 + 1 := by omega
                    have z2 : cs.length + 1 + (ld - (cs.length + 1)) + A5.length + 1 = ld + A5.length + 1 := by omega
                    rw [z1, z2]; exact d3) d4 (by rw [anC_map, wlen, ← hsk]; congr 1; omega) (by rw [anC_len, clen, ← hfR]; congr 1; omega) (by rw [anC_len, clen]; congr 1; omega)
                  rw [hJ, hJr] at G
                  exact ⟨G, rfl⟩
              · exact Or.inr (XB_t (frE_t frC1 j5) (frH_t frR1' j6) bad)
            · obtain ⟨u10, y1, y2, y3⟩ := n83_F j2 (q_deeds (m + 1)) (nI (lc + 2 + (wds (A5.map Prod.fst)).length + 1))
              rw [nI_1 d, j1, q_b_some, y1, j4]
              exact Or.inr (XB_t frC1 frR1' ⟨f, p, u10, v9, m', rfl, y2, frE_t j3 y3, rfl, j5, j6⟩)
        · rw [if_neg (show ¬ km r2 = 12 from km_ne (b := 29) p1 (Or.inr (Or.inl (by omega))) c29)]
          obtain ⟨K, rfl⟩ : ∃ X, N2 = X + 2 := ⟨N2 - 2, by omega⟩
          rcases if_tail (N := K) k4 hd p2 p1 hD2 (fun e => absurd e c29) (Or.inl c16) c17 cn (by rw [hm5]; omega) (show lc + 1 < _ by rw [hl5]; omega) (q_deeds (m + 1)) with ⟨w1, _, u6, v6, w2, w3, w4, w5, w6, w7, w8, w9⟩ | bad
          · rw [w2, w3]
            rw [hl5] at w4
            rw [hm5] at w5
            generalize hsk : nI (lc + 2 + (wds (A5.map Prod.fst)).length) = sk at *
            generalize hfR : nI (2000 * s + (ld + A5.length)) = fR at *
            have hmap : (([deedA (none, nl.length, sl) (u.1 27 t)] ++ (anC (some 8, nl.length, sl) s (ws.length + 2) (cs.length + 1) [] [] rl sk fR (nI (2000 * s + ld)) ++ A5)).map Prod.fst) = ([1, u.1 27 t], 8, u.1 27 t, 0) :: (cI s (ws.length + 2) (cs.length + 1) [] [] rl sk fR (nI (2000 * s + ld)) ++ A5.map Prod.fst) := by
              rw [List.map_append, List.map_append, anC_map]
              rfl
            have hws : (cdC none none (ws ++ [1, u.1 27 t]) rl ++ [16, 0] ++ wds (A5.map Prod.fst)).set (lc + 1) sk = ws ++ wds (([deedA (none, nl.length, sl) (u.1 27 t)] ++ (anC (some 8, nl.length, sl) s (ws.length + 2) (cs.length + 1) [] [] rl sk fR (nI (2000 * s + ld)) ++ A5)).map Prod.fst) := by
              have cw := cond_words (s := s) (n := cs.length + 1) (ws := ws ++ [1, u.1 27 t]) (sk := sk) (fR := fR) (tR := nI (2000 * s + ld)) g3
              rw [hl1] at cw
              rw [List.append_assoc, ← hlc, set_mid2, ← List.append_assoc, cw, hmap, wds_cons, wds_app]
              simp only [List.append_assoc]
            have hcs : landT fR (cdR s [] [] (cs ++ [((8, u.1 27 t, 0) : Tr)]) rl).2.1 (cdL s (cs ++ [((8, u.1 27 t, 0) : Tr)]) rl ++ trs (A5.map Prod.fst)) = cs ++ trs (([deedA (none, nl.length, sl) (u.1 27 t)] ++ (anC (some 8, nl.length, sl) s (ws.length + 2) (cs.length + 1) [] [] rl sk fR (nI (2000 * s + ld)) ++ A5)).map Prod.fst) := by
              have cc := cond_codes (s := s) (o := ws.length + 2) (cs := cs ++ [((8, u.1 27 t, 0) : Tr)]) (sk := sk) (fR := fR) (tR := nI (2000 * s + ld)) g3 (by rw [hld])
              rw [hl2] at cc
              rw [landT_app _ _ (CHN_lt _ g6), cc, hmap, trs_cons, trs_app]
              simp only [List.append_assoc]
              rfl
            have hal : ([deedA (none, nl.length, sl) (u.1 27 t)] ++ (anC (some 8, nl.length, sl) s (ws.length + 2) (cs.length + 1) [] [] rl sk fR (nI (2000 * s + ld)) ++ A5)).length = 1 + (ld - (cs.length + 1)) + A5.length := by
              rw [← List.length_map (f := Prod.fst), hmap, List.length_cons, List.length_append, clen, List.length_map]
              omega
            have hwl : (wds (([deedA (none, nl.length, sl) (u.1 27 t)] ++ (anC (some 8, nl.length, sl) s (ws.length + 2) (cs.length + 1) [] [] rl sk fR (nI (2000 * s + ld)) ++ A5)).map Prod.fst)).length = 2 + (lc - ws.length) + (wds (A5.map Prod.fst)).length := by
              rw [hmap, wds_cons, wds_app, List.length_append, List.length_append, wlen]
              show 2 + _ = _
              omega
            refine Or.inl ⟨u6, v6, t2 + 1, _, ns1 ++ ns2, K + 1, rfl, rfl, by omega, CX_dn k4 x10 x15 w7 w8 (by rw [← hws, adN_app]; exact w4) (by rw [← hcs, adN_app]; exact w5) w6 (adN_5 _ L2 (okNs_app g16 k9) x6) (by omega) (by rw [List.length_append, hwl]; omega) (by rw [List.length_append, trs_len, List.length_map, hal]; omega), frE_t frC0 (frE_t k5 (frE_1 w7)), frH_t frR0 (frH_t k6 (frH_D w8)), fun i hi => ?_, by omega, okNs_app g16 k9, by rw [hwl]; omega, by rw [hal]; omega, fun c nd => ?_, by omega⟩
            · obtain ⟨y1, y2, y3⟩ := k7 i (by omega)
              obtain ⟨z1, z2⟩ := g11 i (by omega)
              rw [w9 16 (by decide) (by decide) (by decide) (by decide) (by decide), w9 17 (by decide) (by decide) (by decide) (by decide) (by decide), w9 18 (by decide) (by decide) (by decide) (by decide) (by decide), y1, y2, y3, z1, z2, g13.1 18 (by decide) (by decide) (by decide) (by decide) (by decide) (by decide) (by decide), b2.1 16 (by decide) (by decide) (by decide) (by decide) (by decide), b2.1 17 (by decide) (by decide) (by decide) (by decide) (by decide), b2.1 18 (by decide) (by decide) (by decide) (by decide) (by decide)]
              exact ⟨rfl, rfl, rfl⟩
            · obtain ⟨c1, c2⟩ := List.append_eq_nil_iff.mp c
              obtain ⟨d1, d2⟩ := k12 c2 nd
              rw [hlen, hld] at d1
              refine ⟨GD_if rfl g3 g20 (g19 c1 nd) ?_ d2 ?_ ?_ ?_, rfl⟩
              · rw [anC_map, wlen, anC_len, clen]
                have z1 : ws.length + 2 + (lc - ws.length) = lc + 1 + 1 := by omega
                have z2 : cs.length + 1 + (ld - (cs.length + 1)) = ld := by omega
                rw [z1, z2]; exact d1
              · rw [anC_map, wlen, ← hsk]; congr 1; omega
              · rw [anC_len, clen, ← hfR]; congr 1; omega
              · rw [anC_len, clen]; congr 1; omega
          · exact Or.inr (XB_t (frE_t frC0 k5) (frH_t frR0 k6) bad)
      · obtain ⟨u6, w1, w2, w3⟩ := ifB_F k2 (q_deeds (m + 1)) (nI d) (nI (lc + 1))
        rw [k1, q_b_some, w1, k4]
        exact Or.inr (XB_t frC0 frR0 ⟨f, p, u6, v5, m', rfl, w2, frE_t k3 w3, rfl, k5, k6⟩)
    · obtain ⟨u4, w1, w2, w3⟩ := ifA_F g2 m (nI d)
      rw [g1, q_b_some, w1, g4, q_b_some, LQ_F g5]
      exact Or.inr ⟨f, p, u4, v3, m', rfl, w2, frE_t (frE_1 (frP1_t b1 g3)) w3, rfl, g5, frH_t (frH_1 b2) (frH_D g6)⟩
  · obtain ⟨u3, g1, g2, g3⟩ := if_F a1 m (nI d)
    rw [if_eq] at g1
    obtain ⟨v3, g4, g5, g6⟩ := ifR_F a2 hb2 (by omega)
    rw [g1, g4, q_b_some, LQ_F g5]
    exact Or.inr ⟨f, p, u3, v3, m', rfl, g2, frE_t (frE_1 b1) g3, rfl, g5, frH_t (frH_1 b2) (frH_D g6)⟩
