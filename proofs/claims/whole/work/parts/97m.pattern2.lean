/-! a pattern, both sides; what all the patterns' code is -/
theorem GD_pm {W : List AI} {e : SS} {o c s p : Nat} {pm pm' : Nat → Nat} (h : GD W e o c s pm p) (hp : ∀ q, q < p → pm' q = pm q) : GD W e o c s pm' p := by
  intro i h1 h2
  rcases h i h1 h2 with h | h | h | h | h | h | h | h | h | h | h | h
  · exact Or.inl h
  · exact Or.inr (Or.inl h)
  · exact Or.inr (Or.inr (Or.inl h))
  · exact Or.inr (Or.inr (Or.inr (Or.inl h)))
  · exact Or.inr (Or.inr (Or.inr (Or.inr (Or.inl h))))
  · exact Or.inr (Or.inr (Or.inr (Or.inr (Or.inr (Or.inl h)))))
  · exact Or.inr (Or.inr (Or.inr (Or.inr (Or.inr (Or.inr (Or.inl h))))))
  · exact Or.inr (Or.inr (Or.inr (Or.inr (Or.inr (Or.inr (Or.inr (Or.inl h)))))))
  · exact Or.inr (Or.inr (Or.inr (Or.inr (Or.inr (Or.inr (Or.inr (Or.inr (Or.inl h))))))))
  · exact Or.inr (Or.inr (Or.inr (Or.inr (Or.inr (Or.inr (Or.inr (Or.inr (Or.inr (Or.inl h)))))))))
  · exact Or.inr (Or.inr (Or.inr (Or.inr (Or.inr (Or.inr (Or.inr (Or.inr (Or.inr (Or.inr (Or.inl h))))))))))
  · obtain ⟨q, k1, k2, k3, k4, k5⟩ := h
    exact Or.inr (Or.inr (Or.inr (Or.inr (Or.inr (Or.inr (Or.inr (Or.inr (Or.inr (Or.inr (Or.inr ⟨q, k1, by rw [hp q k1]; exact k2, by rw [hp q k1]; exact k3, k4, k5⟩))))))))))
abbrev pS (m : Nat) : SS := (0, none, m, fun i => i)
abbrev cw (W : List AI) : List Int32 := wds (W.map Prod.fst) ++ [0]
abbrev cr (W : List AI) : List Tr := trs (W.map Prod.fst) ++ [(18, 0, 0)]
/-- the code of n patterns -/
def PG (s : Nat) (pm fo fr : Nat → Nat) (pg : Nat → List AI) (n : Nat) (ws : List Int32) (cs : List Tr) : Prop := ∀ i, i < n → pm i ≤ 2 ∧ GD (pg i) (pS (pm i)) (fo i) (fr i) s pm i ∧ ssA (pg i) (pS (pm i)) 0 = pS (pm i) ∧ (∃ a b, ws = a ++ (cw (pg i) ++ b) ∧ a.length = fo i) ∧ (∃ a b, cs = a ++ (cr (pg i) ++ b) ∧ a.length = fr i) ∧ ∀ j, j < i → fo j + (cw (pg j)).length ≤ fo i
def up1 {α : Type} (n : Nat) (x : α) (f : Nat → α) : Nat → α := fun i => if i = n then x else f i
theorem up1_eq {α : Type} {n : Nat} {x : α} {f : Nat → α} : up1 n x f n = x := if_pos rfl
theorem up1_ne {α : Type} {n i : Nat} {x : α} {f : Nat → α} (h : i ≠ n) : up1 n x f i = f i := if_neg h
theorem PG_snoc {s n m : Nat} {pm fo fr : Nat → Nat} {pg : Nat → List AI} {ws : List Int32} {cs : List Tr} {B : List AI} (h : PG s pm fo fr pg n ws cs) (hm : m ≤ 2) (hB : GD B (pS m) ws.length cs.length s pm n) (hB0 : ssA B (pS m) 0 = pS m) : PG s (up1 n m pm) (up1 n ws.length fo) (up1 n cs.length fr) (up1 n B pg) (n + 1) (ws ++ cw B) (cs ++ cr B) := by
  intro i hi
  by_cases e : i = n
  · subst e
    rw [up1_eq, up1_eq, up1_eq, up1_eq]
    refine ⟨hm, GD_pm hB (fun q hq => up1_ne (by omega)), hB0, ⟨ws, [], by rw [List.append_nil], rfl⟩, ⟨cs, [], by rw [List.append_nil], rfl⟩, fun j hj => ?_⟩
    rw [up1_ne (by omega), up1_ne (by omega)]
    obtain ⟨_, _, _, ⟨a, b, h1, h2⟩, _⟩ := h j hj
    rw [← h2]
    have := congrArg List.length h1
    rw [List.length_append, List.length_append] at this
    omega
  · obtain ⟨g1, g2, g3, ⟨a, b, h1, h2⟩, ⟨a', b', h3, h4⟩, g6⟩ := h i (by omega)
    rw [up1_ne e, up1_ne e, up1_ne e, up1_ne e]
    refine ⟨g1, GD_pm g2 (fun q hq => up1_ne (by omega)), g3, ⟨a, b ++ cw B, by rw [h1]; simp only [List.append_assoc], h2⟩, ⟨a', b' ++ cr B, by rw [h3]; simp only [List.append_assoc], h4⟩, fun j hj => ?_⟩
    rw [up1_ne (show j ≠ n by omega), up1_ne (show j ≠ n by omega)]
    exact g6 j hj
theorem toks_of {T : Nat} {u v u' v' : q_W} (h : toks T u v) (a1 : u'.1 26 = u.1 26) (a2 : u'.1 27 = u.1 27) (a3 : u'.2.2 28 = u.2.2 28) (b1 : v'.1 3 = v.1 3) (b2 : v'.1 4 = v.1 4) (b3 : v'.1 5 = v.1 5) (b4 : v'.2.2 6 = v.2.2 6) : toks T u' v' := by
  unfold toks tokOK at *
  rw [a1, a2, a3, b1, b2, b3, b4]
  exact h
def TX (P T s t : Nat) (L1 L2 : Nat × Int32) (ws : List Int32) (cs : List Tr) (pl : List (List Nat)) (pm fo fr : Nat → Nat) (pg : Nat → List AI) (ns : List (Nat × Int32)) (u v : q_W) : Prop :=
  toks T u v ∧ DC P s pl pm u v ∧ PC P t L1 ws u ∧ PR s t L2 cs [] 0 v ∧ L2.1 ≤ 5 ∧ t ≤ T ∧ ws.length ≤ 3 * t ∧ cs.length ≤ 2 * t ∧ (∀ i, i < pl.length → u.1 (P + 2) i = nI (fo i) ∧ v.1 11 (8 * s + i) = nI (2000 * s + fr i)) ∧ (ns = [] → PG s pm fo fr pg pl.length ws cs)
def PTO (P T s t : Nat) (L1 L2 : Nat × Int32) (ws : List Int32) (cs : List Tr) (pl : List (List Nat)) (pm fo fr : Nat → Nat) (pg : Nat → List AI) (ns : List (Nat × Int32)) (u v : q_W) (cu rv : Option (Unit × q_W)) : Prop :=
  ∃ u' v' t' l m B nb, cu = some ((), u') ∧ rv = some ((), v') ∧ TX P T s t' (adN nb L1) (adN nb L2) (ws ++ cw B) (cs ++ cr B) (pl ++ [l]) (up1 pl.length m pm) (up1 pl.length ws.length fo) (up1 pl.length cs.length fr) (up1 pl.length B pg) (ns ++ nb) u' v' ∧ t < t' ∧ okNs nb ∧ frF1 P u u' ∧ frPT s v v'
theorem pat_ok {P T s t : Nat} {L1 L2 : Nat × Int32} {ws : List Int32} {cs : List Tr} {pl : List (List Nat)} {pm fo fr : Nat → Nat} {pg : Nat → List AI} {ns : List (Nat × Int32)} {u v : q_W} (X : TX P T s t L1 L2 ws cs pl pm fo fr pg ns u v) (h3 : v.1 3 t = nI 20) : PTO P T s t L1 L2 ws cs pl pm fo fr pg ns u v (fX5_readPattern u) (fX11_tellPattern v) ∨ XQ P s u v (fX5_readPattern u) (fX11_tellPattern v) := by
  obtain ⟨x1, x2, x3, x4, x5, x6, x7, x8, x9, x10⟩ := X
  have hT := x1.1
  have hP := x3.1
  have hne := isP_ne hP
  have hs := x4.1
  have ET0 : ET T u v := ⟨x1, trivial⟩
  obtain ⟨r, qq1, qq2, qq3, qq4, qq5, qq6, qq7⟩ := tknT ET0 x6
  clear qq5 qq6
  have e : r = 20 := by
    by_cases e : r = 20
    · exact e
    · rw [h3] at qq2
      have := rOK_35 qq1
      exact absurd qq2 (nI_ne (by omega) (by omega) (fun c => e c.symm))
  subst e
  obtain ⟨D1, D2, D3, D4, D5, D6, D7, D8⟩ := x2
  have i20 : fX11_is 20 v = some (1, v) := isR1 x4 (by omega) h3
  unfold fX5_readPattern fX11_tellPattern
  rw [x3.2.1, if_pos (isP_c hP)]
  unfold fX4_size
  rw [if_pos (isP_c hP), q_b_some, D5, i20, q_b_some, if_neg i_10, D7, q_lt_eq, if_pos (q_inb_nI hs (by omega)), q_ix_nI (by omega), D6]
  by_cases n8 : pl.length = 8
  · obtain ⟨u1, e1, a1, b1⟩ := fail_st x3 2 (by omega)
    obtain ⟨v1, e2, a2, b2⟩ := failR_st x4 (by omega) 2 (by omega) 40 (by show 0 ≤ 40; omega) (by omega) (by omega)
    have e1 : fX5_fail 2 u = some ((), u1) := e1
    have e2 : fX11_fail 2 v = some ((), v1) := e2
    rw [if_neg (by rw [show (8 : Int32) = nI 8 from rfl, nI_ltI (by omega) (by omega)]; omega), e1, q_b_some, if_pos (by rw [n8]; rfl), e2, q_b_some]
    unfold fX11_tellPattern_n28
    rw [must_F a2, q_b_some, q_lt_eq, must_F a2, q_b_some, a2.2.2.2.1, if_neg (nI_nle (by omega) (by omega))]
    rw [← qq4] at a1
    exact Or.inr ⟨2, _, u1, v1, 40, rfl, a1, frF1_1 b1, rfl, a2, frPT_1 b2⟩
  · have hp : pl.length < 8 := by omega
    rw [if_pos (by rw [show (8 : Int32) = nI 8 from rfl, nI_ltI (by omega) (by omega)]; omega), if_neg (show ¬ nI pl.length = 8 from nI_ne (b := 8) (by omega) (by decide) (by omega))]
    unfold fX11_tellPattern_n28
    -- the reference in a fault ahead of its name
    have fltR : ∀ f p m (y : Int32) (v1 : q_W), FR s f p m v1 → (if (v1.1 0 13) ≤ 0 then q_lt (v1.1 0 19) fun y6 => if q_inb y6 2 then q_lt ((8 * (v1.1 0 19)) + (v1.1 8 (q_ix y6))) fun y7 => q_lt (8 * (v1.1 0 19)) fun y8 => fX11_tellPattern_l78 y y7 y8 v1 else none else some ((), v1)) = some ((), v1) := by
      intro f p m y v1 h
      rw [h.2.2.2.1, if_neg (nI_nle (by have := h.2.1; omega) (by have := h.2.2.1; omega))]
    -- the class in a fault behind its name
    have fltC : ∀ f p (u1 : q_W), FC P f p u1 → ∃ u', (q_lt (q_sI u1 23 3 0) fun w12 => if (w12.1 23 5) = 40 then q_b (fX5_take 40 w12) fun _ w14 => q_b (fX5_readReach w14) fun _ w16 => if (w16.1 23 5) = 44 then q_b (fX5_take 44 w16) fun _ w18 => q_b (fX5_readReach w18) fun _ w20 => fX5_readPattern_n86 w20 else fX5_readPattern_n86 w16 else fX5_readPattern_n92 w12) = some ((), u') ∧ FC P f p u' ∧ frF1 P u1 u' := by
      intro f p u1 h
      have h' := set3_F h 0
      obtain ⟨u2, e, a, b⟩ := n92_F h'
      rw [q_lt_eq, h'.2.2.2.2.2.2, if_neg (by decide), e]
      exact ⟨u2, rfl, a, frF1_t (frF_E (frE_23 P u1 0 hP)) b⟩
    rw [show (3 : Int32) = km 20 from rfl, show (20 : Int32) = nI 20 from rfl]
    rcases tok_bothT ET0 x3 x4 x6 (by omega) (r := 20) (Or.inr (Or.inl (by omega))) (by decide) (by decide) with ⟨hlt, _, u1, v1, g1, g2, a1, a2, b1, b2⟩ | ⟨f, p, u1, v1, m, g1, a1, b1, g2, a2, b2⟩
    · rw [g1, q_b_some, g2, q_b_some, says_st a1 (by omega), q_b_some, a2.2.1, q_lt_eq]
      have D' := DC_fr ⟨D1, D2, D3, D4, D5, D6, D7, D8⟩ b1 b2
      have ET1 : ET T u1 v1 := ⟨toks_fr hP x1 b1 b2, trivial⟩
      obtain ⟨r1, y1, y2, y3, y4, y5, y6, y7⟩ := tknT ET1 (show t + 1 ≤ T by omega)
      clear y6
      by_cases c1 : r1 = 1
      · subst c1
        obtain ⟨l, hl, z1, z2⟩ := y5 rfl
        clear y5
        obtain ⟨u2, e1, a3, b3⟩ := npC_ok (T := T) D' a1 hp hl
        have a3' : PC P (t + 1) _ ws (q_sL u2 29 pl.length (lN (q2 l))) := a3
        have f26 := fr26 hP (frP1_t b1 b3)
        have b12 := frP1_t b1 b3
        have q28 : (q_sL u2 29 pl.length (lN (q2 l))).2.2 28 = u.2.2 28 := by
          have : (q_sL u2 29 pl.length (lN (q2 l))).2.2 28 = u2.2.2 28 := by
            funext i
            show (if 28 = 29 ∧ i = pl.length then lN (q2 l) else u2.2.2 28 i) = _
            simp
          rw [this, b12.2.2.2]
        have ET2 : ET T (q_sL u2 29 pl.length (lN (q2 l))) v1 := ⟨toks_of x1 f26.1 f26.2 q28 (frR4 b2).1 (frR4 b2).2.1 (frR4 b2).2.2 (by rw [b2.2.2.2]), trivial⟩
        rw [z1, e1, q_b_some]
        rcases tok_bothT ET2 a3' a2 (show t + 1 ≤ T by omega) (by omega) (r := 1) (Or.inl (by omega)) (by decide) (by decide) with ⟨hlt2, _, u3, v2, g3, g4, a5, a6, b5, b6⟩ | ⟨f, p, u3, v2, m, g3, a5, b5, g4, a6, b6⟩
        · have g3 : fX5_take 1 (q_sL u2 29 pl.length (lN (q2 l))) = some ((), u3) := g3
          have g4 : fX11_must 1 v1 = some ((), v2) := g4
          have b26 := frR1_t b2 b6
          have v219 : v2.1 0 19 = nI s := by rw [b26.2.1 19 (by omega) (by omega) (by omega), D7]
          have v28 : v2.1 8 s = nI pl.length := by rw [b26.1 8 (by decide) (by decide) (by decide) (by decide) (by decide), D6]
          have D2' := DC_fr ⟨D1, D2, D3, D4, D5, D6, D7, D8⟩ (frP1_r P u) b26
          have p2 : v2.1 4 (t + 1) = u1.1 27 (t + 1) := by rw [(frR4 b6).2.1]; exact y4
          obtain ⟨v3, k1, k2, k3, k4, k5, k6, k7, k8, k9, k10, k11, k12, k13, k14, k15⟩ := pnames_lok (tk := t + 1) x5 hp hl (by omega) pl.length q_N 0 v2 (by omega) (Nat.lt_of_lt_of_le hp (Nat.le_of_ble_eq_true rfl)) D2' a6 (by rw [b6.2.2.2]; exact z2)
          rw [p2] at k2
          rw [g3, q_b_some, g4, q_b_some, a6.2.2.1, if_pos (show (0 : Int32) ≤ 0 by decide), v219, q_lt_eq, q_lt_eq, if_pos (q_inb_nI hs (by omega)), q_ix_nI (show s < 2 ^ 31 by omega), v28, show (8 : Int32) = nI 8 from rfl, pk_mul, nI_add, q_lt_eq, q_lt_eq]
          unfold fX11_tellPattern_l78
          rw [show nI (8 * s) = nI (8 * s + 0) from rfl, k1]
          -- the state behind the name
          have a7 : PC P (t + 1 + 1) _ ws (q_sI u3 23 3 0) := PC_3 a5 0
          have fF : frF1 P u (q_sI u3 23 3 0) := frF1_t (frF1_1 b12) (frF1_t (frF_L P u2 _ _) (frF1_t (frF1_1 b5) (frF_E (frE_23 P u3 0 hP))))
          have fT : frPT s v v3 := frPT_t (frPT_1 b26) k15
          have c23 : ∀ q, q ≠ 23 → (q_sI u3 23 3 0).1 q = u3.1 q := fun q hq => sI_cell _ _ _ _ _ hq
          have u3L : (q_sI u3 23 3 0).2 = (q_sL u2 29 pl.length (lN (q2 l))).2 := by show u3.2 = _; rw [b5.2.2.2]
          have f5 := fr26 hP b5
          have hE : EN T s [] (q_sI u3 23 3 0) v3 := ⟨toks_of x1 (by rw [c23 26 (by decide), f5.1]; exact f26.1) (by rw [c23 27 (by decide), f5.2]; exact f26.2) (by rw [u3L]; exact q28) (by rw [k10, (frR4 b26).1]) (by rw [k11, (frR4 b26).2.1]) (by rw [k12, (frR4 b26).2.2]) (by rw [k13, b26.2.2.2]), hs, by decide, sI_same _ _ _ _, k3, fun i hi => absurd hi (Nat.not_lt_zero i), trivial⟩
          have nP : ∀ q, q = P ∨ q = P + 2 ∨ q = P + 3 → q ≠ 23 ∧ q ≠ P + 1 := fun q hq => by rcases hP with e | e <;> omega
          have cP : ∀ q k, q = P + 2 ∨ q = P + 3 → (q_sI u3 23 3 0).1 q k = u.1 q k := fun q k hq => by
            obtain ⟨w1, w2⟩ := nP q (Or.inr hq)
            rw [c23 q w1, b5.1 q w1 (by omega) w2]
            show u2.1 q k = _
            rw [b12.1 q w1 (by omega) w2]
          have cP4 : (q_sI u3 23 3 0).1 P 4 = u.1 P 4 := by
            rw [c23 P hne.1, b5.2.2.1 4 (by decide)]
            show u2.1 P 4 = _
            rw [b12.2.2.1 4 (by decide)]
          have c29 : ∀ i, (q_sI u3 23 3 0).2.2 29 i = if i = pl.length then lN (q2 l) else u.2.2 29 i := fun i => by
            rw [u3L]
            show (if 29 = 29 ∧ i = pl.length then lN (q2 l) else u2.2.2 29 i) = _
            rw [b12.2.2.2]
            simp
          have DN : DC P s pl pm (q_sI u3 23 3 0) v3 := by
            refine ⟨D1, D2, a7.2.1, D4, by rw [cP4, D5], by rw [k8, v28], by rw [k14, v219], fun i hi => ?_⟩
            rw [c29, if_neg (by omega), cP _ _ (Or.inr rfl), k5 _ (by omega), k9, b26.2.2.2, b26.1 10 (by decide) (by decide) (by decide) (by decide) (by decide)]
            exact D8 i hi
          rcases pat_rest hE DN hp a7 k2 (adI_5 x5) (show t + 1 + 1 ≤ T by omega) (by omega) (by omega) with ⟨m, u9, v9, t9, B, nb, w1, w2, w3, w4, w5, w6, w7, w8, w9, w10, w11, w12, w13, w14, w15, w16, w17, w18, w19, w20, w21, w22, w23, w24⟩ | ⟨f, p, u9, v9, m, w1, w2, w3, w4, w5, w6⟩
          · refine Or.inl ⟨u9, v9, t9, l, m, B, ntI (idF pl l pl.length 0) (u1.1 27 (t + 1)) ++ nb, w2, w3, ?_, by omega, okNs_app (ntI_ok _ _) w8, frF1_t fF w23, frPT_t fT w24⟩
            have hlen : (pl ++ [l]).length = pl.length + 1 := by rw [List.length_append]; rfl
            have v9k : ∀ k, ¬ (11 ≤ k ∧ k ≤ 16) → k ≠ 24 → k ≠ 28 → k ≠ 30 → k ≠ 35 → k ≠ 36 → k ≠ 38 → v9.1 0 k = v.1 0 k := (frPT_t fT w24).2.1
            refine ⟨w21, ⟨D1, D2, w4.2.1, by rw [hlen]; omega, by rw [hlen, w11], by rw [hlen, w12], by rw [v9k 19 (by omega) (by omega) (by omega) (by omega) (by omega) (by omega) (by omega), D7], fun i hi => ?_⟩, by rw [adN_app, ← adI_nt]; exact w4, by rw [adN_app, ← adI_nt]; exact w5, adN_5 _ L2 (okNs_app (ntI_ok _ _) w8) x5, w7, by rw [List.length_append, List.length_append]; show _ + (_ + 1) ≤ _; omega, by rw [List.length_append, List.length_append, trs_len, List.length_map]; show _ + (_ + 1) ≤ _; omega, fun i hi => ?_, fun c => ?_⟩
            · rw [hlen] at hi
              rw [gN_snoc, w19, c29, w20]
              by_cases ei : i = pl.length
              · rw [if_pos ei, if_pos ei, ei, k4, w14, w16, up1_eq]
                exact ⟨hl, rfl, rfl, rfl, rfl, w1⟩
              · rw [if_neg ei, if_neg ei, (w15 i ei).2, w17 _ (by omega), cP _ _ (Or.inr rfl), k5 _ (by omega), k9, b26.2.2.2, b26.1 10 (by decide) (by decide) (by decide) (by decide) (by decide), up1_ne ei]
                exact D8 i (by omega)
            · rw [hlen] at hi
              rw [w18]
              by_cases ei : i = pl.length
              · rw [ei, w13, k6, up1_eq, up1_eq]
                exact ⟨rfl, rfl⟩
              · rw [(w15 i ei).1, cP _ _ (Or.inl rfl), k7 _ (by omega), b26.1 11 (by decide) (by decide) (by decide) (by decide) (by decide), up1_ne ei, up1_ne ei]
                exact x9 i (by omega)
            · obtain ⟨c1, c2⟩ := List.append_eq_nil_iff.mp c
              obtain ⟨c2, c3⟩ := List.append_eq_nil_iff.mp c2
              obtain ⟨d1, d2⟩ := w22 c3
              rw [hlen]
              exact PG_snoc (x10 c1) w1 d1 d2
          · exact Or.inr ⟨f, p, u9, v9, m, w1, w2, frF1_t fF w3, w4, w5, frPT_t fT w6⟩
        · have g3 : fX5_take 1 (q_sL u2 29 pl.length (lN (q2 l))) = some ((), u3) := g3
          have g4 : fX11_must 1 v1 = some ((), v2) := g4
          obtain ⟨u4, w1, w2, w3⟩ := fltC f p u3 a5
          rw [g3, q_b_some, w1, g4, q_b_some, fltR f p m _ v2 a6]
          exact Or.inr ⟨f, p, u4, v2, m, rfl, w2, frF1_t (frF1_1 b12) (frF1_t (frF_L P u2 _ _) (frF1_t (frF1_1 b5) w3)), rfl, a6, frPT_1 (frR1_t b2 b6)⟩
      · clear y5
        obtain ⟨u2, L', e1, a3, b3⟩ := npC_any D' a1 hp (u1.2.2 28 (t + 1))
        have a3' : PC P (t + 1) L' ws (q_sL u2 29 pl.length (u1.2.2 28 (t + 1))) := a3
        have b12 := frP1_t b1 b3
        have f26 := fr26 hP b12
        have q28 : (q_sL u2 29 pl.length (u1.2.2 28 (t + 1))).2.2 28 = u.2.2 28 := by
          have : (q_sL u2 29 pl.length (u1.2.2 28 (t + 1))).2.2 28 = u2.2.2 28 := by
            funext i
            show (if 28 = 29 ∧ i = pl.length then u1.2.2 28 (t + 1) else u2.2.2 28 i) = _
            simp
          rw [this, b12.2.2.2]
        have ET2 : ET T (q_sL u2 29 pl.length (u1.2.2 28 (t + 1))) v1 := ⟨toks_of x1 f26.1 f26.2 q28 (frR4 b2).1 (frR4 b2).2.1 (frR4 b2).2.2 (by rw [b2.2.2.2]), trivial⟩
        rw [e1, q_b_some]
        rcases tok_bothT ET2 a3' a2 (show t + 1 ≤ T by omega) (by omega) (r := 1) (Or.inl (by omega)) (by decide) (by decide) with ⟨hlt2, hh, _⟩ | ⟨f, p, u3, v2, m, g3, a5, b5, g4, a6, b6⟩
        · rw [y2] at hh
          have := rOK_35 y1
          exact absurd hh (nI_ne (by omega) (by omega) c1)
        · have g3 : fX5_take 1 (q_sL u2 29 pl.length (u1.2.2 28 (t + 1))) = some ((), u3) := g3
          have g4 : fX11_must 1 v1 = some ((), v2) := g4
          obtain ⟨u4, w1, w2, w3⟩ := fltC f p u3 a5
          rw [g3, q_b_some, w1, g4, q_b_some, fltR f p m _ v2 a6]
          exact Or.inr ⟨f, p, u4, v2, m, rfl, w2, frF1_t (frF1_1 b12) (frF1_t (frF_L P u2 _ _) (frF1_t (frF1_1 b5) w3)), rfl, a6, frPT_1 (frR1_t b2 b6)⟩
    · obtain ⟨x, e0⟩ := says_any (u1.1 23 4) u1
      have D' := DC_fr ⟨D1, D2, D3, D4, D5, D6, D7, D8⟩ b1 b2
      obtain ⟨u2, e1, a3, b3⟩ := npC_F D' a1 x
      obtain ⟨u3, e2, a4, b4⟩ := take_F a3 1
      obtain ⟨u4, w1, w2, w3⟩ := fltC f p u3 a4
      rw [g1, q_b_some, e0, q_b_some, e1, q_b_some, e2, q_b_some, w1, g2, q_b_some, q_lt_eq, must_F a2, q_b_some, fltR f p m _ v1 a2]
      exact Or.inr ⟨f, p, u4, v1, m, rfl, w2, frF1_t (frF1_1 b1) (frF1_t b3 (frF1_t (frF1_1 b4) w3)), rfl, a2, frPT_1 b2⟩
