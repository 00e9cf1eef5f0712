/-! a deed's context, what a deed gives -/
theorem EC_D {T P s s' : Nat} {nl : List (List Nat)} {sl : Nat → Nat} {u u' v v' : q_W} (hP : isP P) (h : EC T s nl sl u v) (f : frP1 P u u') (g : frD s' v v') : EC T s nl sl u' v' := by
  have hne := isP_ne hP
  refine ⟨?_, ?_⟩
  · have h := h.1
    unfold toks tokOK at *
    rw [f.1 26 (by decide) (by omega) (by omega), f.1 27 (by decide) (by omega) (by omega), f.2.2.2, g.1 3 (by decide) (by decide) (by decide) (by decide) (by decide) (by decide) (by decide), g.1 4 (by decide) (by decide) (by decide) (by decide) (by decide) (by decide) (by decide), g.1 5 (by decide) (by decide) (by decide) (by decide) (by decide) (by decide) (by decide), g.2.2.2]
    exact h
  · have h' := h.2
    rw [f.2.1 3 (by omega), f.2.2.2, g.2.1 28 (by omega) (by omega) (by omega) (by omega) (by omega) (by omega), g.2.1 19 (by omega) (by omega) (by omega) (by omega) (by omega) (by omega), g.1 8 (by decide) (by decide) (by decide) (by decide) (by decide) (by decide) (by decide), g.1 10 (by decide) (by decide) (by decide) (by decide) (by decide) (by decide) (by decide), g.1 19 (by decide) (by decide) (by decide) (by decide) (by decide) (by decide) (by decide), g.2.2.2]
    exact h'
theorem DC_H {P s s' : Nat} {pl : List (List Nat)} {pm : Nat → Nat} {u u' v v' : q_W} (h : DC P s pl pm u v) (f : frE P u u') (g : frH s' v v') : DC P s pl pm u' v' := by
  obtain ⟨h1, h2, h3, h4, h5, h6, h7, h8⟩ := h
  have hne := isP_ne h1
  refine ⟨h1, h2, by rw [f.2.2.2.1, h3], h4, by rw [f.2.2.1 4 (by decide), h5], by rw [g.1 8 (by decide) (by decide) (by decide) (by decide) (by decide) (by decide) (by decide) (by decide) (by decide), h6], by rw [g.2.1 19 (by omega) (by omega) (by omega) (by omega) (by omega) (by omega) (by omega), h7], fun i hi => ?_⟩
  rw [f.2.2.2.2 29 (by decide), g.2.2.2.2 9 (by decide), f.1 (P + 3) (by rcases h1 with e | e <;> omega) (by omega) (by omega), g.1 10 (by decide) (by decide) (by decide) (by decide) (by decide) (by decide) (by decide) (by decide) (by decide)]
  exact h8 i hi
def CX (P T s t d mm : Nat) (L1 L2 : Nat × Int32) (ws : List Int32) (cs : List Tr) (nl : List (List Nat)) (sl : Nat → Nat) (pl : List (List Nat)) (pm : Nat → Nat) (u v : q_W) : Prop :=
  EC T s nl sl u v ∧ DC P s pl pm u v ∧ PC P t L1 ws u ∧ PR s t L2 cs [] 0 v ∧ v.1 0 30 = nI (d + 1) ∧ L2.1 ≤ 5 ∧ t ≤ T ∧ ws.length ≤ 3 * t + 20 ∧ cs.length ≤ 2 * t + 20 ∧ nl.length ≤ d + 2 ∧ mm ≤ nl.length ∧ pl.length < 8 ∧ v.1 10 (8 * s + pl.length) = nI mm ∧ mm ≤ 2 ∧ ∀ i, i < nl.length → sl i < d + 2
def DR (P T s t d mm : Nat) (L1 L2 : Nat × Int32) (ws : List Int32) (cs : List Tr) (nl : List (List Nat)) (sl : Nat → Nat) (pl : List (List Nat)) (pm : Nat → Nat) (u v : q_W) (N : Nat) (Q : Nat → Prop) (cu rv : Option (Unit × q_W)) : Prop :=
  ∃ u' v' t' A ns N', cu = some ((), u') ∧ rv = LQ N' v' ∧ N ≤ N' + (t' - t) ∧ CX P T s t' d mm (adN ns L1) (adN ns L2) (ws ++ wds (A.map Prod.fst)) (cs ++ trs (A.map Prod.fst)) nl sl pl pm u' v' ∧ frE P u u' ∧ frH s v v' ∧ (∀ i, i ≤ d → v'.1 16 i = v.1 16 i ∧ v'.1 17 i = v.1 17 i ∧ v'.1 18 i = v.1 18 i) ∧ t ≤ t' ∧ okNs ns ∧ (wds (A.map Prod.fst)).length ≤ 3 * (t' - t) ∧ A.length ≤ 2 * (t' - t) ∧ (ns = [] → ndp nl → GD A (0, none, nl.length, sl) ws.length cs.length s pm pl.length ∧ ssA A (0, none, nl.length, sl) 0 = (0, none, nl.length, sl)) ∧ Q t'
theorem DR_fin {P T s t d mm : Nat} {L1 L2 : Nat × Int32} {ws : List Int32} {cs : List Tr} {nl : List (List Nat)} {sl : Nat → Nat} {pl : List (List Nat)} {pm : Nat → Nat} {u v u' v' : q_W} {t' : Nat} {A : List AI} {ns : List (Nat × Int32)} {N : Nat} (hX : CX P T s t d mm L1 L2 ws cs nl sl pl pm u v) (hC : PC P t' (adN ns L1) (ws ++ wds (A.map Prod.fst)) u') (hR : PR s t' (adN ns L2) (cs ++ trs (A.map Prod.fst)) [] 0 v') (b1 : frP1 P u u') (b2 : frR1 s v v') (h : t < t') (h' : t' ≤ T) (ho : okNs ns) (hw : (wds (A.map Prod.fst)).length ≤ 3 * (t' - t)) (hc : A.length ≤ 2 * (t' - t)) (hg : ns = [] → ndp nl → GD A (0, none, nl.length, sl) ws.length cs.length s pm pl.length ∧ ssA A (0, none, nl.length, sl) 0 = (0, none, nl.length, sl)) : DR P T s t d mm L1 L2 ws cs nl sl pl pm u v (N + 1) (fun t' => t < t') (some ((), u')) (LQ N v') := by
  obtain ⟨x1, x2, x3, x4, x5, x6, x7, x8, x9, x10, x11, x12, x13, x14, x15⟩ := hX
  refine ⟨u', v', t', A, ns, N, rfl, rfl, by omega, ⟨EC_fr x3.1 x1 b1 b2, DC_fr x2 b1 b2, hC, hR, by rw [b2.2.1 30 (by omega) (by omega) (by omega), x5], adN_5 ns L2 ho x6, h', by rw [List.length_append]; omega, by rw [List.length_append, trs_len, List.length_map]; omega, x10, x11, x12, by rw [b2.1 10 (by decide) (by decide) (by decide) (by decide) (by decide), x13], x14, x15⟩, frE_1 b1, frH_1 b2, fun i hi => ⟨?_, ?_, ?_⟩, by omega, ho, hw, hc, hg, h⟩
  · rw [b2.1 16 (by decide) (by decide) (by decide) (by decide) (by decide)]
  · rw [b2.1 17 (by decide) (by decide) (by decide) (by decide) (by decide)]
  · rw [b2.1 18 (by decide) (by decide) (by decide) (by decide) (by decide)]
/-- the class enters a deed -/
theorem km_D : ∀ r, r < 35 → (r = 22 ∨ r = 23 ∨ r = 24 ∨ r = 25 ∨ r = 26 ∨ r = 28 ∨ r = 30) → km r = nI (r - 17) := by decide
theorem rd_enter {P t r d : Nat} {L : Nat × Int32} {ws : List Int32} {u : q_W} (hC : PC P t L ws u) (h3 : u.1 26 t = km r) (hd : isD r) (hd6 : d ≤ 6) (rF : Int32 → Int32 → q_W → Option (Unit × q_W)) (rI : Int32 → q_W → Option (Unit × q_W)) : fX5_readDeed rF rI (nI d) u = (if (r = 26 ∨ r = 28) ∧ d = 6 then fX5_readDeed_n28 rF rI u else fX5_readDeed_n34 rF rI (nI d) (nI (r - 17)) (u.1 27 t) u) := by
  have hk := km_D r (by unfold isD at hd; omega) hd
  unfold isD at hd
  unfold fX5_readDeed
  rw [q_lt_eq, q_lt_eq, hC.2.2.2.1, hC.2.2.2.2.1, h3, hk]
  by_cases c : d = 6
  · rw [if_neg (by rw [show (6 : Int32) = nI 6 from rfl, nI_ltI (by omega) (by omega)]; omega)]
    by_cases c26 : r = 26
    · rw [if_pos (by rw [c26]; rfl), if_pos ⟨Or.inl c26, c⟩]
    · rw [if_neg (show ¬ nI (r - 17) = 9 from nI_ne (b := 9) (by omega) (by decide) (by omega))]
      by_cases c28 : r = 28
      · rw [if_pos (by rw [c28]; rfl), if_pos ⟨Or.inr c28, c⟩]
      · rw [if_neg (show ¬ nI (r - 17) = 11 from nI_ne (b := 11) (by omega) (by decide) (by omega)), if_neg (by omega)]
  · rw [if_pos (by rw [show (6 : Int32) = nI 6 from rfl, nI_ltI (by omega) (by omega)]; omega), if_neg (by omega)]
/-- a stroke's deed -/
theorem deed_stroke {P T s t d mm k : Nat} {L1 L2 : Nat × Int32} {ws : List Int32} {cs : List Tr} {nl : List (List Nat)} {sl : Nat → Nat} {pl : List (List Nat)} {pm : Nat → Nat} {u v : q_W} (hX : CX P T s t d mm L1 L2 ws cs nl sl pl pm u v) (hd6 : d ≤ 6) (hk : k ≤ 3) (h3 : v.1 3 t = nI (22 + k)) (rF : Int32 → Int32 → q_W → Option (Unit × q_W)) (rI : Int32 → q_W → Option (Unit × q_W)) (N : Nat) (hN : 0 < N) : DR P T s t d mm L1 L2 ws cs nl sl pl pm u v (N + 1) (fun t' => t < t') (fX5_readDeed rF rI (nI d) u) (q_b (fX11_tellDeed v) fun _ w => LQ N w) ∨ XB P s u v (fX5_readDeed rF rI (nI d) u) (q_b (fX11_tellDeed v) fun _ w => LQ N w) := by
  have hX0 := hX
  obtain ⟨x1, x2, x3, x4, x5, x6, x7, x8, x9, x10, x11, x12, x13, x14, x15⟩ := hX
  have hT := x1.1.1
  have hr : rOK (22 + k) := Or.inr (Or.inl (by omega))
  have hD : isD (22 + k) := by unfold isD; omega
  obtain ⟨r', q1, q2, q3, q4, q5, q6, q7⟩ := tkn x1 x7
  clear q5 q6 q7
  have e : r' = 22 + k := by
    by_cases e : r' = 22 + k
    · exact e
    · rw [h3] at q2
      unfold rOK at q1
      exact absurd q2 (nI_ne (by omega) (by omega) (fun c => e c.symm))
  subst e
  have hkm := km_D (22 + k) (by omega) hD
  rw [rd_enter x3 q3 hD hd6, if_neg (by omega), td_deed x4 (by omega) h3 hr hD x5 hd6, if_neg (by omega)]
  obtain ⟨u1, v1, u2, v2, e1, f1, e2, e3, e4, b1, b2, hh⟩ := enter_both x1 x3 x4 x7 (by omega) (by omega) h3 hr (by omega) (by omega)
  rw [hkm] at e2
  have hc1 : fX5_readDeed_n34 rF rI (nI d) (nI (22 + k - 17)) (u.1 27 t) u = q_b (fX5_readStroke (nI k) u2) fun _ w13 => some ((), w13) := by
    unfold fX5_readDeed_n34
    rw [x3.2.1, if_pos (isP_c x3.1), e1, q_b_some, e2, q_b_some, if_neg (show ¬ nI (22 + k - 17) = 9 from nI_ne (b := 9) (by omega) (by decide) (by omega)), if_neg (show ¬ nI (22 + k - 17) = 11 from nI_ne (b := 11) (by omega) (by decide) (by omega)), if_neg (show ¬ nI (22 + k - 17) = 13 from nI_ne (b := 13) (by omega) (by decide) (by omega))]
    have : nI (22 + k - 17) - 5 = nI k := by
      have : k = 0 ∨ k = 1 ∨ k = 2 ∨ k = 3 := by omega
      rcases this with rfl | rfl | rfl | rfl <;> decide
    rw [this]
  have hr1 : fX11_tellDeed_n177 (nI t) (v.1 4 t) v = q_b (fX11_tellStroke (nI k) (nI t) v2) fun _ w14 => some ((), w14) := by
    unfold fX11_tellDeed_n177
    rw [x4.2.2.1, if_pos (show (0 : Int32) ≤ 0 by decide), x4.2.1, q_lt_eq, if_pos (q_inb_nI (by omega) (by omega)), q_ix_nI (show t < 2 ^ 31 by omega), h3, q_lt_eq, e3, q_b_some, e4, q_b_some, if_neg (show ¬ nI (22 + k) = 26 from nI_ne (b := 26) (by omega) (by decide) (by omega)), if_neg (show ¬ nI (22 + k) = 28 from nI_ne (b := 28) (by omega) (by decide) (by omega)), if_neg (show ¬ nI (22 + k) = 30 from nI_ne (b := 30) (by omega) (by decide) (by omega))]
    have : nI (22 + k) - 22 = nI k := by
      have : k = 0 ∨ k = 1 ∨ k = 2 ∨ k = 3 := by omega
      rcases this with rfl | rfl | rfl | rfl <;> decide
    rw [this]
  rw [hc1, hr1]
  obtain ⟨N, rfl⟩ : ∃ X, N = X + 1 := ⟨N - 1, by omega⟩
  rcases hh with ⟨h1, a1, a2⟩ | ⟨f, p, m, a1, a2⟩
  · rcases stroke_ok hk (nI t) (EC_fr x3.1 x1 b1 b2) a1 a2 x6 (by omega) (by rw [List.length_append]; show _ + 2 ≤ _; omega) (by rw [List.length_append]; show _ + 1 ≤ _; omega) with ⟨u3, v3, t3, ax, wa, es, ns, g1, g2, g3, g4, g5, g6, g7, g8, g9, g10, g11, g12, g13, g14⟩ | ⟨f, p, u3, v3, m, g1, g2, g3, g4, g5, g6⟩
    · rw [g1, q_b_some, g2, q_b_some, q_b_some]
      have hmap := anStr_map nl.length sl (u.1 27 t) k ax (if k = 0 then some 8 else some ax) wa es
      have hws : ws ++ wds ((anStr nl.length sl (u.1 27 t) k ax (if k = 0 then some 8 else some ax) wa es).map Prod.fst) = ws ++ [1, u.1 27 t] ++ (wa ++ wds es ++ [21, nI k]) := by
        rw [hmap, wds_cons, wds_app, wds_one]
        simp only [List.append_assoc]
      have hcs : cs ++ trs ((anStr nl.length sl (u.1 27 t) k ax (if k = 0 then some 8 else some ax) wa es).map Prod.fst) = cs ++ [(8, u.1 27 t, 0)] ++ (trs es ++ [(9, nI k, nI ax)]) := by
        rw [hmap, trs_cons, trs_app]
        simp only [List.append_assoc, List.cons_append, List.nil_append]
        rfl
      have hwl : (wds ((anStr nl.length sl (u.1 27 t) k ax (if k = 0 then some 8 else some ax) wa es).map Prod.fst)).length = 2 + wa.length + (wds es).length + 2 := by
        rw [hmap, wds_cons, wds_app, wds_one, List.length_append, List.length_append, List.length_append]
        show 2 + wa.length + ((wds es).length + 2) = _
        omega
      have hal : (anStr nl.length sl (u.1 27 t) k ax (if k = 0 then some 8 else some ax) wa es).length = es.length + 2 := by
        rw [← List.length_map (f := Prod.fst), hmap, List.length_cons, List.length_append]
        rfl
      refine Or.inl (DR_fin hX0 (A := anStr nl.length sl (u.1 27 t) k ax (if k = 0 then some 8 else some ax) wa es) (ns := ns) ?_ ?_ (frP1_t b1 g5) (frR1_t b2 g6) (by omega) g8 g9 (by rw [hwl]; omega) (by rw [hal]; omega) (fun c nd => ⟨anStr_GD hk g14 g13 (g12 c nd), rfl⟩))
      · rw [hws]; exact g3
      · rw [hcs]; exact g4
    · rw [g1, q_b_some, g4, q_b_some, q_b_some, LQ_F g5]
      exact Or.inr (XB_F ⟨f, p, u3, v3, m, rfl, g2, frP1_t b1 g3, rfl, g5, frR1_t b2 g6⟩)
  · obtain ⟨u3, g1, g2, g3, v3, g4, g5, g6⟩ := stroke_F (a := nI t) hk a1 a2
    rw [g1, q_b_some, g4, q_b_some, q_b_some, LQ_F g5]
    exact Or.inr (XB_F ⟨f, p, u3, v3, m, rfl, g2, frP1_t b1 g3, rfl, g5, frR1_t b2 g6⟩)
/-- a do's deed -/
theorem deed_do {P T s t d mm : Nat} {L1 L2 : Nat × Int32} {ws : List Int32} {cs : List Tr} {nl : List (List Nat)} {sl : Nat → Nat} {pl : List (List Nat)} {pm : Nat → Nat} {u v : q_W} (hX : CX P T s t d mm L1 L2 ws cs nl sl pl pm u v) (hd6 : d ≤ 6) (h3 : v.1 3 t = nI 30) (rF : Int32 → Int32 → q_W → Option (Unit × q_W)) (rI : Int32 → q_W → Option (Unit × q_W)) (N : Nat) (hN : 0 < N) : DR P T s t d mm L1 L2 ws cs nl sl pl pm u v (N + 1) (fun t' => t < t') (fX5_readDeed rF rI (nI d) u) (q_b (fX11_tellDeed v) fun _ w => LQ N w) ∨ XB P s u v (fX5_readDeed rF rI (nI d) u) (q_b (fX11_tellDeed v) fun _ w => LQ N w) := by
  have hX0 := hX
  obtain ⟨x1, x2, x3, x4, x5, x6, x7, x8, x9, x10, x11, x12, x13, x14, x15⟩ := hX
  have hT := x1.1.1
  have hr : rOK 30 := Or.inr (Or.inl (by omega))
  have hD : isD 30 := by unfold isD; omega
  obtain ⟨r', q1, q2, q3, q4, q5, q6, q7⟩ := tkn x1 x7
  clear q5 q6 q7
  have e : r' = 30 := by
    by_cases e : r' = 30
    · exact e
    · rw [h3] at q2
      unfold rOK at q1
      exact absurd q2 (nI_ne (by omega) (by omega) (fun c => e c.symm))
  subst e
  rw [rd_enter x3 q3 hD hd6, if_neg (by omega), td_deed x4 (by omega) h3 hr hD x5 hd6, if_neg (by omega)]
  obtain ⟨u1, v1, u2, v2, e1, f1, e2, e3, e4, b1, b2, hh⟩ := enter_both x1 x3 x4 x7 (by omega) (by omega) h3 hr (by omega) (by omega)
  have e2 : fX5_take 13 u1 = some ((), u2) := e2
  have hc1 : fX5_readDeed_n34 rF rI (nI d) (nI (30 - 17)) (u.1 27 t) u = q_b (fX5_readDo u2) fun _ w13 => some ((), w13) := by
    show fX5_readDeed_n34 rF rI (nI d) 13 (u.1 27 t) u = _
    unfold fX5_readDeed_n34
    rw [x3.2.1, if_pos (isP_c x3.1), e1, q_b_some, e2, q_b_some, if_neg (by decide), if_neg (by decide), if_pos rfl]
  have hr1 : fX11_tellDeed_n177 (nI t) (v.1 4 t) v = q_b (fX11_tellDo v2) fun _ w14 => some ((), w14) := by
    unfold fX11_tellDeed_n177
    rw [x4.2.2.1, if_pos (show (0 : Int32) ≤ 0 by decide), x4.2.1, q_lt_eq, if_pos (q_inb_nI (by omega) (by omega)), q_ix_nI (show t < 2 ^ 31 by omega), h3, q_lt_eq, e3, q_b_some, e4, q_b_some, if_neg (show ¬ nI 30 = 26 by decide), if_neg (show ¬ nI 30 = 28 by decide), if_pos (show nI 30 = 30 from rfl)]
  rw [hc1, hr1]
  obtain ⟨N, rfl⟩ : ∃ X, N = X + 1 := ⟨N - 1, by omega⟩
  rcases hh with ⟨h1, a1, a2⟩ | ⟨f, p, m, a1, a2⟩
  · rcases do_ok (EC_fr x3.1 x1 b1 b2) (DC_fr x2 b1 b2) a1 a2 x6 (by omega) (by rw [List.length_append]; show _ + 2 ≤ _; omega) (by rw [List.length_append]; show _ + 1 ≤ _; omega) with ⟨u3, v3, t3, p, na, es, ns, g1, g2, g3, g4, g5, g6, g7, g8, g9, g10, g11, g12, g13, g14, g15⟩ | ⟨f, p, u3, v3, m, g1, g2, g3, g4, g5, g6⟩
    · rw [g1, q_b_some, g2, q_b_some, q_b_some]
      -- the list, whatever p is
      have hgo : ∃ A : List AI, A.map Prod.fst = ([1, u.1 27 t], 8, u.1 27 t, 0) :: (es ++ [([22, p], 17, p, nI na)]) ∧ (ns = [] → ndp nl → GD A (0, none, nl.length, sl) ws.length cs.length s pm pl.length ∧ ssA A (0, none, nl.length, sl) 0 = (0, none, nl.length, sl)) := by
        by_cases c : ns = []
        · obtain ⟨i, hi, rfl, hpm⟩ := g15 c
          exact ⟨anDo nl.length sl (u.1 27 t) i na es, anDo_map _ _ _ _ _ _, fun _ nd => ⟨anDo_GD hi hpm g12 g14 (g13 c nd), rfl⟩⟩
        · exact ⟨(([1, u.1 27 t], 8, u.1 27 t, 0) :: (es ++ [([22, p], 17, p, nI na)])).map (fun x => (x, (0, none, 0, fun _ => 0))), by rw [List.map_map]; exact List.map_id _, fun e => absurd e c⟩
      obtain ⟨A, hmap, hgA⟩ := hgo
      have hws : ws ++ wds (A.map Prod.fst) = ws ++ [1, u.1 27 t] ++ (wds es ++ [22, p]) := by
        rw [hmap, wds_cons, wds_app, wds_one]
        simp only [List.append_assoc]
      have hcs : cs ++ trs (A.map Prod.fst) = cs ++ [(8, u.1 27 t, 0)] ++ (trs es ++ [(17, p, nI na)]) := by
        rw [hmap, trs_cons, trs_app]
        simp only [List.append_assoc, List.cons_append, List.nil_append]
        rfl
      have hwl : (wds (A.map Prod.fst)).length = 2 + (wds es).length + 2 := by
        rw [hmap, wds_cons, wds_app, wds_one, List.length_append, List.length_append]
        show 2 + ((wds es).length + 2) = _
        omega
      have hal : A.length = es.length + 2 := by
        rw [← List.length_map (f := Prod.fst), hmap, List.length_cons, List.length_append]
        rfl
      refine Or.inl (DR_fin hX0 (A := A) (ns := ns) ?_ ?_ (frP1_t b1 g5) (frR1_t b2 g6) (by omega) g8 g9 (by rw [hwl]; omega) (by rw [hal]; omega) hgA)
      · rw [hws]; exact g3
      · rw [hcs]; exact g4
    · rw [g1, q_b_some, g4, q_b_some, q_b_some, LQ_F g5]
      exact Or.inr (XB_F ⟨f, p, u3, v3, m, rfl, g2, frP1_t b1 g3, rfl, g5, frR1_t b2 g6⟩)
  · obtain ⟨u3, g1, g2, g3⟩ := do_F (DC_fr x2 b1 b2) a1
    rw [g1, q_b_some, doR_F a2, q_b_some, q_b_some, LQ_F a2]
    exact Or.inr (XB_F ⟨f, p, u3, v2, m, rfl, g2, frP1_t b1 g3, rfl, a2, b2⟩)
