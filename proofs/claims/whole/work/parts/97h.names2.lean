/-! names in reach, without their slots: the same steps -/
def EN (T s : Nat) (nl : List (List Nat)) (u v : q_W) : Prop := toks T u v ∧ s < 2 ∧ nl.length ≤ 8 ∧ u.1 23 3 = nI nl.length ∧ v.1 0 28 = nI nl.length ∧ (∀ i, i < nl.length → okL (gN nl i) ∧ u.2.2 30 i = lN (q2 (gN nl i)) ∧ v.2.2 15 i = lN (r2 (gN nl i))) ∧ True
theorem EN_fr {T P s s' : Nat} {nl : List (List Nat)} {u u' v v' : q_W} (hP : isP P) (h : EN T s nl u v) (f : frP1 P u u') (g : frR1 s' v v') : EN T s nl u' v' := by
  refine ⟨toks_fr hP h.1 f g, ?_⟩
  have h' := h.2
  rw [f.2.1 3 (by omega), f.2.2.2, g.2.1 28 (by omega) (by omega) (by omega), g.2.2.2]
  exact h'
theorem EN_R {T s s' : Nat} {nl : List (List Nat)} {u v v' : q_W} (h : EN T s nl u v) (g : frR1 s' v v') : EN T s nl u v' := EN_fr (P := 43) (Or.inl rfl) h (frP1_r 43 u) g
theorem tknN {T s t : Nat} {nl : List (List Nat)} {u v : q_W} (E : EN T s nl u v) (ht : t ≤ T) : ∃ r, rOK r ∧ v.1 3 t = nI r ∧ u.1 26 t = km r ∧ v.1 4 t = u.1 27 t ∧ (r = 1 → ∃ l, okL l ∧ u.2.2 28 t = lN (q2 l) ∧ v.2.2 6 t = lN (r2 l)) ∧ (r = 2 → ∃ y, y < 10000 ∧ u.2.2 28 t = lN y ∧ v.1 5 t = nI y) ∧ (r ≠ 0 → r ≠ 3 → t < 500 → t < T) := by
  obtain ⟨h1, h2, h3, h4⟩ := E.1
  obtain ⟨r, a, b, c, d, e, f⟩ := h2 t ht
  refine ⟨r, a, b, c, d, e, f, fun n0 n3 h5 => ?_⟩
  rcases Nat.lt_or_ge t T with c1 | c1
  · exact c1
  · have : t = T := by omega
    subst this
    rcases h4 with c2 | c2 | c2
    · omega
    · rw [b] at c2
      exact absurd c2 (nI_ne (b := 0) (by clear d e; omega) (by decide) n0)
    · rw [b] at c2
      exact absurd c2 (nI_ne (b := 3) (by clear d e; omega) (by decide) n3)
theorem tok_bothN {P T s t r op : Nat} {nl : List (List Nat)} {L1 L2 : Nat × Int32} {ws : List Int32} {cs : List Tr} {u v : q_W} (E : EN T s nl u v) (hC : PC P t L1 ws u) (hR : PR s t L2 cs [] op v) (ht : t ≤ T) (hc : cs.length ≤ 1400) (hr : rOK r) (h0 : r ≠ 0) (h3 : r ≠ 3) : (t < T ∧ v.1 3 t = nI r ∧ ∃ u' v', fX5_take (km r) u = some ((), u') ∧ fX11_must (nI r) v = some ((), v') ∧ PC P (t + 1) L1 ws u' ∧ PR s (t + 1) L2 cs [] op v' ∧ frP1 P u u' ∧ frR1 s v v') ∨ XF P s u v (fX5_take (km r) u) (fX11_must (nI r) v) := by
  have hT := E.1.1
  obtain ⟨r', q1, q2, q3, q4, q5, q6, q7⟩ := tknN E ht
  clear q5 q6
  by_cases hrr : r' = r
  · subst hrr
    by_cases h5 : t = 500
    · subst h5
      obtain ⟨u1, e1, a1, b1⟩ := take_room hC (k := km r') q3
      obtain ⟨v1, e2, a2, b2⟩ := must_room hR (k := nI r') q2 40 (by show 0 ≤ 40; omega) (by omega) (by omega)
      exact Or.inr ⟨2, _, u1, v1, 40, e1, a1, b1, e2, by rw [← q4]; exact a2, b2⟩
    · obtain ⟨u1, e1, a1, b1⟩ := take_st hC (by omega) (k := km r') q3
      obtain ⟨v1, e2, a2, b2⟩ := must_st hR (by omega) (k := nI r') q2
      exact Or.inl ⟨q7 h0 h3 (by omega), q2, u1, v1, e1, e2, a1, a2, b1, b2⟩
  · obtain ⟨u1, e1, a1, b1⟩ := take_no hC (k := km r) (by rw [q3]; exact km_ne q1 hr hrr)
    obtain ⟨v1, e2, a2, b2⟩ := must_no hR (by omega) (k := nI r) (by rw [q2]; unfold rOK at q1 hr; exact nI_ne (by omega) (by omega) hrr) 40 (by show 0 ≤ 40; omega) (by omega) (by omega)
    exact Or.inr ⟨1, _, u1, v1, 40, e1, a1, b1, e2, by rw [← q4]; exact a2, b2⟩
theorem step_bothN {P T s t r op : Nat} {nl : List (List Nat)} {L1 L2 : Nat × Int32} {ws : List Int32} {cs : List Tr} {u v : q_W} (E : EN T s nl u v) (hC : PC P t L1 ws u) (hR : PR s t L2 cs [] op v) (ht : t ≤ T) (hc : cs.length ≤ 1400) (h3 : v.1 3 t = nI r) (hr : rOK r) (n0 : r ≠ 0) (n3 : r ≠ 3) : (t < T ∧ ∃ u' v', fX5_take (km r) u = some ((), u') ∧ fX11_next v = some ((), v') ∧ PC P (t + 1) L1 ws u' ∧ PR s (t + 1) L2 cs [] op v' ∧ frP1 P u u' ∧ frR1 s v v') ∨ XF P s u v (fX5_take (km r) u) (fX11_next v) := by
  have hT := E.1.1
  obtain ⟨r', q1, q2, q3, q4, q5, q6, q7⟩ := tknN E ht
  clear q5 q6
  have e : r' = r := by
    by_cases e : r' = r
    · exact e
    · rw [h3] at q2
      unfold rOK at q1 hr
      exact absurd q2 (nI_ne (by omega) (by omega) (fun c => e c.symm))
  subst e
  by_cases h5 : t = 500
  · subst h5
    obtain ⟨u1, e1, a1, b1⟩ := take_room hC (k := km r') q3
    obtain ⟨v1, e2, a2, b2⟩ := next_room hR 40 (by show 0 ≤ 40; omega) (by omega) (by omega)
    exact Or.inr ⟨2, _, u1, v1, 40, e1, a1, b1, e2, by rw [← q4]; exact a2, b2⟩
  · obtain ⟨u1, e1, a1, b1⟩ := take_st hC (by omega) (k := km r') q3
    obtain ⟨v1, e2, a2, b2⟩ := next_st hR (by omega)
    exact Or.inl ⟨q7 n0 n3 (by omega), u1, v1, e1, e2, a1, a2, b1, b2⟩
theorem noteIf_okN {P T s t : Nat} {L : Nat × Int32} {ws : List Int32} {nl : List (List Nat)} {u v : q_W} (E : EN T s nl u v) (hC : PC P t L ws u) {l : List Nat} (hl : okL l) : ∃ u', fX5_noteIfReached (lN (q2 l)) u = some ((), u') ∧ PC P t (adI (idF nl l nl.length 0) (u.1 27 t) L) ws u' ∧ frP1 P u u' := by
  have hreach := reachOf_ok E.2.2.1 E.2.2.2.1 (fun i hi => ⟨(E.2.2.2.2.2.1 i hi).1, (E.2.2.2.2.2.1 i hi).2.1⟩) hl
  unfold fX5_noteIfReached
  rw [hreach, q_b_some]
  cases h : idF nl l nl.length 0 with
  | none =>
    rw [if_pos (show ixV none < 0 by decide)]
    exact ⟨u, rfl, hC, frP1_r P u⟩
  | some i =>
    obtain ⟨_, hi, _⟩ := idF_some _ _ _ h
    have := E.2.2.1
    obtain ⟨u1, e1, a1, b1⟩ := note_st hC (3, u.1 27 t) (by show 1 ≤ 3 ∧ 3 ≤ 5; omega)
    have e1 : fX5_note 3 (u.1 27 t) u = some ((), u1) := e1
    rw [if_neg (show ¬ ixV (some i) < 0 from nI_pos (n := i) (by omega)), hC.2.2.2.2.1, e1, q_b_some]
    exact ⟨u1, rfl, a1, b1⟩

theorem reaches_lokN {T s t op tk : Nat} {cs : List Tr} {W : List Nat} {nl : List (List Nat)} {u : q_W} {L : Nat × Int32} (hL : L.1 ≤ 5) (hn : nl.length < 8) {l : List Nat} (hl : okL l) (htk : tk ≤ 500) : ∀ d N k (v : q_W), k + d = nl.length → d < N → EN T s nl u v → PR s t (adI (idF nl l k 0) (v.1 4 tk) L) cs W op v → v.2.2 6 tk = lN (r2 l) → ∃ v', q_it N fX11_reaches_h2 (fun _ _ _ => none) (nI tk) (nI k) v = some ((), v') ∧ PR s t (adI (idF nl l nl.length 0) (v.1 4 tk) L) cs W op v' ∧ v'.1 0 28 = nI (nl.length + 1) ∧ v'.2.2 15 nl.length = lN (r2 l) ∧ (∀ i, i ≠ nl.length → v'.2.2 15 i = v.2.2 15 i) ∧ (∀ q, q ≠ 0 → q ≠ 12 → q ≠ 13 → q ≠ 14 → q ≠ 20 → v'.1 q = v.1 q) ∧ (∀ k, k = 30 → v'.1 0 k = v.1 0 k) ∧ frH s v v' := by
  intro d
  induction d with
  | zero =>
    intro N k v hk hN E hR hnm
    obtain ⟨N, rfl⟩ : ∃ M, N = M + 1 := ⟨N - 1, by omega⟩
    have hk' : k = nl.length := by omega
    subst hk'
    have h28 := E.2.2.2.2.1
    rw [q_itS, fX11_reaches_h2, h28, if_pos (by rw [nI_leI (by omega) (by omega)]; omega), if_pos (show q_inb (nI tk) 503 from q_inb_nI (by omega) (by omega)), q_lt_eq, if_pos (q_inb_nI hn (by omega)), q_lt_eq, q_lt_eq, q_ix_nI (show nl.length < 2 ^ 31 by omega), q_ix_nI (show tk < 2 ^ 31 by omega), hnm]
    have e28 : (q_sL v 15 nl.length (lN (r2 l))).1 0 28 = nI nl.length := h28
    rw [e28, nI_1]
    refine ⟨_, rfl, PR_set (k := 28) hR _ (by omega), sI_same _ _ _ _, ?_, fun i hi => ?_, fun q h0 _ _ _ _ => sI_cell _ _ _ _ _ h0, fun k hk => sI_k _ _ _ _ _ (by omega), ?_⟩
    · show (if 15 = 15 ∧ nl.length = nl.length then lN (r2 l) else _) = _
      simp
    · show (if 15 = 15 ∧ i = nl.length then lN (r2 l) else v.2.2 15 i) = _
      simp [hi]
    · exact frH_t (b := q_sL v 15 nl.length (lN (r2 l))) ⟨fun _ _ _ _ _ _ _ _ _ _ => rfl, fun _ _ _ _ _ _ _ _ => rfl, fun _ _ => ⟨rfl, rfl, rfl⟩, rfl, fun q hq => by
        funext i
        show (if q = 15 ∧ i = nl.length then _ else v.2.2 q i) = _
        simp [hq]⟩ (frH_0 s _ 28 _ (by omega))
  | succ d ih =>
    intro N k v hk hN E hR hnm
    obtain ⟨N, rfl⟩ : ∃ M, N = M + 1 := ⟨N - 1, by omega⟩
    obtain ⟨hk8, _, hb⟩ := E.2.2.2.2.2.1 k (by omega)
    rw [q_itS, fX11_reaches_h2, E.2.2.2.2.1, if_neg (by rw [nI_leI (by omega) (by omega)]; omega), if_pos (q_inb_nI (by omega) (by omega)), if_pos (show q_inb (nI tk) 503 from q_inb_nI (by omega) (by omega)), q_ix_nI (show k < 2 ^ 31 by omega), q_ix_nI (show tk < 2 ^ 31 by omega), hb, hnm]
    unfold fX11_reaches_n32
    have hsn := idF_snoc nl l k 0
    rw [Nat.zero_add] at hsn
    by_cases e : gN nl k = l
    · obtain ⟨v1, e1, a1, b1⟩ := wrong_st hR (adI_5 hL) htk 3 (by omega)
      have e1 : fX11_wrong 3 (nI tk) v = some ((), v1) := e1
      rw [if_pos ((lg_cmp_eq _ _).mpr (by rw [e])), e1, q_b_some, q_lt_eq, nI_1]
      have f4 := (frR4 b1).2.1
      rw [adI_idem] at a1
      have hI : adI (idF nl l (k + 1) 0) (v.1 4 tk) L = noteL (3, v.1 4 tk) L := by
        rw [hsn]
        cases idF nl l k 0 with
        | none => show adI (if gN nl k = l then some k else none) _ _ = _; rw [if_pos e]; rfl
        | some i => rfl
      have hE : EN T s nl u v1 := EN_R E b1
      obtain ⟨v2, e2, a2, b2, c2, d2, g2, k2, f2⟩ := ih N (k + 1) v1 (by omega) (by omega) hE (by rw [f4, hI]; exact a1) (by rw [b1.2.2.2, hnm])
      rw [f4] at a2
      refine ⟨v2, e2, a2, b2, c2, fun i hi => by rw [d2 i hi, b1.2.2.2], fun q x1 x2 x3 x4 x5 => by rw [g2 q x1 x2 x3 x4 x5, b1.1 q x1 x2 x3 x4 x5], fun k hk => by rw [k2 k hk, b1.2.1 k (by omega) (by omega) (by omega)], frH_t (frH_1 b1) f2⟩
    · rw [if_neg (fun c => e ((name_eqR hk8 hl).mp ((lg_cmp_eq _ _).mp c))), q_lt_eq, nI_1]
      have hI : idF nl l (k + 1) 0 = idF nl l k 0 := by
        rw [hsn]
        cases idF nl l k 0 with
        | none => show (if gN nl k = l then some k else none) = none; rw [if_neg e]
        | some i => rfl
      exact ih N (k + 1) v (by omega) (by omega) E (by rw [hI]; exact hR) hnm
theorem reaches_okN {T s t op tk : Nat} {cs : List Tr} {W : List Nat} {nl : List (List Nat)} {u v : q_W} {L : Nat × Int32} (E : EN T s nl u v) (hR : PR s t L cs W op v) (hL : L.1 ≤ 5) (hn : nl.length < 8) {l : List Nat} (hl : okL l) (htk : tk ≤ 500) (hnm : v.2.2 6 tk = lN (r2 l)) : ∃ v', fX11_reaches (nI tk) v = some ((), v') ∧ PR s t (adI (idF nl l nl.length 0) (v.1 4 tk) L) cs W op v' ∧ v'.1 0 28 = nI (nl.length + 1) ∧ v'.2.2 15 nl.length = lN (r2 l) ∧ (∀ i, i ≠ nl.length → v'.2.2 15 i = v.2.2 15 i) ∧ (∀ q, q ≠ 0 → q ≠ 12 → q ≠ 13 → q ≠ 14 → q ≠ 20 → v'.1 q = v.1 q) ∧ v'.1 0 30 = v.1 0 30 ∧ frH s v v' := by
  unfold fX11_reaches fX11_reaches_l2
  obtain ⟨v', e, a, b, c, d, g, k, f⟩ := reaches_lokN hL hn hl htk nl.length q_N 0 v (by omega) (Nat.lt_of_lt_of_le hn (Nat.le_of_ble_eq_true rfl)) E hR hnm
  exact ⟨v', e, a, b, c, d, g, k 30 rfl, f⟩
theorem name_bothN {P T s t : Nat} {nl : List (List Nat)} {L1 L2 : Nat × Int32} {ws : List Int32} {cs : List Tr} {u v : q_W} (E : EN T s nl u v) (hC : PC P t L1 ws u) (hR : PR s t L2 cs [] 0 v) (ht : t ≤ T) (hc : cs.length ≤ 1400) : NMK P T s t L1 L2 ws cs nl u v (q_b (fX5_noteIfReached (u.2.2 28 t) u) fun _ w => fX5_take 1 w) (fX11_must 1 v) ∨ XF P s u v (q_b (fX5_noteIfReached (u.2.2 28 t) u) fun _ w => fX5_take 1 w) (fX11_must 1 v) := by
  have hT := E.1.1
  obtain ⟨r, q1, q2, q3, q4, q5, q6, q7⟩ := tknN E ht
  clear q6
  by_cases c1 : r = 1
  · subst c1
    obtain ⟨l, hl, y1, y2⟩ := q5 rfl
    clear q5
    obtain ⟨u1, e1, a1, b1⟩ := noteIf_okN E hC hl
    rw [y1, e1, q_b_some]
    rcases tok_bothN (EN_fr hC.1 E b1 (frR1_r s v)) a1 hR ht hc (r := 1) (Or.inl (by omega)) (by decide) (by decide) with ⟨hlt, _, u2, v2, e2, e3, a2, a3, b2, b3⟩ | ⟨f, p, u2, v2, m, e2, a2, b2, e3, a3, b3⟩
    · exact Or.inl ⟨l, u2, v2, hl, y1, y2, q4, e2, e3, a2, a3, frP1_t b1 b2, b3, hlt⟩
    · exact Or.inr ⟨f, p, u2, v2, m, e2, a2, frP1_t b1 b2, e3, a3, b3⟩
  · clear q5
    obtain ⟨u1, L', e1, a1, b1⟩ := noteIf_any hC (u.2.2 28 t)
    rw [e1, q_b_some]
    rcases tok_bothN (EN_fr hC.1 E b1 (frR1_r s v)) a1 hR ht hc (r := 1) (Or.inl (by omega)) (by decide) (by decide) with ⟨hlt, h3, _⟩ | ⟨f, p, u2, v2, m, e2, a2, b2, e3, a3, b3⟩
    · rw [q2] at h3
      unfold rOK at q1
      exact absurd h3 (nI_ne (by omega) (by omega) c1)
    · exact Or.inr ⟨f, p, u2, v2, m, e2, a2, frP1_t b1 b2, e3, a3, b3⟩

