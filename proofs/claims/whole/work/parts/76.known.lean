/-! patterns known by name -/
/-- the patterns read so far: names pl, numbers pm -/
def DC (P s : Nat) (pl : List (List Nat)) (pm : Nat → Nat) (u v : q_W) : Prop := isP P ∧ s < 2 ∧ u.2.1 23 11 = P ∧ pl.length ≤ 8 ∧ u.1 P 4 = nI pl.length ∧ v.1 8 s = nI pl.length ∧ v.1 0 19 = nI s ∧ ∀ i, i < pl.length → okL (gN pl i) ∧ u.2.2 29 i = lN (q2 (gN pl i)) ∧ v.2.2 9 (8 * s + i) = lN (r2 (gN pl i)) ∧ u.1 (P + 3) i = nI (pm i) ∧ v.1 10 (8 * s + i) = nI (pm i) ∧ pm i ≤ 2
theorem DC_fr {P s s' : Nat} {pl : List (List Nat)} {pm : Nat → Nat} {u u' v v' : q_W} (h : DC P s pl pm u v) (f : frP1 P u u') (g : frR1 s' v v') : DC P s pl pm u' v' := by
  have hP := h.1
  have e3 : u'.1 (P + 3) = u.1 (P + 3) := f.1 _ (by rcases hP with rfl | rfl <;> decide) (by omega) (by omega)
  unfold DC at *
  rw [f.2.2.2, f.2.2.1 4 (by decide), e3, g.1 8 (by decide) (by decide) (by decide) (by decide) (by decide), g.2.1 19 (by omega) (by omega) (by omega), g.2.2.2, g.1 10 (by decide) (by decide) (by decide) (by decide) (by decide)]
  exact h
theorem pat_lok {P s : Nat} {pl : List (List Nat)} {pm : Nat → Nat} {u v : q_W} (h : DC P s pl pm u v) {l : List Nat} (hl : okL l) : ∀ d N k, k + d = pl.length → d < N → q_it N fX5_patternOf_h2 (fun _ _ _ => none) (lN (q2 l)) (nI k) u = some (ixV (idF pl l d k), u) := by
  obtain ⟨h1, h2, h3, h4, h5, h6, h7, h8⟩ := h
  intro d
  induction d with
  | zero =>
    intro N k hk hN
    obtain ⟨N, rfl⟩ : ∃ M, N = M + 1 := ⟨N - 1, by omega⟩
    unfold idF
    rw [q_itS, fX5_patternOf_h2, h3, if_pos (isP_c h1)]
    unfold fX4_size
    rw [if_pos (isP_c h1), q_b_some, h5, if_pos (by rw [nI_leI (by omega) (by omega)]; omega)]
    rfl
  | succ d ih =>
    intro N k hk hN
    obtain ⟨N, rfl⟩ : ∃ M, N = M + 1 := ⟨N - 1, by omega⟩
    obtain ⟨a, b, _⟩ := h8 k (by omega)
    unfold idF
    rw [q_itS, fX5_patternOf_h2, h3, if_pos (isP_c h1)]
    unfold fX4_size
    rw [if_pos (isP_c h1), q_b_some, h5, if_neg (by rw [nI_leI (by omega) (by omega)]; omega), if_neg (by rw [show (8 : Int32) = nI 8 from rfl, nI_leI (by omega) (by omega)]; omega), if_pos (q_inb_nI (by omega) (by omega)), q_ix_nI (by omega), b]
    by_cases e : gN pl k = l
    · rw [if_pos ((lg_cmp_eq _ _).mpr (by rw [e])), if_pos e]
      rfl
    · rw [if_neg (fun c => e ((name_eqC a hl).mp ((lg_cmp_eq _ _).mp c))), if_neg e, q_lt_eq, nI_1]
      exact ih N (k + 1) (by omega) (by omega)
theorem patternOf_ok {P s : Nat} {pl : List (List Nat)} {pm : Nat → Nat} {u v : q_W} (h : DC P s pl pm u v) {l : List Nat} (hl : okL l) : fX5_patternOf (lN (q2 l)) u = some (ixV (idF pl l pl.length 0), u) := by
  have h4 := h.2.2.2.1
  unfold fX5_patternOf fX5_patternOf_l2
  have := pat_lok h hl pl.length q_N 0 (by omega) (Nat.lt_of_le_of_lt h4 (Nat.le_of_ble_eq_true rfl))
  rw [nI_0] at this
  exact this
/-- any name: an answer, nothing changes -/
theorem patternOf_any {P s : Nat} {pl : List (List Nat)} {pm : Nat → Nat} {u v : q_W} (h : DC P s pl pm u v) (x : Int64) : ∃ r, fX5_patternOf x u = some (r, u) := by
  obtain ⟨h1, h2, h3, h4, h5, h6, h7, h8⟩ := h
  unfold fX5_patternOf fX5_patternOf_l2
  have go : ∀ d N k, k + d = pl.length → d < N → ∃ r, q_it N fX5_patternOf_h2 (fun _ _ _ => none) x (nI k) u = some (r, u) := by
    intro d
    induction d with
    | zero =>
      intro N k hk hN
      obtain ⟨N, rfl⟩ : ∃ M, N = M + 1 := ⟨N - 1, by omega⟩
      rw [q_itS, fX5_patternOf_h2, h3, if_pos (isP_c h1)]
      unfold fX4_size
      rw [if_pos (isP_c h1), q_b_some, h5, if_pos (by rw [nI_leI (by omega) (by omega)]; omega)]
      exact ⟨_, rfl⟩
    | succ d ih =>
      intro N k hk hN
      obtain ⟨N, rfl⟩ : ∃ M, N = M + 1 := ⟨N - 1, by omega⟩
      rw [q_itS, fX5_patternOf_h2, h3, if_pos (isP_c h1)]
      unfold fX4_size
      rw [if_pos (isP_c h1), q_b_some, h5, if_neg (by rw [nI_leI (by omega) (by omega)]; omega), if_neg (by rw [show (8 : Int32) = nI 8 from rfl, nI_leI (by omega) (by omega)]; omega), if_pos (q_inb_nI (by omega) (by omega)), q_ix_nI (by omega), q_lt_eq, nI_1]
      obtain ⟨r, e⟩ := ih N (k + 1) (by omega) (by omega)
      rw [e]
      by_cases c : lg_cmp (u.2.2 29 k) x = 0
      · rw [if_pos c]; exact ⟨_, rfl⟩
      · rw [if_neg c]; exact ⟨_, rfl⟩
  exact go pl.length q_N 0 (by omega) (Nat.lt_of_le_of_lt h4 (Nat.le_of_ble_eq_true rfl))
theorem needs_any {P s : Nat} {pl : List (List Nat)} {pm : Nat → Nat} {u v : q_W} (h : DC P s pl pm u v) (x : Int32) : ∃ r, fX4_needs P x u = some (r, u) := by
  obtain ⟨h1, h2, h3, h4, h5, h6, h7, h8⟩ := h
  unfold fX4_needs
  rw [if_pos (isP_c h1), has4_ok P (isP_c h1) u pl.length h4 h5, q_b_some]
  by_cases c : q_inb x pl.length
  · obtain ⟨m, hm, e⟩ := (q_inb_iff (by omega)).mp c
    rw [if_pos c, if_neg i_10, e, if_pos (q_inb_nI (by omega) (by omega))]
    exact ⟨_, rfl⟩
  · rw [if_neg c, if_pos rfl]
    exact ⟨_, rfl⟩
theorem needs_ok {P s : Nat} {pl : List (List Nat)} {pm : Nat → Nat} {u v : q_W} (h : DC P s pl pm u v) {i : Nat} (hi : i < pl.length) : fX4_needs P (nI i) u = some (nI (pm i), u) := by
  obtain ⟨h1, h2, h3, h4, h5, h6, h7, h8⟩ := h
  unfold fX4_needs
  rw [if_pos (isP_c h1), has4_ok P (isP_c h1) u pl.length h4 h5, q_b_some, if_pos (q_inb_nI hi (by omega)), if_neg i_10, if_pos (q_inb_nI (by omega) (by omega)), q_ix_nI (by omega), isP_2 h1, (h8 i hi).2.2.2.1]
/-- looked for from the end -/
theorem idF_snoc (nl : List (List Nat)) (l : List Nat) : ∀ d k, idF nl l (d + 1) k = (match idF nl l d k with | some i => some i | none => if gN nl (k + d) = l then some (k + d) else none) := by
  intro d
  induction d with
  | zero => intro k; rfl
  | succ d ih =>
    intro k
    have h1 : idF nl l (d + 1 + 1) k = if gN nl k = l then some k else idF nl l (d + 1) (k + 1) := rfl
    have h2 : idF nl l (d + 1) k = if gN nl k = l then some k else idF nl l d (k + 1) := rfl
    rw [h1, h2]
    by_cases e : gN nl k = l
    · rw [if_pos e, if_pos e]
    · rw [if_neg e, if_neg e, ih (k + 1), show k + 1 + d = k + (d + 1) by omega]
def orO (a b : Option Nat) : Option Nat := match a with
  | some i => some i
  | none => b
theorem orO_none (a : Option Nat) : orO a none = a := by cases a <;> rfl
theorem idF_orO (nl : List (List Nat)) (l : List Nat) (d : Nat) (b : Option Nat) : orO (idF nl l (d + 1) 0) b = orO (idF nl l d 0) (if gN nl d = l then some d else b) := by
  rw [idF_snoc, Nat.zero_add]
  cases h : idF nl l d 0 with
  | some i => rfl
  | none =>
    by_cases e : gN nl d = l
    · rw [if_pos e, if_pos e]; rfl
    · rw [if_neg e, if_neg e]
/-- what the reference emits for a name: its note first -/
def doE (s tk a : Nat) (pm : Nat → Nat) (o : Option Nat) (v : q_W) : Option (Unit × q_W) := match o with
  | none => q_b (fX11_wrong 4 (nI tk) v) fun _ w => fX11_tellDo_n160 (nI a) (-1) w
  | some i => if pm i = a then fX11_tellDo_n160 (nI a) (nI i) v else q_b (fX11_wrong 5 (nI tk) v) fun _ w => fX11_tellDo_n160 (nI a) (nI i) w
theorem do_lok {P s tk a : Nat} {pl : List (List Nat)} {pm : Nat → Nat} {u v : q_W} (h : DC P s pl pm u v) {l : List Nat} (hl : okL l) (htk : tk ≤ 500) (ha : a ≤ 2) (hy : v.2.2 6 tk = lN (r2 l)) : ∀ d N (o : Option Nat), d ≤ pl.length → (∀ i, o = some i → i < pl.length) → d < N → q_it N fX11_tellDo_h83 (fun _ _ _ _ _ => none) (nI tk) (nI a) (ixV o) (nI d - 1) v = doE s tk a pm (orO (idF pl l d 0) o) v := by
  obtain ⟨h1, h2, h3, h4, h5, h6, h7, h8⟩ := h
  intro d
  induction d with
  | zero =>
    intro N o hd ho hN
    obtain ⟨N, rfl⟩ : ∃ M, N = M + 1 := ⟨N - 1, by omega⟩
    rw [q_itS, fX11_tellDo_h83, if_pos (show nI 0 - 1 < 0 by decide)]
    cases o with
    | none =>
      rw [if_pos (show ixV none = -1 from rfl)]
      rfl
    | some i =>
      have hi := ho i rfl
      have e : (8 : Int32) * nI s = nI (8 * s) := by
        obtain rfl | rfl : s = 0 ∨ s = 1 := by omega
        · rfl
        · rfl
      obtain ⟨_, _, _, _, b, c⟩ := h8 i hi
      rw [if_neg (show ¬ ixV (some i) = -1 from fun c => nI_pos (n := i) (by omega) (by rw [show nI i = -1 from c]; decide)), h7, e]
      show q_lt (nI (8 * s) + nI i) _ = doE s tk a pm (some i) v
      rw [nI_add, q_lt_eq, if_pos (q_inb_nI (by omega) (by omega)), q_ix_nI (by omega), b]
      show _ = if pm i = a then fX11_tellDo_n160 (nI a) (nI i) v else q_b (fX11_wrong 5 (nI tk) v) fun _ w => fX11_tellDo_n160 (nI a) (nI i) w
      by_cases e : pm i = a
      · rw [if_pos (show nI (pm i) = nI a by rw [e]), if_pos e]; rfl
      · rw [if_neg (nI_ne (by omega) (by omega) e), if_neg e]; rfl
  | succ d ih =>
    intro N o hd ho hN
    obtain ⟨N, rfl⟩ : ∃ M, N = M + 1 := ⟨N - 1, by omega⟩
    have e : (8 : Int32) * nI s = nI (8 * s) := by
      obtain rfl | rfl : s = 0 ∨ s = 1 := by omega
      · rfl
      · rfl
    have e1 : nI (d + 1) - 1 = nI d := by rw [← nI_1]; grind
    obtain ⟨a1, _, b, _⟩ := h8 d (by omega)
    rw [q_itS, fX11_tellDo_h83, e1, if_neg (nI_pos (by omega)), h7, e, nI_add, q_lt_eq, if_pos (q_inb_nI (by omega) (by omega)), if_pos (q_inb_nI (by omega) (by omega)), q_ix_nI (by omega), q_ix_nI (by omega), b, hy]
    unfold fX11_tellDo_n116
    rw [q_lt_eq, q_lt_eq, nI_m1, idF_orO]
    by_cases e : gN pl d = l
    · rw [if_pos ((lg_cmp_eq _ _).mpr (by rw [e])), if_pos e]
      exact ih N (some d) (by omega) (fun i hi => by cases hi; omega) (by omega)
    · rw [if_neg (fun c => e ((name_eqR a1 hl).mp ((lg_cmp_eq _ _).mp c))), if_neg e]
      exact ih N o (by omega) ho (by omega)
