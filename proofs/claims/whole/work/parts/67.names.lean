/-! names in reach -/
def gN (nl : List (List Nat)) (i : Nat) : List Nat := nl.getD i []
/-- what stands around an expression -/
def EC (T s : Nat) (nl : List (List Nat)) (sl : Nat → Nat) (u v : q_W) : Prop := toks T u v ∧ s < 2 ∧ nl.length ≤ 8 ∧ u.1 23 3 = nI nl.length ∧ v.1 0 28 = nI nl.length ∧ (∀ i, i < nl.length → okL (gN nl i) ∧ u.2.2 30 i = lN (q2 (gN nl i)) ∧ v.2.2 15 i = lN (r2 (gN nl i))) ∧ v.1 0 19 = nI s ∧ ∃ c many, c < 8 ∧ v.1 8 s = nI c ∧ v.1 10 (8 * s + c) = nI many ∧ many ≤ 2 ∧ ∀ i, i < nl.length → sl i < 8 ∧ (if many ≤ i then v.1 19 i else nI i) = nI (sl i)
theorem toks_fr {T P s : Nat} {u u' v v' : q_W} (hP : isP P) (h : toks T u v) (f : frP1 P u u') (g : frR1 s v v') : toks T u' v' := by
  have hne := isP_ne hP
  unfold toks tokOK at *
  rw [f.1 26 (by decide) (by omega) (by omega), f.1 27 (by decide) (by omega) (by omega), f.2.2.2, g.1 3 (by decide) (by decide) (by decide) (by decide) (by decide), g.1 4 (by decide) (by decide) (by decide) (by decide) (by decide), g.1 5 (by decide) (by decide) (by decide) (by decide) (by decide), g.2.2.2]
  exact h
theorem EC_fr {T P s s' : Nat} {nl : List (List Nat)} {sl : Nat → Nat} {u u' v v' : q_W} (hP : isP P) (h : EC T s nl sl u v) (f : frP1 P u u') (g : frR1 s' v v') : EC T s nl sl u' v' := by
  refine ⟨toks_fr hP h.1 f g, ?_⟩
  have h' := h.2
  rw [f.2.1 3 (by omega), f.2.2.2, g.2.1 28 (by omega) (by omega) (by omega), g.2.1 19 (by omega) (by omega) (by omega), g.1 8 (by decide) (by decide) (by decide) (by decide) (by decide), g.1 10 (by decide) (by decide) (by decide) (by decide) (by decide), g.1 19 (by decide) (by decide) (by decide) (by decide) (by decide), g.2.2.2]
  exact h'
/-- the first, the last of that name, from k on and down from k -/
def idF (nl : List (List Nat)) (l : List Nat) (d k : Nat) : Option Nat := match d with
  | 0 => none
  | d + 1 => if gN nl k = l then some k else idF nl l d (k + 1)
def idL (nl : List (List Nat)) (l : List Nat) (k : Nat) : Option Nat := match k with
  | 0 => none
  | k + 1 => if gN nl k = l then some k else idL nl l k
def ixV (o : Option Nat) : Int32 := match o with
  | none => -1
  | some k => nI k
theorem reach_lok {nl : List (List Nat)} {u : q_W} (hn : nl.length ≤ 8) (h3 : u.1 23 3 = nI nl.length) (hr : ∀ i, i < nl.length → okL (gN nl i) ∧ u.2.2 30 i = lN (q2 (gN nl i))) {l : List Nat} (hl : okL l) : ∀ d N k, k + d = nl.length → d < N → q_it N fX5_reachOf_h2 (fun _ _ _ => none) (lN (q2 l)) (nI k) u = some (ixV (idF nl l d k), u) := by
  intro d
  induction d with
  | zero =>
    intro N k h hN
    obtain ⟨N, rfl⟩ : ∃ M, N = M + 1 := ⟨N - 1, by omega⟩
    rw [q_itS, fX5_reachOf_h2, h3, if_pos (by rw [nI_leI (by omega) (by omega)]; omega)]
    rfl
  | succ d ih =>
    intro N k h hN
    obtain ⟨N, rfl⟩ : ∃ M, N = M + 1 := ⟨N - 1, by omega⟩
    obtain ⟨a, b⟩ := hr k (by omega)
    rw [q_itS, fX5_reachOf_h2, h3, if_neg (by rw [nI_leI (by omega) (by omega)]; omega), if_neg (by rw [show (8 : Int32) = nI 8 from rfl, nI_leI (by omega) (by omega)]; omega), if_pos (q_inb_nI (by omega) (by omega)), q_ix_nI (by omega), b]
    unfold idF
    by_cases e : gN nl k = l
    · rw [if_pos ((lg_cmp_eq _ _).mpr (by rw [e])), if_pos e]
      rfl
    · rw [if_neg (fun c => e ((name_eqC a hl).mp ((lg_cmp_eq _ _).mp c))), if_neg e, q_lt_eq, nI_1]
      exact ih N (k + 1) (by omega) (by omega)
theorem reachOf_ok {nl : List (List Nat)} {u : q_W} (hn : nl.length ≤ 8) (h3 : u.1 23 3 = nI nl.length) (hr : ∀ i, i < nl.length → okL (gN nl i) ∧ u.2.2 30 i = lN (q2 (gN nl i))) {l : List Nat} (hl : okL l) : fX5_reachOf (lN (q2 l)) u = some (ixV (idF nl l nl.length 0), u) := by
  unfold fX5_reachOf fX5_reachOf_l2
  have := reach_lok hn h3 hr hl nl.length q_N 0 (by omega) (Nat.lt_of_le_of_lt hn (Nat.le_of_ble_eq_true rfl))
  rw [nI_0] at this
  exact this
theorem idF_some {nl : List (List Nat)} {l : List Nat} : ∀ d k i, idF nl l d k = some i → k ≤ i ∧ i < k + d ∧ gN nl i = l := by
  intro d
  induction d with
  | zero => intro k i h; cases h
  | succ d ih =>
    intro k i h
    unfold idF at h
    by_cases e : gN nl k = l
    · rw [if_pos e] at h
      have : k = i := Option.some.inj h
      subst this
      exact ⟨by omega, by omega, e⟩
    · rw [if_neg e] at h
      obtain ⟨a, b, c⟩ := ih (k + 1) i h
      exact ⟨by omega, by omega, c⟩
theorem idF_none {nl : List (List Nat)} {l : List Nat} : ∀ d k, idF nl l d k = none → ∀ i, k ≤ i → i < k + d → gN nl i ≠ l := by
  intro d
  induction d with
  | zero => intro k _ i a b; omega
  | succ d ih =>
    intro k h i a b
    unfold idF at h
    by_cases e : gN nl k = l
    · rw [if_pos e] at h; cases h
    · rw [if_neg e] at h
      by_cases ei : i = k
      · rw [ei]; exact e
      · exact ih (k + 1) h i (by omega) (by omega)
theorem idL_some {nl : List (List Nat)} {l : List Nat} : ∀ k i, idL nl l k = some i → i < k ∧ gN nl i = l := by
  intro k
  induction k with
  | zero => intro i h; cases h
  | succ k ih =>
    intro i h
    unfold idL at h
    by_cases e : gN nl k = l
    · rw [if_pos e] at h
      have : k = i := Option.some.inj h
      subst this
      exact ⟨by omega, e⟩
    · rw [if_neg e] at h
      obtain ⟨a, b⟩ := ih i h
      exact ⟨by omega, b⟩
theorem idL_none {nl : List (List Nat)} {l : List Nat} : ∀ k, idL nl l k = none → ∀ i, i < k → gN nl i ≠ l := by
  intro k
  induction k with
  | zero => intro _ i a; omega
  | succ k ih =>
    intro h i a
    unfold idL at h
    by_cases e : gN nl k = l
    · rw [if_pos e] at h; cases h
    · rw [if_neg e] at h
      by_cases ei : i = k
      · rw [ei]; exact e
      · exact ih h i (by omega)
/-- no two alike -/
def ndp (nl : List (List Nat)) : Prop := ∀ i j, i < nl.length → j < nl.length → gN nl i = gN nl j → i = j
theorem id_both (nl : List (List Nat)) (l : List Nat) : (idF nl l nl.length 0 = none ∧ idL nl l nl.length = none) ∨ ∃ i j, idF nl l nl.length 0 = some i ∧ idL nl l nl.length = some j ∧ i < nl.length ∧ j < nl.length ∧ (ndp nl → i = j) := by
  cases h : idF nl l nl.length 0 with
  | none =>
    cases h' : idL nl l nl.length with
    | none => exact Or.inl ⟨rfl, rfl⟩
    | some j =>
      obtain ⟨a, b⟩ := idL_some _ _ h'
      exact absurd b (idF_none _ _ h j (by omega) (by omega))
  | some i =>
    obtain ⟨a, b, c⟩ := idF_some _ _ _ h
    cases h' : idL nl l nl.length with
    | none => exact absurd c (idL_none _ h' i (by omega))
    | some j =>
      obtain ⟨d, e⟩ := idL_some _ _ h'
      exact Or.inr ⟨i, j, rfl, rfl, by omega, d, fun nd => nd i j (by omega) d (by rw [c, e])⟩
/-- the item of a name -/
def nameIt (sl : Nat → Nat) (o o' : Option Nat) : It := ([3, ixV o], match o' with
  | none => z3
  | some j => (1, nI (sl j), 0))
theorem named_lok {T s t op tk : Nat} {L : Nat × Int32} {cs : List Tr} {W : List Nat} {nl : List (List Nat)} {sl : Nat → Nat} {u v : q_W} (E : EC T s nl sl u v) (h : PR s t L cs W op v) (hL : L.1 ≤ 5) (hc : cs.length < 2000) {l : List Nat} (hl : okL l) (htk : tk ≤ 500) (hnm : v.2.2 6 tk = lN (r2 l)) : ∀ k N, k ≤ nl.length → k < N → ∃ v', q_it N fX11_named_h7 (fun _ _ _ => none) (nI tk) (nI k - 1) v = some ((), v') ∧ PR s t (match idL nl l k with | none => noteL (4, v.1 4 tk) L | some _ => L) (cs ++ [(nameIt sl none (idL nl l k)).2]) W op v' ∧ frR1 s v v' := by
  obtain ⟨_, hs, hn, _, _, hr, h19, c, many, hc8, h8, h10, hm2, hsl⟩ := E
  intro k
  induction k with
  | zero =>
    intro N _ hN
    obtain ⟨N, rfl⟩ : ∃ M, N = M + 1 := ⟨N - 1, by omega⟩
    obtain ⟨v1, e1, a1, b1⟩ := wrong_st h hL htk 4 (by omega)
    obtain ⟨v2, e2, a2, b2⟩ := emit_st a1 hc z3
    rw [show nI 4 = (4 : Int32) from rfl] at e1
    have e2 : fX11_emit 0 0 0 v1 = some ((), v2) := e2
    rw [q_itS, fX11_named_h7, if_pos (show nI 0 - 1 < 0 by decide), e1, q_b_some, e2, q_b_some]
    exact ⟨v2, rfl, a2, frR1_t b1 b2⟩
  | succ k ih =>
    intro N hk hN
    obtain ⟨N, rfl⟩ : ∃ M, N = M + 1 := ⟨N - 1, by omega⟩
    obtain ⟨a, _, b⟩ := hr k (by omega)
    rw [nI_pred, q_itS, fX11_named_h7, if_neg (nI_pos (by omega)), if_pos (show q_inb (nI k) 8 from q_inb_nI (by omega) (by omega)), if_pos (show q_inb (nI tk) 503 from q_inb_nI (by omega) (by omega)), q_ix_nI (show k < 2 ^ 31 by omega), q_ix_nI (show tk < 2 ^ 31 by omega), b, hnm]
    unfold idL
    by_cases e : gN nl k = l
    · obtain ⟨g1, g2⟩ := hsl k (by omega)
      rw [if_pos ((lg_cmp_eq _ _).mpr (by rw [e])), if_pos e, h19, q_lt_eq, if_pos (q_inb_nI hs (by omega)), q_ix_nI (by omega), h8, show (8 : Int32) = nI 8 from rfl, pk_mul, nI_add, q_lt_eq, if_pos (show q_inb (nI (8 * s + c)) 16 from q_inb_nI (by omega) (by omega)), q_ix_nI (by omega), h10]
      obtain ⟨v2, e2, a2, b2⟩ := emit_st h hc ((1, nI (sl k), 0) : Tr)
      have e2 : fX11_emit 1 (nI (sl k)) 0 v = some ((), v2) := e2
      unfold fX11_named_n68
      by_cases hmk : many ≤ k
      · rw [if_pos hmk] at g2
        rw [if_pos (by rw [nI_leI (by omega) (by omega)]; exact hmk), if_pos (show q_inb (nI k) 8 from q_inb_nI (by omega) (by omega)), g2, e2, q_b_some]
        exact ⟨v2, rfl, a2, b2⟩
      · rw [if_neg hmk] at g2
        rw [if_neg (by rw [nI_leI (by omega) (by omega)]; exact hmk), g2, e2, q_b_some]
        exact ⟨v2, rfl, a2, b2⟩
    · rw [if_neg (fun c => e ((name_eqR a hl).mp ((lg_cmp_eq _ _).mp c))), if_neg e, q_lt_eq, nI_m1]
      exact ih N (by omega) (by omega)
theorem named_ok {T s t op tk : Nat} {L : Nat × Int32} {cs : List Tr} {W : List Nat} {nl : List (List Nat)} {sl : Nat → Nat} {u v : q_W} (E : EC T s nl sl u v) (h : PR s t L cs W op v) (hL : L.1 ≤ 5) (hc : cs.length < 2000) {l : List Nat} (hl : okL l) (htk : tk ≤ 500) (hnm : v.2.2 6 tk = lN (r2 l)) : ∃ v', fX11_named (nI tk) v = some ((), v') ∧ PR s t (match idL nl l nl.length with | none => noteL (4, v.1 4 tk) L | some _ => L) (cs ++ [(nameIt sl none (idL nl l nl.length)).2]) W op v' ∧ frR1 s v v' := by
  unfold fX11_named fX11_named_l7
  rw [E.2.2.2.2.1, q_lt_eq]
  exact named_lok E h hL hc hl htk hnm nl.length q_N (Nat.le_refl _) (Nat.lt_of_le_of_lt E.2.2.1 (Nat.le_of_ble_eq_true rfl))
/-- what an expression's item is, if all names are known and none told twice -/
def gI (nr : Nat) (sl : Nat → Nat) (x : It) : Prop := (∃ a, x = ([2, a], 0, a, 0)) ∨ (∃ k, k < nr ∧ x = ([3, nI k], 1, nI (sl k), 0)) ∨ x = ([4], 7, 0, 0) ∨ ∃ k, 2 ≤ k ∧ k ≤ 6 ∧ x = ([nI (k + 3)], nI k, 0, 0)
