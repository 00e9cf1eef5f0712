/-! the parser of the class: its state -/
abbrev It : Type := List Int32 × Int32 × Int32 × Int32
def wds (es : List It) : List Int32 := (es.map (fun x => x.1)).flatten
theorem wds_nil : wds [] = [] := rfl
theorem wds_app (a b : List It) : wds (a ++ b) = wds a ++ wds b := by
  unfold wds
  rw [List.map_append, List.flatten_append]
theorem wds_one (x : It) : wds [x] = x.1 := by
  unfold wds
  simp
def isP (P : Nat) : Prop := P = 43 ∨ P = 47
theorem isP_c {P : Nat} (h : isP P) : cC P = 4 := by rcases h with rfl | rfl <;> rfl
theorem isP_0 {P : Nat} (h : isP P) : fC P 0 = P + 1 := by rcases h with rfl | rfl <;> rfl
theorem isP_1 {P : Nat} (h : isP P) : fC P 1 = P + 2 := by rcases h with rfl | rfl <;> rfl
theorem isP_2 {P : Nat} (h : isP P) : fC P 2 = P + 3 := by rcases h with rfl | rfl <;> rfl
/-- what parsing within a pattern leaves alone -/
def frP1 (P : Nat) (u u' : q_W) : Prop := (∀ q, q ≠ 23 → q ≠ P → q ≠ P + 1 → u'.1 q = u.1 q) ∧ (∀ k, ¬ (4 ≤ k ∧ k ≤ 10) → u'.1 23 k = u.1 23 k) ∧ (∀ k, k ≠ 3 → u'.1 P k = u.1 P k) ∧ u'.2 = u.2
theorem frP1_r (P : Nat) (u : q_W) : frP1 P u u := ⟨fun _ _ _ _ => rfl, fun _ _ => rfl, fun _ _ => rfl, rfl⟩
theorem frP1_t {P : Nat} {a b c : q_W} (h : frP1 P a b) (h' : frP1 P b c) : frP1 P a c := ⟨fun q x y z => (h'.1 q x y z).trans (h.1 q x y z), fun k x => (h'.2.1 k x).trans (h.2.1 k x), fun k x => (h'.2.2.1 k x).trans (h.2.2.1 k x), h'.2.2.2.trans h.2.2.2⟩
/-- no fault yet, at token t, the words ws so far -/
def PC (P t : Nat) (L : Nat × Int32) (ws : List Int32) (u : q_W) : Prop := isP P ∧ u.2.1 23 11 = P ∧ u.1 23 4 = nI t ∧ u.1 23 5 = u.1 26 t ∧ u.1 23 6 = u.1 27 t ∧ u.1 23 7 = 0 ∧ u.1 23 9 = nI L.1 ∧ L.1 ≤ 5 ∧ (L.1 ≠ 0 → u.1 23 10 = L.2) ∧ u.1 P 3 = nI ws.length ∧ ∀ i, i < ws.length → u.1 (P + 1) i = ws.getD i 0
/-- a fault: all loops end -/
def frF1 (P : Nat) (u u' : q_W) : Prop := (∀ q, q ≠ 23 → q ≠ P → q ≠ P + 1 → q ≠ P + 2 → q ≠ P + 3 → u'.1 q = u.1 q) ∧ u'.2.1 = u.2.1 ∧ ∀ q, q ≠ 29 → q ≠ 30 → u'.2.2 q = u.2.2 q
theorem frF1_r (P : Nat) (u : q_W) : frF1 P u u := ⟨fun _ _ _ _ _ _ => rfl, rfl, fun _ _ _ => rfl⟩
theorem frF1_t {P : Nat} {a b c : q_W} (h : frF1 P a b) (h' : frF1 P b c) : frF1 P a c := ⟨fun q x y z s t => (h'.1 q x y z s t).trans (h.1 q x y z s t), h'.2.1.trans h.2.1, fun q x y => (h'.2.2 q x y).trans (h.2.2 q x y)⟩
theorem frF1_1 {P : Nat} {a b : q_W} (h : frP1 P a b) : frF1 P a b := ⟨fun q x y z _ _ => h.1 q x y z, by rw [h.2.2.2], fun q _ _ => by rw [h.2.2.2]⟩
def FC (P : Nat) (f : Nat) (p : Int32) (u : q_W) : Prop := isP P ∧ u.2.1 23 11 = P ∧ u.1 23 7 = nI f ∧ 1 ≤ f ∧ f ≤ 2 ∧ u.1 23 8 = p ∧ u.1 23 5 = -1
theorem isP_ne {P : Nat} (h : isP P) : P ≠ 23 ∧ P + 1 ≠ 23 ∧ P ≠ 26 ∧ P ≠ 27 ∧ P + 1 ≠ 26 ∧ P + 1 ≠ 27 ∧ P ≠ P + 1 := by rcases h with rfl | rfl <;> decide
theorem frP1_23 (P : Nat) (w : q_W) (k : Nat) (x : Int32) (h : 4 ≤ k ∧ k ≤ 10) (hP : isP P) : frP1 P w (q_sI w 23 k x) := by
  have := isP_ne hP
  exact ⟨fun q h1 _ _ => sI_cell _ _ _ _ _ h1, fun k' h1 => sI_k _ _ _ _ _ (by omega), fun k' _ => by rw [sI_cell _ _ _ _ _ this.1], rfl⟩
/-- the token that comes -/
theorem take_st {P t : Nat} {L : Nat × Int32} {ws : List Int32} {u : q_W} (h : PC P t L ws u) (ht : t < 500) {k : Int32} (hk : u.1 26 t = k) : ∃ u', fX5_take k u = some ((), u') ∧ PC P (t + 1) L ws u' ∧ frP1 P u u' := by
  obtain ⟨h1, h2, h3, h4, h5, h6, h7, h8, h9, h10, h11⟩ := h
  have hne := isP_ne h1
  have ib : q_inb (nI (t + 1)) 501 := q_inb_nI (by omega) (by omega)
  unfold fX5_take fX7_kindAt fX7_startAt
  rw [h4, hk, if_pos rfl, h6, if_pos rfl, h3, if_pos (by rw [show (500 : Int32) = nI 500 from rfl, nI_ltI (by omega) (by omega)]; exact ht), nI_1, q_lt_eq, sI_same, if_neg (nI_pos (by omega)), if_neg (by rw [show (501 : Int32) = nI 501 from rfl, nI_leI (by omega) (by omega)]; omega), if_pos ib, q_b_some, q_ix_nI (by omega), q_lt_eq, sI_k _ _ _ _ _ (show 4 ≠ 5 by decide), sI_same, if_neg (nI_pos (by omega)), if_neg (by rw [show (501 : Int32) = nI 501 from rfl, nI_leI (by omega) (by omega)]; omega), if_pos ib, q_b_some, q_ix_nI (by omega), q_lt_eq]
  refine ⟨_, rfl, ⟨h1, h2, ?_, ?_, ?_, ?_, ?_, h8, fun c => ?_, ?_, fun i hi => ?_⟩, frP1_t (frP1_23 P _ 4 _ (by omega) h1) (frP1_t (frP1_23 P _ 5 _ (by omega) h1) (frP1_23 P _ 6 _ (by omega) h1))⟩
  · rw [sI_k _ _ _ _ _ (by decide), sI_k _ _ _ _ _ (by decide), sI_same]
  · rw [sI_k _ _ _ _ _ (by decide), sI_same, sI_cell _ _ _ _ 26 (by decide), sI_cell _ _ _ _ 26 (by decide), sI_cell _ _ _ _ 26 (by decide), sI_cell _ _ _ _ 26 (by decide)]
  · rw [sI_same, sI_cell _ _ _ _ 27 (by decide), sI_cell _ _ _ _ 27 (by decide), sI_cell _ _ _ _ 27 (by decide), sI_cell _ _ _ _ 27 (by decide), sI_cell _ _ _ _ 27 (by decide)]
  · rw [sI_k _ _ _ _ _ (by decide), sI_k _ _ _ _ _ (by decide), sI_k _ _ _ _ _ (by decide), h6]
  · rw [sI_k _ _ _ _ _ (by decide), sI_k _ _ _ _ _ (by decide), sI_k _ _ _ _ _ (by decide), h7]
  · rw [sI_k _ _ _ _ _ (by decide), sI_k _ _ _ _ _ (by decide), sI_k _ _ _ _ _ (by decide), h9 c]
  · rw [sI_cell _ _ _ _ _ hne.1, sI_cell _ _ _ _ _ hne.1, sI_cell _ _ _ _ _ hne.1, h10]
  · rw [sI_cell _ _ _ _ _ hne.2.1, sI_cell _ _ _ _ _ hne.2.1, sI_cell _ _ _ _ _ hne.2.1, h11 i hi]
theorem fail_st {P t : Nat} {L : Nat × Int32} {ws : List Int32} {u : q_W} (h : PC P t L ws u) (f : Nat) (hf : 1 ≤ f ∧ f ≤ 2) : ∃ u', fX5_fail (nI f) u = some ((), u') ∧ FC P f (u.1 27 t) u' ∧ frP1 P u u' := by
  obtain ⟨h1, h2, h3, h4, h5, h6, h7, h8, h9, h10, h11⟩ := h
  unfold fX5_fail
  rw [h6, if_pos rfl, q_lt_eq, q_lt_eq, sI_k _ _ _ _ _ (show 6 ≠ 7 by decide), h5, q_lt_eq]
  exact ⟨_, rfl, ⟨h1, h2, by rw [sI_k _ _ _ _ _ (by decide), sI_k _ _ _ _ _ (by decide), sI_same], hf.1, hf.2, by rw [sI_k _ _ _ _ _ (by decide), sI_same], sI_same _ _ _ _⟩, frP1_t (frP1_23 P _ 7 _ (by omega) h1) (frP1_t (frP1_23 P _ 8 _ (by omega) h1) (frP1_23 P _ 5 _ (by omega) h1))⟩
theorem take_no {P t : Nat} {L : Nat × Int32} {ws : List Int32} {u : q_W} (h : PC P t L ws u) {k : Int32} (hk : ¬ u.1 26 t = k) : ∃ u', fX5_take k u = some ((), u') ∧ FC P 1 (u.1 27 t) u' ∧ frP1 P u u' := by
  obtain ⟨u', e, a, b⟩ := fail_st h 1 (by omega)
  unfold fX5_take fX5_take_n15
  rw [h.2.2.2.1, if_neg hk]
  rw [show nI 1 = (1 : Int32) from rfl] at e
  rw [e, q_b_some]
  exact ⟨u', rfl, a, b⟩
theorem take_room {P : Nat} {L : Nat × Int32} {ws : List Int32} {u : q_W} (h : PC P 500 L ws u) {k : Int32} (hk : u.1 26 500 = k) : ∃ u', fX5_take k u = some ((), u') ∧ FC P 2 (u.1 27 500) u' ∧ frP1 P u u' := by
  obtain ⟨u', e, a, b⟩ := fail_st h 2 (by omega)
  unfold fX5_take
  rw [h.2.2.2.1, hk, if_pos rfl, h.2.2.2.2.2.1, if_pos rfl, h.2.2.1, if_neg (by decide)]
  rw [show nI 2 = (2 : Int32) from rfl] at e
  rw [e, q_b_some]
  exact ⟨u', rfl, a, b⟩
theorem fail_F {P f : Nat} {p : Int32} {u : q_W} (h : FC P f p u) (x : Int32) : ∃ u', fX5_fail x u = some ((), u') ∧ FC P f p u' ∧ frP1 P u u' := by
  obtain ⟨h1, h2, h3, h4, h5, h6, h7⟩ := h
  unfold fX5_fail
  rw [h3, if_neg (nI_ne0 (by omega) (by omega)), q_lt_eq]
  exact ⟨_, rfl, ⟨h1, h2, by rw [sI_k _ _ _ _ _ (by decide), h3], h4, h5, by rw [sI_k _ _ _ _ _ (by decide), h6], sI_same _ _ _ _⟩, frP1_23 P _ 5 _ (by omega) h1⟩
theorem take_F {P f : Nat} {p : Int32} {u : q_W} (h : FC P f p u) (k : Int32) : ∃ u', fX5_take k u = some ((), u') ∧ FC P f p u' ∧ frP1 P u u' := by
  obtain ⟨u', e, a, b⟩ := fail_F h 1
  unfold fX5_take fX5_take_n15
  rw [e, q_b_some]
  refine ⟨u', ?_, a, b⟩
  by_cases hk : u.1 23 5 = k
  · rw [if_pos hk, h.2.2.1, if_neg (nI_ne0 (by have := h.2.2.2.1; omega) (by have := h.2.2.2.2.1; omega))]
  · rw [if_neg hk]
/-- late faults: the first by its place, of one place the least -/
def noteL (x : Nat × Int32) (L : Nat × Int32) : Nat × Int32 := if L.1 = 0 then x else if x.2 < L.2 then x else if x.2 = L.2 then (if L.1 ≤ x.1 then L else x) else L
theorem note_st {P t : Nat} {L : Nat × Int32} {ws : List Int32} {u : q_W} (h : PC P t L ws u) (x : Nat × Int32) (hx : 1 ≤ x.1 ∧ x.1 ≤ 5) : ∃ u', fX5_note (nI x.1) x.2 u = some ((), u') ∧ PC P t (noteL x L) ws u' ∧ frP1 P u u' := by
  obtain ⟨h1, h2, h3, h4, h5, h6, h7, h8, h9, h10, h11⟩ := h
  have hne := isP_ne h1
  have set : ∃ u', fX5_note_n31 (nI x.1) x.2 u = some ((), u') ∧ PC P t x ws u' ∧ frP1 P u u' := by
    unfold fX5_note_n31
    rw [q_lt_eq, q_lt_eq]
    refine ⟨_, rfl, ⟨h1, h2, ?_, ?_, ?_, ?_, ?_, hx.2, fun c => ?_, ?_, fun i hi => ?_⟩, frP1_t (frP1_23 P _ 9 _ (by omega) h1) (frP1_23 P _ 10 _ (by omega) h1)⟩
    · rw [sI_k _ _ _ _ _ (by decide), sI_k _ _ _ _ _ (by decide), h3]
    · rw [sI_k _ _ _ _ _ (by decide), sI_k _ _ _ _ _ (by decide), sI_cell _ _ _ _ 26 (by decide), sI_cell _ _ _ _ 26 (by decide), h4]
    · rw [sI_k _ _ _ _ _ (by decide), sI_k _ _ _ _ _ (by decide), sI_cell _ _ _ _ 27 (by decide), sI_cell _ _ _ _ 27 (by decide), h5]
    · rw [sI_k _ _ _ _ _ (by decide), sI_k _ _ _ _ _ (by decide), h6]
    · rw [sI_k _ _ _ _ _ (by decide), sI_same]
    · rw [sI_same]
    · rw [sI_cell _ _ _ _ _ hne.1, sI_cell _ _ _ _ _ hne.1, h10]
    · rw [sI_cell _ _ _ _ _ hne.2.1, sI_cell _ _ _ _ _ hne.2.1, h11 i hi]
  unfold fX5_note noteL
  rw [h7]
  by_cases c0 : L.1 = 0
  · rw [if_pos (by rw [c0]; rfl), if_pos c0]
    exact set
  · rw [if_neg (nI_ne0 (by omega) (by omega)), if_neg c0, h9 c0]
    by_cases c1 : x.2 < L.2
    · rw [if_pos c1, if_pos c1]
      exact set
    · rw [if_neg c1, if_neg c1]
      by_cases c2 : x.2 = L.2
      · rw [if_pos c2, if_pos c2]
        by_cases c3 : L.1 ≤ x.1
        · rw [if_pos (by rw [nI_leI (by omega) (by omega)]; exact c3), if_pos c3]
          exact ⟨u, rfl, ⟨h1, h2, h3, h4, h5, h6, h7, h8, h9, h10, h11⟩, frP1_r P u⟩
        · rw [if_neg (by rw [nI_leI (by omega) (by omega)]; exact c3), if_neg c3]
          exact set
      · rw [if_neg c2, if_neg c2]
        exact ⟨u, rfl, ⟨h1, h2, h3, h4, h5, h6, h7, h8, h9, h10, h11⟩, frP1_r P u⟩
theorem snocI_lt {l : List Int32} {x : Int32} {i : Nat} (h : i < l.length) : (l ++ [x]).getD i 0 = l.getD i 0 := by
  rw [List.getD_eq_getElem?_getD, List.getD_eq_getElem?_getD, List.getElem?_append_left h]
theorem snocI_eq {l : List Int32} {x : Int32} : (l ++ [x]).getD l.length 0 = x := by
  rw [List.getD_eq_getElem?_getD, List.getElem?_append_right (Nat.le_refl _), Nat.sub_self]
  rfl
theorem add_st {P t : Nat} {L : Nat × Int32} {ws : List Int32} {u : q_W} (h : PC P t L ws u) (hl : ws.length < 2000) (x : Int32) : ∃ u', fX4_add P x u = some ((), u') ∧ PC P t L (ws ++ [x]) u' ∧ frP1 P u u' := by
  obtain ⟨h1, h2, h3, h4, h5, h6, h7, h8, h9, h10, h11⟩ := h
  have hne := isP_ne h1
  unfold fX4_add
  rw [if_pos (isP_c h1), h10, if_neg (nI_pos (by omega)), if_neg (by rw [show (2000 : Int32) = nI 2000 from rfl, nI_leI (by omega) (by omega)]; omega), q_lt_eq, if_pos (q_inb_nI hl (by omega)), q_lt_eq, q_lt_eq, q_ix_nI (by omega), isP_0 h1, sI_cell _ _ _ _ P hne.2.2.2.2.2.2, h10, nI_1]
  refine ⟨_, rfl, ⟨h1, h2, ?_, ?_, ?_, ?_, ?_, h8, fun c => ?_, ?_, fun i hi => ?_⟩, ⟨fun q a b c => ?_, fun k hk => ?_, fun k hk => ?_, rfl⟩⟩
  · rw [sI_cell _ _ _ _ 23 (by omega), sI_cell _ _ _ _ 23 (by omega), h3]
  · rw [sI_cell _ _ _ _ 23 (by omega), sI_cell _ _ _ _ 23 (by omega), sI_cell _ _ _ _ 26 (by omega), sI_cell _ _ _ _ 26 (by omega), h4]
  · rw [sI_cell _ _ _ _ 23 (by omega), sI_cell _ _ _ _ 23 (by omega), sI_cell _ _ _ _ 27 (by omega), sI_cell _ _ _ _ 27 (by omega), h5]
  · rw [sI_cell _ _ _ _ 23 (by omega), sI_cell _ _ _ _ 23 (by omega), h6]
  · rw [sI_cell _ _ _ _ 23 (by omega), sI_cell _ _ _ _ 23 (by omega), h7]
  · rw [sI_cell _ _ _ _ 23 (by omega), sI_cell _ _ _ _ 23 (by omega), h9 c]
  · rw [sI_same, List.length_append]; rfl
  · rw [List.length_append, show [x].length = 1 from rfl] at hi
    rw [sI_cell _ _ _ _ (P + 1) (by omega)]
    by_cases e : i = ws.length
    · subst e; rw [sI_same, snocI_eq]
    · rw [sI_k _ _ _ _ _ e, snocI_lt (by omega), h11 i (by omega)]
  · rw [sI_cell _ _ _ _ _ b, sI_cell _ _ _ _ _ c]
  · rw [sI_cell _ _ _ _ 23 (by omega), sI_cell _ _ _ _ 23 (by omega)]
  · rw [sI_k _ _ _ _ _ hk, sI_cell _ _ _ _ P (by omega)]
theorem add2_st {P t : Nat} {L : Nat × Int32} {ws : List Int32} {u : q_W} (h : PC P t L ws u) (hl : ws.length + 1 < 2000) (x y : Int32) : ∃ u', fX4_add_ P x y u = some ((), u') ∧ PC P t L (ws ++ [x, y]) u' ∧ frP1 P u u' := by
  obtain ⟨u1, e1, a1, b1⟩ := add_st h (by omega) x
  obtain ⟨u2, e2, a2, b2⟩ := add_st a1 (by rw [List.length_append]; exact hl) y
  unfold fX4_add_
  rw [if_pos (isP_c h.1), e1, q_b_some, e2, q_b_some]
  rw [List.append_assoc] at a2
  exact ⟨u2, rfl, a2, frP1_t b1 b2⟩
/-- words in a fault: nothing that counts changes -/
theorem add_F {P f : Nat} {p : Int32} {u : q_W} (h : FC P f p u) (x : Int32) : ∃ u', fX4_add P x u = some ((), u') ∧ FC P f p u' ∧ frP1 P u u' := by
  have h1 := h.1
  have hne := isP_ne h1
  unfold fX4_add
  rw [if_pos (isP_c h1)]
  by_cases c1 : u.1 P 3 < 0
  · rw [if_pos c1]; exact ⟨u, rfl, h, frP1_r P u⟩
  · rw [if_neg c1]
    by_cases c2 : 2000 ≤ u.1 P 3
    · rw [if_pos c2]; exact ⟨u, rfl, h, frP1_r P u⟩
    · obtain ⟨m, hm, em⟩ := nI_of c1
      rw [em, show (2000 : Int32) = nI 2000 from rfl, nI_leI (by omega) hm] at c2
      rw [em, if_neg (by rw [show (2000 : Int32) = nI 2000 from rfl, nI_leI (by omega) hm]; exact c2), q_lt_eq, if_pos (q_inb_nI (by omega) (by omega)), q_lt_eq, q_lt_eq, isP_0 h1]
      obtain ⟨_, h2, h3, h4, h5, h6, h7⟩ := h
      refine ⟨_, rfl, ⟨h1, h2, ?_, h4, h5, ?_, ?_⟩, ⟨fun q a b c => ?_, fun k hk => ?_, fun k hk => ?_, rfl⟩⟩
      · rw [sI_cell _ _ _ _ 23 (by omega), sI_cell _ _ _ _ 23 (by omega), h3]
      · rw [sI_cell _ _ _ _ 23 (by omega), sI_cell _ _ _ _ 23 (by omega), h6]
      · rw [sI_cell _ _ _ _ 23 (by omega), sI_cell _ _ _ _ 23 (by omega), h7]
      · rw [sI_cell _ _ _ _ _ b, sI_cell _ _ _ _ _ c]
      · rw [sI_cell _ _ _ _ 23 (by omega), sI_cell _ _ _ _ 23 (by omega)]
      · rw [sI_k _ _ _ _ _ hk, sI_cell _ _ _ _ P (by omega)]
