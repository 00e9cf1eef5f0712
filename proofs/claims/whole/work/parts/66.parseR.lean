/-! the parser of the reference: its state -/
abbrev Tr : Type := Int32 × Int32 × Int32
def trs (es : List It) : List Tr := es.map (fun x => x.2)
theorem trs_app (a b : List It) : trs (a ++ b) = trs a ++ trs b := List.map_append
def z3 : Tr := (0, 0, 0)
/-- what parsing leaves alone: reference, side s -/
def frR1 (s : Nat) (v v' : q_W) : Prop := (∀ q, q ≠ 0 → q ≠ 12 → q ≠ 13 → q ≠ 14 → q ≠ 20 → v'.1 q = v.1 q) ∧ (∀ k, ¬ (11 ≤ k ∧ k ≤ 16) → k ≠ 24 → k ≠ 38 → v'.1 0 k = v.1 0 k) ∧ (∀ i, ¬ (2000 * s ≤ i ∧ i < 2000 * s + 2000) → v'.1 12 i = v.1 12 i ∧ v'.1 13 i = v.1 13 i ∧ v'.1 14 i = v.1 14 i) ∧ v'.2 = v.2
theorem frR1_r (s : Nat) (v : q_W) : frR1 s v v := ⟨fun _ _ _ _ _ _ => rfl, fun _ _ _ _ => rfl, fun _ _ => ⟨rfl, rfl, rfl⟩, rfl⟩
theorem frR1_t {s : Nat} {a b c : q_W} (h : frR1 s a b) (h' : frR1 s b c) : frR1 s a c := ⟨fun q x y z p r => (h'.1 q x y z p r).trans (h.1 q x y z p r), fun k x y z => (h'.2.1 k x y z).trans (h.2.1 k x y z), fun i hi => ⟨(h'.2.2.1 i hi).1.trans (h.2.2.1 i hi).1, (h'.2.2.1 i hi).2.1.trans (h.2.2.1 i hi).2.1, (h'.2.2.1 i hi).2.2.trans (h.2.2.1 i hi).2.2⟩, h'.2.2.2.trans h.2.2.2⟩
theorem frR1_0 (s : Nat) (v : q_W) (k : Nat) (x : Int32) (h : 11 ≤ k ∧ k ≤ 16 ∨ k = 24 ∨ k = 38) : frR1 s v (q_sI v 0 k x) := ⟨fun q h0 _ _ _ _ => sI_cell _ _ _ _ _ h0, fun k' a b c => sI_k _ _ _ _ _ (by omega), fun i _ => ⟨by rw [sI_cell _ _ _ _ _ (by decide)], by rw [sI_cell _ _ _ _ _ (by decide)], by rw [sI_cell _ _ _ _ _ (by decide)]⟩, rfl⟩
theorem frR1_20 (s : Nat) (v : q_W) (k : Nat) (x : Int32) : frR1 s v (q_sI v 20 k x) := ⟨fun q _ _ _ _ h => sI_cell _ _ _ _ _ h, fun k' _ _ _ => by rw [sI_cell _ _ _ _ _ (by decide)], fun i _ => ⟨by rw [sI_cell _ _ _ _ _ (by decide)], by rw [sI_cell _ _ _ _ _ (by decide)], by rw [sI_cell _ _ _ _ _ (by decide)]⟩, rfl⟩
/-- the codes of side s -/
def CD (s : Nat) (cs : List Tr) (v : q_W) : Prop := v.1 0 24 = nI (2000 * s + cs.length) ∧ ∀ i, i < cs.length → v.1 12 (2000 * s + i) = (cs.getD i z3).1 ∧ v.1 13 (2000 * s + i) = (cs.getD i z3).2.1 ∧ v.1 14 (2000 * s + i) = (cs.getD i z3).2.2
def WT (W : List Nat) (v : q_W) : Prop := v.1 0 38 = nI W.length ∧ W.length ≤ 40 ∧ ∀ i, i < W.length → v.1 20 i = nI (W.getD i 0)
def PR (s t : Nat) (L : Nat × Int32) (cs : List Tr) (W : List Nat) (op : Nat) (v : q_W) : Prop := s < 2 ∧ v.1 0 11 = nI t ∧ v.1 0 13 = 0 ∧ v.1 0 15 = nI L.1 ∧ (L.1 ≠ 0 → v.1 0 16 = L.2) ∧ CD s cs v ∧ WT W v ∧ v.1 0 12 = nI op
theorem snocT_lt {l : List Tr} {x : Tr} {i : Nat} (h : i < l.length) : (l ++ [x]).getD i z3 = l.getD i z3 := by
  rw [List.getD_eq_getElem?_getD, List.getD_eq_getElem?_getD, List.getElem?_append_left h]
theorem snocT_eq {l : List Tr} {x : Tr} : (l ++ [x]).getD l.length z3 = x := by
  rw [List.getD_eq_getElem?_getD, List.getElem?_append_right (Nat.le_refl _), Nat.sub_self]
  rfl
/-- a code comes -/
theorem emit_cd {s : Nat} {cs : List Tr} {v : q_W} (hs : s < 2) (h : CD s cs v) (hl : cs.length < 2000) (x : Tr) : ∃ v', fX11_emit x.1 x.2.1 x.2.2 v = some ((), v') ∧ CD s (cs ++ [x]) v' ∧ frR1 s v v' ∧ (∀ k, k ≠ 24 → v'.1 0 k = v.1 0 k) ∧ v'.1 20 = v.1 20 := by
  obtain ⟨h1, h2⟩ := h
  have ib : q_inb (nI (2000 * s + cs.length)) 4000 := q_inb_nI (by omega) (by omega)
  unfold fX11_emit
  rw [h1, q_lt_eq, if_pos ib, q_lt_eq, q_lt_eq, sI_cell _ _ _ _ 0 (by decide), h1, if_pos ib, q_lt_eq, q_lt_eq, sI_cell _ _ _ _ 0 (by decide), sI_cell _ _ _ _ 0 (by decide), h1, if_pos ib, q_lt_eq, q_lt_eq, sI_cell _ _ _ _ 0 (by decide), sI_cell _ _ _ _ 0 (by decide), sI_cell _ _ _ _ 0 (by decide), h1, nI_1, q_ix_nI (by omega)]
  have c12 : ∀ i, (q_sI (q_sI (q_sI (q_sI v 12 (2000 * s + cs.length) x.1) 13 (2000 * s + cs.length) x.2.1) 14 (2000 * s + cs.length) x.2.2) 0 24 (nI (2000 * s + cs.length + 1))).1 12 i = if i = 2000 * s + cs.length then x.1 else v.1 12 i := fun i => by
    rw [sI_cell _ _ _ _ _ (by decide), sI_cell _ _ _ _ _ (by decide), sI_cell _ _ _ _ _ (by decide), sI_if]
  have c13 : ∀ i, (q_sI (q_sI (q_sI (q_sI v 12 (2000 * s + cs.length) x.1) 13 (2000 * s + cs.length) x.2.1) 14 (2000 * s + cs.length) x.2.2) 0 24 (nI (2000 * s + cs.length + 1))).1 13 i = if i = 2000 * s + cs.length then x.2.1 else v.1 13 i := fun i => by
    rw [sI_cell _ _ _ _ _ (by decide), sI_cell _ _ _ _ _ (by decide), sI_if, sI_cell _ _ _ _ _ (by decide)]
  have c14 : ∀ i, (q_sI (q_sI (q_sI (q_sI v 12 (2000 * s + cs.length) x.1) 13 (2000 * s + cs.length) x.2.1) 14 (2000 * s + cs.length) x.2.2) 0 24 (nI (2000 * s + cs.length + 1))).1 14 i = if i = 2000 * s + cs.length then x.2.2 else v.1 14 i := fun i => by
    rw [sI_cell _ _ _ _ _ (by decide), sI_if, sI_cell _ _ _ _ _ (by decide), sI_cell _ _ _ _ _ (by decide)]
  refine ⟨_, rfl, ⟨by rw [sI_same, List.length_append]; rfl, fun i hi => ?_⟩, ⟨fun q a b c d e => ?_, fun k a b c => ?_, fun i hi => ?_, rfl⟩, fun k hk => ?_, ?_⟩
  · rw [c12, c13, c14]
    rw [List.length_append, show [x].length = 1 from rfl] at hi
    by_cases e : i = cs.length
    · subst e; rw [if_pos rfl, if_pos rfl, if_pos rfl, snocT_eq]; exact ⟨rfl, rfl, rfl⟩
    · rw [if_neg (by omega), if_neg (by omega), if_neg (by omega), snocT_lt (by omega)]
      exact h2 i (by omega)
  · rw [sI_cell _ _ _ _ _ a, sI_cell _ _ _ _ _ d, sI_cell _ _ _ _ _ c, sI_cell _ _ _ _ _ b]
  · rw [sI_k _ _ _ _ _ b, sI_cell _ _ _ _ _ (by decide), sI_cell _ _ _ _ _ (by decide), sI_cell _ _ _ _ _ (by decide)]
  · rw [c12, c13, c14, if_neg (by omega), if_neg (by omega), if_neg (by omega)]; exact ⟨rfl, rfl, rfl⟩
  · rw [sI_k _ _ _ _ _ hk, sI_cell _ _ _ _ _ (by decide), sI_cell _ _ _ _ _ (by decide), sI_cell _ _ _ _ _ (by decide)]
  · rw [sI_cell _ _ _ _ _ (by decide), sI_cell _ _ _ _ _ (by decide), sI_cell _ _ _ _ _ (by decide), sI_cell _ _ _ _ _ (by decide)]
theorem emit_st {s t op : Nat} {L : Nat × Int32} {cs : List Tr} {W : List Nat} {v : q_W} (h : PR s t L cs W op v) (hl : cs.length < 2000) (x : Tr) : ∃ v', fX11_emit x.1 x.2.1 x.2.2 v = some ((), v') ∧ PR s t L (cs ++ [x]) W op v' ∧ frR1 s v v' := by
  obtain ⟨h1, h2, h3, h4, h5, h6, h7, h8⟩ := h
  obtain ⟨v', e, a, b, c, d⟩ := emit_cd h1 h6 hl x
  refine ⟨v', e, ⟨h1, ?_, ?_, ?_, fun g => ?_, a, ⟨?_, h7.2.1, fun i hi => ?_⟩, ?_⟩, b⟩
  · rw [c 11 (by decide), h2]
  · rw [c 13 (by decide), h3]
  · rw [c 15 (by decide), h4]
  · rw [c 16 (by decide), h5 g]
  · rw [c 38 (by decide), h7.1]
  · rw [d, h7.2.2 i hi]
  · rw [c 12 (by decide), h8]
/-- a fault: the reference goes on to its end -/
def FR (s : Nat) (f : Nat) (p : Int32) (m : Nat) (v : q_W) : Prop := s < 2 ∧ 1 ≤ f ∧ f ≤ 2 ∧ v.1 0 13 = nI f ∧ v.1 0 14 = p ∧ (∃ c, c + 2 * m ≤ 1800 ∧ v.1 0 24 = nI (2000 * s + c)) ∧ (∃ n, n ≤ m ∧ m ≤ 40 ∧ v.1 0 38 = nI n) ∧ ∃ t, t ≤ 500 ∧ v.1 0 11 = nI t
theorem is_st {s t op : Nat} {L : Nat × Int32} {cs : List Tr} {W : List Nat} {v : q_W} (h : PR s t L cs W op v) (ht : t ≤ 500) (k : Int32) : fX11_is k v = some (if v.1 3 t = k then 1 else 0, v) := by
  unfold fX11_is
  rw [h.2.2.1, if_pos rfl, h.2.1, q_lt_eq, if_pos (q_inb_nI (by omega) (by omega)), q_ix_nI (by omega)]
  by_cases c : v.1 3 t = k
  · rw [if_pos c, if_pos c]
  · rw [if_neg c, if_neg c]
theorem is_F {s f m : Nat} {p : Int32} {v : q_W} (h : FR s f p m v) (k : Int32) : fX11_is k v = some (0, v) := by
  unfold fX11_is
  rw [h.2.2.2.1, if_neg (nI_ne0 (by have := h.2.1; omega) (by have := h.2.2.1; omega))]
theorem failR_st {s t op : Nat} {L : Nat × Int32} {cs : List Tr} {W : List Nat} {v : q_W} (h : PR s t L cs W op v) (ht : t ≤ 500) (f : Nat) (hf : 1 ≤ f ∧ f ≤ 2) (m : Nat) (hm : W.length ≤ m) (hm2 : m ≤ 40) (hc : cs.length + 2 * m ≤ 1800) : ∃ v', fX11_fail (nI f) v = some ((), v') ∧ FR s f (v.1 4 t) m v' ∧ frR1 s v v' := by
  obtain ⟨h1, h2, h3, h4, h5, h6, h7, h8⟩ := h
  unfold fX11_fail
  rw [h3, if_pos (by decide), q_lt_eq, q_lt_eq, sI_k _ _ _ _ _ (show 11 ≠ 13 by decide), h2, if_pos (q_inb_nI (by omega) (by omega)), q_lt_eq, q_ix_nI (by omega), sI_cell _ _ _ _ 4 (by decide)]
  refine ⟨_, rfl, ⟨h1, hf.1, hf.2, ?_, sI_same _ _ _ _, ⟨cs.length, hc, ?_⟩, ⟨W.length, hm, hm2, ?_⟩, ⟨t, by omega, ?_⟩⟩, frR1_t (frR1_0 s v 13 _ (by omega)) (frR1_0 s _ 14 _ (by omega))⟩
  · rw [sI_k _ _ _ _ _ (by decide), sI_same]
  · rw [sI_k _ _ _ _ _ (by decide), sI_k _ _ _ _ _ (by decide), h6.1]
  · rw [sI_k _ _ _ _ _ (by decide), sI_k _ _ _ _ _ (by decide), h7.1]
  · rw [sI_k _ _ _ _ _ (by decide), sI_k _ _ _ _ _ (by decide), h2]
theorem failR_F {s f m : Nat} {p : Int32} {v : q_W} (h : FR s f p m v) (k : Int32) : fX11_fail k v = some ((), v) := by
  unfold fX11_fail
  rw [h.2.2.2.1, if_neg (nI_nle (by have := h.2.1; omega) (by have := h.2.2.1; omega))]
theorem next_st {s t op : Nat} {L : Nat × Int32} {cs : List Tr} {W : List Nat} {v : q_W} (h : PR s t L cs W op v) (ht : t < 500) : ∃ v', fX11_next v = some ((), v') ∧ PR s (t + 1) L cs W op v' ∧ frR1 s v v' := by
  obtain ⟨h1, h2, h3, h4, h5, h6, h7, h8⟩ := h
  unfold fX11_next
  rw [h2, if_neg (show ¬ nI t = 500 from nI_ne (b := 500) (by omega) (by omega) (by omega)), q_lt_eq, nI_1]
  refine ⟨_, rfl, ⟨h1, sI_same _ _ _ _, ?_, ?_, fun g => ?_, ⟨?_, fun i hi => ?_⟩, ⟨?_, h7.2.1, fun i hi => ?_⟩, ?_⟩, frR1_0 s v 11 _ (by omega)⟩
  · rw [sI_k _ _ _ _ _ (by decide), h3]
  · rw [sI_k _ _ _ _ _ (by decide), h4]
  · rw [sI_k _ _ _ _ _ (by decide), h5 g]
  · rw [sI_k _ _ _ _ _ (by decide), h6.1]
  · rw [sI_cell _ _ _ _ 12 (by decide), sI_cell _ _ _ _ 13 (by decide), sI_cell _ _ _ _ 14 (by decide)]
    exact h6.2 i hi
  · rw [sI_k _ _ _ _ _ (by decide), h7.1]
  · rw [sI_cell _ _ _ _ _ (by decide), h7.2.2 i hi]
  · rw [sI_k _ _ _ _ _ (by decide), h8]
theorem next_room {s op : Nat} {L : Nat × Int32} {cs : List Tr} {W : List Nat} {v : q_W} (h : PR s 500 L cs W op v) (m : Nat) (hm : W.length ≤ m) (hm2 : m ≤ 40) (hc : cs.length + 2 * m ≤ 1800) : ∃ v', fX11_next v = some ((), v') ∧ FR s 2 (v.1 4 500) m v' ∧ frR1 s v v' := by
  obtain ⟨v', e, a, b⟩ := failR_st h (Nat.le_refl _) 2 (by omega) m hm hm2 hc
  unfold fX11_next
  rw [h.2.1, if_pos (show nI 500 = 500 from rfl)]
  rw [show nI 2 = (2 : Int32) from rfl] at e
  rw [e, q_b_some]
  exact ⟨v', rfl, a, b⟩
theorem must_st {s t op : Nat} {L : Nat × Int32} {cs : List Tr} {W : List Nat} {v : q_W} (h : PR s t L cs W op v) (ht : t < 500) {k : Int32} (hk : v.1 3 t = k) : ∃ v', fX11_must k v = some ((), v') ∧ PR s (t + 1) L cs W op v' ∧ frR1 s v v' := by
  obtain ⟨v', e, a, b⟩ := next_st h ht
  unfold fX11_must
  rw [is_st h (by omega), q_b_some, if_pos hk, if_neg i_10, e, q_b_some]
  exact ⟨v', rfl, a, b⟩
theorem must_no {s t op : Nat} {L : Nat × Int32} {cs : List Tr} {W : List Nat} {v : q_W} (h : PR s t L cs W op v) (ht : t ≤ 500) {k : Int32} (hk : ¬ v.1 3 t = k) (m : Nat) (hm : W.length ≤ m) (hm2 : m ≤ 40) (hc : cs.length + 2 * m ≤ 1800) : ∃ v', fX11_must k v = some ((), v') ∧ FR s 1 (v.1 4 t) m v' ∧ frR1 s v v' := by
  obtain ⟨v', e, a, b⟩ := failR_st h ht 1 (by omega) m hm hm2 hc
  unfold fX11_must
  rw [show nI 1 = (1 : Int32) from rfl] at e
  rw [is_st h ht, q_b_some, if_neg hk, if_pos rfl, e, q_b_some]
  exact ⟨v', rfl, a, b⟩
theorem must_room {s op : Nat} {L : Nat × Int32} {cs : List Tr} {W : List Nat} {v : q_W} (h : PR s 500 L cs W op v) {k : Int32} (hk : v.1 3 500 = k) (m : Nat) (hm : W.length ≤ m) (hm2 : m ≤ 40) (hc : cs.length + 2 * m ≤ 1800) : ∃ v', fX11_must k v = some ((), v') ∧ FR s 2 (v.1 4 500) m v' ∧ frR1 s v v' := by
  obtain ⟨v', e, a, b⟩ := next_room h m hm hm2 hc
  unfold fX11_must
  rw [is_st h (Nat.le_refl _), q_b_some, if_pos hk, if_neg i_10, e, q_b_some]
  exact ⟨v', rfl, a, b⟩
theorem must_F {s f m : Nat} {p : Int32} {v : q_W} (h : FR s f p m v) (k : Int32) : fX11_must k v = some ((), v) := by
  unfold fX11_must
  rw [is_F h, q_b_some, if_pos rfl, failR_F h, q_b_some]
theorem wrong_st {s t op : Nat} {L : Nat × Int32} {cs : List Tr} {W : List Nat} {v : q_W} (h : PR s t L cs W op v) (hL : L.1 ≤ 5) {tk : Nat} (htk : tk ≤ 500) (x : Nat) (hx : 1 ≤ x ∧ x ≤ 5) : ∃ v', fX11_wrong (nI x) (nI tk) v = some ((), v') ∧ PR s t (noteL (x, v.1 4 tk) L) cs W op v' ∧ frR1 s v v' := by
  obtain ⟨h1, h2, h3, h4, h5, h6, h7, h8⟩ := h
  have set : ∃ v', fX11_wrong_n46 (nI x) (v.1 4 tk) v = some ((), v') ∧ PR s t (x, v.1 4 tk) cs W op v' ∧ frR1 s v v' := by
    unfold fX11_wrong_n46
    rw [q_lt_eq, q_lt_eq]
    refine ⟨_, rfl, ⟨h1, ?_, ?_, ?_, fun g => ?_, ⟨?_, fun i hi => ?_⟩, ⟨?_, h7.2.1, fun i hi => ?_⟩, ?_⟩, frR1_t (frR1_0 s v 15 _ (by omega)) (frR1_0 s _ 16 _ (by omega))⟩
    · rw [sI_k _ _ _ _ _ (by decide), sI_k _ _ _ _ _ (by decide), h2]
    · rw [sI_k _ _ _ _ _ (by decide), sI_k _ _ _ _ _ (by decide), h3]
    · rw [sI_k _ _ _ _ _ (by decide), sI_same]
    · rw [sI_same]
    · rw [sI_k _ _ _ _ _ (by decide), sI_k _ _ _ _ _ (by decide), h6.1]
    · rw [sI_cell _ _ _ _ 12 (by decide), sI_cell _ _ _ _ 13 (by decide), sI_cell _ _ _ _ 14 (by decide), sI_cell _ _ _ _ 12 (by decide), sI_cell _ _ _ _ 13 (by decide), sI_cell _ _ _ _ 14 (by decide)]
      exact h6.2 i hi
    · rw [sI_k _ _ _ _ _ (by decide), sI_k _ _ _ _ _ (by decide), h7.1]
    · rw [sI_cell _ _ _ _ _ (by decide), sI_cell _ _ _ _ _ (by decide), h7.2.2 i hi]
    · rw [sI_k _ _ _ _ _ (by decide), sI_k _ _ _ _ _ (by decide), h8]
  have same : PR s t L cs W op v := ⟨h1, h2, h3, h4, h5, h6, h7, h8⟩
  unfold fX11_wrong noteL
  rw [if_pos (q_inb_nI (by omega) (by omega)), q_lt_eq, q_ix_nI (by omega), h3, if_neg (by decide), h4]
  show ∃ v', (if nI L.1 = 0 then _ else _) = _ ∧ PR s t (if L.1 = 0 then _ else if v.1 4 tk < L.2 then _ else if v.1 4 tk = L.2 then (if L.1 ≤ x then L else _) else L) cs W op v' ∧ _
  by_cases c0 : L.1 = 0
  · rw [if_pos (show nI L.1 = 0 by rw [c0]; rfl), if_pos c0]
    exact set
  · rw [if_neg (nI_ne0 (by omega) (by omega)), if_neg c0, h5 c0]
    by_cases c1 : L.2 < v.1 4 tk
    · have n1 : ¬ v.1 4 tk < L.2 := by rw [i_lt] at c1 ⊢; omega
      have n2 : ¬ v.1 4 tk = L.2 := by intro e; rw [e, i_lt] at c1; omega
      rw [if_pos c1, if_neg n1, if_neg n2]
      exact ⟨v, rfl, same, frR1_r s v⟩
    · rw [if_neg c1]
      by_cases c2 : v.1 4 tk = L.2
      · rw [if_pos c2, if_neg (show ¬ v.1 4 tk < L.2 by rw [c2, i_lt]; omega), if_pos c2]
        by_cases c3 : L.1 ≤ x
        · rw [if_neg (by rw [nI_ltI (by omega) (by omega)]; omega), if_pos c3]
          exact ⟨v, rfl, same, frR1_r s v⟩
        · rw [if_pos (by rw [nI_ltI (by omega) (by omega)]; omega), if_neg c3]
          exact set
      · have n1 : v.1 4 tk < L.2 := by
          rw [i_lt] at c1 ⊢
          have : (v.1 4 tk).toInt ≠ L.2.toInt := fun e => c2 (Int32.toInt_inj.mp e)
          omega
        rw [if_neg c2, if_pos n1]
        exact set
