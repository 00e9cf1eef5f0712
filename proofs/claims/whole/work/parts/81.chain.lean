/-! conditions: what both build -/
abbrev Rl : Type := List It × Nat × Nat
def cdC (x1 x2 : Option Nat) (ws : List Int32) (rl : List Rl) : List Int32 := match rl with
  | [] => ws
  | r :: rl =>
    let w1 := aimW x1 (ws ++ (wds r.1 ++ [nI (r.2.1 + 10)]))
    if r.2.2 = 2 then cdC (some (w1.length + 1)) x2 (w1 ++ [14, 0]) rl
    else if r.2.2 = 1 then cdC none (some ((aimW x2 w1).length + 1)) (aimW x2 w1 ++ [15, 0]) rl
    else aimW x2 w1
def cdR (s : Nat) (c5 c6 : List Nat) (cs : List Tr) (rl : List Rl) : List Tr × List Nat × List Nat := match rl with
  | [] => (cs, c5, c6)
  | r :: rl =>
    let c1 := cs ++ (trs r.1 ++ [(14, nI r.2.1, 0)])
    if r.2.2 = 2 then cdR s (c1.length :: c5) c6 (c1 ++ [(15, 0, hdC s c5)]) rl
    else if r.2.2 = 1 then cdR s [] (c1.length :: c6) (landT (nI (2000 * s + (c1.length + 1))) c5 (c1 ++ [(16, 0, hdC s c6)])) rl
    else (c1 ++ [(15, 0, hdC s c5)], c1.length :: c5, c6)
def okRl (rl : List Rl) : Prop := match rl with
  | [] => False
  | r :: rl => r.2.1 < 4 ∧ ((r.2.2 = 0 ∧ rl = []) ∨ ((r.2.2 = 1 ∨ r.2.2 = 2) ∧ okRl rl))
def frC (s : Nat) (v v' : q_W) : Prop := (∀ q, q ≠ 0 → q ≠ 12 → q ≠ 13 → q ≠ 14 → q ≠ 20 → v'.1 q = v.1 q) ∧ (∀ k, ¬ (11 ≤ k ∧ k ≤ 16) → k ≠ 24 → k ≠ 38 → k ≠ 35 → k ≠ 36 → v'.1 0 k = v.1 0 k) ∧ (∀ i, ¬ (2000 * s ≤ i ∧ i < 2000 * s + 2000) → v'.1 12 i = v.1 12 i ∧ v'.1 13 i = v.1 13 i ∧ v'.1 14 i = v.1 14 i) ∧ v'.2 = v.2
theorem frC_t {s : Nat} {a b c : q_W} (h : frC s a b) (h' : frC s b c) : frC s a c := ⟨fun q x y z p r => (h'.1 q x y z p r).trans (h.1 q x y z p r), fun k x y z p q => (h'.2.1 k x y z p q).trans (h.2.1 k x y z p q), fun i hi => ⟨(h'.2.2.1 i hi).1.trans (h.2.2.1 i hi).1, (h'.2.2.1 i hi).2.1.trans (h.2.2.1 i hi).2.1, (h'.2.2.1 i hi).2.2.trans (h.2.2.1 i hi).2.2⟩, h'.2.2.2.trans h.2.2.2⟩
theorem frC_1 {s : Nat} {v v' : q_W} (h : frR1 s v v') : frC s v v' := ⟨h.1, fun k a b c _ _ => h.2.1 k a b c, h.2.2.1, h.2.2.2⟩
theorem frC_0 (s : Nat) (v : q_W) (k : Nat) (x : Int32) (h : k = 35 ∨ k = 36) : frC s v (q_sI v 0 k x) := ⟨fun q h0 _ _ _ _ => sI_cell _ _ _ _ _ h0, fun k' _ _ _ _ _ => sI_k _ _ _ _ _ (by omega), fun i _ => ⟨by rw [sI_cell _ _ _ _ _ (by decide)], by rw [sI_cell _ _ _ _ _ (by decide)], by rw [sI_cell _ _ _ _ _ (by decide)]⟩, rfl⟩
theorem EC_frC {T P s s' : Nat} {nl : List (List Nat)} {sl : Nat → Nat} {u u' v v' : q_W} (hP : isP P) (h : EC T s nl sl u v) (f : frP1 P u u') (g : frC s' v v') : EC T s nl sl u' v' := by
  have hne := isP_ne hP
  refine ⟨?_, ?_⟩
  · have h := h.1
    unfold toks tokOK at *
    rw [f.1 26 (by decide) (by omega) (by omega), f.1 27 (by decide) (by omega) (by omega), f.2.2.2, g.1 3 (by decide) (by decide) (by decide) (by decide) (by decide), g.1 4 (by decide) (by decide) (by decide) (by decide) (by decide), g.1 5 (by decide) (by decide) (by decide) (by decide) (by decide), g.2.2.2]
    exact h
  · have h' := h.2
    rw [f.2.1 3 (by omega), f.2.2.2, g.2.1 28 (by omega) (by omega) (by omega) (by omega) (by omega), g.2.1 19 (by omega) (by omega) (by omega) (by omega) (by omega), g.1 8 (by decide) (by decide) (by decide) (by decide) (by decide), g.1 10 (by decide) (by decide) (by decide) (by decide) (by decide), g.1 19 (by decide) (by decide) (by decide) (by decide) (by decide), g.2.2.2]
    exact h'
theorem PR_set {s t op : Nat} {L : Nat × Int32} {cs : List Tr} {W : List Nat} {v : q_W} (h : PR s t L cs W op v) (k : Nat) (x : Int32) (hk : k = 35 ∨ k = 36 ∨ k = 30 ∨ k = 28) : PR s t L cs W op (q_sI v 0 k x) := by
  obtain ⟨h1, h2, h3, h4, h5, h6, h7, h8⟩ := h
  refine ⟨h1, ?_, ?_, ?_, fun g => ?_, ⟨?_, fun j hj => ?_⟩, ⟨?_, h7.2.1, fun j hj => ?_⟩, ?_⟩
  · rw [sI_k _ _ _ _ _ (by omega), h2]
  · rw [sI_k _ _ _ _ _ (by omega), h3]
  · rw [sI_k _ _ _ _ _ (by omega), h4]
  · rw [sI_k _ _ _ _ _ (by omega), h5 g]
  · rw [sI_k _ _ _ _ _ (by omega), h6.1]
  · rw [sI_cell _ _ _ _ 12 (by decide), sI_cell _ _ _ _ 13 (by decide), sI_cell _ _ _ _ 14 (by decide)]
    exact h6.2 j hj
  · rw [sI_k _ _ _ _ _ (by omega), h7.1]
  · rw [sI_cell _ _ _ _ _ (by decide), h7.2.2 j hj]
  · rw [sI_k _ _ _ _ _ (by omega), h8]
def PB (s t : Nat) (L : Nat × Int32) (cs : List Tr) (c5 c6 : List Nat) (v : q_W) : Prop := PR s t L cs [] 0 v ∧ v.1 0 35 = hdC s c5 ∧ v.1 0 36 = hdC s c6 ∧ CHN s cs c5 ∧ CHN s cs c6 ∧ c5.length ≤ cs.length ∧ c6.length ≤ cs.length
/-- the chain in the world -/
def CHW (s : Nat) (c : List Nat) (v : q_W) : Prop := match c with
  | [] => True
  | i :: c => i < 2000 ∧ v.1 14 (2000 * s + i) = hdC s c ∧ CHW s c v
theorem CHW_of {s : Nat} {cs : List Tr} {v : q_W} (hs : s < 2) (h : CD s cs v) (hl : cs.length ≤ 2000) : ∀ c, CHN s cs c → CHW s c v := by
  intro c
  induction c with
  | nil => intro _; trivial
  | cons i c ih =>
    intro hc
    obtain ⟨a, b, d⟩ := hc
    exact ⟨by omega, by rw [(h.2 i a).2.2, b], ih d⟩
theorem CHW_eq {s : Nat} {v v' : q_W} (e : v'.1 14 = v.1 14) : ∀ c, CHW s c v → CHW s c v' := by
  intro c
  induction c with
  | nil => intro _; trivial
  | cons i c ih =>
    intro hc
    obtain ⟨a, b, d⟩ := hc
    exact ⟨a, by rw [e, b], ih d⟩
theorem FR_13 {s f m : Nat} {p : Int32} {v : q_W} (h : FR s f p m v) (q k : Nat) (x : Int32) (hq : q ≠ 0) : FR s f p m (q_sI v q k x) := by
  unfold FR at *
  rw [sI_cell _ _ _ _ 0 (fun e => hq e.symm)]
  exact h
theorem landsF_lok {s f m : Nat} {p : Int32} : ∀ (c : List Nat) (N : Nat) (v : q_W), c.length < N → CHW s c v → FR s f p m v → ∃ v', q_it N fX11_lands_h2 (fun _ _ => none) (hdC s c) v = some ((), v') ∧ FR s f p m v' ∧ (∀ q, q ≠ 13 → v'.1 q = v.1 q) ∧ v'.2 = v.2 ∧ ∀ i, ¬ (2000 * s ≤ i ∧ i < 2000 * s + 2000) → v'.1 13 i = v.1 13 i := by
  intro c
  induction c with
  | nil =>
    intro N v hN hc h
    obtain ⟨N, rfl⟩ : ∃ M, N = M + 1 := ⟨N - 1, by omega⟩
    rw [q_itS, fX11_lands_h2, if_pos (show hdC s [] = -1 from rfl)]
    exact ⟨v, rfl, h, fun _ _ => rfl, rfl, fun _ _ => rfl⟩
  | cons i c ih =>
    intro N v hN hc h
    obtain ⟨N, rfl⟩ : ∃ M, N = M + 1 := ⟨N - 1, by omega⟩
    obtain ⟨a, b, d⟩ := hc
    have hs := h.1
    obtain ⟨v', e1, a1, b1, c1, d1⟩ := ih N (q_sI v 13 (2000 * s + i) (v.1 0 24)) (by simp at hN; omega) (CHW_eq (sI_cell _ _ _ _ 14 (by decide)) c d) (FR_13 h 13 _ _ (by decide))
    rw [q_itS, fX11_lands_h2, if_neg (show ¬ hdC s (i :: c) = -1 from fun q => nI_pos (n := 2000 * s + i) (by omega) (by rw [show nI (2000 * s + i) = -1 from q]; decide))]
    rw [show hdC s (i :: c) = nI (2000 * s + i) from rfl]
    rw [if_pos (q_inb_nI (by omega) (by omega)), q_lt_eq, if_pos (q_inb_nI (by omega) (by omega)), q_lt_eq, q_ix_nI (by omega), b]
    exact ⟨v', e1, a1, fun q hq => by rw [b1 q hq, sI_cell _ _ _ _ _ hq], c1, fun j hj => by rw [d1 j hj, sI_k _ _ _ _ _ (by omega)]⟩
/-- the class's loop in a fault -/
theorem cond9_F {P f : Nat} {p : Int32} {u : q_W} (h : FC P f p u) (N : Nat) (hN : 0 < N) (x1 x2 x3 x4 : Int32) : ∃ u', q_it N fX5_readCondition_h9 (fun _ _ _ _ _ => none) x1 x2 x3 x4 u = some ((), u') ∧ FC P f p u' ∧ frP1 P u u' := by
  obtain ⟨N, rfl⟩ : ∃ M, N = M + 1 := ⟨N - 1, by omega⟩
  obtain ⟨u1, e1, a1, b1⟩ := qsum_F h
  obtain ⟨u2, e2, a2, b2⟩ := fail_F a1 1
  rw [q_itS, fX5_readCondition_h9]
  by_cases c : 501 ≤ x4
  · rw [if_pos c]; exact ⟨u, rfl, h, frP1_r P u⟩
  · rw [if_neg c]
    by_cases c2 : x3 = 0
    · rw [if_pos c2]; exact ⟨u, rfl, h, frP1_r P u⟩
    · rw [if_neg c2, e1, q_b_some, a1.2.2.2.2.2.2, relationOf_F, q_b_some, if_pos rfl, e2, q_b_some]
      exact ⟨u2, rfl, a2, frP1_t b1 b2⟩
