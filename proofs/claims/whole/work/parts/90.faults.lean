/-! faults within deeds: both sides go on to their ends -/
def frE (P : Nat) (u u' : q_W) : Prop := (∀ q, q ≠ 23 → q ≠ P → q ≠ P + 1 → u'.1 q = u.1 q) ∧ (∀ k, ¬ (3 ≤ k ∧ k ≤ 10) → u'.1 23 k = u.1 23 k) ∧ (∀ k, k ≠ 3 → u'.1 P k = u.1 P k) ∧ u'.2.1 = u.2.1 ∧ ∀ q, q ≠ 30 → u'.2.2 q = u.2.2 q
theorem frE_r (P : Nat) (u : q_W) : frE P u u := ⟨fun _ _ _ _ => rfl, fun _ _ => rfl, fun _ _ => rfl, rfl, fun _ _ => rfl⟩
theorem frE_t {P : Nat} {a b c : q_W} (h : frE P a b) (h' : frE P b c) : frE P a c := ⟨fun q x y z => (h'.1 q x y z).trans (h.1 q x y z), fun k x => (h'.2.1 k x).trans (h.2.1 k x), fun k x => (h'.2.2.1 k x).trans (h.2.2.1 k x), h'.2.2.2.1.trans h.2.2.2.1, fun q x => (h'.2.2.2.2 q x).trans (h.2.2.2.2 q x)⟩
theorem frE_1 {P : Nat} {a b : q_W} (h : frP1 P a b) : frE P a b := ⟨h.1, fun k x => h.2.1 k (by omega), h.2.2.1, by rw [h.2.2.2], fun q _ => by rw [h.2.2.2]⟩
theorem frE_23 (P : Nat) (u : q_W) (x : Int32) (hP : isP P) : frE P u (q_sI u 23 3 x) := by
  have hne := isP_ne hP
  exact ⟨fun q h _ _ => sI_cell _ _ _ _ _ h, fun k h => sI_k _ _ _ _ _ (by omega), fun k _ => by rw [sI_cell _ _ _ _ _ hne.1], rfl, fun _ _ => rfl⟩
theorem frE_30 (P : Nat) (u : q_W) (i : Nat) (x : Int64) : frE P u (q_sL u 30 i x) := ⟨fun _ _ _ _ => rfl, fun _ _ => rfl, fun _ _ => rfl, rfl, fun q hq => by
  funext k
  show (if q = 30 ∧ k = i then x else u.2.2 q k) = _
  simp [hq]⟩
def frH (s : Nat) (v v' : q_W) : Prop := (∀ q, q ≠ 0 → q ≠ 12 → q ≠ 13 → q ≠ 14 → q ≠ 16 → q ≠ 17 → q ≠ 18 → q ≠ 19 → q ≠ 20 → v'.1 q = v.1 q) ∧ (∀ k, ¬ (11 ≤ k ∧ k ≤ 16) → k ≠ 24 → k ≠ 28 → k ≠ 30 → k ≠ 35 → k ≠ 36 → k ≠ 38 → v'.1 0 k = v.1 0 k) ∧ (∀ i, ¬ (2000 * s ≤ i ∧ i < 2000 * s + 2000) → v'.1 12 i = v.1 12 i ∧ v'.1 13 i = v.1 13 i ∧ v'.1 14 i = v.1 14 i) ∧ v'.2.1 = v.2.1 ∧ ∀ q, q ≠ 15 → v'.2.2 q = v.2.2 q
theorem frH_r (s : Nat) (v : q_W) : frH s v v := ⟨fun _ _ _ _ _ _ _ _ _ _ => rfl, fun _ _ _ _ _ _ _ _ => rfl, fun _ _ => ⟨rfl, rfl, rfl⟩, rfl, fun _ _ => rfl⟩
theorem frH_t {s : Nat} {a b c : q_W} (h : frH s a b) (h' : frH s b c) : frH s a c := ⟨fun q x1 x2 x3 x4 x5 x6 x7 x8 x9 => (h'.1 q x1 x2 x3 x4 x5 x6 x7 x8 x9).trans (h.1 q x1 x2 x3 x4 x5 x6 x7 x8 x9), fun k x1 x2 x3 x4 x5 x6 x7 => (h'.2.1 k x1 x2 x3 x4 x5 x6 x7).trans (h.2.1 k x1 x2 x3 x4 x5 x6 x7), fun i hi => ⟨(h'.2.2.1 i hi).1.trans (h.2.2.1 i hi).1, (h'.2.2.1 i hi).2.1.trans (h.2.2.1 i hi).2.1, (h'.2.2.1 i hi).2.2.trans (h.2.2.1 i hi).2.2⟩, h'.2.2.2.1.trans h.2.2.2.1, fun q x => (h'.2.2.2.2 q x).trans (h.2.2.2.2 q x)⟩
theorem frH_D {s : Nat} {a b : q_W} (h : frD s a b) : frH s a b := ⟨fun q x1 x2 x3 x4 x5 x6 _ _ x9 => h.1 q x1 x2 x3 x4 x5 x6 x9, fun k x1 x2 _ x4 x5 x6 x7 => h.2.1 k x1 x2 x4 x7 x5 x6, h.2.2.1, by rw [h.2.2.2], fun q _ => by rw [h.2.2.2]⟩
theorem frH_1 {s : Nat} {a b : q_W} (h : frR1 s a b) : frH s a b := frH_D (frD_C (frC_1 h))
theorem frH_0 (s : Nat) (v : q_W) (k : Nat) (x : Int32) (h : k = 28 ∨ k = 30 ∨ k = 35 ∨ k = 36) : frH s v (q_sI v 0 k x) := ⟨fun q h0 _ _ _ _ _ _ _ _ => sI_cell _ _ _ _ _ h0, fun k' _ _ _ _ _ _ _ => sI_k _ _ _ _ _ (by omega), fun i _ => ⟨by rw [sI_cell _ _ _ _ _ (by decide)], by rw [sI_cell _ _ _ _ _ (by decide)], by rw [sI_cell _ _ _ _ _ (by decide)]⟩, rfl, fun _ _ => rfl⟩
theorem frH_q (s : Nat) (v : q_W) (q k : Nat) (x : Int32) (h : 16 ≤ q ∧ q ≤ 19) : frH s v (q_sI v q k x) := ⟨fun q' _ _ _ _ _ _ _ _ _ => sI_cell _ _ _ _ _ (by omega), fun k' _ _ _ _ _ _ _ => by rw [sI_cell _ _ _ _ 0 (by omega)], fun i _ => ⟨by rw [sI_cell _ _ _ _ 12 (by omega)], by rw [sI_cell _ _ _ _ 13 (by omega)], by rw [sI_cell _ _ _ _ 14 (by omega)]⟩, rfl, fun _ _ => rfl⟩
/-- a fault in a deed: both -/
def XB (P s : Nat) (u v : q_W) (cu rv : Option (Unit × q_W)) : Prop := ∃ f p u' v' m, cu = some ((), u') ∧ FC P f p u' ∧ frE P u u' ∧ rv = some ((), v') ∧ FR s f p m v' ∧ frH s v v'
theorem XB_F {P s : Nat} {u v : q_W} {cu rv : Option (Unit × q_W)} (h : XF P s u v cu rv) : XB P s u v cu rv := by
  obtain ⟨f, p, u', v', m, a, b, c, d, e, g⟩ := h
  exact ⟨f, p, u', v', m, a, b, frE_1 c, d, e, frH_1 g⟩
theorem XB_G {P s : Nat} {u v : q_W} {cu rv : Option (Unit × q_W)} (h : XG P s u v cu rv) : XB P s u v cu rv := by
  obtain ⟨f, p, u', v', m, a, b, c, d, e, g⟩ := h
  exact ⟨f, p, u', v', m, a, b, frE_1 c, d, e, frH_D g⟩
theorem XB_t {P s : Nat} {u v u1 v1 : q_W} {cu rv : Option (Unit × q_W)} (b1 : frE P u u1) (b2 : frH s v v1) (h : XB P s u1 v1 cu rv) : XB P s u v cu rv := by
  obtain ⟨f, p, u', v', m, a, b, c, d, e, g⟩ := h
  exact ⟨f, p, u', v', m, a, b, frE_t b1 c, d, e, frH_t b2 g⟩
-- the class
theorem says_any (x : Int32) (u : q_W) : ∃ r, fX7_saysAt x u = some (r, u) := by
  unfold fX7_saysAt
  by_cases c1 : x < 0
  · rw [if_pos c1]; exact ⟨_, rfl⟩
  · rw [if_neg c1]
    by_cases c2 : 501 ≤ x
    · rw [if_pos c2]; exact ⟨_, rfl⟩
    · obtain ⟨m, hm, rfl⟩ := nI_of c1
      rw [show (501 : Int32) = nI 501 from rfl, nI_leI (by omega) hm] at c2
      rw [if_neg (by rw [show (501 : Int32) = nI 501 from rfl, nI_leI (by omega) hm]; exact c2), if_pos (q_inb_nI (by omega) (by omega))]
      exact ⟨_, rfl⟩
theorem reach_any {n : Nat} {u : q_W} (hn : n ≤ 8) (h3 : u.1 23 3 = nI n) (x : Int64) : ∃ r, fX5_reachOf x u = some (r, u) := by
  unfold fX5_reachOf fX5_reachOf_l2
  have go : ∀ d N k, k + d = n → d < N → ∃ r, q_it N fX5_reachOf_h2 (fun _ _ _ => none) x (nI k) u = some (r, u) := by
    intro d
    induction d with
    | zero =>
      intro N k hk hN
      obtain ⟨N, rfl⟩ : ∃ M, N = M + 1 := ⟨N - 1, by omega⟩
      rw [q_itS, fX5_reachOf_h2, h3, if_pos (by rw [nI_leI (by omega) (by omega)]; omega)]
      exact ⟨_, rfl⟩
    | succ d ih =>
      intro N k hk hN
      obtain ⟨N, rfl⟩ : ∃ M, N = M + 1 := ⟨N - 1, by omega⟩
      obtain ⟨r, e⟩ := ih N (k + 1) (by omega) (by omega)
      rw [q_itS, fX5_reachOf_h2, h3, if_neg (by rw [nI_leI (by omega) (by omega)]; omega), if_neg (by rw [show (8 : Int32) = nI 8 from rfl, nI_leI (by omega) (by omega)]; omega), if_pos (q_inb_nI (by omega) (by omega)), q_lt_eq, nI_1, e]
      by_cases c : lg_cmp (u.2.2 30 (q_ix (nI k))) x = 0
      · rw [if_pos c]; exact ⟨_, rfl⟩
      · rw [if_neg c]; exact ⟨_, rfl⟩
  exact go n q_N 0 (by omega) (Nat.lt_of_le_of_lt hn (Nat.le_of_ble_eq_true rfl))
theorem reach_anyF (u : q_W) (x : Int64) : ∃ r, fX5_reachOf x u = some (r, u) := by
  unfold fX5_reachOf fX5_reachOf_l2
  have go : ∀ d N k, k + d = 8 → d < N → ∃ r, q_it N fX5_reachOf_h2 (fun _ _ _ => none) x (nI k) u = some (r, u) := by
    intro d
    induction d with
    | zero =>
      intro N k hk hN
      obtain ⟨N, rfl⟩ : ∃ M, N = M + 1 := ⟨N - 1, by omega⟩
      rw [q_itS, fX5_reachOf_h2]
      by_cases c : u.1 23 3 ≤ nI k
      · rw [if_pos c]; exact ⟨_, rfl⟩
      · rw [if_neg c, if_pos (by rw [show (8 : Int32) = nI 8 from rfl, nI_leI (by omega) (by omega)]; omega)]
        exact ⟨_, rfl⟩
    | succ d ih =>
      intro N k hk hN
      obtain ⟨N, rfl⟩ : ∃ M, N = M + 1 := ⟨N - 1, by omega⟩
      obtain ⟨r, e⟩ := ih N (k + 1) (by omega) (by omega)
      rw [q_itS, fX5_reachOf_h2, if_neg (show ¬ (8 : Int32) ≤ nI k by rw [show (8 : Int32) = nI 8 from rfl, nI_leI (by omega) (by omega)]; omega), if_pos (q_inb_nI (by omega) (by omega)), q_lt_eq, nI_1, e]
      by_cases c0 : u.1 23 3 ≤ nI k
      · rw [if_pos c0]; exact ⟨_, rfl⟩
      · rw [if_neg c0]
        by_cases c : lg_cmp (u.2.2 30 (q_ix (nI k))) x = 0
        · rw [if_pos c]; exact ⟨_, rfl⟩
        · rw [if_neg c]; exact ⟨_, rfl⟩
  exact go 8 q_N 0 (by omega) (Nat.le_of_ble_eq_true rfl)
theorem noteIf_F {P f : Nat} {p : Int32} {u : q_W} (h : FC P f p u) (x : Int64) : ∃ u', fX5_noteIfReached x u = some ((), u') ∧ FC P f p u' ∧ frP1 P u u' := by
  obtain ⟨r, e⟩ := reach_anyF u x
  unfold fX5_noteIfReached
  rw [e, q_b_some]
  by_cases c : r < 0
  · rw [if_pos c]; exact ⟨u, rfl, h, frP1_r P u⟩
  · obtain ⟨u1, e1, a1, b1⟩ := note_F h 3 (u.1 23 6)
    rw [if_neg c, e1, q_b_some]; exact ⟨u1, rfl, a1, b1⟩
theorem noteIf_any {P t : Nat} {L : Nat × Int32} {ws : List Int32} {u : q_W} (h : PC P t L ws u) (x : Int64) : ∃ u' L', fX5_noteIfReached x u = some ((), u') ∧ PC P t L' ws u' ∧ frP1 P u u' := by
  obtain ⟨r, e⟩ := reach_anyF u x
  unfold fX5_noteIfReached
  rw [e, q_b_some]
  by_cases c : r < 0
  · rw [if_pos c]; exact ⟨u, L, rfl, h, frP1_r P u⟩
  · obtain ⟨u1, e1, a1, b1⟩ := note_st h (3, u.1 23 6) (by show 1 ≤ 3 ∧ 3 ≤ 5; omega)
    have e1 : fX5_note 3 (u.1 23 6) u = some ((), u1) := e1
    rw [if_neg c, e1, q_b_some]; exact ⟨u1, _, rfl, a1, b1⟩
theorem bring_F {P f : Nat} {p : Int32} {u : q_W} (h : FC P f p u) (x : Int64) : ∃ u', fX5_bringInReach x u = some ((), u') ∧ FC P f p u' ∧ frE P u u' := by
  have n29 : ∀ w : q_W, FC P f p w → ∃ u', fX5_bringInReach_n29 w = some ((), u') ∧ FC P f p u' ∧ frE P w u' := by
    intro w hw
    obtain ⟨h1, h2, h3, h4, h5, h6, h7⟩ := hw
    unfold fX5_bringInReach_n29
    rw [q_lt_eq]
    exact ⟨_, rfl, ⟨h1, h2, by rw [sI_k _ _ _ _ _ (by decide), h3], h4, h5, by rw [sI_k _ _ _ _ _ (by decide), h6], by rw [sI_k _ _ _ _ _ (by decide), h7]⟩, frE_23 P w _ h1⟩
  unfold fX5_bringInReach
  by_cases c1 : u.1 23 3 < 0
  · rw [if_pos c1]; exact n29 u h
  · rw [if_neg c1]
    by_cases c2 : 8 ≤ u.1 23 3
    · rw [if_pos c2]; exact n29 u h
    · obtain ⟨m, hm, em⟩ := nI_of c1
      rw [em, show (8 : Int32) = nI 8 from rfl, nI_leI (by omega) hm] at c2
      rw [if_neg (show ¬ (8 : Int32) ≤ u.1 23 3 by rw [em, show (8 : Int32) = nI 8 from rfl, nI_leI (by omega) hm]; exact c2), q_lt_eq, em, if_pos (q_inb_nI (by omega) (by omega)), q_lt_eq, q_ix_nI (by omega)]
      obtain ⟨u', e, a, b⟩ := n29 (q_sL u 30 m x) h
      exact ⟨u', e, a, frE_t (frE_30 P u m x) b⟩
theorem add3_F {P f : Nat} {p : Int32} {u : q_W} (h : FC P f p u) (x y z : Int32) : ∃ u', fX4_add__ P x y z u = some ((), u') ∧ FC P f p u' ∧ frP1 P u u' := by
  obtain ⟨u1, e1, a1, b1⟩ := add2_F h x y
  obtain ⟨u2, e2, a2, b2⟩ := add_F a1 z
  unfold fX4_add__
  rw [if_pos (isP_c h.1), e1, q_b_some, e2, q_b_some]
  exact ⟨u2, rfl, a2, frP1_t b1 b2⟩
theorem add3_st {P t : Nat} {L : Nat × Int32} {ws : List Int32} {u : q_W} (h : PC P t L ws u) (hl : ws.length + 2 < 2000) (x y z : Int32) : ∃ u', fX4_add__ P x y z u = some ((), u') ∧ PC P t L (ws ++ [x, y, z]) u' ∧ frP1 P u u' := by
  obtain ⟨u1, e1, a1, b1⟩ := add2_st h (by omega) x y
  obtain ⟨u2, e2, a2, b2⟩ := add_st a1 (by rw [List.length_append]; exact hl) z
  unfold fX4_add__
  rw [if_pos (isP_c h.1), e1, q_b_some, e2, q_b_some]
  rw [List.append_assoc] at a2
  exact ⟨u2, rfl, a2, frP1_t b1 b2⟩
theorem here_any {P : Nat} (hP : isP P) (u : q_W) : fX4_here P u = some (u.1 P 3, u) := by
  unfold fX4_here
  rw [if_pos (isP_c hP)]
theorem starts_F (u : q_W) : fX5_startsDeed (-1) u = some (0, u) := by
  unfold fX5_startsDeed fX5_startsDeed_n15 fX5_startsDeed_n16
  rw [if_pos (show (-1 : Int32) < 5 by decide), if_pos rfl, if_neg (by decide), if_neg (by decide), if_neg (by decide)]
theorem deeds_F {P f : Nat} {p : Int32} {u : q_W} (h : FC P f p u) (n : Nat) (x : Int32) : q_deeds (n + 1) x u = some ((), u) := by
  show fX5_readDeeds _ x u = _
  unfold fX5_readDeeds fX5_readDeeds_l2
  rw [q_itN, fX5_readDeeds_h2, if_neg (show ¬ (501 : Int32) ≤ 0 by decide), h.2.2.2.2.2.2, starts_F, q_b_some, if_pos rfl]
def forE (y15 r26 y24 : Int32) (w32 : q_W) : Option (Unit × q_W) :=
  q_b (fX5_take 4 w32) fun _ w34 =>
  if cC (w34.2.1 23 11) = 4 then
  q_b (fX4_add__ (w34.2.1 23 11) 20 y15 r26 w34) fun _ w37 =>
  if cC (w37.2.1 23 11) = 4 then
  q_b (fX4_aimHere (w37.2.1 23 11) y24 w37) fun _ w40 =>
  q_lt (q_sI w40 23 3 y15) fun w41 =>
  some ((), w41)
  else none
  else none
def forD (rB : Int32 → q_W → Option (Unit × q_W)) (a1 a2 : Int32) (r1 : Int64) (w14 : q_W) : Option (Unit × q_W) :=
  q_lt (w14.1 23 3) fun y15 =>
  q_b (fX5_bringInReach r1 w14) fun _ w17 =>
  if cC (w17.2.1 23 11) = 4 then
  q_b (fX4_add__ (w17.2.1 23 11) 18 y15 0 w17) fun _ w20 =>
  if cC (w20.2.1 23 11) = 4 then
  q_b (fX4_here (w20.2.1 23 11) w20) fun r22 w23 =>
  q_lt (r22 - 1) fun y24 =>
  if cC (w23.2.1 23 11) = 4 then
  q_b (fX4_here (w23.2.1 23 11) w23) fun r26 w27 =>
  if cC (w27.2.1 23 11) = 4 then
  q_b (fX4_add_ (w27.2.1 23 11) 19 a1 w27) fun _ w30 =>
  q_b (rB (a2 + 1) w30) fun _ w32 => forE y15 r26 y24 w32
  else none
  else none
  else none
  else none
def forC (rB : Int32 → q_W → Option (Unit × q_W)) (a1 a2 : Int32) (r1 : Int64) (w10 : q_W) : Option (Unit × q_W) :=
  q_b (fX5_take 10 w10) fun _ w12 => q_b (q_sum 0 w12) fun _ w14 => forD rB a1 a2 r1 w14
def forB (rB : Int32 → q_W → Option (Unit × q_W)) (a1 a2 : Int32) (r1 : Int64) (w6 : q_W) : Option (Unit × q_W) :=
  q_b (fX5_take 61 w6) fun _ w8 => q_b (q_sum 0 w8) fun _ w10 => forC rB a1 a2 r1 w10
theorem for_eq (rB : Int32 → q_W → Option (Unit × q_W)) (a1 a2 : Int32) (w : q_W) : fX5_readFor rB a1 a2 w = q_b (fX7_saysAt (w.1 23 4) w) fun r1 w2 => q_b (fX5_noteIfReached r1 w2) fun _ w4 => q_b (fX5_take 1 w4) fun _ w6 => forB rB a1 a2 r1 w6 := by
  unfold fX5_readFor forB forC forD forE
  rfl
theorem set3_F {P f : Nat} {p : Int32} {u : q_W} (h : FC P f p u) (x : Int32) : FC P f p (q_sI u 23 3 x) := by
  obtain ⟨h1, h2, h3, h4, h5, h6, h7⟩ := h
  exact ⟨h1, h2, by rw [sI_k _ _ _ _ _ (by decide), h3], h4, h5, by rw [sI_k _ _ _ _ _ (by decide), h6], by rw [sI_k _ _ _ _ _ (by decide), h7]⟩
theorem forE_F {P f : Nat} {p : Int32} {u : q_W} (h : FC P f p u) (x y z : Int32) : ∃ u', forE x y z u = some ((), u') ∧ FC P f p u' ∧ frE P u u' := by
  obtain ⟨u1, e1, a1, b1⟩ := take_F h 4
  obtain ⟨u2, e2, a2, b2⟩ := add3_F a1 20 x y
  obtain ⟨u3, e3, a3, b3⟩ := aim_F a2 z
  unfold forE
  rw [e1, q_b_some, a1.2.1, if_pos (isP_c h.1), e2, q_b_some, a2.2.1, if_pos (isP_c h.1), e3, q_b_some, q_lt_eq]
  exact ⟨_, rfl, set3_F a3 x, frE_t (frE_1 (frP1_t b1 (frP1_t b2 b3))) (frE_23 P u3 x h.1)⟩
theorem forD_F {P f : Nat} {p : Int32} {u : q_W} (h : FC P f p u) (n : Nat) (x y : Int32) (z : Int64) : ∃ u', forD (q_deeds (n + 1)) x y z u = some ((), u') ∧ FC P f p u' ∧ frE P u u' := by
  obtain ⟨u1, e1, a1, b1⟩ := bring_F h z
  obtain ⟨u2, e2, a2, b2⟩ := add3_F a1 18 (u.1 23 3) 0
  obtain ⟨u3, e3, a3, b3⟩ := add2_F a2 19 x
  obtain ⟨u4, e4, a4, b4⟩ := forE_F a3 (u.1 23 3) (u2.1 P 3) (u2.1 P 3 - 1)
  unfold forD
  rw [q_lt_eq, e1, q_b_some, a1.2.1, if_pos (isP_c h.1), e2, q_b_some, a2.2.1, if_pos (isP_c h.1), here_any h.1, q_b_some, q_lt_eq, a2.2.1, if_pos (isP_c h.1), here_any h.1, q_b_some, a2.2.1, if_pos (isP_c h.1), e3, q_b_some, deeds_F a3, q_b_some, e4]
  exact ⟨_, rfl, a4, frE_t b1 (frE_t (frE_1 (frP1_t b2 b3)) b4)⟩
theorem forC_F {P f : Nat} {p : Int32} {u : q_W} (h : FC P f p u) (n : Nat) (x y : Int32) (z : Int64) : ∃ u', forC (q_deeds (n + 1)) x y z u = some ((), u') ∧ FC P f p u' ∧ frE P u u' := by
  obtain ⟨u1, e1, a1, b1⟩ := take_F h 10
  obtain ⟨u2, e2, a2, b2⟩ := qsum_F a1
  obtain ⟨u3, e3, a3, b3⟩ := forD_F a2 n x y z
  unfold forC
  rw [e1, q_b_some, e2, q_b_some, e3]
  exact ⟨_, rfl, a3, frE_t (frE_1 (frP1_t b1 b2)) b3⟩
theorem forB_F {P f : Nat} {p : Int32} {u : q_W} (h : FC P f p u) (n : Nat) (x y : Int32) (z : Int64) : ∃ u', forB (q_deeds (n + 1)) x y z u = some ((), u') ∧ FC P f p u' ∧ frE P u u' := by
  obtain ⟨u1, e1, a1, b1⟩ := take_F h 61
  obtain ⟨u2, e2, a2, b2⟩ := qsum_F a1
  obtain ⟨u3, e3, a3, b3⟩ := forC_F a2 n x y z
  unfold forB
  rw [e1, q_b_some, e2, q_b_some, e3]
  exact ⟨_, rfl, a3, frE_t (frE_1 (frP1_t b1 b2)) b3⟩
theorem for_F {P f : Nat} {p : Int32} {u : q_W} (h : FC P f p u) (n : Nat) (x y : Int32) : ∃ u', fX5_readFor (q_deeds (n + 1)) x y u = some ((), u') ∧ FC P f p u' ∧ frE P u u' := by
  obtain ⟨r, e0⟩ := says_any (u.1 23 4) u
  obtain ⟨u1, e1, a1, b1⟩ := noteIf_F h r
  obtain ⟨u2, e2, a2, b2⟩ := take_F a1 1
  obtain ⟨u3, e3, a3, b3⟩ := forB_F a2 n x y r
  rw [for_eq, e0, q_b_some, e1, q_b_some, e2, q_b_some, e3]
  exact ⟨_, rfl, a3, frE_t (frE_1 (frP1_t b1 b2)) b3⟩
def ifB (rB : Int32 → q_W → Option (Unit × q_W)) (a1 y9 : Int32) (w11 : q_W) : Option (Unit × q_W) :=
  if (w11.1 23 5) = 12 then
    q_b (fX5_take 12 w11) fun _ w13 =>
    if cC (w13.2.1 23 11) = 4 then
    q_b (fX4_add_ (w13.2.1 23 11) 17 0 w13) fun _ w16 =>
    if cC (w16.2.1 23 11) = 4 then
    q_b (fX4_here (w16.2.1 23 11) w16) fun r18 w19 =>
    q_lt (r18 - 1) fun y20 =>
    if cC (w19.2.1 23 11) = 4 then
    q_b (fX4_aimHere (w19.2.1 23 11) y9 w19) fun _ w23 =>
    q_b (rB (a1 + 1) w23) fun _ w25 =>
    fX5_readIf_n83 rB y20 w25
    else none
    else none
    else none
  else
    fX5_readIf_n83 rB y9 w11
def ifA (rB : Int32 → q_W → Option (Unit × q_W)) (a1 : Int32) (w2 : q_W) : Option (Unit × q_W) :=
  if cC (w2.2.1 23 11) = 4 then
  q_b (fX4_add_ (w2.2.1 23 11) 16 0 w2) fun _ w5 =>
  if cC (w5.2.1 23 11) = 4 then
  q_b (fX4_here (w5.2.1 23 11) w5) fun r7 w8 =>
  q_lt (r7 - 1) fun y9 =>
  q_b (rB (a1 + 1) w8) fun _ w11 => ifB rB a1 y9 w11
  else none
  else none
theorem if_eq (rB : Int32 → q_W → Option (Unit × q_W)) (a1 : Int32) (w : q_W) : fX5_readIf rB a1 w = q_b (fX5_readCondition w) fun _ w2 => ifA rB a1 w2 := by
  unfold fX5_readIf ifA ifB
  rfl
theorem n83_F {P f : Nat} {p : Int32} {u : q_W} (h : FC P f p u) (rB : Int32 → q_W → Option (Unit × q_W)) (x : Int32) : ∃ u', fX5_readIf_n83 rB x u = some ((), u') ∧ FC P f p u' ∧ frE P u u' := by
  obtain ⟨u1, e1, a1, b1⟩ := take_F h 4
  obtain ⟨u2, e2, a2, b2⟩ := aim_F a1 x
  unfold fX5_readIf_n83
  rw [e1, q_b_some, a1.2.1, if_pos (isP_c h.1), e2, q_b_some]
  exact ⟨_, rfl, a2, frE_1 (frP1_t b1 b2)⟩
theorem ifB_F {P f : Nat} {p : Int32} {u : q_W} (h : FC P f p u) (rB : Int32 → q_W → Option (Unit × q_W)) (x y : Int32) : ∃ u', ifB rB x y u = some ((), u') ∧ FC P f p u' ∧ frE P u u' := by
  unfold ifB
  rw [h.2.2.2.2.2.2, if_neg (by decide)]
  exact n83_F h rB y
theorem ifA_F {P f : Nat} {p : Int32} {u : q_W} (h : FC P f p u) (n : Nat) (x : Int32) : ∃ u', ifA (q_deeds (n + 1)) x u = some ((), u') ∧ FC P f p u' ∧ frE P u u' := by
  obtain ⟨u1, e1, a1, b1⟩ := add2_F h 16 0
  obtain ⟨u2, e2, a2, b2⟩ := ifB_F a1 (q_deeds (n + 1)) x (u1.1 P 3 - 1)
  unfold ifA
  rw [h.2.1, if_pos (isP_c h.1), e1, q_b_some, a1.2.1, if_pos (isP_c h.1), here_any h.1, q_b_some, q_lt_eq, deeds_F a1, q_b_some, e2]
  exact ⟨_, rfl, a2, frE_t (frE_1 b1) b2⟩
theorem if_F {P f : Nat} {p : Int32} {u : q_W} (h : FC P f p u) (n : Nat) (x : Int32) : ∃ u', fX5_readIf (q_deeds (n + 1)) x u = some ((), u') ∧ FC P f p u' ∧ frE P u u' := by
  obtain ⟨u1, e1, a1, b1⟩ := cond9_F h q_N (Nat.le_of_ble_eq_true rfl) (-1) (-1) 1 0
  obtain ⟨u2, e2, a2, b2⟩ := ifA_F a1 n x
  rw [if_eq]
  unfold fX5_readCondition fX5_readCondition_l9
  rw [e1, q_b_some, e2]
  exact ⟨_, rfl, a2, frE_t (frE_1 b1) b2⟩
theorem do_F {P s f : Nat} {p : Int32} {pl : List (List Nat)} {pm : Nat → Nat} {u v : q_W} (D : DC P s pl pm u v) (h : FC P f p u) : ∃ u', fX5_readDo u = some ((), u') ∧ FC P f p u' ∧ frP1 P u u' := by
  obtain ⟨r, e0⟩ := says_any (u.1 23 4) u
  obtain ⟨y, e1⟩ := patternOf_any D r
  obtain ⟨u1, e2, a1, b1⟩ := take_F h 1
  obtain ⟨u2, e3, a2, b2⟩ := n78_F (DC_fr D b1 (frR1_r s v)) a1 (u.1 23 6) y 0
  unfold fX5_readDo
  rw [q_lt_eq, e0, q_b_some, e1, q_b_some, e2, q_b_some, a1.2.2.2.2.2.2, if_neg (by decide), e3]
  exact ⟨_, rfl, a2, frP1_t b1 b2⟩
theorem doR_F {s f m : Nat} {p : Int32} {v : q_W} (h : FR s f p m v) : fX11_tellDo v = some ((), v) := by
  unfold fX11_tellDo
  rw [q_lt_eq, must_F h, q_b_some, is_F h, q_b_some, if_pos rfl, n55_F h]
theorem stroke_F {P s f m k : Nat} {p a : Int32} {u v : q_W} (hk : k ≤ 3) (h : FC P f p u) (h' : FR s f p m v) : ∃ u', fX5_readStroke (nI k) u = some ((), u') ∧ FC P f p u' ∧ frP1 P u u' ∧ ∃ v', fX11_tellStroke (nI k) a v = some ((), v') ∧ FR s f p m v' ∧ frR1 s v v' := by
  have h8 : (8 : Nat) < q_N := Nat.le_of_ble_eq_true rfl
  by_cases hk0 : k = 0
  · subst hk0
    unfold fX5_readStroke fX11_tellStroke fX5_readStroke_n50 fX5_readStroke_l52
    obtain ⟨u1, e1, e2, a1, b1⟩ := args_F (k := 0) (c := 0) (many := mny 0) (ax := 0) (by omega) (by decide) (mny 0) q_N q_N 0 u v (Nat.zero_add _) (Nat.lt_of_le_of_lt (show mny 0 ≤ 8 by decide) h8) (Nat.lt_of_le_of_lt (show mny 0 ≤ 8 by decide) h8) h h'
    rw [if_pos (show nI 0 = 0 from rfl), if_pos (show nI 0 ≤ 0 by decide), show (0 : Int32) = nI 0 from rfl, n48_ok 0 0 v (by omega)]
    exact ⟨u1, e1, a1, b1, v, e2, h', frR1_r s v⟩
  · obtain ⟨m1, m2⟩ := mny_ok (k := k) ⟨by omega, hk⟩
    have hc : ∃ u1, fX5_readStroke (nI k) u = fX5_readStroke_n50 (nI k) 1 u1 ∧ FC P f p u1 ∧ frP1 P u u1 := by
      unfold fX5_readStroke fX5_readStroke_n25 fX5_readStroke_n45
      obtain ⟨u1, e1, a1, b1⟩ := add2_F h 2 0
      obtain ⟨u2, e2, a2, b2⟩ := take_F a1 14
      rw [if_neg (nI_ne0 (by omega) (by omega)), h.2.1, if_pos (isP_c h.1), h.2.2.2.2.2.2, if_neg (by decide), e1, q_b_some, a1.2.2.2.2.2.2, if_neg (by decide), e2, q_b_some]
      exact ⟨u2, rfl, a2, frP1_t b1 b2⟩
    obtain ⟨u1, e1, a1, b1⟩ := hc
    have hr : ∃ v1, fX11_tellStroke (nI k) a v = fX11_tellStroke_n48 (nI k) (nI 0) v1 ∧ FR s f p m v1 ∧ frR1 s v v1 := by
      obtain ⟨v1, e2, a2, b2⟩ := next_F h'
      unfold fX11_tellStroke fX11_tellStroke_n29 fX11_tellStroke_n43
      rw [if_neg (nI_nle (by omega) (by omega)), is_F h', q_b_some, if_pos rfl, is_F h', q_b_some, if_pos rfl, failR_F h', q_b_some, is_F h', q_b_some, if_pos rfl, e2, q_b_some]
      exact ⟨v1, rfl, a2, b2⟩
    obtain ⟨v1, e2, a2, b2⟩ := hr
    obtain ⟨u2, e3, e4, a3, b3⟩ := args_F (k := k) (c := 1) (many := mny k) (ax := 0) hk m1 (mny k) q_N q_N 0 u1 v1 (Nat.zero_add _) (Nat.lt_of_le_of_lt (show mny k ≤ 8 by omega) h8) (Nat.lt_of_le_of_lt (show mny k ≤ 8 by omega) h8) a1 a2
    rw [e1, e2, n48_ok k 0 v1 hk]
    unfold fX5_readStroke_n50 fX5_readStroke_l52
    exact ⟨u2, e3, a3, frP1_t b1 b3, v1, e4, a2, b2⟩
theorem forR_F {s f m : Nat} {p : Int32} {v : q_W} (h : FR s f p m v) (x : Int32) : fX11_tellFor x v = some ((), v) := by
  unfold fX11_tellFor
  rw [q_lt_eq, must_F h, q_b_some, must_F h, q_b_some, expr_F h, q_b_some, must_F h, q_b_some, expr_F h, q_b_some, h.2.2.2.1, if_neg (nI_nle (by have := h.2.1; omega) (by have := h.2.2.1; omega))]
theorem ifR_F {s f m b : Nat} {p : Int32} {v : q_W} (h : FR s f p m v) (hb : v.1 0 30 = nI b) (hb8 : b < 8) : ∃ v', fX11_tellIf v = some ((), v') ∧ FR s f p m v' ∧ frD s v v' := by
  have h1 : FR s f p m (q_sI (q_sI v 0 36 (-1)) 0 35 (-1)) := FR_0 (FR_0 h 36 _ (by omega)) 35 _ (by omega)
  obtain ⟨v', e, a, b'⟩ := n137_F (c6 := []) (b := b) h1 trivial (by rw [sI_k _ _ _ _ _ (by decide), sI_same]; rfl) (by show 0 ≤ 2000; omega) (by rw [sI_k _ _ _ _ _ (by decide), sI_k _ _ _ _ _ (by decide), hb]) hb8
  unfold fX11_tellIf fX11_tellIf_l12
  rw [q_lt_eq, q_lt_eq, q_itN, fX11_tellIf_h12, if_neg i_10, h1.2.2.2.1, if_neg (nI_ne0 (by have := h.2.1; omega) (by have := h.2.2.1; omega)), e]
  exact ⟨v', rfl, a, frD_t (frD_t (frD_0 s v 36 _ (by omega)) (frD_0 s _ 35 _ (by omega))) b'⟩
