/-! do: read alike -/
theorem note_F {P f : Nat} {p : Int32} {u : q_W} (h : FC P f p u) (x y : Int32) : ∃ u', fX5_note x y u = some ((), u') ∧ FC P f p u' ∧ frP1 P u u' := by
  have set : ∃ u', fX5_note_n31 x y u = some ((), u') ∧ FC P f p u' ∧ frP1 P u u' := by
    obtain ⟨h1, h2, h3, h4, h5, h6, h7⟩ := h
    unfold fX5_note_n31
    rw [q_lt_eq, q_lt_eq]
    refine ⟨_, rfl, ⟨h1, h2, ?_, h4, h5, ?_, ?_⟩, frP1_t (frP1_23 P _ 9 _ (by omega) h1) (frP1_23 P _ 10 _ (by omega) h1)⟩
    · rw [sI_k _ _ _ _ _ (by decide), sI_k _ _ _ _ _ (by decide), h3]
    · rw [sI_k _ _ _ _ _ (by decide), sI_k _ _ _ _ _ (by decide), h6]
    · rw [sI_k _ _ _ _ _ (by decide), sI_k _ _ _ _ _ (by decide), h7]
  unfold fX5_note
  repeat (first | exact set | exact ⟨u, rfl, h, frP1_r P u⟩ | split)
theorem n115_F {P f : Nat} {p : Int32} {u : q_W} (h : FC P f p u) (x : Int32) : ∃ u', fX5_readDo_n115 x u = some ((), u') ∧ FC P f p u' ∧ frP1 P u u' := by
  obtain ⟨u1, e1, a1, b1⟩ := add2_F h 22 x
  unfold fX5_readDo_n115
  rw [h.2.1, if_pos (isP_c h.1), e1, q_b_some]
  exact ⟨u1, rfl, a1, b1⟩
theorem n78_F {P s f : Nat} {p : Int32} {pl : List (List Nat)} {pm : Nat → Nat} {u v : q_W} (D : DC P s pl pm u v) (h : FC P f p u) (x y z : Int32) : ∃ u', fX5_readDo_n78 x y z u = some ((), u') ∧ FC P f p u' ∧ frP1 P u u' := by
  obtain ⟨u1, e1, a1, b1⟩ := take_F h 59
  have D1 := DC_fr D b1 (frR1_r s v)
  unfold fX5_readDo_n78
  rw [e1, q_b_some]
  by_cases c : 0 ≤ y
  · obtain ⟨r, e2⟩ := needs_any D1 y
    rw [if_pos c, a1.2.1, if_pos (isP_c a1.1), e2, q_b_some]
    by_cases c2 : z = r
    · obtain ⟨u2, e3, a3, b3⟩ := n115_F a1 y
      rw [if_pos c2]
      exact ⟨u2, e3, a3, frP1_t b1 b3⟩
    · obtain ⟨u2, e3, a3, b3⟩ := note_F a1 5 x
      obtain ⟨u3, e4, a4, b4⟩ := n115_F a3 y
      rw [if_neg c2, e3, q_b_some]
      exact ⟨u3, e4, a4, frP1_t b1 (frP1_t b3 b4)⟩
  · obtain ⟨u2, e3, a3, b3⟩ := note_F a1 4 x
    obtain ⟨u3, e4, a4, b4⟩ := n115_F a3 y
    rw [if_neg c, e3, q_b_some]
    exact ⟨u3, e4, a4, frP1_t b1 (frP1_t b3 b4)⟩
theorem n72_F {P s f : Nat} {p : Int32} {pl : List (List Nat)} {pm : Nat → Nat} {u v : q_W} (D : DC P s pl pm u v) (h : FC P f p u) (x y z : Int32) : ∃ u', fX5_readDo_n72 x y z u = some ((), u') ∧ FC P f p u' ∧ frP1 P u u' := by
  obtain ⟨u1, e1, a1, b1⟩ := take_F h 41
  obtain ⟨u2, e2, a2, b2⟩ := n78_F (DC_fr D b1 (frR1_r s v)) a1 x y z
  unfold fX5_readDo_n72
  rw [e1, q_b_some]
  exact ⟨u2, e2, a2, frP1_t b1 b2⟩
theorem n55_F {s f m : Nat} {p : Int32} {v : q_W} (h : FR s f p m v) (x y : Int32) : fX11_tellDo_n55 x y v = some ((), v) := by
  unfold fX11_tellDo_n55
  rw [must_F h, q_b_some, h.2.2.2.1, if_neg (nI_nle (by have := h.2.1; omega) (by have := h.2.2.1; omega))]
theorem n49_F {s f m : Nat} {p : Int32} {v : q_W} (h : FR s f p m v) (x y : Int32) : fX11_tellDo_n49 x y v = some ((), v) := by
  unfold fX11_tellDo_n49
  rw [must_F h, q_b_some, n55_F h]
def DTK (P T s t na : Nat) (L1 L2 : Nat × Int32) (ws : List Int32) (cs : List Tr) (pl : List (List Nat)) (pm : Nat → Nat) (u v : q_W) (cu rv : Option (Unit × q_W)) : Prop :=
  ∃ u' v' t' p ns, cu = some ((), u') ∧ rv = some ((), v') ∧ PC P t' (adN ns L1) (ws ++ [22, p]) u' ∧ PR s t' (adN ns L2) (cs ++ [(17, p, nI na)]) [] 0 v' ∧ frP1 P u u' ∧ frR1 s v v' ∧ t < t' ∧ t' ≤ T ∧ okNs ns ∧ (ns = [] → ∃ i, i < pl.length ∧ p = nI i ∧ pm i = na)
theorem n160_st {s t : Nat} {L : Nat × Int32} {cs : List Tr} {v : q_W} (h : PR s t L cs [] 0 v) (hl : cs.length < 2000) (p a : Int32) : ∃ v', fX11_tellDo_n160 a p v = some ((), v') ∧ PR s t L (cs ++ [(17, p, a)]) [] 0 v' ∧ frR1 s v v' := by
  obtain ⟨v1, e, x, y⟩ := emit_st h hl ((17, p, a) : Tr)
  have e : fX11_emit 17 p a v = some ((), v1) := e
  unfold fX11_tellDo_n160
  rw [e, q_b_some]
  exact ⟨v1, rfl, x, y⟩
theorem n115_st {P t : Nat} {L : Nat × Int32} {ws : List Int32} {u : q_W} (h : PC P t L ws u) (hl : ws.length + 1 < 2000) (p : Int32) : ∃ u', fX5_readDo_n115 p u = some ((), u') ∧ PC P t L (ws ++ [22, p]) u' ∧ frP1 P u u' := by
  obtain ⟨u1, e, x, y⟩ := add2_st h hl 22 p
  unfold fX5_readDo_n115
  rw [h.2.1, if_pos (isP_c h.1), e, q_b_some]
  exact ⟨u1, rfl, x, y⟩
theorem okNs_one {x : Nat × Int32} (h : 1 ≤ x.1 ∧ x.1 ≤ 5) : okNs [x] := fun y hy => by rw [List.mem_singleton.mp hy]; exact h
theorem do_tail {P T s t na tk : Nat} {L1 L2 : Nat × Int32} {ws : List Int32} {cs : List Tr} {nl pl : List (List Nat)} {sl pm : Nat → Nat} {u v : q_W} (E : EC T s nl sl u v) (D : DC P s pl pm u v) (hC : PC P t L1 ws u) (hR : PR s t L2 cs [] 0 v) (hL : L2.1 ≤ 5) (ht : t ≤ T) (hw : ws.length ≤ 3 * t + 30) (hc : cs.length ≤ 2 * t + 30) (hna : na ≤ 2) {l : List Nat} (hl : okL l) (htk : tk ≤ 500) (hy : v.2.2 6 tk = lN (r2 l)) (hp : v.1 4 tk = u.1 27 tk) : DTK P T s t na L1 L2 ws cs pl pm u v (fX5_readDo_n78 (u.1 27 tk) (ixV (idF pl l pl.length 0)) (nI na) u) (fX11_tellDo_n55 (nI tk) (nI na) v) ∨ XF P s u v (fX5_readDo_n78 (u.1 27 tk) (ixV (idF pl l pl.length 0)) (nI na) u) (fX11_tellDo_n55 (nI tk) (nI na) v) := by
  have hT := E.1.1
  rcases tok_both E hC hR ht (by omega) (r := 4) (Or.inl (by omega)) (by decide) (by decide) with ⟨hlt, _, u1, v1, e1, e2, a1, a2, b1, b2⟩ | ⟨f, p, u1, v1, m, e1, a1, b1, e2, a2, b2⟩
  · have e1 : fX5_take 59 u = some ((), u1) := e1
    have e2 : fX11_must 4 v = some ((), v1) := e2
    have D1 := DC_fr D b1 b2
    obtain ⟨d1, d2, d3, d4, d5, d6, d7, d8⟩ := D1
    have D1 := DC_fr D b1 b2
    have hy1 : v1.2.2 6 tk = lN (r2 l) := by rw [b2.2.2.2]; exact hy
    have hp1 : v1.1 4 tk = u.1 27 tk := by rw [(frR4 b2).2.1, hp]
    have hrv : fX11_tellDo_n55 (nI tk) (nI na) v = doE s tk na pm (idF pl l pl.length 0) v1 := by
      have := do_lok D1 hl htk hna hy1 pl.length q_N none (Nat.le_refl _) (fun i hi => by cases hi) (Nat.lt_of_le_of_lt d4 (Nat.le_of_ble_eq_true rfl))
      rw [orO_none] at this
      unfold fX11_tellDo_n55 fX11_tellDo_l83
      rw [e2, q_b_some, a2.2.2.1, if_pos (show (0 : Int32) ≤ 0 by decide), d7, q_lt_eq, if_pos (q_inb_nI d2 (by omega)), q_ix_nI (by omega), d6, q_lt_eq]
      exact this
    unfold fX5_readDo_n78
    rw [hrv, e1, q_b_some]
    cases ho : idF pl l pl.length 0 with
    | none =>
      obtain ⟨u2, e3, a3, b3⟩ := note_st a1 (4, u.1 27 tk) (by show 1 ≤ 4 ∧ 4 ≤ 5; omega)
      have e3 : fX5_note 4 (u.1 27 tk) u1 = some ((), u2) := e3
      obtain ⟨u3, e4, a4, b4⟩ := n115_st a3 (by omega) (-1)
      obtain ⟨v2, e5, a5, b5⟩ := wrong_st a2 hL htk 4 (by omega)
      have e5 : fX11_wrong 4 (nI tk) v1 = some ((), v2) := e5
      obtain ⟨v3, e6, a6, b6⟩ := n160_st a5 (by omega) (-1) (nI na)
      rw [if_neg (show ¬ 0 ≤ ixV none by decide), e3, q_b_some]
      show DTK P T s t na L1 L2 ws cs pl pm u v (fX5_readDo_n115 (-1) u2) (q_b (fX11_wrong 4 (nI tk) v1) fun _ w => fX11_tellDo_n160 (nI na) (-1) w) ∨ _
      rw [e5, q_b_some, e4, e6]
      rw [hp1] at a6
      exact Or.inl ⟨u3, v3, t + 1, -1, [(4, u.1 27 tk)], rfl, rfl, a4, a6, frP1_t b1 (frP1_t b3 b4), frR1_t b2 (frR1_t b5 b6), by omega, by omega, okNs_one (by show 1 ≤ 4 ∧ 4 ≤ 5; omega), fun c => absurd c (by simp)⟩
    | some i =>
      obtain ⟨_, hi, _⟩ := idF_some _ _ _ ho
      have hi : i < pl.length := by omega
      have hpm := (d8 i hi).2.2.2.2.2
      rw [if_pos (show 0 ≤ ixV (some i) from nI_pos' (by omega)), a1.2.1, if_pos (isP_c a1.1)]
      show DTK P T s t na L1 L2 ws cs pl pm u v (q_b (fX4_needs P (nI i) u1) _) (if pm i = na then fX11_tellDo_n160 (nI na) (nI i) v1 else q_b (fX11_wrong 5 (nI tk) v1) fun _ w => fX11_tellDo_n160 (nI na) (nI i) w) ∨ XF P s u v (q_b (fX4_needs P (nI i) u1) _) (if pm i = na then fX11_tellDo_n160 (nI na) (nI i) v1 else q_b (fX11_wrong 5 (nI tk) v1) fun _ w => fX11_tellDo_n160 (nI na) (nI i) w)
      rw [needs_ok D1 hi, q_b_some]
      by_cases c : pm i = na
      · obtain ⟨u3, e4, a4, b4⟩ := n115_st a1 (by omega) (nI i)
        obtain ⟨v3, e6, a6, b6⟩ := n160_st a2 (by omega) (nI i) (nI na)
        rw [if_pos c, if_pos (show nI na = nI (pm i) by rw [c])]
        show DTK P T s t na L1 L2 ws cs pl pm u v (fX5_readDo_n115 (nI i) u1) _ ∨ _
        rw [e4, e6]
        exact Or.inl ⟨u3, v3, t + 1, nI i, [], rfl, rfl, a4, a6, frP1_t b1 b4, frR1_t b2 b6, by omega, by omega, okNs_nil, fun _ => ⟨i, hi, rfl, c⟩⟩
      · obtain ⟨u2, e3, a3, b3⟩ := note_st a1 (5, u.1 27 tk) (by show 1 ≤ 5 ∧ 5 ≤ 5; omega)
        have e3 : fX5_note 5 (u.1 27 tk) u1 = some ((), u2) := e3
        obtain ⟨u3, e4, a4, b4⟩ := n115_st a3 (by omega) (nI i)
        obtain ⟨v2, e5, a5, b5⟩ := wrong_st a2 hL htk 5 (by omega)
        have e5 : fX11_wrong 5 (nI tk) v1 = some ((), v2) := e5
        obtain ⟨v3, e6, a6, b6⟩ := n160_st a5 (by omega) (nI i) (nI na)
        rw [if_neg c, if_neg (nI_ne (by omega) (by omega) (fun e => c e.symm)), e3, q_b_some, e5, q_b_some]
        show DTK P T s t na L1 L2 ws cs pl pm u v (fX5_readDo_n115 (nI i) u2) _ ∨ _
        rw [e4, e6]
        rw [hp1] at a6
        exact Or.inl ⟨u3, v3, t + 1, nI i, [(5, u.1 27 tk)], rfl, rfl, a4, a6, frP1_t b1 (frP1_t b3 b4), frR1_t b2 (frR1_t b5 b6), by omega, by omega, okNs_one (by show 1 ≤ 5 ∧ 5 ≤ 5; omega), fun c => absurd c (by simp)⟩
  · obtain ⟨u2, e3, a3, b3⟩ : ∃ u', fX5_readDo_n78 (u.1 27 tk) (ixV (idF pl l pl.length 0)) (nI na) u = some ((), u') ∧ FC P f p u' ∧ frP1 P u u' := by
      have e1 : fX5_take 59 u = some ((), u1) := e1
      have D1 := DC_fr D b1 b2
      unfold fX5_readDo_n78
      rw [e1, q_b_some]
      generalize ixV (idF pl l pl.length 0) = y
      by_cases c : 0 ≤ y
      · obtain ⟨r, e2⟩ := needs_any D1 y
        rw [if_pos c, a1.2.1, if_pos (isP_c a1.1), e2, q_b_some]
        by_cases c2 : nI na = r
        · obtain ⟨u2, e3, a3, b3⟩ := n115_F a1 y
          rw [if_pos c2]
          exact ⟨u2, e3, a3, frP1_t b1 b3⟩
        · obtain ⟨u2, e3, a3, b3⟩ := note_F a1 5 (u.1 27 tk)
          obtain ⟨u3, e4, a4, b4⟩ := n115_F a3 y
          rw [if_neg c2, e3, q_b_some]
          exact ⟨u3, e4, a4, frP1_t b1 (frP1_t b3 b4)⟩
      · obtain ⟨u2, e3, a3, b3⟩ := note_F a1 4 (u.1 27 tk)
        obtain ⟨u3, e4, a4, b4⟩ := n115_F a3 y
        rw [if_neg c, e3, q_b_some]
        exact ⟨u3, e4, a4, frP1_t b1 (frP1_t b3 b4)⟩
    have e2 : fX11_must 4 v = some ((), v1) := e2
    have e4 : fX11_tellDo_n55 (nI tk) (nI na) v = some ((), v1) := by
      unfold fX11_tellDo_n55
      rw [e2, q_b_some, a2.2.2.2.1, if_neg (nI_nle (by have := a2.2.1; omega) (by have := a2.2.2.1; omega))]
    exact Or.inr ⟨f, p, u2, v1, m, e3, a3, b3, e4, a2, b2⟩
