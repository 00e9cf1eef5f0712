/-! conditions: faults of the reference -/
def frD (s : Nat) (v v' : q_W) : Prop := (∀ q, q ≠ 0 → q ≠ 12 → q ≠ 13 → q ≠ 14 → q ≠ 16 → q ≠ 17 → q ≠ 20 → v'.1 q = v.1 q) ∧ (∀ k, ¬ (11 ≤ k ∧ k ≤ 16) → k ≠ 24 → k ≠ 30 → k ≠ 38 → k ≠ 35 → k ≠ 36 → v'.1 0 k = v.1 0 k) ∧ (∀ i, ¬ (2000 * s ≤ i ∧ i < 2000 * s + 2000) → v'.1 12 i = v.1 12 i ∧ v'.1 13 i = v.1 13 i ∧ v'.1 14 i = v.1 14 i) ∧ v'.2 = v.2
theorem frD_t {s : Nat} {a b c : q_W} (h : frD s a b) (h' : frD s b c) : frD s a c := ⟨fun q x y z p r t o => (h'.1 q x y z p r t o).trans (h.1 q x y z p r t o), fun k x y z p q o => (h'.2.1 k x y z p q o).trans (h.2.1 k x y z p q o), fun i hi => ⟨(h'.2.2.1 i hi).1.trans (h.2.2.1 i hi).1, (h'.2.2.1 i hi).2.1.trans (h.2.2.1 i hi).2.1, (h'.2.2.1 i hi).2.2.trans (h.2.2.1 i hi).2.2⟩, h'.2.2.2.trans h.2.2.2⟩
theorem frD_C {s : Nat} {v v' : q_W} (h : frC s v v') : frD s v v' := ⟨fun q a b c d _ _ e => h.1 q a b c d e, fun k a b _ c d e => h.2.1 k a b c d e, h.2.2.1, h.2.2.2⟩
theorem frD_0 (s : Nat) (v : q_W) (k : Nat) (x : Int32) (h : k = 30 ∨ k = 35 ∨ k = 36) : frD s v (q_sI v 0 k x) := ⟨fun q h0 _ _ _ _ _ _ => sI_cell _ _ _ _ _ h0, fun k' _ _ _ _ _ _ => sI_k _ _ _ _ _ (by omega), fun i _ => ⟨by rw [sI_cell _ _ _ _ _ (by decide)], by rw [sI_cell _ _ _ _ _ (by decide)], by rw [sI_cell _ _ _ _ _ (by decide)]⟩, rfl⟩
theorem frD_q (s : Nat) (v : q_W) (q k : Nat) (x : Int32) (h : q = 16 ∨ q = 17) : frD s v (q_sI v q k x) := ⟨fun q' _ _ _ _ a b _ => sI_cell _ _ _ _ _ (by omega), fun k' _ _ _ _ _ _ => by rw [sI_cell _ _ _ _ 0 (by omega)], fun i _ => ⟨by rw [sI_cell _ _ _ _ 12 (by omega)], by rw [sI_cell _ _ _ _ 13 (by omega)], by rw [sI_cell _ _ _ _ 14 (by omega)]⟩, rfl⟩
theorem FR_0 {s f m : Nat} {p : Int32} {v : q_W} (h : FR s f p m v) (k : Nat) (x : Int32) (hk : k = 30 ∨ k = 35 ∨ k = 36) : FR s f p m (q_sI v 0 k x) := by
  unfold FR at *
  rw [sI_k _ _ _ _ 13 (by omega), sI_k _ _ _ _ 14 (by omega), sI_k _ _ _ _ 24 (by omega), sI_k _ _ _ _ 38 (by omega), sI_k _ _ _ _ 11 (by omega)]
  exact h
theorem n137_F {s f m b : Nat} {p : Int32} {c6 : List Nat} {v : q_W} (h : FR s f p m v) (hc : CHW s c6 v) (h6 : v.1 0 36 = hdC s c6) (hl : c6.length ≤ 2000) (hb : v.1 0 30 = nI b) (hb8 : b < 8) : ∃ v', fX11_tellIf_n137 v = some ((), v') ∧ FR s f p m v' ∧ frD s v v' := by
  obtain ⟨v1, e1, a1, b1, c1, d1⟩ := landsF_lok c6 q_N v (Nat.lt_of_le_of_lt hl (Nat.le_of_ble_eq_true rfl)) hc h
  have hfr : frD s v v1 := ⟨fun q _ _ h13 _ _ _ _ => b1 q h13, fun k _ _ _ _ _ _ => by rw [b1 0 (by decide)], fun i hi => ⟨by rw [b1 12 (by decide)], d1 i hi, by rw [b1 14 (by decide)]⟩, c1⟩
  have h30 : v1.1 0 30 = nI b := by rw [b1 0 (by decide), hb]
  unfold fX11_tellIf_n137 fX11_lands fX11_lands_l2
  rw [h6, e1, q_b_some, h30, q_lt_eq, if_pos (q_inb_nI hb8 (by omega)), q_lt_eq, q_lt_eq, sI_cell _ _ _ _ 0 (by decide), h30, if_pos (q_inb_nI hb8 (by omega)), q_lt_eq, q_lt_eq]
  exact ⟨_, rfl, FR_0 (FR_13 (FR_13 a1 16 _ _ (by decide)) 17 _ _ (by decide)) 30 _ (by omega), frD_t hfr (frD_t (frD_q s _ 16 _ _ (by omega)) (frD_t (frD_q s _ 17 _ _ (by omega)) (frD_0 s _ 30 _ (by omega))))⟩
/-- a token that is there, at the end of the room: what the reference keeps -/
theorem next_room14 {s op : Nat} {L : Nat × Int32} {cs : List Tr} {W : List Nat} {v v' : q_W} (h : PR s 500 L cs W op v) (e : fX11_next v = some ((), v')) : v'.1 14 = v.1 14 := by
  unfold fX11_next fX11_fail at e
  rw [h.2.1, if_pos (show nI 500 = 500 from rfl), h.2.2.1, if_pos (by decide), q_lt_eq, q_lt_eq, sI_k _ _ _ _ 11 (by decide), h.2.1, if_pos (q_inb_nI (by omega) (by omega)), q_lt_eq, q_b_some] at e
  have := (Prod.mk.inj (Option.some.inj e)).2
  rw [← this, sI_cell _ _ _ _ 14 (by decide), sI_cell _ _ _ _ 14 (by decide)]
/-- the loop's outcome of a fault -/
def XG (P s : Nat) (u v : q_W) (cu rv : Option (Unit × q_W)) : Prop := ∃ f p u' v' m, cu = some ((), u') ∧ FC P f p u' ∧ frP1 P u u' ∧ rv = some ((), v') ∧ FR s f p m v' ∧ frD s v v'
/-- a connective that is there: both go on, or both fail and end -/
theorem conn_both {P T s t r b : Nat} {nl : List (List Nat)} {sl : Nat → Nat} {L1 L2 : Nat × Int32} {ws : List Int32} {cs : List Tr} {c5 c6 : List Nat} {u v : q_W} (E : EC T s nl sl u v) (hC : PC P t L1 ws u) (hB : PB s t L2 cs c5 c6 v) (ht : t ≤ T) (hc : cs.length ≤ 1400) (h3 : v.1 3 t = nI r) (hr : r = 31 ∨ r = 32) (hb : v.1 0 30 = nI b) (hb8 : b < 8) (N M : Nat) (hN : 0 < N) (hM : 0 < M) (wd : Int32) (x1 : Int32 → Int32) (x2 : Int32 → Int32) (x4 : Int32) : (t < T ∧ ∃ u' v', fX5_take (km r) u = some ((), u') ∧ fX11_next v = some ((), v') ∧ PC P (t + 1) L1 ws u' ∧ PB s (t + 1) L2 cs c5 c6 v' ∧ frP1 P u u' ∧ frR1 s v v') ∨ XG P s u v (q_b (fX5_take (km r) u) fun _ w2 => if cC (w2.2.1 23 11) = 4 then q_b (fX4_add_ (w2.2.1 23 11) wd 0 w2) fun _ w5 => if cC (w5.2.1 23 11) = 4 then q_b (fX4_here (w5.2.1 23 11) w5) fun r7 w8 => q_lt (r7 - 1) fun y9 => fX5_readCondition_n170 (q_it N fX5_readCondition_h9 (fun _ _ _ _ _ => none)) (x1 y9) (x2 y9) 1 x4 w8 else none else none) (q_b (fX11_next v) fun _ w2 => q_it M fX11_tellIf_h12 (fun _ _ => none) 1 w2) := by
  have hT := E.1.1
  obtain ⟨hR, k5, k6, n5, n6, l5, l6⟩ := hB
  rcases step_both E hC hR ht hc h3 (Or.inr (Or.inl (by omega))) (by omega) (by omega) with ⟨hlt, u1, v1, e1, e2, a1, a2, b1, b2⟩ | ⟨f, p, u1, v1, m, e1, a1, b1, e2, a2, b2⟩
  · exact Or.inl ⟨hlt, u1, v1, e1, e2, a1, ⟨a2, by rw [b2.2.1 35 (by omega) (by omega) (by omega), k5], by rw [b2.2.1 36 (by omega) (by omega) (by omega), k6], n5, n6, l5, l6⟩, b1, b2⟩
  · have ht5 : t = 500 := by
      by_cases c : t = 500
      · exact c
      · obtain ⟨v9, e9, a9, _⟩ := next_st hR (by omega)
        rw [e9] at e2
        have := (Prod.mk.inj (Option.some.inj e2)).2
        subst this
        have h0 := a9.2.2.1
        rw [a2.2.2.2.1] at h0
        exact absurd h0 (nI_ne0 (by have := a2.2.1; omega) (by have := a2.2.2.1; omega))
    subst ht5
    have h14 := next_room14 hR e2
    obtain ⟨M, rfl⟩ : ∃ X, M = X + 1 := ⟨M - 1, by omega⟩
    obtain ⟨v2, e3, a3, b3⟩ := n137_F a2 (CHW_eq h14 c6 (CHW_of hR.1 hR.2.2.2.2.2.1 (by omega) c6 n6)) (by rw [b2.2.1 36 (by omega) (by omega) (by omega), k6]) (by omega) (by rw [b2.2.1 30 (by omega) (by omega) (by omega), hb]) hb8
    obtain ⟨u2, e4, a4, b4⟩ := add2_F a1 wd 0
    have hP := a1.1
    have hh : fX4_here P u2 = some (u2.1 P 3, u2) := by
      unfold fX4_here
      rw [if_pos (isP_c hP)]
    obtain ⟨u3, e5, a5, b5⟩ := cond9_F a4 N hN (x1 (u2.1 P 3 - 1)) (x2 (u2.1 P 3 - 1)) 1 (x4 + 1)
    unfold fX5_readCondition_n170
    rw [e1, q_b_some, a1.2.1, if_pos (isP_c hP), e4, q_b_some, a4.2.1, if_pos (isP_c hP), hh, q_b_some, q_lt_eq, q_lt_eq, e5, e2, q_b_some, q_itS, fX11_tellIf_h12, if_neg i_10, a2.2.2.2.1, if_neg (nI_ne0 (by have := a2.2.1; omega) (by have := a2.2.2.1; omega)), e3]
    exact Or.inr ⟨f, p, u3, v2, m, rfl, a5, frP1_t b1 (frP1_t b4 b5), rfl, a3, frD_t (frD_C (frC_1 b2)) b3⟩
