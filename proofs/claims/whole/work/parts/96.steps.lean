/-! the reference's steps over deeds -/
theorem td_head {s t r : Nat} {L : Nat × Int32} {cs : List Tr} {v : q_W} (hR : PR s t L cs [] 0 v) (ht : t ≤ 500) (h3 : v.1 3 t = nI r) (hr : rOK r) (n21 : r ≠ 21) (n29 : r ≠ 29) : fX11_tellDeed v = fX11_tellDeed_n66 (nI t) (v.1 4 t) v := by
  have i21 : fX11_is 21 v = some (if r = 21 then 1 else 0, v) := isR hR ht h3 hr 21 (by decide)
  have i29 : fX11_is 29 v = some (if r = 29 then 1 else 0, v) := isR hR ht h3 hr 29 (by decide)
  unfold fX11_tellDeed
  rw [q_lt_eq, q_lt_eq, hR.2.1, if_pos (q_inb_nI (by omega) (by omega)), q_lt_eq, i21, q_b_some, if_neg n21, if_pos rfl, i29, q_b_some, if_neg n29, if_pos rfl, q_ix_nI (by omega)]
theorem td_else0 {s t b : Nat} {L : Nat × Int32} {cs : List Tr} {v : q_W} (hR : PR s t L cs [] 0 v) (ht : t ≤ 500) (h3 : v.1 3 t = nI 29) (hb : v.1 0 30 = nI (b + 1)) (hb8 : b < 8) (h16 : v.1 16 b ≠ 2) : fX11_tellDeed v = fX11_tellDeed_n66 (nI t) (v.1 4 t) v := by
  have hr : rOK 29 := Or.inr (Or.inl (by omega))
  have i21 : fX11_is 21 v = some (0, v) := isR0 hR ht h3 hr 21 (by decide) (by decide)
  have i29 : fX11_is 29 v = some (1, v) := isR1 hR ht h3
  unfold fX11_tellDeed
  rw [q_lt_eq, q_lt_eq, hR.2.1, if_pos (q_inb_nI (by omega) (by omega)), q_lt_eq, i21, q_b_some, if_pos rfl, i29, q_b_some, if_neg i_10, hb, nI_s1, q_lt_eq, if_pos (q_inb_nI hb8 (by omega)), q_ix_nI (show b < 2 ^ 31 by omega), if_neg h16, q_ix_nI (by omega)]
theorem td_else {s t b : Nat} {L : Nat × Int32} {cs : List Tr} {v : q_W} (hR : PR s t L cs [] 0 v) (ht : t ≤ 500) (h3 : v.1 3 t = nI 29) (hb : v.1 0 30 = nI (b + 1)) (hb8 : b < 8) (h16 : v.1 16 b = 2) : fX11_tellDeed v = q_b (fX11_next v) fun _ w10 => q_b (fX11_turnsElse w10) fun _ w12 => some ((), w12) := by
  have hr : rOK 29 := Or.inr (Or.inl (by omega))
  have i21 : fX11_is 21 v = some (0, v) := isR0 hR ht h3 hr 21 (by decide) (by decide)
  have i29 : fX11_is 29 v = some (1, v) := isR1 hR ht h3
  unfold fX11_tellDeed
  rw [q_lt_eq, q_lt_eq, hR.2.1, if_pos (q_inb_nI (by omega) (by omega)), q_lt_eq, i21, q_b_some, if_pos rfl, i29, q_b_some, if_neg i_10, hb, nI_s1, q_lt_eq, if_pos (q_inb_nI hb8 (by omega)), q_ix_nI (show b < 2 ^ 31 by omega), if_pos h16]
theorem td_end {s t : Nat} {L : Nat × Int32} {cs : List Tr} {v : q_W} (hR : PR s t L cs [] 0 v) (ht : t ≤ 500) (h3 : v.1 3 t = nI 21) : fX11_tellDeed v = q_b (fX11_next v) fun _ w14 => q_b (fX11_ends w14) fun _ w16 => some ((), w16) := by
  have i21 : fX11_is 21 v = some (1, v) := isR1 hR ht h3
  unfold fX11_tellDeed
  rw [q_lt_eq, q_lt_eq, hR.2.1, if_pos (q_inb_nI (by omega) (by omega)), q_lt_eq, i21, q_b_some, if_neg i_10]
/-- a deed that begins -/
def isD (r : Nat) : Prop := r = 22 ∨ r = 23 ∨ r = 24 ∨ r = 25 ∨ r = 26 ∨ r = 28 ∨ r = 30
theorem td_deed {s t r d : Nat} {L : Nat × Int32} {cs : List Tr} {v : q_W} (hR : PR s t L cs [] 0 v) (ht : t ≤ 500) (h3 : v.1 3 t = nI r) (hr : rOK r) (hd : isD r) (hb : v.1 0 30 = nI (d + 1)) (hd6 : d ≤ 6) : fX11_tellDeed v = (if (r = 26 ∨ r = 28) ∧ d = 6 then (q_b (fX11_fail 2 v) fun _ w => fX11_tellDeed_n177 (nI t) (v.1 4 t) w) else fX11_tellDeed_n177 (nI t) (v.1 4 t) v) := by
  unfold isD at hd
  rw [td_head hR ht h3 hr (by omega) (by omega)]
  have i26 : fX11_is 26 v = some (if r = 26 then 1 else 0, v) := isR hR ht h3 hr 26 (by decide)
  have i28 : fX11_is 28 v = some (if r = 28 then 1 else 0, v) := isR hR ht h3 hr 28 (by decide)
  have i22 : fX11_is 22 v = some (if r = 22 then 1 else 0, v) := isR hR ht h3 hr 22 (by decide)
  have i23 : fX11_is 23 v = some (if r = 23 then 1 else 0, v) := isR hR ht h3 hr 23 (by decide)
  have i24 : fX11_is 24 v = some (if r = 24 then 1 else 0, v) := isR hR ht h3 hr 24 (by decide)
  have i25 : fX11_is 25 v = some (if r = 25 then 1 else 0, v) := isR hR ht h3 hr 25 (by decide)
  have i30 : fX11_is 30 v = some (if r = 30 then 1 else 0, v) := isR hR ht h3 hr 30 (by decide)
  have n84 : fX11_tellDeed_n84 (nI t) (v.1 4 t) v = (if d = 6 then (q_b (fX11_fail 2 v) fun _ w => fX11_tellDeed_n177 (nI t) (v.1 4 t) w) else fX11_tellDeed_n177 (nI t) (v.1 4 t) v) := by
    unfold fX11_tellDeed_n84 fX11_tellDeed_n89 fX11_tellDeed_n139 fX11_tellDeed_n144
    rw [if_neg i_10, if_neg i_10, if_neg i_10, hb]
    by_cases c : d = 6
    · rw [if_pos (by rw [c]; rfl), if_pos c]
    · rw [if_neg (show ¬ nI (d + 1) = 7 from nI_ne (b := 7) (by omega) (by decide) (by omega)), if_neg c]
  have n139 : fX11_tellDeed_n139 (nI t) (v.1 4 t) 0 v = fX11_tellDeed_n177 (nI t) (v.1 4 t) v := by
    unfold fX11_tellDeed_n139 fX11_tellDeed_n144
    rw [if_neg i_10, if_pos rfl]
  unfold fX11_tellDeed_n66
  rw [i26, q_b_some]
  by_cases c26 : r = 26
  · rw [if_pos c26, if_neg i_10, n84]
    by_cases c : d = 6
    · rw [if_pos c, if_pos ⟨Or.inl c26, c⟩]
    · rw [if_neg c, if_neg (fun x => c x.2)]
  · rw [if_neg c26, if_pos rfl, i28, q_b_some]
    by_cases c28 : r = 28
    · rw [if_pos c28, if_neg i_10, n84]
      by_cases c : d = 6
      · rw [if_pos c, if_pos ⟨Or.inr c28, c⟩]
      · rw [if_neg c, if_neg (fun x => c x.2)]
    · rw [if_neg c28, if_pos rfl, if_neg (show ¬ ((r = 26 ∨ r = 28) ∧ d = 6) by omega)]
      unfold fX11_tellDeed_n89
      rw [if_pos rfl, i22, q_b_some]
      by_cases c22 : r = 22
      · rw [if_pos c22, if_neg i_10, n139]
      · rw [if_neg c22, if_pos rfl, i23, q_b_some]
        by_cases c23 : r = 23
        · rw [if_pos c23, if_neg i_10, n139]
        · rw [if_neg c23, if_pos rfl, i24, q_b_some]
          by_cases c24 : r = 24
          · rw [if_pos c24, if_neg i_10, n139]
          · rw [if_neg c24, if_pos rfl, i25, q_b_some]
            by_cases c25 : r = 25
            · rw [if_pos c25, if_neg i_10, n139]
            · rw [if_neg c25, if_pos rfl, i30, q_b_some, if_pos (show r = 30 by omega), if_neg i_10, n139]
theorem n66_no {s t r : Nat} {L : Nat × Int32} {cs : List Tr} {v : q_W} (hR : PR s t L cs [] 0 v) (ht : t ≤ 500) (h3 : v.1 3 t = nI r) (hr : rOK r) (hd : ¬ isD r) : fX11_tellDeed_n66 (nI t) (v.1 4 t) v = q_b (fX11_fail 1 v) fun _ w => fX11_tellDeed_n177 (nI t) (v.1 4 t) w := by
  unfold isD at hd
  have i26 : fX11_is 26 v = some (0, v) := isR0 hR ht h3 hr 26 (by decide) (by omega)
  have i28 : fX11_is 28 v = some (0, v) := isR0 hR ht h3 hr 28 (by decide) (by omega)
  have i22 : fX11_is 22 v = some (0, v) := isR0 hR ht h3 hr 22 (by decide) (by omega)
  have i23 : fX11_is 23 v = some (0, v) := isR0 hR ht h3 hr 23 (by decide) (by omega)
  have i24 : fX11_is 24 v = some (0, v) := isR0 hR ht h3 hr 24 (by decide) (by omega)
  have i25 : fX11_is 25 v = some (0, v) := isR0 hR ht h3 hr 25 (by decide) (by omega)
  have i30 : fX11_is 30 v = some (0, v) := isR0 hR ht h3 hr 30 (by decide) (by omega)
  unfold fX11_tellDeed_n66 fX11_tellDeed_n89 fX11_tellDeed_n144
  rw [i26, q_b_some, if_pos rfl, i28, q_b_some, if_pos rfl, if_pos rfl, i22, q_b_some, if_pos rfl, i23, q_b_some, if_pos rfl, i24, q_b_some, if_pos rfl, i25, q_b_some, if_pos rfl, i30, q_b_some, if_pos rfl, if_pos rfl]
theorem n177_F {s f m : Nat} {p : Int32} {v : q_W} (h : FR s f p m v) (x y : Int32) : fX11_tellDeed_n177 x y v = some ((), v) := by
  unfold fX11_tellDeed_n177
  rw [h.2.2.2.1, if_neg (nI_nle (by have := h.2.1; omega) (by have := h.2.2.1; omega))]
def LQ (N : Nat) (v : q_W) : Option (Unit × q_W) := q_it N fX11_tellPattern_h199 (fun _ => none) v
theorem LQ_F {s f m N : Nat} {p : Int32} {v : q_W} (h : FR s f p m v) : LQ (N + 1) v = some ((), v) := by
  unfold LQ
  rw [q_itS, fX11_tellPattern_h199, h.2.2.2.1, if_neg (nI_ne0 (by have := h.2.1; omega) (by have := h.2.2.1; omega))]
  unfold fX11_tellPattern_n220
  rw [h.2.2.2.1, if_neg (nI_ne0 (by have := h.2.1; omega) (by have := h.2.2.1; omega))]
theorem LQ_S {s t d N : Nat} {L : Nat × Int32} {cs : List Tr} {v : q_W} (hR : PR s t L cs [] 0 v) (hb : v.1 0 30 = nI (d + 1)) (hd : d ≤ 6) : LQ (N + 1) v = q_b (fX11_tellDeed v) fun _ w => LQ N w := by
  unfold LQ
  rw [q_itS, fX11_tellPattern_h199, hR.2.2.1, if_pos rfl, hb, if_neg (nI_nle (by omega) (by omega))]
/-- what no deed begins with ends the loop in a fault -/
theorem LQ_no {s t d r N : Nat} {L : Nat × Int32} {cs : List Tr} {v : q_W} (hR : PR s t L cs [] 0 v) (ht : t ≤ 500) (h3 : v.1 3 t = nI r) (hr : rOK r) (hd : ¬ isD r) (n21 : r ≠ 21) (hb : v.1 0 30 = nI (d + 1)) (hd6 : d ≤ 6) (n29 : r = 29 → v.1 16 d ≠ 2) (hc : cs.length ≤ 1400) : ∃ v', LQ (N + 2) v = some ((), v') ∧ FR s 1 (v.1 4 t) 40 v' ∧ frR1 s v v' := by
  obtain ⟨v1, e1, a1, b1⟩ := failR_st hR ht 1 (by omega) 40 (by show 0 ≤ 40; omega) (by omega) (by omega)
  have e1 : fX11_fail 1 v = some ((), v1) := e1
  have e0 : fX11_tellDeed v = fX11_tellDeed_n66 (nI t) (v.1 4 t) v := by
    by_cases c : r = 29
    · subst c
      exact td_else0 hR ht h3 hb (by omega) (n29 rfl)
    · exact td_head hR ht h3 hr n21 c
  rw [LQ_S hR hb hd6, e0, n66_no hR ht h3 hr hd, e1, q_b_some, n177_F a1, q_b_some, LQ_F a1]
  exact ⟨v1, rfl, a1, b1⟩
/-- a code in a fault -/
theorem emit_F {s f : Nat} {p : Int32} {m : Nat} {v : q_W} (h : FR s f p (m + 1) v) (h0 : v.1 0 38 = 0) (x y z : Int32) : ∃ v', fX11_emit x y z v = some ((), v') ∧ FR s f p m v' ∧ frR1 s v v' ∧ v'.1 0 38 = 0 ∧ (∀ k, k ≠ 24 → v'.1 0 k = v.1 0 k) := by
  obtain ⟨h1, h2, h3, h4, h5, ⟨c, hc, h6⟩, ⟨n, hn, hm, h7⟩, t, ht, h8⟩ := h
  have ib : q_inb (nI (2000 * s + c)) 4000 := q_inb_nI (by omega) (by omega)
  unfold fX11_emit
  rw [h6, q_lt_eq, if_pos ib, q_lt_eq, q_lt_eq, sI_cell _ _ _ _ 0 (by decide), h6, if_pos ib, q_lt_eq, q_lt_eq, sI_cell _ _ _ _ 0 (by decide), sI_cell _ _ _ _ 0 (by decide), h6, if_pos ib, q_lt_eq, q_lt_eq, sI_cell _ _ _ _ 0 (by decide), sI_cell _ _ _ _ 0 (by decide), sI_cell _ _ _ _ 0 (by decide), h6, nI_1, q_ix_nI (by omega)]
  have k0 : ∀ k, k ≠ 24 → (q_sI (q_sI (q_sI (q_sI v 12 (2000 * s + c) x) 13 (2000 * s + c) y) 14 (2000 * s + c) z) 0 24 (nI (2000 * s + c + 1))).1 0 k = v.1 0 k := fun k hk => by
    rw [sI_k _ _ _ _ _ hk, sI_cell _ _ _ _ _ (by decide), sI_cell _ _ _ _ _ (by decide), sI_cell _ _ _ _ _ (by decide)]
  refine ⟨_, rfl, ⟨h1, h2, h3, by rw [k0 13 (by decide), h4], by rw [k0 14 (by decide), h5], ⟨c + 1, by omega, by rw [sI_same]; rfl⟩, ⟨0, by omega, by omega, by rw [k0 38 (by decide), h0]; rfl⟩, t, ht, by rw [k0 11 (by decide), h8]⟩, ⟨fun q a1 a2 a3 a4 a5 => ?_, fun k a1 a2 a3 => k0 k a2, fun i hi => ?_, rfl⟩, by rw [k0 38 (by decide), h0], k0⟩
  · rw [sI_cell _ _ _ _ _ a1, sI_cell _ _ _ _ _ a4, sI_cell _ _ _ _ _ a3, sI_cell _ _ _ _ _ a2]
  · refine ⟨?_, ?_, ?_⟩
    · rw [sI_cell _ _ _ _ _ (by decide), sI_cell _ _ _ _ _ (by decide), sI_cell _ _ _ _ _ (by decide), sI_k _ _ _ _ _ (by omega)]
    · rw [sI_cell _ _ _ _ _ (by decide), sI_cell _ _ _ _ _ (by decide), sI_k _ _ _ _ _ (by omega), sI_cell _ _ _ _ _ (by decide)]
    · rw [sI_cell _ _ _ _ _ (by decide), sI_k _ _ _ _ _ (by omega), sI_cell _ _ _ _ _ (by decide), sI_cell _ _ _ _ _ (by decide)]
/-- no room for a sign: what is left behind -/
theorem next_room0 {s : Nat} {L : Nat × Int32} {cs : List Tr} {v : q_W} (h : PR s 500 L cs [] 0 v) (hc : cs.length ≤ 1400) : ∃ v', fX11_next v = some ((), v') ∧ FR s 2 (v.1 4 500) 40 v' ∧ frR1 s v v' ∧ v'.1 0 38 = 0 ∧ (∀ q, q ≠ 0 → v'.1 q = v.1 q) ∧ (∀ k, k ≠ 13 → k ≠ 14 → v'.1 0 k = v.1 0 k) := by
  obtain ⟨v1, e1, a1, b1⟩ := next_room h 40 (by show 0 ≤ 40; omega) (by omega) (by omega)
  refine ⟨v1, e1, a1, b1, ?_⟩
  unfold fX11_next fX11_fail at e1
  rw [h.2.1, if_pos (show nI 500 = 500 from rfl), h.2.2.1, if_pos (by decide), q_lt_eq, q_lt_eq, sI_k _ _ _ _ _ (show 11 ≠ 13 by decide), h.2.1, if_pos (q_inb_nI (by omega) (by omega)), q_lt_eq, q_b_some] at e1
  have e2 := (Prod.mk.inj (Option.some.inj e1)).2
  rw [← e2]
  refine ⟨?_, fun q hq => ?_, fun k h1 h2 => ?_⟩
  · rw [sI_k _ _ _ _ _ (by decide), sI_k _ _ _ _ _ (by decide), h.2.2.2.2.2.2.1.1]; rfl
  · rw [sI_cell _ _ _ _ _ hq, sI_cell _ _ _ _ _ hq]
  · rw [sI_k _ _ _ _ _ h2, sI_k _ _ _ _ _ h1]
/-- the end of a block in a fault -/
theorem ends_F {s f b : Nat} {p : Int32} {v : q_W} (h : FR s f p 40 v) (h0 : v.1 0 38 = 0) (hb : v.1 0 30 = nI (b + 1)) (hb8 : b < 8) (hk : (v.1 16 b = 0) ∨ (v.1 16 b = 1 ∧ ∃ i, i < 2000 ∧ v.1 17 b = nI (2000 * s + i)) ∨ ((v.1 16 b = 2 ∨ v.1 16 b = 3) ∧ ∃ c, v.1 17 b = hdC s c ∧ CHW s c v ∧ c.length ≤ 2000)) : ∃ v' m, fX11_ends v = some ((), v') ∧ FR s f p m v' ∧ frH s v v' := by
  have hs := h.1
  have h1 : FR s f p 40 (q_sI v 0 30 (nI b)) := FR_0 h 30 _ (by omega)
  have f1 := frH_0 s v 30 (nI b) (by omega)
  have h00 : (q_sI v 0 30 (nI b)).1 0 38 = 0 := by rw [sI_k _ _ _ _ _ (by decide), h0]
  unfold fX11_ends
  rw [hb, nI_s1, q_lt_eq, sI_same, q_lt_eq, if_pos (q_inb_nI hb8 (by omega)), q_lt_eq, q_lt_eq, if_pos (q_inb_nI hb8 (by omega)), q_lt_eq, q_ix_nI (by omega), sI_cell _ _ _ _ 16 (by decide), sI_cell _ _ _ _ 17 (by decide)]
  rcases hk with hk | ⟨hk, i, hi, h17⟩ | ⟨hk, c, h17, hc, hcl⟩
  · obtain ⟨v1, e1, a1, b1, _⟩ := emit_F (m := 39) h1 h00 18 0 0
    rw [hk, if_pos rfl, e1, q_b_some]
    exact ⟨v1, 39, rfl, a1, frH_t f1 (frH_1 b1)⟩
  · obtain ⟨v1, e1, a1, b1, _⟩ := emit_F (m := 39) h1 h00 12 ((q_sI v 0 30 (nI b)).1 18 b) (v.1 17 b + 1)
    rw [hk, if_neg (by decide), if_pos rfl, q_lt_eq, if_pos (q_inb_nI hb8 (by omega)), q_ix_nI (show b < 2 ^ 31 by omega), e1, q_b_some, h17, if_pos (q_inb_nI (by omega) (by omega)), q_lt_eq, q_lt_eq, q_ix_nI (by omega)]
    refine ⟨_, 39, rfl, ?_, ?_⟩
    · have := FR_13 a1 14 (2000 * s + i) (v1.1 0 24) (by decide)
      unfold FR at this ⊢
      rw [sI_k _ _ _ _ 13 (by omega), sI_k _ _ _ _ 14 (by omega), sI_k _ _ _ _ 24 (by omega), sI_k _ _ _ _ 38 (by omega), sI_k _ _ _ _ 11 (by omega)]
      exact this
    · refine frH_t f1 (frH_t (frH_1 b1) (frH_t ?_ (frH_0 s _ 28 _ (by omega))))
      exact ⟨fun q _ _ _ h14 _ _ _ _ _ => sI_cell _ _ _ _ _ h14, fun k _ _ _ _ _ _ _ => by rw [sI_cell _ _ _ _ _ (by decide)], fun j hj => ⟨by rw [sI_cell _ _ _ _ _ (by decide)], by rw [sI_cell _ _ _ _ _ (by decide)], sI_k _ _ _ _ _ (by omega)⟩, rfl, fun _ _ => rfl⟩
  · have n0 : ¬ v.1 16 b = 0 := by rcases hk with h | h <;> rw [h] <;> decide
    have n1 : ¬ v.1 16 b = 1 := by rcases hk with h | h <;> rw [h] <;> decide
    obtain ⟨v1, e1, a1, b1, c1, d1⟩ := landsF_lok c q_N (q_sI v 0 30 (nI b)) (Nat.lt_of_le_of_lt hcl (Nat.le_of_ble_eq_true rfl)) (CHW_eq (sI_cell _ _ _ _ 14 (by decide)) c hc) h1
    rw [if_neg n0, if_neg n1, h17]
    unfold fX11_lands fX11_lands_l2
    rw [e1, q_b_some]
    refine ⟨v1, 40, rfl, a1, frH_t f1 ⟨fun q _ _ h13 _ _ _ _ _ _ => b1 q h13, fun k _ _ _ _ _ _ _ => by rw [b1 0 (by decide)], fun j hj => ⟨by rw [b1 12 (by decide)], d1 j hj, by rw [b1 14 (by decide)]⟩, by rw [c1], fun q _ => by rw [c1]⟩⟩
theorem turnsElse_F {s f b : Nat} {p : Int32} {c : List Nat} {v : q_W} (h : FR s f p 40 v) (h0 : v.1 0 38 = 0) (hb : v.1 0 30 = nI (b + 1)) (hb8 : b < 8) (h17 : v.1 17 b = hdC s c) (hc : CHW s c v) (hcl : c.length ≤ 2000) (hn : ∀ i, i ∈ c → v.1 0 24 ≠ nI (2000 * s + i)) : ∃ v' m, fX11_turnsElse v = some ((), v') ∧ FR s f p m v' ∧ frH s v v' := by
  have hs := h.1
  obtain ⟨v1, e1, a1, b1, _, k1⟩ := emit_F (m := 39) h h0 13 0 (-1)
  have h17' : v1.1 17 b = hdC s c := by rw [b1.1 17 (by decide) (by decide) (by decide) (by decide) (by decide), h17]
  have hc1 : CHW s c v1 := by
    obtain ⟨cc, _, e24⟩ := h.2.2.2.2.2.1
    have e14 : ∀ i, i ≠ 2000 * s + cc → v1.1 14 i = v.1 14 i := by
      intro i hi
      unfold fX11_emit at e1
      rw [e24, q_lt_eq, if_pos (q_inb_nI (by omega) (by omega)), q_lt_eq, q_lt_eq, sI_cell _ _ _ _ 0 (by decide), e24, if_pos (q_inb_nI (by omega) (by omega)), q_lt_eq, q_lt_eq, sI_cell _ _ _ _ 0 (by decide), sI_cell _ _ _ _ 0 (by decide), e24, if_pos (q_inb_nI (by omega) (by omega)), q_lt_eq, q_lt_eq, q_ix_nI (by omega)] at e1
      have e2 := (Prod.mk.inj (Option.some.inj e1)).2
      rw [← e2, sI_cell _ _ _ _ _ (by decide), sI_k _ _ _ _ _ hi, sI_cell _ _ _ _ _ (by decide), sI_cell _ _ _ _ _ (by decide)]
    have go : ∀ c : List Nat, (∀ i, i ∈ c → v.1 0 24 ≠ nI (2000 * s + i)) → CHW s c v → CHW s c v1 := by
      intro c
      induction c with
      | nil => intro _ _; trivial
      | cons i c ih =>
        intro hn hc
        obtain ⟨x1, x2, x3⟩ := hc
        refine ⟨x1, ?_, ih (fun j hj => hn j (List.mem_cons_of_mem _ hj)) x3⟩
        rw [e14 _ (fun e => hn i List.mem_cons_self (by rw [e24, e])), x2]
    exact go c hn hc
  obtain ⟨v2, e2, a2, b2, c2, d2⟩ := landsF_lok c q_N v1 (Nat.lt_of_le_of_lt hcl (Nat.le_of_ble_eq_true rfl)) hc1 a1
  unfold fX11_turnsElse fX11_lands fX11_lands_l2
  rw [hb, nI_s1, q_lt_eq, e1, q_b_some, if_pos (q_inb_nI hb8 (by omega)), q_ix_nI (by omega), h17', e2, q_b_some, if_pos (q_inb_nI hb8 (by omega)), q_lt_eq, if_pos (q_inb_nI hb8 (by omega)), q_lt_eq]
  refine ⟨_, 39, rfl, FR_13 (FR_13 a2 16 _ _ (by decide)) 17 _ _ (by decide), frH_t (frH_1 b1) (frH_t ?_ (frH_t (frH_q s _ 16 _ _ (by omega)) (frH_q s _ 17 _ _ (by omega))))⟩
  exact ⟨fun q _ _ h13 _ _ _ _ _ _ => b2 q h13, fun k _ _ _ _ _ _ _ => by rw [b2 0 (by decide)], fun j hj => ⟨by rw [b2 12 (by decide)], d2 j hj, by rw [b2 14 (by decide)]⟩, by rw [c2], fun q _ => by rw [c2]⟩
