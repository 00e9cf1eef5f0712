/-! the executor: what hangs on a truth value -/
theorem tru_inv {W : List AI} {e : SS} {o c s : Nat} {pm : Nat → Nat} {p i : Nat} {x : It} {σ τ : SS} (h : LOK W e o c s pm p i x σ τ) (hm : σ.2.1 = some 7) : KAnd W e o c s i x σ τ ∨ KOr W e o c s i x σ τ ∨ KUn W e o c s i x σ τ := by
  rcases h with h | h | h | h | h | h | h | h | h | h | h | h
  · exfalso
    rcases h.1 with e | e | e <;> (rw [hm] at e; cases e)
  · exfalso
    obtain ⟨_, _, _, _, e, _⟩ := h
    rw [hm] at e; cases e
  · exact Or.inl h
  · exact Or.inr (Or.inl h)
  · exact Or.inr (Or.inr h)
  · exfalso
    obtain ⟨_, e, _⟩ := h
    rw [hm] at e; cases e
  · exfalso
    obtain ⟨k, ax, _, ha, _, _, e | e, _⟩ := h
    · have e := e.2.2
      rw [hm] at e; cases e
    · have e := e.2
      rw [hm] at e
      cases e
      omega
  · exfalso
    obtain ⟨_, e, _⟩ := h
    rw [hm] at e; cases e
  · exfalso
    obtain ⟨_, e, _⟩ := h
    rw [hm] at e; cases e
  · exfalso
    obtain ⟨_, e, _⟩ := h
    rw [hm] at e; cases e
  · exfalso
    obtain ⟨_, e, _⟩ := h
    rw [hm] at e; cases e
  · exfalso
    obtain ⟨_, _, _, _, e, _⟩ := h
    rw [hm] at e; cases e
section
variable {W0 : q_W × q_W} {P s n : Nat} {pm fo fr : Nat → Nat} {pg : Nat → List AI} {ws : List Int32} {cs : List Tr} {b0 D0 M0 rC rR : Nat} {fs : List (Nat × Nat)} {p i D k : Nat} {u v : q_W}
theorem XE_fx {u' : q_W} (h : XE W0 P s n pm fo fr ws cs u v) (a : fxC u u') : XE W0 P s n pm fo fr ws cs u' v :=
  XE_keep h (fun q x _ _ _ => a.1 q (by omega) (by omega)) (by rw [a.2.2]) (fun _ _ _ => rfl) ⟨fun _ _ _ _ _ _ => rfl, rfl⟩
theorem tw2 (hG : PG s pm fo fr pg n ws cs) (hp : p < n) {j : Nat} (hj : j < (pg p).length) {a b : Int32} (hx : (itA (pg p) j).1 = [a, b]) : ws.getD (fo p + wo (pg p) j) 0 = a ∧ ws.getD (fo p + wo (pg p) j + 1) 0 = b ∧ fo p + wo (pg p) j + 1 < ws.length ∧ wo (pg p) (j + 1) = wo (pg p) j + 2 := by
  obtain ⟨w0, _⟩ := lookW hG hp hj (k := 0) (by rw [hx]; show 0 < 2; omega)
  obtain ⟨w1, w1l⟩ := lookW hG hp hj (k := 1) (by rw [hx]; show 1 < 2; omega)
  have hsi := wo_s hj
  rw [hx] at w0 w1 hsi
  exact ⟨w0, w1, w1l, hsi⟩
theorem tru_turn (h1 : XE W0 P s n pm fo fr ws cs u v) {A c : Nat} (h4 : u.1 31 7 = nI A) (hA : A + 1 < ws.length) (hw : ws.getD A 0 = nI c) {T : Int32} (hT : ws.getD (A + 1) 0 = T) (hc : 14 ≤ c ∧ c ≤ 16) : fX1_step u = q_b (q_b (some (T, q_sI (q_sI u 31 7 (nI (A + 1))) 31 7 (nI (A + 1 + 1)))) fun r1 w2 =>
    if nI c = 14 then fX1_turn_n48 (nI c) r1 w2 else if nI c = 15 then fX1_turn_n48 (nI c) r1 w2 else if nI c = 16 then
    q_b (fX1_pop w2) fun r6 w7 =>
    if r6 = 0 then
      q_lt (q_sI w7 31 7 r1) fun w8 =>
      some ((), w8)
    else
      some ((), w7) else none) fun _ w2 => some ((), w2) := by
  rw [step_tw h1 h4 (by omega) hw (by omega)]
  unfold fX1_step_n219 fX1_turn
  rw [nextW (XE_7 h1 7 _) (sI_same _ _ _ _) hA, q_b_some, hT, q_b_some]
  have : c = 14 ∨ c = 15 ∨ c = 16 := by omega
  rcases this with rfl | rfl | rfl
  · rw [if_pos (show nI 14 = 14 from rfl), if_pos (show nI 14 = 14 from rfl)]
  · rw [if_neg (show ¬ nI 15 = 14 by decide), if_pos (show nI 15 = 15 from rfl), if_neg (show ¬ nI 15 = 14 by decide), if_pos (show nI 15 = 15 from rfl)]
  · rw [if_neg (show ¬ nI 16 = 14 by decide), if_neg (show ¬ nI 16 = 15 by decide), if_pos (show nI 16 = 16 from rfl), if_neg (show ¬ nI 16 = 14 by decide), if_neg (show ¬ nI 16 = 15 by decide), if_pos (show nI 16 = 16 from rfl)]
/-- after the two words, the value off -/
def trW (A : Nat) (u : q_W) : q_W := q_sI (q_sI (q_sI u 31 7 (nI (A + 1))) 31 7 (nI (A + 1 + 1))) 31 8 (nI 0)
theorem tr_pop {A : Nat} (g : u.1 31 8 = nI (0 + 1)) : fX1_pop (q_sI (q_sI u 31 7 (nI (A + 1))) 31 7 (nI (A + 1 + 1))) = some (u.1 32 0, trW A u) := by
  rw [pop_c (t := 0) (by rw [sI_k _ _ _ _ _ (by decide), sI_k _ _ _ _ _ (by decide)]; exact g) (by omega), sI_cell _ _ _ _ 32 (by decide), sI_cell _ _ _ _ 32 (by decide)]
  rfl
theorem trW_fx (A : Nat) (u : q_W) : fxC u (trW A u) := fxC_t (fxC_7 u 7 _ (by omega)) (fxC_t (fxC_7 _ 7 _ (by omega)) (fxC_7 _ 8 _ (by omega)))
theorem trW_7 (A : Nat) (u : q_W) : (trW A u).1 31 7 = nI (A + 2) := by
  unfold trW
  rw [sI_k _ _ _ _ _ (by decide), sI_same]
theorem trW_8 (A : Nat) (u : q_W) : (trW A u).1 31 8 = nI 0 := sI_same _ _ _ _
theorem tru_go (h1 : XE W0 P s n pm fo fr ws cs u v) {A c : Nat} (h4 : u.1 31 7 = nI A) (hA : A + 1 < ws.length) (hw : ws.getD A 0 = nI c) (g : u.1 31 8 = nI (0 + 1)) (hc : c = 14 ∧ u.1 32 0 = 1 ∨ c = 15 ∧ u.1 32 0 = 0 ∨ c = 16 ∧ u.1 32 0 = 1) : fX1_step u = some ((), trW A u) := by
  rw [tru_turn h1 h4 hA hw rfl (by omega), q_b_some]
  rcases hc with ⟨rfl, e⟩ | ⟨rfl, e⟩ | ⟨rfl, e⟩
  · rw [if_pos (show nI 14 = 14 from rfl)]
    unfold fX1_turn_n48 fX1_turn_n60 fX1_settle fX1_settle_n14
    rw [if_neg (show ¬ nI 14 = 15 by decide), tr_pop g, e, q_b_some, if_neg i_10, if_neg i_10, q_b_some, q_b_some]
  · rw [if_neg (show ¬ nI 15 = 14 by decide), if_pos (show nI 15 = 15 from rfl)]
    unfold fX1_turn_n48 fX1_turn_n60 fX1_settle fX1_settle_n14
    rw [if_pos (show nI 15 = 15 from rfl), tr_pop g, e, q_b_some, if_pos rfl, if_neg (show ¬ (0 : Int32) = 1 by decide), q_b_some, q_b_some]
  · rw [if_neg (show ¬ nI 16 = 14 by decide), if_neg (show ¬ nI 16 = 15 by decide), if_pos (show nI 16 = 16 from rfl), tr_pop g, e, q_b_some, if_neg i_10, q_b_some]
theorem tru_j (h1 : XE W0 P s n pm fo fr ws cs u v) {A c : Nat} (h4 : u.1 31 7 = nI A) (hA : A + 1 < ws.length) (hw : ws.getD A 0 = nI c) (g : u.1 31 8 = nI (0 + 1)) (hc : c = 14 ∧ u.1 32 0 = 0 ∨ c = 15 ∧ u.1 32 0 = 1) : fX1_step u = some ((), q_sI (q_sI (q_sI (trW A u) 32 0 (u.1 32 0)) 31 8 (nI (0 + 1))) 31 7 (ws.getD (A + 1) 0)) := by
  rw [tru_turn h1 h4 hA hw rfl (by omega), q_b_some]
  rcases hc with ⟨rfl, e⟩ | ⟨rfl, e⟩
  · rw [if_pos (show nI 14 = 14 from rfl)]
    unfold fX1_turn_n48 fX1_turn_n60 fX1_settle fX1_settle_n14
    rw [if_neg (show ¬ nI 14 = 15 by decide), tr_pop g, e, q_b_some, if_pos rfl, if_pos rfl, push_c (trW_8 A u) (by omega), q_b_some, q_lt_eq, q_b_some, q_b_some]
  · rw [if_neg (show ¬ nI 15 = 14 by decide), if_pos (show nI 15 = 15 from rfl)]
    unfold fX1_turn_n48 fX1_turn_n60 fX1_settle fX1_settle_n14
    rw [if_pos (show nI 15 = 15 from rfl), tr_pop g, e, q_b_some, if_neg i_10, if_pos rfl, push_c (trW_8 A u) (by omega), q_b_some, q_lt_eq, q_b_some, q_b_some]
theorem tru_u (h1 : XE W0 P s n pm fo fr ws cs u v) {A : Nat} (h4 : u.1 31 7 = nI A) (hA : A + 1 < ws.length) (hw : ws.getD A 0 = nI 16) (g : u.1 31 8 = nI (0 + 1)) (e : u.1 32 0 = 0) : fX1_step u = some ((), q_sI (trW A u) 31 7 (ws.getD (A + 1) 0)) := by
  rw [tru_turn h1 h4 hA hw rfl (by omega), q_b_some, if_neg (show ¬ nI 16 = 14 by decide), if_neg (show ¬ nI 16 = 15 by decide), if_pos (show nI 16 = 16 from rfl), tr_pop g, e, q_b_some, if_pos rfl, q_lt_eq, q_b_some]
/-- the class's hops -/
theorem chain (hG : PG s pm fo fr pg n ws cs) (hp : p < n) {r : Nat × (Nat → Nat)} {val : Int32} : ∀ (m j : Nat) (u : q_W), (pg p).length ≤ j + m → XE W0 P s n pm fo fr ws cs u v → j < (pg p).length → pgE pg pm p j = (1, some 7, r) → u.1 31 13 = 0 → u.1 31 7 = nI (fo p + wo (pg p) j) → u.1 31 8 = nI (0 + 1) → u.1 32 0 = val → (val = 0 ∧ (kdI (itA (pg p) j) = 14 ∨ kdI (itA (pg p) j) = 16) ∨ val = 1 ∧ kdI (itA (pg p) j) = 15) → ∃ jj i' u' mk, 1 ≤ jj ∧ STC jj u u' ∧ j < i' ∧ i' ≤ (pg p).length ∧ (itA (pg p) j).2.2.1 = tgR s (fr p) i' ∧ fxC u u' ∧ u'.1 31 7 = nI (fo p + wo (pg p) i') ∧ u'.1 31 8 = nI 0 ∧ (mk = none ∨ mk = some 8) ∧ pgE pg pm p i' = (0, mk, r) ∧ wo (pg p) j + jj ≤ wo (pg p) i' := by
  intro m
  induction m with
  | zero => intro j u h _ hj; omega
  | succ m ih =>
    intro j u hm hE hj hσ h13 h7 h8 h32 hv
    have hL := (hG p hp).2.1 j (Nat.zero_le _) hj
    have hσ' : ssA (pg p) (pS (pm p)) j = (1, some 7, r) := hσ
    have two : ∀ a b : Int32, (itA (pg p) j).1 = [a, b] → ws.getD (fo p + wo (pg p) j) 0 = a ∧ ws.getD (fo p + wo (pg p) j + 1) 0 = b ∧ fo p + wo (pg p) j + 1 < ws.length ∧ wo (pg p) (j + 1) = wo (pg p) j + 2 := fun a b hx => tw2 hG hp hj hx
    -- the jump with the value kept
    have jump : ∀ c j2, (c = 14 ∧ val = 0 ∨ c = 15 ∧ val = 1) → j < j2 → (itA (pg p) j).1 = [nI c, tgC (pg p) (fo p) j2] → ∃ u1, fX1_step u = some ((), u1) ∧ fxC u u1 ∧ u1.1 31 7 = nI (fo p + wo (pg p) j2) ∧ u1.1 31 8 = nI (0 + 1) ∧ u1.1 32 0 = val ∧ wo (pg p) j + 1 ≤ wo (pg p) j2 := by
      intro c j2 hc hj2 hx
      obtain ⟨w0, w1, wl, hs⟩ := two _ _ hx
      refine ⟨_, tru_j hE h7 wl w0 h8 (by rw [h32]; exact hc), fxC_t (trW_fx _ _) (fxC_t (fxC_32 _ _ _) (fxC_t (fxC_7 _ 8 _ (by omega)) (fxC_7 _ 7 _ (by omega)))), ?_, ?_, ?_, ?_⟩
      · rw [sI_same, w1]; rfl
      · rw [sI_k _ _ _ _ _ (by decide), sI_same]
      · rw [sI_cell _ _ _ _ 32 (by decide), sI_cell _ _ _ _ 32 (by decide), sI_same, h32]
      · have := wo_mono (W := pg p) (i := j + 1) (j := j2) (by omega)
        omega
    -- the last hop, which falls through
    have fall : ∀ c j2 j3 u1, (c = 15 ∧ val = 0 ∨ c = 16 ∧ val = 1) → j2 < (pg p).length → (itA (pg p) j2).1 = [nI c, j3] → XE W0 P s n pm fo fr ws cs u1 v → u1.1 31 7 = nI (fo p + wo (pg p) j2) → u1.1 31 8 = nI (0 + 1) → u1.1 32 0 = val → ∃ u2, fX1_step u1 = some ((), u2) ∧ fxC u1 u2 ∧ u2.1 31 7 = nI (fo p + wo (pg p) (j2 + 1)) ∧ u2.1 31 8 = nI 0 ∧ wo (pg p) j2 + 1 ≤ wo (pg p) (j2 + 1) := by
      intro c j2 j3 u1 hc hj2 hx hE1 a7 a8 a32
      obtain ⟨w0, w1, wl, hs⟩ := tw2 hG hp hj2 hx
      refine ⟨_, tru_go hE1 a7 wl w0 a8 (by rw [a32]; exact Or.inr hc), trW_fx _ _, ?_, trW_8 _ _, by omega⟩
      rw [trW_7, hs]; rfl
    have cont : ∀ j2 u1, j < j2 → j2 < (pg p).length → fX1_step u = some ((), u1) → fxC u u1 → u1.1 31 7 = nI (fo p + wo (pg p) j2) → u1.1 31 8 = nI (0 + 1) → u1.1 32 0 = val → wo (pg p) j + 1 ≤ wo (pg p) j2 → pgE pg pm p j2 = (1, some 7, r) → (val = 0 ∧ (kdI (itA (pg p) j2) = 14 ∨ kdI (itA (pg p) j2) = 16) ∨ val = 1 ∧ kdI (itA (pg p) j2) = 15) → (itA (pg p) j).2.2.1 = (itA (pg p) j2).2.2.1 → ∃ jj i' u' mk, 1 ≤ jj ∧ STC jj u u' ∧ j < i' ∧ i' ≤ (pg p).length ∧ (itA (pg p) j).2.2.1 = tgR s (fr p) i' ∧ fxC u u' ∧ u'.1 31 7 = nI (fo p + wo (pg p) i') ∧ u'.1 31 8 = nI 0 ∧ (mk = none ∨ mk = some 8) ∧ pgE pg pm p i' = (0, mk, r) ∧ wo (pg p) j + jj ≤ wo (pg p) i' := by
      intro j2 u1 hj2 hl st fx a7 a8 a32 aw aσ av af
      obtain ⟨jj, i', u', mk, b1, b2, b3, b4, b5, b6, b7, b8, b9, b10, b11⟩ := ih j2 u1 (by omega) (XE_fx hE fx) hl aσ (by rw [fx.2.1 13 (by decide) (by decide), h13]) a7 a8 a32 av
      exact ⟨jj + 1, i', u', mk, by omega, ⟨h13, u1, st, b2⟩, by omega, b4, by rw [af, b5], fxC_t fx b6, b7, b8, b9, b10, by omega⟩
    rcases tru_inv hL (by rw [hσ']) with hK | hK | hK
    · obtain ⟨_, _, _, j2, t, f, c1, c2, hx, c3, c4⟩ := hK
      have kd : kdI (itA (pg p) j) = 14 := by rw [hx]; rfl
      have v0 : val = 0 := by
        rcases hv with ⟨e, _⟩ | ⟨_, e⟩
        · exact e
        · rw [kd] at e; exact absurd e (by decide)
      have ff : (itA (pg p) j).2.2.1 = f := by rw [hx]
      obtain ⟨u1, st, fx, a7, a8, a32, aw⟩ := jump 14 j2 (Or.inl ⟨rfl, v0⟩) c1 (by rw [hx]; rfl)
      have c3' : pgE pg pm p j2 = (1, some 7, r) := by
        show ssA (pg p) (pS (pm p)) j2 = _
        rw [c3, hσ']
      rcases c4 with ⟨c4, c5⟩ | ⟨c4, c5⟩
      · exact cont j2 u1 c1 c2 st fx a7 a8 a32 aw c3' (Or.inl ⟨v0, c4⟩) (by rw [ff, c5])
      · have hL2 := (hG p hp).2.1 j2 (Nat.zero_le _) c2
        have c3s : ssA (pg p) (pS (pm p)) j2 = (1, some 7, r) := c3'
        rcases tru_inv hL2 (by rw [c3s]) with hK | hK | hK
        · obtain ⟨_, _, _, _, _, _, _, _, hx2, _⟩ := hK
          rw [hx2] at c4
          exact absurd c4 (show ¬ (14 : Int32) = 15 by decide)
        · obtain ⟨_, _, ht, j3, _, _, _, _, hx2, _⟩ := hK
          obtain ⟨u2, st2, fx2, e7, e8, ew⟩ := fall 15 j2 (tgC (pg p) (fo p) j3) u1 (Or.inl ⟨rfl, v0⟩) c2 (by rw [hx2]; rfl) (XE_fx hE fx) a7 a8 a32
          refine ⟨2, j2 + 1, u2, some 8, by omega, ⟨h13, u1, st, by rw [fx.2.1 13 (by decide) (by decide), h13], u2, st2, rfl⟩, by omega, by omega, by rw [ff, c5], fxC_t fx fx2, e7, e8, Or.inr rfl, ?_, by omega⟩
          show ssA (pg p) (pS (pm p)) (j2 + 1) = _
          rw [ht, c3s]
        · obtain ⟨_, _, _, _, _, _, _, hx2, _⟩ := hK
          rw [hx2] at c4
          exact absurd c4 (show ¬ (16 : Int32) = 15 by decide)
    · obtain ⟨_, _, _, j2, t, f, c1, c2, hx, c3, c4⟩ := hK
      have kd : kdI (itA (pg p) j) = 15 := by rw [hx]; rfl
      have v1 : val = 1 := by
        rcases hv with ⟨_, e | e⟩ | ⟨e, _⟩
        · rw [kd] at e; exact absurd e (by decide)
        · rw [kd] at e; exact absurd e (by decide)
        · exact e
      have ff : (itA (pg p) j).2.2.1 = f := by rw [hx]
      obtain ⟨u1, st, fx, a7, a8, a32, aw⟩ := jump 15 j2 (Or.inr ⟨rfl, v1⟩) c1 (by rw [hx]; rfl)
      have c3' : pgE pg pm p j2 = (1, some 7, r) := by
        show ssA (pg p) (pS (pm p)) j2 = _
        rw [c3, hσ']
      rcases c4 with ⟨c4, c5⟩ | ⟨c4, c5⟩
      · exact cont j2 u1 c1 c2 st fx a7 a8 a32 aw c3' (Or.inr ⟨v1, c4⟩) (by rw [ff, c5])
      · have hL2 := (hG p hp).2.1 j2 (Nat.zero_le _) c2
        have c3s : ssA (pg p) (pS (pm p)) j2 = (1, some 7, r) := c3'
        rcases tru_inv hL2 (by rw [c3s]) with hK | hK | hK
        · obtain ⟨_, _, _, _, _, _, _, _, hx2, _⟩ := hK
          rw [hx2] at c4
          exact absurd c4 (show ¬ (14 : Int32) = 16 by decide)
        · obtain ⟨_, _, _, _, _, _, _, _, hx2, _⟩ := hK
          rw [hx2] at c4
          exact absurd c4 (show ¬ (15 : Int32) = 16 by decide)
        · obtain ⟨_, _, ht, j3, _, _, _, hx2, _⟩ := hK
          obtain ⟨u2, st2, fx2, e7, e8, ew⟩ := fall 16 j2 (tgC (pg p) (fo p) j3) u1 (Or.inr ⟨rfl, v1⟩) c2 (by rw [hx2]; rfl) (XE_fx hE fx) a7 a8 a32
          refine ⟨2, j2 + 1, u2, none, by omega, ⟨h13, u1, st, by rw [fx.2.1 13 (by decide) (by decide), h13], u2, st2, rfl⟩, by omega, by omega, by rw [ff, c5], fxC_t fx fx2, e7, e8, Or.inl rfl, ?_, by omega⟩
          show ssA (pg p) (pS (pm p)) (j2 + 1) = _
          rw [ht, c3s]
    · obtain ⟨_, _, _, j2, t, c1, c2, hx, c3⟩ := hK
      have kd : kdI (itA (pg p) j) = 16 := by rw [hx]; rfl
      have v0 : val = 0 := by
        rcases hv with ⟨e, _⟩ | ⟨_, e⟩
        · exact e
        · rw [kd] at e; exact absurd e (by decide)
      obtain ⟨w0, w1, wl, hs⟩ := two 16 (tgC (pg p) (fo p) j2) (by rw [hx])
      have := wo_mono (W := pg p) (i := j + 1) (j := j2) (by omega)
      refine ⟨1, j2, _, none, by omega, ⟨h13, _, tru_u hE h7 wl w0 h8 (by rw [h32, v0]), rfl⟩, c1, c2, by rw [hx], fxC_t (trW_fx _ _) (fxC_7 _ 7 _ (by omega)), ?_, ?_, Or.inl rfl, ?_, by omega⟩
      · rw [sI_same, w1]; rfl
      · rw [sI_k _ _ _ _ _ (by decide), trW_8]
      · show ssA (pg p) (pS (pm p)) j2 = _
        rw [c3, hσ']
theorem ref15 (h : v.1 0 48 = 1) (rec : Int32 → Int32 → q_W → Option (Int32 × q_W)) (x4 x5 x6 : Int32) : fX11_does_n575 rec x4 x5 x6 v = if v.1 25 0 = 0 then rec x4 x6 (q_sI v 0 48 0) else fX11_does_n890 rec x4 x5 (q_sI v 0 48 0) := by
  have e : (1 : Int32) - 1 = 0 := by decide
  have i0 : q_ix (0 : Int32) = 0 := by decide
  unfold fX11_does_n575
  rw [h, e, q_lt_eq, sI_same, q_lt_eq, if_pos (show q_inb (0 : Int32) 600 by decide), i0, sI_cell _ _ _ _ 25 (by decide), q_lt_eq]
  unfold fX11_does_n890
  rw [q_lt_eq, show x6 - 1 + 1 = x6 by grind]
theorem ref16 (h : v.1 0 48 = 1) (rec : Int32 → Int32 → q_W → Option (Int32 × q_W)) (x4 x5 x6 : Int32) : fX11_does_n606 rec x4 x5 x6 v = if v.1 25 0 = 1 then rec x4 x6 (q_sI v 0 48 0) else fX11_does_n890 rec x4 x5 (q_sI v 0 48 0) := by
  have e : (1 : Int32) - 1 = 0 := by decide
  have i0 : q_ix (0 : Int32) = 0 := by decide
  unfold fX11_does_n606
  rw [h, e, q_lt_eq, sI_same, q_lt_eq, if_pos (show q_inb (0 : Int32) 600 by decide), i0, sI_cell _ _ _ _ 25 (by decide), q_lt_eq]
  unfold fX11_does_n890
  rw [q_lt_eq, show x6 - 1 + 1 = x6 by grind]
/-- AND, OR, the end of a condition -/
theorem step_tru (hX : XS W0 P s n pm fo fr pg ws cs b0 D0 M0 rC rR fs p i D k u v) (hG : PG s pm fo fr pg n ws cs) (hi : i < (pg p).length) (hm : (pgE pg pm p i).2.1 = some 7) : OUS W0 P s n pm fo fr pg ws cs b0 D0 M0 rC rR fs p i D k u v := by
  have hX0 := hX
  obtain ⟨h1, h2, h3, h4, h5, h6, h7, h8, h9, h10, h11, h12, h13, h14, h15, h16⟩ := hX
  have hL := (hG p h2).2.1 i (Nat.zero_le _) hi
  have hL : LOK (pg p) (pS (pm p)) (fo p) (fr p) s pm p i (itA (pg p) i) (pgE pg pm p i) (pgE pg pm p (i + 1)) := hL
  have hK := tru_inv hL hm
  have hh : (pgE pg pm p i).1 = 1 := by
    rcases hK with hK | hK | hK <;> exact hK.1
  generalize hσ : pgE pg pm p i = σ at *
  obtain ⟨h, a, r⟩ := σ
  have hh : h = 1 := hh
  have hm : a = some 7 := hm
  subst hh
  subst hm
  obtain ⟨g1, g2, g3, g4, g5, g6⟩ := h14
  have g2 : u.1 31 8 = nI (0 + 1) := g2
  have g3 : v.1 0 48 = 1 := g3
  have g4 : u.1 32 0 = v.1 25 0 := g4 0 (show 0 < 1 by omega)
  have g6 : v.1 25 0 = 0 ∨ v.1 25 0 = 1 := g6 rfl
  have fin : ∀ i' jj u', 1 ≤ jj → STC jj u u' → (∀ rec : Int32 → Int32 → q_W → Option (Int32 × q_W), fX11_does_h38 rec (nI fs.length) (nI (2000 * s + (fr p + i))) v = rec (nI fs.length) (nI (2000 * s + (fr p + i'))) (q_sI v 0 48 0)) → i < i' → i' ≤ (pg p).length → fxC u u' → u'.1 31 7 = nI (fo p + wo (pg p) i') → u'.1 31 8 = nI 0 → (∃ mk, (mk = none ∨ mk = some 8) ∧ pgE pg pm p i' = (0, mk, r)) → (∃ o, (o = 15 ∨ o = 16) ∧ (itA (pg p) i).2.1 = nI o) → wo (pg p) i + jj ≤ wo (pg p) i' → OUS W0 P s n pm fo fr pg ws cs b0 D0 M0 rC rR fs p i D k u v := by
    intro i' jj u' hjj st hr hii hi' fx e7 e8 em eo ew
    obtain ⟨mk, em, es⟩ := em
    obtain ⟨o, eo, ox⟩ := eo
    have of0 : ofs mk = 0 := by rcases em with rfl | rfl <;> rfl
    refine OUS_ex hX0 hi hjj st hr hii hi' fx (fxR_0 v _) e7 (by rw [es, hσ]) ?_ (fun c => by rw [hσ] at c; cases c) ?_ ?_ ew
    · rw [es]
      refine ⟨Nat.zero_le _, ?_, sI_same _ _ _ _, fun j hj => absurd hj (Nat.not_lt_zero j), fun b hb e => ?_, fun e => ?_⟩
      · show u'.1 31 8 = nI (ofs mk + 0)
        rw [of0, e8]
      · have e : mk = some b := e
        rcases em with rfl | rfl
        · cases e
        · cases e; omega
      · have e : mk = some 7 := e
        rcases em with rfl | rfl <;> cases e
    · rw [ox]
      rcases eo with rfl | rfl <;> decide
    · rw [ox]
      rcases eo with rfl | rfl <;> decide
  have ch := chain (v := v) hG h2 (r := r) (val := v.1 25 0) (pg p).length i u (by omega) h1 hi hσ h10 h4 g2 g4
  rcases hK with hK | hK | hK
  · obtain ⟨_, _, ht, j2, t, f, c1, c2, hx, c3, c4⟩ := hK
    obtain ⟨w0, w1, wl, hs⟩ := tw2 hG h2 hi (a := 14) (b := tgC (pg p) (fo p) j2) (by rw [hx])
    have op : (itA (pg p) i).2.1 = nI 15 := by rw [hx]; rfl
    have kd : kdI (itA (pg p) i) = 14 := by rw [hx]; rfl
    have r2 : (itA (pg p) i).2.2.1 = f := by rw [hx]
    have hr := fun rec => ref_op hX0 hG hi (o := 15) (x := f) (y := t) (by rw [hx]; rfl) rec (nI fs.length)
    rcases g6 with e | e
    · obtain ⟨jj, i', u', mk, b1, b2, b3, b4, b5, b6, b7, b8, b9, b10, b11⟩ := ch (Or.inl ⟨e, Or.inl kd⟩)
      refine fin i' jj u' b1 b2 (fun rec => ?_) b3 b4 b6 b7 b8 ⟨mk, b9, b10⟩ ⟨15, Or.inl rfl, op⟩ b11
      rw [hr rec]
      show fX11_does_n575 rec _ _ f v = _
      rw [ref15 g3, if_pos e, ← r2, b5]; rfl
    · refine fin (i + 1) 1 _ (Nat.le_refl 1) (STC_1 h10 (tru_go h1 h4 wl w0 g2 (Or.inl ⟨rfl, by rw [g4, e]⟩))) (fun rec => ?_) (by omega) hi (trW_fx _ _) (by rw [trW_7, hs]; rfl) (trW_8 _ _) ⟨some 8, Or.inr rfl, ht⟩ ⟨15, Or.inl rfl, op⟩ (by omega)
      rw [hr rec]
      show fX11_does_n575 rec _ _ f v = _
      rw [ref15 g3, e, if_neg i_10, n890_r]
  · obtain ⟨_, _, ht, j2, t, f, c1, c2, hx, c3, c4⟩ := hK
    obtain ⟨w0, w1, wl, hs⟩ := tw2 hG h2 hi (a := 15) (b := tgC (pg p) (fo p) j2) (by rw [hx])
    have op : (itA (pg p) i).2.1 = nI 16 := by rw [hx]; rfl
    have kd : kdI (itA (pg p) i) = 15 := by rw [hx]; rfl
    have r2 : (itA (pg p) i).2.2.1 = f := by rw [hx]
    have hr := fun rec => ref_op hX0 hG hi (o := 16) (x := f) (y := t) (by rw [hx]; rfl) rec (nI fs.length)
    rcases g6 with e | e
    · refine fin (i + 1) 1 _ (Nat.le_refl 1) (STC_1 h10 (tru_go h1 h4 wl w0 g2 (Or.inr (Or.inl ⟨rfl, by rw [g4, e]⟩)))) (fun rec => ?_) (by omega) hi (trW_fx _ _) (by rw [trW_7, hs]; rfl) (trW_8 _ _) ⟨some 8, Or.inr rfl, ht⟩ ⟨16, Or.inr rfl, op⟩ (by omega)
      rw [hr rec]
      show fX11_does_n606 rec _ _ f v = _
      rw [ref16 g3, e, if_neg (show ¬ (0 : Int32) = 1 by decide), n890_r]
    · obtain ⟨jj, i', u', mk, b1, b2, b3, b4, b5, b6, b7, b8, b9, b10, b11⟩ := ch (Or.inr ⟨e, kd⟩)
      refine fin i' jj u' b1 b2 (fun rec => ?_) b3 b4 b6 b7 b8 ⟨mk, b9, b10⟩ ⟨16, Or.inr rfl, op⟩ b11
      rw [hr rec]
      show fX11_does_n606 rec _ _ f v = _
      rw [ref16 g3, if_pos e, ← r2, b5]; rfl
  · obtain ⟨_, _, ht, j2, t, c1, c2, hx, c3⟩ := hK
    obtain ⟨w0, w1, wl, hs⟩ := tw2 hG h2 hi (a := 16) (b := tgC (pg p) (fo p) j2) (by rw [hx])
    have op : (itA (pg p) i).2.1 = nI 15 := by rw [hx]; rfl
    have kd : kdI (itA (pg p) i) = 16 := by rw [hx]; rfl
    have r2 : (itA (pg p) i).2.2.1 = tgR s (fr p) j2 := by rw [hx]
    have hr := fun rec => ref_op hX0 hG hi (o := 15) (x := tgR s (fr p) j2) (y := t) (by rw [hx]; rfl) rec (nI fs.length)
    rcases g6 with e | e
    · obtain ⟨jj, i', u', mk, b1, b2, b3, b4, b5, b6, b7, b8, b9, b10, b11⟩ := ch (Or.inl ⟨e, Or.inr kd⟩)
      refine fin i' jj u' b1 b2 (fun rec => ?_) b3 b4 b6 b7 b8 ⟨mk, b9, b10⟩ ⟨15, Or.inl rfl, op⟩ b11
      rw [hr rec]
      show fX11_does_n575 rec _ _ (tgR s (fr p) j2) v = _
      rw [ref15 g3, if_pos e, ← r2, b5]; rfl
    · refine fin (i + 1) 1 _ (Nat.le_refl 1) (STC_1 h10 (tru_go h1 h4 wl w0 g2 (Or.inr (Or.inr ⟨rfl, by rw [g4, e]⟩)))) (fun rec => ?_) (by omega) hi (trW_fx _ _) (by rw [trW_7, hs]; rfl) (trW_8 _ _) ⟨none, Or.inl rfl, ht⟩ ⟨15, Or.inl rfl, op⟩ (by omega)
      rw [hr rec]
      show fX11_does_n575 rec _ _ (tgR s (fr p) j2) v = _
      rw [ref15 g3, e, if_neg i_10, n890_r]
end
