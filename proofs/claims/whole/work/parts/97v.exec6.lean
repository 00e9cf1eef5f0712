/-! the executor: FOR and what ends a turn -/
theorem i32_succ {x y : Int32} (h : ¬ y ≤ x) : x + 1 ≤ y := by
  rw [Int32.le_iff_toInt_le] at h ⊢
  have h1 := Int32.toInt_lt y
  have h2 := Int32.le_toInt x
  have e1 : (1 : Int32).toInt = 1 := by decide
  rw [Int32.toInt_add, e1]
  rw [Int.bmod_eq_of_le (by omega) (by omega)]
  omega
theorem i32_anti {x y : Int32} (h : x ≤ y) (h' : y ≤ x) : x = y := Int32.le_antisymm h h'
section
variable {W0 : q_W × q_W} {P s n : Nat} {pm fo fr : Nat → Nat} {pg : Nat → List AI} {ws : List Int32} {cs : List Tr} {b0 D0 M0 rC rR : Nat} {fs : List (Nat × Nat)} {p i D k : Nat} {u v : q_W}
theorem XS_v (h : XS W0 P s n pm fo fr pg ws cs b0 D0 M0 rC rR fs p i D k u v) {i' : Nat} {u' v' : q_W} (hi : i' ≤ (pg p).length) (a : ∀ q, q ≠ 31 → q ≠ 32 → q ≠ 33 → q ≠ 34 → u'.1 q = u.1 q) (a31 : ∀ k, k ≠ 7 → k ≠ 8 → u'.1 31 k = u.1 31 k) (a2 : u'.2 = u.2) (b2 : v'.2 = v.2) (a33 : ∀ j, j < 8 * fs.length → u'.1 33 j = u.1 33 j ∧ u'.1 34 j = u.1 34 j) (b : ∀ q, q ≠ 0 → q ≠ 23 → q ≠ 25 → v'.1 q = v.1 q) (bz : ∀ k, k ≠ 48 → v'.1 0 k = v.1 0 k) (b23 : ∀ j, j < 16 * fs.length → v'.1 23 j = v.1 23 j) (e7 : u'.1 31 7 = nI (fo p + wo (pg p) i')) (em : (pgE pg pm p i').2.1 = none) (ok : okS (pm p) (pgE pg pm p i')) (vl : VLS (pm p) fs.length (pgE pg pm p i') u' v') (hs : SKS (pgE pg pm p i') u' v') : XS W0 P s n pm fo fr pg ws cs b0 D0 M0 rC rR fs p i' D k u' v' := by
  obtain ⟨h1, h2, h3, h4, h5, h6, h7, h8, h9, h10, h11, h12, h13, h14, h15, h16⟩ := h
  exact ⟨XE_keep h1 (fun q x _ _ _ => a q (by omega) (by omega) (by omega) (by omega)) (by rw [a2]) (fun q x y => b q x (by omega) (by omega)) ⟨fun q _ _ _ _ x => bz q x, b2⟩, h2, hi, e7, by rw [a31 9 (by decide) (by decide), h5], by rw [a31 10 (by decide) (by decide), h6], by rw [bz 39 (by decide), h7], h8, by rw [a31 12 (by decide) (by decide), h9], by rw [a31 13 (by decide) (by decide), h10], fun c => absurd em c, ok, vl, hs, RWS_keep h15 (fun q x => a q (by omega) (by omega) (by omega) (by omega)) (fun q x => bz q (by omega)) (fun q x => b q (by omega) (by omega) (by omega)), FRS_keep fs p h16 (fun k _ => ⟨by rw [a 35 (by decide) (by decide) (by decide) (by decide)], by rw [b 24 (by decide) (by decide) (by decide)]⟩) a33 b23⟩
theorem em8 (d c : Nat) : nI d * 8 + nI c = nI (8 * d + c) := by
  rw [show (8 : Int32) = nI 8 from rfl, pk_mul, nI_add, Nat.mul_comm]
theorem em16 (d c : Nat) : 16 * nI d + nI c = nI (16 * d + c) := by
  rw [show (16 : Int32) = nI 16 from rfl, pk_mul, nI_add]
theorem em168 (d c : Nat) : 16 * nI d + 8 + nI c = nI (16 * d + 8 + c) := by
  rw [show (16 : Int32) = nI 16 from rfl, show (8 : Int32) = nI 8 from rfl, pk_mul, nI_add, nI_add]
theorem tw3 (hG : PG s pm fo fr pg n ws cs) (hp : p < n) {j : Nat} (hj : j < (pg p).length) {a b c : Int32} (hx : (itA (pg p) j).1 = [a, b, c]) : ws.getD (fo p + wo (pg p) j) 0 = a ∧ ws.getD (fo p + wo (pg p) j + 1) 0 = b ∧ ws.getD (fo p + wo (pg p) j + 1 + 1) 0 = c ∧ fo p + wo (pg p) j + 2 < ws.length ∧ wo (pg p) (j + 1) = wo (pg p) j + 3 := by
  obtain ⟨w0, _⟩ := lookW hG hp hj (k := 0) (by rw [hx]; show 0 < 3; omega)
  obtain ⟨w1, _⟩ := lookW hG hp hj (k := 1) (by rw [hx]; show 1 < 3; omega)
  obtain ⟨w2, w2l⟩ := lookW hG hp hj (k := 2) (by rw [hx]; show 2 < 3; omega)
  have hsi := wo_s hj
  rw [hx] at w0 w1 w2 hsi
  exact ⟨w0, w1, w2, w2l, hsi⟩
/-- FOR -/
theorem step_for (hX : XS W0 P s n pm fo fr pg ws cs b0 D0 M0 rC rR fs p i D k u v) (hG : PG s pm fo fr pg n ws cs) (hi : i < (pg p).length) (hK : KFor (pg p) (pS (pm p)) (fo p) (fr p) s i (itA (pg p) i) (pgE pg pm p i) (pgE pg pm p (i + 1))) : OUS W0 P s n pm fo fr pg ws cs b0 D0 M0 rC rR fs p i D k u v := by
  have hX0 := hX
  obtain ⟨h1, h2, h3, h4, h5, h6, h7, h8, h9, h10, h11, h12, h13, h14, h15, h16⟩ := hX
  have hd : fs.length ≤ 7 := by have := FRS_len fs p h2 h16; have := h1.2.2.2.2.2.1; omega
  obtain ⟨z0, zm, zn, j, vv, sl', c1, c2, hx, v1, v2, hsl, hsn, ht, hj⟩ := hK
  have hj : pgE pg pm p j = (0, none, (pgE pg pm p i).2.2) := hj
  have op : (itA (pg p) i).2.1 = nI 10 := by rw [hx]; rfl
  have hr0 := fun rec => ref_op hX0 hG hi (o := 10) (x := nI vv) (y := tgR s (fr p) j) (by rw [hx]; rfl) rec (nI fs.length)
  obtain ⟨w0, w1, w2, wl, hs⟩ := tw3 hG h2 hi (a := 18) (b := nI (pgE pg pm p i).2.2.1) (c := tgC (pg p) (fo p) j) (by rw [hx])
  clear hx
  generalize hσ : pgE pg pm p i = σ at *
  obtain ⟨h, a, nr, sl⟩ := σ
  have z0 : h = 2 := z0
  have zm : a = some 8 := zm
  subst z0
  subst zm
  have zn : nr < 8 := zn
  have w1 : ws.getD (fo p + wo (pg p) i + 1) 0 = nI nr := w1
  have hsl : ∀ k, k < nr → sl' k = sl k ∧ sl k < vv := hsl
  have hsn : sl' nr = vv := hsn
  have ht : pgE pg pm p (i + 1) = (0, none, nr + 1, sl') := ht
  have hj : pgE pg pm p j = (0, none, nr, sl) := hj
  obtain ⟨g1, g2, g3, g4, g5, g6⟩ := h14
  have g2 : u.1 31 8 = nI (0 + 1 + 1) := g2
  have g3 : v.1 0 48 = 2 := g3
  have g4a : u.1 32 0 = v.1 25 0 := g4 0 (show 0 < 2 by omega)
  have g4b : u.1 32 (0 + 1) = v.1 25 1 := g4 1 (show 1 < 2 by omega)
  obtain ⟨o1, o2, o3, o4, o5, o6⟩ := h12
  have o4 : ∀ j, j < nr → sl j < 8 := o4
  have o5 : ∀ j, j < pm p → sl j = j := o5
  have o6 : ∀ i j, i < j → j < nr → sl i < sl j := o6
  have o2 : pm p ≤ nr := o2
  have h13 : VLS (pm p) fs.length (2, some 8, nr, sl) u v := h13
  -- the class
  generalize hx0 : v.1 25 0 = X at *
  generalize hx1 : v.1 25 1 = Y at *
  have hstep : fX1_step u = some ((), if X ≤ Y then q_sI (q_sI (q_sI (q_sI (q_sI (q_sI (q_sI u 31 7 (nI (fo p + wo (pg p) i + 1))) 31 7 (nI (fo p + wo (pg p) i + 1 + 1))) 31 7 (nI (fo p + wo (pg p) i + 1 + 1 + 1))) 31 8 (nI (0 + 1))) 31 8 (nI 0)) 33 (8 * fs.length + nr) X) 34 (8 * fs.length + nr) Y else q_sI (q_sI (q_sI (q_sI (q_sI (q_sI u 31 7 (nI (fo p + wo (pg p) i + 1))) 31 7 (nI (fo p + wo (pg p) i + 1 + 1))) 31 7 (nI (fo p + wo (pg p) i + 1 + 1 + 1))) 31 8 (nI (0 + 1))) 31 8 (nI 0)) 31 7 (tgC (pg p) (fo p) j)) := by
    rw [step_tw h1 h4 (by omega) (c := 18) w0 (by omega)]
    unfold fX1_step_n219 fX1_turn fX1_startLoop
    rw [nextW (XE_7 h1 7 _) (sI_same _ _ _ _) (by omega), q_b_some, w1, if_neg (show ¬ nI 18 = 14 by decide), if_neg (show ¬ nI 18 = 15 by decide), if_neg (show ¬ nI 18 = 16 by decide), if_neg (show ¬ nI 18 = 17 by decide), if_pos (show nI 18 = 18 from rfl), nextW (XE_7 (XE_7 h1 7 _) 7 _) (sI_same _ _ _ _) wl, q_b_some, w2]
    rw [pop_c (t := 0 + 1) (by rw [sI_k _ _ _ _ _ (by decide), sI_k _ _ _ _ _ (by decide), sI_k _ _ _ _ _ (by decide)]; exact g2) (by omega), q_b_some, pop_c (t := 0) (sI_same _ _ _ _) (by omega), q_b_some, sI_cell _ _ _ _ 32 (by decide), sI_cell _ _ _ _ 32 (by decide), sI_cell _ _ _ _ 32 (by decide), sI_cell _ _ _ _ 32 (by decide), g4a, g4b]
    by_cases c : X ≤ Y
    · rw [if_pos c, if_pos c]
      unfold fX1_setValue
      rw [sI_k _ _ _ _ _ (by decide), sI_k _ _ _ _ _ (by decide), sI_k _ _ _ _ _ (by decide), sI_k _ _ _ _ _ (by decide), sI_k _ _ _ _ _ (by decide), h5, em8, q_lt_eq, if_neg (nI_pos (by omega)), if_neg (by rw [show (64 : Int32) = nI 64 from rfl, nI_leI (by omega) (by omega)]; omega), if_pos (q_inb_nI (by omega) (by omega)), q_lt_eq, q_b_some, sI_cell _ _ _ _ 31 (by decide), sI_k _ _ _ _ _ (by decide), sI_k _ _ _ _ _ (by decide), sI_k _ _ _ _ _ (by decide), sI_k _ _ _ _ _ (by decide), sI_k _ _ _ _ _ (by decide), h5, em8, q_lt_eq, if_neg (nI_pos (by omega)), if_neg (by rw [show (64 : Int32) = nI 64 from rfl, nI_leI (by omega) (by omega)]; omega), if_pos (q_inb_nI (by omega) (by omega)), q_lt_eq, q_b_some, q_b_some, q_ix_nI (by omega)]
    · rw [if_neg c, if_neg c, q_lt_eq, q_b_some, q_b_some]
  -- the reference
  have hr : ∀ rec : Int32 → Int32 → q_W → Option (Int32 × q_W), fX11_does_h38 rec (nI fs.length) (nI (2000 * s + (fr p + i))) v = if X ≤ Y then rec (nI fs.length) (nI (2000 * s + (fr p + (i + 1)))) (q_sI (q_sI (q_sI v 0 48 0) 23 (16 * fs.length + vv) X) 23 (16 * fs.length + 8 + vv) Y) else rec (nI fs.length) (nI (2000 * s + (fr p + j))) (q_sI (q_sI (q_sI v 0 48 0) 23 (16 * fs.length + vv) X) 23 (16 * fs.length + 8 + vv) Y) := by
    intro rec
    rw [hr0]
    show fX11_does_n275 rec (nI fs.length) (nI (2000 * s + (fr p + i))) (nI vv) (tgR s (fr p) j) (16 * nI fs.length) v = _
    have e : (2 : Int32) - 2 = 0 := by decide
    have i0 : q_ix (0 : Int32) = 0 := by decide
    have i1 : q_ix ((0 : Int32) + 1) = 1 := by decide
    unfold fX11_does_n275
    rw [g3, e, q_lt_eq, sI_same, q_lt_eq, if_pos (show q_inb (0 : Int32) 600 by decide), em16, q_lt_eq, if_pos (q_inb_nI (by omega) (by omega)), i0, q_ix_nI (show 16 * fs.length + vv < 2 ^ 31 by omega), sI_cell _ _ _ _ 25 (by decide), hx0, q_lt_eq, sI_cell _ _ _ _ 0 (by decide), sI_same, q_lt_eq, if_pos (show q_inb ((0 : Int32) + 1) 600 by decide), em168, q_lt_eq, if_pos (q_inb_nI (by omega) (by omega)), i1, q_ix_nI (show 16 * fs.length + 8 + vv < 2 ^ 31 by omega), sI_cell _ _ _ _ 25 (by decide), sI_cell _ _ _ _ 25 (by decide), hx1, q_lt_eq, sI_cell _ _ _ _ 0 (by decide), sI_cell _ _ _ _ 0 (by decide), sI_same, q_lt_eq, if_pos (show q_inb ((0 : Int32) + 1) 600 by decide), q_lt_eq, if_pos (show q_inb (0 : Int32) 600 by decide), i0, i1, sI_cell _ _ _ _ 25 (by decide), sI_cell _ _ _ _ 25 (by decide), sI_cell _ _ _ _ 25 (by decide), hx0, hx1]
    by_cases c : X ≤ Y
    · rw [if_pos c, if_pos c, n890_r]
    · rw [if_neg c, if_neg c, q_lt_eq]
      unfold fX11_does_n890
      rw [q_lt_eq, show tgR s (fr p) j - 1 + 1 = tgR s (fr p) j by grind]
      rfl
  have hvv : ∀ j', (j' < 16 * fs.length ∨ (j' ≠ 16 * fs.length + vv ∧ j' ≠ 16 * fs.length + 8 + vv)) → (q_sI (q_sI (q_sI v 0 48 0) 23 (16 * fs.length + vv) X) 23 (16 * fs.length + 8 + vv) Y).1 23 j' = v.1 23 j' := by
    intro j' hj'
    rw [sI_k _ _ _ _ _ (by omega), sI_k _ _ _ _ _ (by omega), sI_cell _ _ _ _ 23 (by decide)]
  have hvx : (q_sI (q_sI (q_sI v 0 48 0) 23 (16 * fs.length + vv) X) 23 (16 * fs.length + 8 + vv) Y).1 23 (16 * fs.length + vv) = X := by
    rw [sI_k _ _ _ _ _ (by omega), sI_same]
  have hvy : (q_sI (q_sI (q_sI v 0 48 0) 23 (16 * fs.length + vv) X) 23 (16 * fs.length + 8 + vv) Y).1 23 (16 * fs.length + 8 + vv) = Y := sI_same _ _ _ _
  have hvc : ∀ q, q ≠ 0 → q ≠ 23 → (q_sI (q_sI (q_sI v 0 48 0) 23 (16 * fs.length + vv) X) 23 (16 * fs.length + 8 + vv) Y).1 q = v.1 q := by
    intro q a b
    rw [sI_cell _ _ _ _ _ b, sI_cell _ _ _ _ _ b, sI_cell _ _ _ _ _ a]
  have hv0 : ∀ q, q ≠ 48 → (q_sI (q_sI (q_sI v 0 48 0) 23 (16 * fs.length + vv) X) 23 (16 * fs.length + 8 + vv) Y).1 0 q = v.1 0 q := by
    intro q a
    rw [sI_cell _ _ _ _ 0 (by decide), sI_cell _ _ _ _ 0 (by decide), sI_k _ _ _ _ _ a]
  have hv48 : (q_sI (q_sI (q_sI v 0 48 0) 23 (16 * fs.length + vv) X) 23 (16 * fs.length + 8 + vv) Y).1 0 48 = nI 0 := by
    rw [sI_cell _ _ _ _ 0 (by decide), sI_cell _ _ _ _ 0 (by decide), sI_same]; rfl
  have hv2 : (q_sI (q_sI (q_sI v 0 48 0) 23 (16 * fs.length + vv) X) 23 (16 * fs.length + 8 + vv) Y).2 = v.2 := rfl
  generalize hvd : q_sI (q_sI (q_sI v 0 48 0) 23 (16 * fs.length + vv) X) 23 (16 * fs.length + 8 + vv) Y = v' at *
  have hn : ¬ ((itA (pg p) i).2.1 = 8 ∨ (itA (pg p) i).2.1 = 11) := by rw [op]; decide
  have hn9 : ¬ (itA (pg p) i).2.1 = 9 := by rw [op]; decide
  by_cases c : X ≤ Y
  · rw [if_pos c] at hstep
    have hu : ∀ q, q ≠ 31 → q ≠ 33 → q ≠ 34 → (q_sI (q_sI (q_sI (q_sI (q_sI (q_sI (q_sI u 31 7 (nI (fo p + wo (pg p) i + 1))) 31 7 (nI (fo p + wo (pg p) i + 1 + 1))) 31 7 (nI (fo p + wo (pg p) i + 1 + 1 + 1))) 31 8 (nI (0 + 1))) 31 8 (nI 0)) 33 (8 * fs.length + nr) X) 34 (8 * fs.length + nr) Y).1 q = u.1 q := by
      intro q a b d
      rw [sI_cell _ _ _ _ _ d, sI_cell _ _ _ _ _ b, sI_cell _ _ _ _ _ a, sI_cell _ _ _ _ _ a, sI_cell _ _ _ _ _ a, sI_cell _ _ _ _ _ a, sI_cell _ _ _ _ _ a]
    have hu31 : ∀ q, q ≠ 7 → q ≠ 8 → (q_sI (q_sI (q_sI (q_sI (q_sI (q_sI (q_sI u 31 7 (nI (fo p + wo (pg p) i + 1))) 31 7 (nI (fo p + wo (pg p) i + 1 + 1))) 31 7 (nI (fo p + wo (pg p) i + 1 + 1 + 1))) 31 8 (nI (0 + 1))) 31 8 (nI 0)) 33 (8 * fs.length + nr) X) 34 (8 * fs.length + nr) Y).1 31 q = u.1 31 q := by
      intro q a b
      rw [sI_cell _ _ _ _ 31 (by decide), sI_cell _ _ _ _ 31 (by decide), sI_k _ _ _ _ _ b, sI_k _ _ _ _ _ b, sI_k _ _ _ _ _ a, sI_k _ _ _ _ _ a, sI_k _ _ _ _ _ a]
    have hu33 : ∀ q, (q_sI (q_sI (q_sI (q_sI (q_sI (q_sI (q_sI u 31 7 (nI (fo p + wo (pg p) i + 1))) 31 7 (nI (fo p + wo (pg p) i + 1 + 1))) 31 7 (nI (fo p + wo (pg p) i + 1 + 1 + 1))) 31 8 (nI (0 + 1))) 31 8 (nI 0)) 33 (8 * fs.length + nr) X) 34 (8 * fs.length + nr) Y).1 33 q = if q = 8 * fs.length + nr then X else u.1 33 q := by
      intro q
      rw [sI_cell _ _ _ _ 33 (by decide), sI_if, sI_cell _ _ _ _ 33 (by decide), sI_cell _ _ _ _ 33 (by decide), sI_cell _ _ _ _ 33 (by decide), sI_cell _ _ _ _ 33 (by decide), sI_cell _ _ _ _ 33 (by decide)]
    have hu34 : ∀ q, (q_sI (q_sI (q_sI (q_sI (q_sI (q_sI (q_sI u 31 7 (nI (fo p + wo (pg p) i + 1))) 31 7 (nI (fo p + wo (pg p) i + 1 + 1))) 31 7 (nI (fo p + wo (pg p) i + 1 + 1 + 1))) 31 8 (nI (0 + 1))) 31 8 (nI 0)) 33 (8 * fs.length + nr) X) 34 (8 * fs.length + nr) Y).1 34 q = if q = 8 * fs.length + nr then Y else u.1 34 q := by
      intro q
      rw [sI_if, sI_cell _ _ _ _ 34 (by decide), sI_cell _ _ _ _ 34 (by decide), sI_cell _ _ _ _ 34 (by decide), sI_cell _ _ _ _ 34 (by decide), sI_cell _ _ _ _ 34 (by decide), sI_cell _ _ _ _ 34 (by decide)]
    have hu7 : (q_sI (q_sI (q_sI (q_sI (q_sI (q_sI (q_sI u 31 7 (nI (fo p + wo (pg p) i + 1))) 31 7 (nI (fo p + wo (pg p) i + 1 + 1))) 31 7 (nI (fo p + wo (pg p) i + 1 + 1 + 1))) 31 8 (nI (0 + 1))) 31 8 (nI 0)) 33 (8 * fs.length + nr) X) 34 (8 * fs.length + nr) Y).1 31 7 = nI (fo p + wo (pg p) (i + 1)) := by
      rw [sI_cell _ _ _ _ 31 (by decide), sI_cell _ _ _ _ 31 (by decide), sI_k _ _ _ _ _ (by decide), sI_k _ _ _ _ _ (by decide), sI_same, hs]; rfl
    have hu8 : (q_sI (q_sI (q_sI (q_sI (q_sI (q_sI (q_sI u 31 7 (nI (fo p + wo (pg p) i + 1))) 31 7 (nI (fo p + wo (pg p) i + 1 + 1))) 31 7 (nI (fo p + wo (pg p) i + 1 + 1 + 1))) 31 8 (nI (0 + 1))) 31 8 (nI 0)) 33 (8 * fs.length + nr) X) 34 (8 * fs.length + nr) Y).1 31 8 = nI 0 := by
      rw [sI_cell _ _ _ _ 31 (by decide), sI_cell _ _ _ _ 31 (by decide), sI_same]
    have hu2 : (q_sI (q_sI (q_sI (q_sI (q_sI (q_sI (q_sI u 31 7 (nI (fo p + wo (pg p) i + 1))) 31 7 (nI (fo p + wo (pg p) i + 1 + 1))) 31 7 (nI (fo p + wo (pg p) i + 1 + 1 + 1))) 31 8 (nI (0 + 1))) 31 8 (nI 0)) 33 (8 * fs.length + nr) X) 34 (8 * fs.length + nr) Y).2 = u.2 := rfl
    generalize hud : q_sI (q_sI (q_sI (q_sI (q_sI (q_sI (q_sI u 31 7 (nI (fo p + wo (pg p) i + 1))) 31 7 (nI (fo p + wo (pg p) i + 1 + 1))) 31 7 (nI (fo p + wo (pg p) i + 1 + 1 + 1))) 31 8 (nI (0 + 1))) 31 8 (nI 0)) 33 (8 * fs.length + nr) X) 34 (8 * fs.length + nr) Y = u' at *
    refine ⟨1, fs, p, i + 1, D, k, u', v', Nat.le_refl 1, STC_1 h10 hstep, fun rec => by rw [hr, if_pos c], XS_v hX0 hi (fun q a _ b d => hu q a b d) hu31 hu2 hv2 (fun j' hj' => ?_) (fun q a b _ => hvc q a b) hv0 (fun j' hj' => hvv j' (Or.inl hj')) hu7 (by rw [ht]) ?_ ?_ ?_, ?_, Nat.le_refl _, Nat.le_refl _, fun _ e => absurd e hn, fun _ e => absurd e hn9⟩
    · rw [hu33, hu34, if_neg (by omega), if_neg (by omega)]
      exact ⟨rfl, rfl⟩
    · rw [ht]
      refine ⟨by show nr + 1 ≤ 8; omega, by show pm p ≤ nr + 1; omega, o3, fun j' hj' => ?_, fun j' hj' => ?_, fun a b hab hb => ?_⟩
      · have hj' : j' < nr + 1 := hj'
        show sl' j' < 8
        by_cases e : j' = nr
        · rw [e, hsn]; exact v2
        · rw [(hsl j' (by omega)).1]; exact o4 j' (by omega)
      · show sl' j' = j'
        rw [(hsl j' (by omega)).1]; exact o5 j' hj'
      · have hb : b < nr + 1 := hb
        show sl' a < sl' b
        rw [(hsl a (by omega)).1]
        by_cases e : b = nr
        · rw [e, hsn]; exact (hsl a (by omega)).2
        · rw [(hsl b (by omega)).1]; exact o6 a b hab (by omega)
    · rw [ht]
      intro j' hj'
      have hj' : j' < nr + 1 := hj'
      show u'.1 33 (8 * fs.length + j') = v'.1 23 (16 * fs.length + sl' j') ∧ (pm p ≤ j' → u'.1 34 (8 * fs.length + j') = v'.1 23 (16 * fs.length + 8 + sl' j') ∧ u'.1 33 (8 * fs.length + j') ≤ u'.1 34 (8 * fs.length + j'))
      rw [hu33, hu34]
      by_cases e : j' = nr
      · rw [if_pos (by omega), if_pos (by omega), e, hsn, hvx, hvy]
        exact ⟨rfl, fun _ => ⟨rfl, c⟩⟩
      · have := hsl j' (by omega)
        rw [if_neg (by omega), if_neg (by omega), this.1, hvv _ (Or.inr ⟨by omega, by omega⟩), hvv _ (Or.inr ⟨by omega, by omega⟩)]
        exact h13 j' (show j' < nr by omega)
    · rw [ht]
      exact SKS_none rfl hu8 hv48
    · have := phi_drop (pm := pm) (i' := i + 1) hi hn (Nat.lt_succ_self i) hi (fun _ => by rw [ht]) (j := 1) (by omega)
      unfold pot
      omega
  · rw [if_neg c] at hstep
    have fx : fxC u (q_sI (q_sI (q_sI (q_sI (q_sI (q_sI u 31 7 (nI (fo p + wo (pg p) i + 1))) 31 7 (nI (fo p + wo (pg p) i + 1 + 1))) 31 7 (nI (fo p + wo (pg p) i + 1 + 1 + 1))) 31 8 (nI (0 + 1))) 31 8 (nI 0)) 31 7 (tgC (pg p) (fo p) j)) := fxC_t (fxC_7 u 7 _ (by omega)) (fxC_t (fxC_7 _ 7 _ (by omega)) (fxC_t (fxC_7 _ 7 _ (by omega)) (fxC_t (fxC_7 _ 8 _ (by omega)) (fxC_t (fxC_7 _ 8 _ (by omega)) (fxC_7 _ 7 _ (by omega))))))
    have hw := wo_mono (W := pg p) (i := i + 1) (j := j) (by omega)
    refine ⟨1, fs, p, j, D, k, _, v', Nat.le_refl 1, STC_1 h10 hstep, fun rec => by rw [hr, if_neg c], XS_v hX0 c2 (fun q a b _ _ => fx.1 q a b) fx.2.1 rfl hv2 (fun j' hj' => ?_) (fun q a b _ => hvc q a b) hv0 (fun j' hj' => hvv j' (Or.inl hj')) (sI_same _ _ _ _) (by rw [hj]) ?_ ?_ ?_, ?_, Nat.le_refl _, Nat.le_refl _, fun _ e => absurd e hn, fun _ e => absurd e hn9⟩
    · rw [fx.1 33 (by decide) (by decide), fx.1 34 (by decide) (by decide)]
      exact ⟨rfl, rfl⟩
    · rw [hj]
      exact ⟨o1, o2, o3, o4, o5, o6⟩
    · rw [hj]
      intro j' hj'
      have hj' : j' < nr := hj'
      have := hsl j' hj'
      show (q_sI _ 31 7 _).1 33 (8 * fs.length + j') = v'.1 23 (16 * fs.length + sl j') ∧ (pm p ≤ j' → (q_sI _ 31 7 _).1 34 (8 * fs.length + j') = v'.1 23 (16 * fs.length + 8 + sl j') ∧ (q_sI _ 31 7 _).1 33 (8 * fs.length + j') ≤ (q_sI _ 31 7 _).1 34 (8 * fs.length + j'))
      rw [fx.1 33 (by decide) (by decide), fx.1 34 (by decide) (by decide), hvv _ (Or.inr ⟨by omega, by omega⟩), hvv _ (Or.inr ⟨by omega, by omega⟩)]
      exact h13 j' hj'
    · rw [hj]
      exact SKS_none rfl (by rw [sI_k _ _ _ _ _ (by decide), sI_same]) hv48
    · have := phi_drop (pm := pm) hi hn c1 c2 (fun _ => by rw [hj]) (j := 1) (by omega)
      unfold pot
      omega
/-- the end of a turn -/
theorem step_next (hX : XS W0 P s n pm fo fr pg ws cs b0 D0 M0 rC rR fs p i D k u v) (hG : PG s pm fo fr pg n ws cs) (hi : i < (pg p).length) (hK : KNext (pg p) (pS (pm p)) (fo p) (fr p) s i (itA (pg p) i) (pgE pg pm p i) (pgE pg pm p (i + 1))) : OUS W0 P s n pm fo fr pg ws cs b0 D0 M0 rC rR fs p i D k u v := by
  have hX0 := hX
  obtain ⟨h1, h2, h3, h4, h5, h6, h7, h8, h9, h10, h11, h12, h13, h14, h15, h16⟩ := hX
  have hd : fs.length ≤ 7 := by have := FRS_len fs p h2 h16; have := h1.2.2.2.2.2.1; omega
  obtain ⟨z0, zm, j, nn, sl', c1, c2, zn, hx, ht, hsl, hj, ho, hs2⟩ := hK
  have hj : pgE pg pm p j = pgE pg pm p i := hj
  have op : (itA (pg p) i).2.1 = nI 12 := by rw [hx]; rfl
  have hr0 := fun rec => ref_op hX0 hG hi (o := 12) (x := nI ((pgE pg pm p i).2.2.2 nn)) (y := tgR s (fr p) j) (by rw [hx]; rfl) rec (nI fs.length)
  obtain ⟨w0, w1, w2, wl, hs⟩ := tw3 hG h2 hi (a := 20) (b := nI nn) (c := tgC (pg p) (fo p) j) (by rw [hx])
  clear hx
  generalize hσ : pgE pg pm p i = σ at *
  obtain ⟨h, a, nr, sl⟩ := σ
  have z0 : h = 0 := z0
  have zm : a = none := zm
  have zn : nr = nn + 1 := zn
  subst z0
  subst zm
  subst zn
  have hsl : ∀ k, k < nn → sl' k = sl k := hsl
  have hs2 : 2 ≤ sl nn := hs2
  have hr0 : ∀ rec, fX11_does_h38 rec (nI fs.length) (nI (2000 * s + (fr p + i))) v = fX11_does_n375 rec (nI fs.length) (nI (2000 * s + (fr p + i))) (nI (sl nn)) (tgR s (fr p) j) (16 * nI fs.length) v := fun rec => hr0 rec
  obtain ⟨g1, g2, g3, g4, g5, g6⟩ := h14
  have g2 : u.1 31 8 = nI 0 := g2
  have g3 : v.1 0 48 = nI 0 := g3
  obtain ⟨o1, o2, o3, o4, o5, o6⟩ := h12
  have o1 : nn + 1 ≤ 8 := o1
  have o4 : ∀ j, j < nn + 1 → sl j < 8 := o4
  have o5 : ∀ j, j < pm p → sl j = j := o5
  have o6 : ∀ i j, i < j → j < nn + 1 → sl i < sl j := o6
  have o2 : pm p ≤ nn + 1 := o2
  have hpn : pm p ≤ nn := by
    by_cases c : pm p ≤ nn
    · exact c
    · have := o5 nn (by omega)
      omega
  have s8 : sl nn < 8 := o4 nn (by omega)
  have h13 : VLS (pm p) fs.length (0, none, nn + 1, sl) u v := h13
  obtain ⟨va, vb0⟩ := h13 nn (show nn < nn + 1 by omega)
  obtain ⟨vb, vc⟩ := vb0 hpn
  clear vb0
  have va : u.1 33 (8 * fs.length + nn) = v.1 23 (16 * fs.length + sl nn) := va
  have vb : u.1 34 (8 * fs.length + nn) = v.1 23 (16 * fs.length + 8 + sl nn) := vb
  generalize hX : u.1 33 (8 * fs.length + nn) = X at *
  generalize hY : u.1 34 (8 * fs.length + nn) = Y at *
  have hn : ¬ ((itA (pg p) i).2.1 = 8 ∨ (itA (pg p) i).2.1 = 11) := by rw [op]; decide
  have hn9 : ¬ (itA (pg p) i).2.1 = 9 := by rw [op]; decide
  have hstep : fX1_step u = some ((), if Y ≤ X then q_sI (q_sI (q_sI u 31 7 (nI (fo p + wo (pg p) i + 1))) 31 7 (nI (fo p + wo (pg p) i + 1 + 1))) 31 7 (nI (fo p + wo (pg p) i + 1 + 1 + 1)) else q_sI (q_sI (q_sI (q_sI (q_sI u 31 7 (nI (fo p + wo (pg p) i + 1))) 31 7 (nI (fo p + wo (pg p) i + 1 + 1))) 31 7 (nI (fo p + wo (pg p) i + 1 + 1 + 1))) 33 (8 * fs.length + nn) (X + 1)) 31 7 (tgC (pg p) (fo p) j)) := by
    rw [step_tw h1 h4 (by omega) (c := 20) w0 (by omega)]
    unfold fX1_step_n219 fX1_turn fX1_nextTurn
    rw [nextW (XE_7 h1 7 _) (sI_same _ _ _ _) (by omega), q_b_some, w1, if_neg (show ¬ nI 20 = 14 by decide), if_neg (show ¬ nI 20 = 15 by decide), if_neg (show ¬ nI 20 = 16 by decide), if_neg (show ¬ nI 20 = 17 by decide), if_neg (show ¬ nI 20 = 18 by decide), if_pos (show nI 20 = 20 from rfl), nextW (XE_7 (XE_7 h1 7 _) 7 _) (sI_same _ _ _ _) wl, q_b_some, w2]
    rw [sI_k _ _ _ _ _ (by decide), sI_k _ _ _ _ _ (by decide), sI_k _ _ _ _ _ (by decide), h5, em8, q_lt_eq, if_neg (nI_pos (by omega)), if_neg (by rw [show (64 : Int32) = nI 64 from rfl, nI_leI (by omega) (by omega)]; omega), if_neg (by rw [show (64 : Int32) = nI 64 from rfl, nI_leI (by omega) (by omega)]; omega), if_pos (q_inb_nI (by omega) (by omega)), if_pos (q_inb_nI (by omega) (by omega)), if_pos (q_inb_nI (by omega) (by omega)), if_pos (q_inb_nI (by omega) (by omega)), q_ix_nI (by omega), sI_cell _ _ _ _ 34 (by decide), sI_cell _ _ _ _ 34 (by decide), sI_cell _ _ _ _ 34 (by decide), sI_cell _ _ _ _ 33 (by decide), sI_cell _ _ _ _ 33 (by decide), sI_cell _ _ _ _ 33 (by decide), hX, hY]
    by_cases c : Y ≤ X
    · rw [if_pos c, if_pos c, q_b_some, q_b_some]
    · rw [if_neg c, if_neg c, q_lt_eq, q_lt_eq, q_b_some, q_b_some]
  have hr : ∀ rec : Int32 → Int32 → q_W → Option (Int32 × q_W), fX11_does_h38 rec (nI fs.length) (nI (2000 * s + (fr p + i))) v = if X = Y then rec (nI fs.length) (nI (2000 * s + (fr p + (i + 1)))) v else rec (nI fs.length) (nI (2000 * s + (fr p + j))) (q_sI v 23 (16 * fs.length + sl nn) (X + 1)) := by
    intro rec
    rw [hr0]
    unfold fX11_does_n375
    rw [em16, q_lt_eq, if_pos (q_inb_nI (by omega) (by omega)), em168, q_lt_eq, if_pos (q_inb_nI (by omega) (by omega)), q_ix_nI (show 16 * fs.length + sl nn < 2 ^ 31 by omega), q_ix_nI (show 16 * fs.length + 8 + sl nn < 2 ^ 31 by omega), ← va, ← vb]
    by_cases c : X = Y
    · rw [if_pos c, if_pos c, n890_r]
    · rw [if_neg c, if_neg c, q_lt_eq, if_pos (q_inb_nI (by omega) (by omega)), if_pos (q_inb_nI (by omega) (by omega)), q_lt_eq, q_ix_nI (show 16 * fs.length + sl nn < 2 ^ 31 by omega), ← va, q_lt_eq]
      unfold fX11_does_n890
      rw [q_lt_eq, show tgR s (fr p) j - 1 + 1 = tgR s (fr p) j by grind]
      rfl
  by_cases c : Y ≤ X
  · have e : X = Y := i32_anti vc c
    rw [if_pos c] at hstep
    have fx : fxC u (q_sI (q_sI (q_sI u 31 7 (nI (fo p + wo (pg p) i + 1))) 31 7 (nI (fo p + wo (pg p) i + 1 + 1))) 31 7 (nI (fo p + wo (pg p) i + 1 + 1 + 1))) := fxC_t (fxC_7 u 7 _ (by omega)) (fxC_t (fxC_7 _ 7 _ (by omega)) (fxC_7 _ 7 _ (by omega)))
    refine ⟨1, fs, p, i + 1, D, k, _, v, Nat.le_refl 1, STC_1 h10 hstep, fun rec => by rw [hr, if_pos e], XS_v hX0 hi (fun q a b _ _ => fx.1 q a b) fx.2.1 rfl rfl (fun j' hj' => ?_) (fun _ _ _ _ => rfl) (fun _ _ => rfl) (fun _ _ => rfl) (by rw [sI_same, hs]; rfl) (by rw [ht]) ?_ ?_ ?_, ?_, Nat.le_refl _, Nat.le_refl _, fun _ e => absurd e hn, fun _ e => absurd e hn9⟩
    · rw [fx.1 33 (by decide) (by decide), fx.1 34 (by decide) (by decide)]
      exact ⟨rfl, rfl⟩
    · rw [ht]
      refine ⟨by show nn ≤ 8; omega, hpn, o3, fun j' hj' => ?_, fun j' hj' => ?_, fun a b hab hb => ?_⟩
      · have hj' : j' < nn := hj'
        show sl' j' < 8
        rw [hsl j' hj']; exact o4 j' (by omega)
      · show sl' j' = j'
        rw [hsl j' (by omega)]; exact o5 j' hj'
      · have hb : b < nn := hb
        show sl' a < sl' b
        rw [hsl a (by omega), hsl b hb]; exact o6 a b hab (by omega)
    · rw [ht]
      intro j' hj'
      have hj' : j' < nn := hj'
      show (q_sI _ 31 7 _).1 33 (8 * fs.length + j') = v.1 23 (16 * fs.length + sl' j') ∧ (pm p ≤ j' → (q_sI _ 31 7 _).1 34 (8 * fs.length + j') = v.1 23 (16 * fs.length + 8 + sl' j') ∧ (q_sI _ 31 7 _).1 33 (8 * fs.length + j') ≤ (q_sI _ 31 7 _).1 34 (8 * fs.length + j'))
      rw [fx.1 33 (by decide) (by decide), fx.1 34 (by decide) (by decide), hsl j' hj']
      exact h13 j' (show j' < nn + 1 by omega)
    · rw [ht]
      exact SKS_none rfl (by rw [sI_k _ _ _ _ _ (by decide), sI_k _ _ _ _ _ (by decide), sI_k _ _ _ _ _ (by decide), g2]) g3
    · have := phi_drop (pm := pm) (i' := i + 1) hi hn (Nat.lt_succ_self i) hi (fun _ => by rw [ht]) (j := 1) (by omega)
      unfold pot
      omega
  · have e : ¬ X = Y := fun e => c (by rw [e]; exact Int32.le_refl _)
    rw [if_neg c] at hstep
    have hu : ∀ q, q ≠ 31 → q ≠ 33 → (q_sI (q_sI (q_sI (q_sI (q_sI u 31 7 (nI (fo p + wo (pg p) i + 1))) 31 7 (nI (fo p + wo (pg p) i + 1 + 1))) 31 7 (nI (fo p + wo (pg p) i + 1 + 1 + 1))) 33 (8 * fs.length + nn) (X + 1)) 31 7 (tgC (pg p) (fo p) j)).1 q = u.1 q := by
      intro q a b
      rw [sI_cell _ _ _ _ _ a, sI_cell _ _ _ _ _ b, sI_cell _ _ _ _ _ a, sI_cell _ _ _ _ _ a, sI_cell _ _ _ _ _ a]
    have hu31 : ∀ q, q ≠ 7 → (q_sI (q_sI (q_sI (q_sI (q_sI u 31 7 (nI (fo p + wo (pg p) i + 1))) 31 7 (nI (fo p + wo (pg p) i + 1 + 1))) 31 7 (nI (fo p + wo (pg p) i + 1 + 1 + 1))) 33 (8 * fs.length + nn) (X + 1)) 31 7 (tgC (pg p) (fo p) j)).1 31 q = u.1 31 q := by
      intro q a
      rw [sI_k _ _ _ _ _ a, sI_cell _ _ _ _ 31 (by decide), sI_k _ _ _ _ _ a, sI_k _ _ _ _ _ a, sI_k _ _ _ _ _ a]
    have hu33 : ∀ q, (q_sI (q_sI (q_sI (q_sI (q_sI u 31 7 (nI (fo p + wo (pg p) i + 1))) 31 7 (nI (fo p + wo (pg p) i + 1 + 1))) 31 7 (nI (fo p + wo (pg p) i + 1 + 1 + 1))) 33 (8 * fs.length + nn) (X + 1)) 31 7 (tgC (pg p) (fo p) j)).1 33 q = if q = 8 * fs.length + nn then X + 1 else u.1 33 q := by
      intro q
      rw [sI_cell _ _ _ _ 33 (by decide), sI_if, sI_cell _ _ _ _ 33 (by decide), sI_cell _ _ _ _ 33 (by decide), sI_cell _ _ _ _ 33 (by decide)]
    have hu7 : (q_sI (q_sI (q_sI (q_sI (q_sI u 31 7 (nI (fo p + wo (pg p) i + 1))) 31 7 (nI (fo p + wo (pg p) i + 1 + 1))) 31 7 (nI (fo p + wo (pg p) i + 1 + 1 + 1))) 33 (8 * fs.length + nn) (X + 1)) 31 7 (tgC (pg p) (fo p) j)).1 31 7 = nI (fo p + wo (pg p) j) := sI_same _ _ _ _
    have hu2 : (q_sI (q_sI (q_sI (q_sI (q_sI u 31 7 (nI (fo p + wo (pg p) i + 1))) 31 7 (nI (fo p + wo (pg p) i + 1 + 1))) 31 7 (nI (fo p + wo (pg p) i + 1 + 1 + 1))) 33 (8 * fs.length + nn) (X + 1)) 31 7 (tgC (pg p) (fo p) j)).2 = u.2 := rfl
    generalize hud : q_sI (q_sI (q_sI (q_sI (q_sI u 31 7 (nI (fo p + wo (pg p) i + 1))) 31 7 (nI (fo p + wo (pg p) i + 1 + 1))) 31 7 (nI (fo p + wo (pg p) i + 1 + 1 + 1))) 33 (8 * fs.length + nn) (X + 1)) 31 7 (tgC (pg p) (fo p) j) = u' at *
    refine ⟨1, fs, p, j, D, k, u', q_sI v 23 (16 * fs.length + sl nn) (X + 1), Nat.le_refl 1, STC_1 h10 hstep, fun rec => by rw [hr, if_neg e], XS_v hX0 (by omega) (fun q a _ b _ => hu q a b) (fun q a _ => hu31 q a) hu2 rfl (fun j' hj' => ?_) (fun q _ b _ => sI_cell _ _ _ _ _ b) (fun q _ => by rw [sI_cell _ _ _ _ 0 (by decide)]) (fun j' hj' => sI_k _ _ _ _ _ (by omega)) hu7 (by rw [hj]) ?_ ?_ ?_, ?_, Nat.le_refl _, Nat.le_refl _, fun _ e => absurd e hn, fun _ e => absurd e hn9⟩
    · rw [hu33, hu 34 (by decide) (by decide), if_neg (by omega)]
      exact ⟨rfl, rfl⟩
    · rw [hj]
      exact ⟨o1, o2, o3, o4, o5, o6⟩
    · rw [hj]
      intro j' hj'
      have hj' : j' < nn + 1 := hj'
      show u'.1 33 (8 * fs.length + j') = (q_sI v 23 (16 * fs.length + sl nn) (X + 1)).1 23 (16 * fs.length + sl j') ∧ (pm p ≤ j' → u'.1 34 (8 * fs.length + j') = (q_sI v 23 (16 * fs.length + sl nn) (X + 1)).1 23 (16 * fs.length + 8 + sl j') ∧ u'.1 33 (8 * fs.length + j') ≤ u'.1 34 (8 * fs.length + j'))
      have s8' := o4 j' hj'
      rw [hu33, hu 34 (by decide) (by decide), sI_k _ _ _ (X + 1) (16 * fs.length + 8 + sl j') (by omega)]
      by_cases ee : j' = nn
      · subst ee
        rw [if_pos rfl, sI_same, hY]
        exact ⟨rfl, fun _ => ⟨vb, i32_succ c⟩⟩
      · have := o6 j' nn (by omega) (by omega)
        rw [if_neg (by omega), sI_k _ _ _ _ _ (by omega)]
        exact h13 j' hj'
    · rw [hj]
      exact SKS_none rfl (by rw [hu31 8 (by decide), g2]) (by rw [sI_cell _ _ _ _ 0 (by decide), g3])
    · have e1 : phi pg pm p j = 0 := by
        unfold phi
        rw [if_pos ⟨by omega, Or.inr ho⟩]
      have e2 : 1 ≤ phi pg pm p i := by
        unfold phi
        rw [if_neg (fun c => hn c.2)]
        omega
      unfold pot
      omega
end
