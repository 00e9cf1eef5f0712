/-! the executor: DO -/
section
variable {W0 : q_W × q_W} {P s n : Nat} {pm fo fr : Nat → Nat} {pg : Nat → List AI} {ws : List Int32} {cs : List Tr} {b0 D0 M0 rC rR : Nat} {fs : List (Nat × Nat)} {p i D k : Nat} {u v : q_W}
theorem has_XE (h : XE W0 P s n pm fo fr ws cs u v) {q : Nat} (hq : q < n) : fX4_has P (nI q) u = some (1, u) := by
  obtain ⟨h1, h2, h3, h4, h5, h6, h7, _⟩ := h
  unfold fX4_has
  rw [if_pos (isP_c h1), if_neg (nI_pos (by omega)), h7, if_neg (by rw [nI_leI (by omega) (by omega)]; omega), if_neg (by rw [show (8 : Int32) = nI 8 from rfl, nI_leI (by omega) (by omega)]; omega)]
theorem needs_XE (h : XE W0 P s n pm fo fr ws cs u v) {q : Nat} (hq : q < n) : fX4_needs P (nI q) u = some (nI (pm q), u) := by
  have hh := has_XE h hq
  obtain ⟨h1, h2, h3, h4, h5, h6, h7, h8, h9, h10, h11, h12, h13⟩ := h
  unfold fX4_needs
  rw [if_pos (isP_c h1), hh, q_b_some, if_neg i_10, if_pos (q_inb_nI (by omega) (by omega)), isP_2 h1, q_ix_nI (by omega), (h13 q hq).2.1]
theorem startOf_XE (h : XE W0 P s n pm fo fr ws cs u v) {q : Nat} (hq : q < n) : fX4_startOf P (nI q) u = some (nI (fo q), u) := by
  have hh := has_XE h hq
  obtain ⟨h1, h2, h3, h4, h5, h6, h7, h8, h9, h10, h11, h12, h13⟩ := h
  unfold fX4_startOf
  rw [if_pos (isP_c h1), hh, q_b_some, if_neg i_10, if_pos (q_inb_nI (by omega) (by omega)), isP_1 h1, q_ix_nI (by omega), (h13 q hq).1]
theorem setV {d c : Nat} (h : u.1 31 9 = nI d) (hd : d ≤ 7) (hc : c < 8) (x : Int32) : fX1_setValue (nI c) x u = some ((), q_sI u 33 (8 * d + c) x) := by
  unfold fX1_setValue
  rw [h, em8, q_lt_eq, if_neg (nI_pos (by omega)), if_neg (by rw [show (64 : Int32) = nI 64 from rfl, nI_leI (by omega) (by omega)]; omega), if_pos (q_inb_nI (by omega) (by omega)), q_lt_eq, q_ix_nI (by omega)]
/-- the class enters -/
def eW (d : Nat) (x y z : Int32) (w : q_W) : q_W := q_sI (q_sI (q_sI (q_sI (q_sI w 35 d (w.1 31 7)) 31 9 (nI (d + 1))) 33 (8 * (d + 1) + 0) x) 33 (8 * (d + 1) + 1) y) 31 7 z
theorem enter_35 (h : XE W0 P s n pm fo fr ws cs u v) {q d : Nat} (hq : q < n) (h9 : u.1 31 9 = nI d) (hd : d ≤ 6) (x y : Int32) : fX1_enter_n35 (nI q) y x u = some ((), eW d x y (nI (fo q)) u) := by
  have hP : u.2.1 31 5 = P := h.2.2.1
  have hh := has_XE h hq
  have hw : XE W0 P s n pm fo fr ws cs (q_sI (q_sI (q_sI (q_sI u 35 d (u.1 31 7)) 31 9 (nI (d + 1))) 33 (8 * (d + 1) + 0) x) 33 (8 * (d + 1) + 1) y) v := XE_keep h (fun c a _ _ _ => by rw [sI_cell _ _ _ _ _ (by omega), sI_cell _ _ _ _ _ (by omega), sI_cell _ _ _ _ _ (by omega), sI_cell _ _ _ _ _ (by omega)]) rfl (fun _ _ _ => rfl) ⟨fun _ _ _ _ _ _ => rfl, rfl⟩
  have hP2 : (q_sI (q_sI (q_sI (q_sI u 35 d (u.1 31 7)) 31 9 (nI (d + 1))) 33 (8 * (d + 1) + 0) x) 33 (8 * (d + 1) + 1) y).2.1 31 5 = P := hP
  unfold fX1_enter_n35
  rw [hP, if_pos (isP_c h.1), hh, q_b_some, if_neg i_10, h9, if_neg (nI_pos (by omega)), if_pos (by rw [show (8 : Int32) - 1 = nI 7 from rfl, nI_ltI (by omega) (by omega)]; omega), q_lt_eq, if_pos (q_inb_nI (by omega) (by omega)), q_ix_nI (by omega), q_lt_eq, sI_cell _ _ _ _ 31 (by decide), h9, nI_1, q_lt_eq]
  have s0 := fun w a => setV (u := w) (d := d + 1) (c := 0) a (by omega) (by omega) x
  have s1 := fun w a => setV (u := w) (d := d + 1) (c := 1) a (by omega) (by omega) y
  rw [nI_0] at s0
  rw [s0 _ (sI_same _ _ _ _), q_b_some, show (1 : Int32) = nI 1 from rfl, s1 _ (by rw [sI_cell _ _ _ _ 31 (by decide), sI_same]), q_b_some, hP2, if_pos (isP_c h.1), startOf_XE hw hq, q_b_some, q_lt_eq]
  rfl
theorem l664_ok {q m X : Nat} (hq : q < 8) (hs : s < 2) (hm : m ≤ 2) (hX : X ≤ 7) (hf : 2000 * s + fr q < 4000) : ∀ d N j (w : q_W), j + d = m → d < N → w.1 0 48 = 0 → w.1 0 18 = nI s → w.1 11 (8 * s + q) = nI (2000 * s + fr q) → ∃ w', (∀ rec : Int32 → Int32 → q_W → Option (Int32 × q_W), q_it N (fX11_does_h664 rec) (fun _ _ _ _ _ => none) (nI X) (nI q) (nI m) (nI j) w = rec (nI X) (nI (2000 * s + (fr q + 0))) w') ∧ (∀ c, c ≠ 23 → w'.1 c = w.1 c) ∧ w'.2 = w.2 ∧ ∀ t, w'.1 23 t = if 16 * X + j ≤ t ∧ t < 16 * X + m then w.1 25 (t - 16 * X) else w.1 23 t := by
  intro d
  induction d with
  | zero =>
    intro N j w hj hN h48 h18 h11
    obtain ⟨N, rfl⟩ : ∃ a, N = a + 1 := ⟨N - 1, by omega⟩
    refine ⟨w, fun rec => ?_, fun _ _ => rfl, rfl, fun t => by rw [if_neg (by omega)]⟩
    rw [q_itS, fX11_does_h664, if_pos (by rw [nI_leI (by omega) (by omega)]; omega), h18, show (8 : Int32) = nI 8 from rfl, pk_mul, nI_add, q_lt_eq, if_pos (q_inb_nI (by omega) (by omega)), q_ix_nI (by omega), h11, q_lt_eq]
    unfold fX11_does_n890
    rw [q_lt_eq, show nI (2000 * s + fr q) - 1 + 1 = nI (2000 * s + fr q) by grind]
    rfl
  | succ d ih =>
    intro N j w hj hN h48 h18 h11
    obtain ⟨N, rfl⟩ : ∃ a, N = a + 1 := ⟨N - 1, by omega⟩
    obtain ⟨w', e1, e2, e3, e4⟩ := ih N (j + 1) (q_sI w 23 (16 * X + j) (w.1 25 j)) (by omega) (by omega) (by rw [sI_cell _ _ _ _ 0 (by decide)]; exact h48) (by rw [sI_cell _ _ _ _ 0 (by decide)]; exact h18) (by rw [sI_cell _ _ _ _ 11 (by decide)]; exact h11)
    refine ⟨w', fun rec => ?_, fun c hc => by rw [e2 c hc, sI_cell _ _ _ _ _ hc], e3, fun t => ?_⟩
    · rw [q_itS, fX11_does_h664, if_neg (by rw [nI_leI (by omega) (by omega)]; omega), h48, show (0 : Int32) + nI j = nI j by grind, q_lt_eq, if_pos (q_inb_nI (by omega) (by omega)), em16, q_lt_eq, if_pos (q_inb_nI (by omega) (by omega)), q_ix_nI (by omega), q_ix_nI (by omega), q_lt_eq, q_lt_eq, nI_1, e1]
    · rw [e4, sI_if, sI_cell _ _ _ _ 25 (by decide)]
      by_cases c1 : 16 * X + (j + 1) ≤ t ∧ t < 16 * X + m
      · rw [if_pos c1, if_pos (by omega)]
      · rw [if_neg c1]
        by_cases c2 : t = 16 * X + j
        · rw [if_pos c2, if_pos (by omega), c2, show 16 * X + j - 16 * X = j by omega]
        · rw [if_neg c2, if_neg (by omega)]
theorem eW_cell (d : Nat) (x y z : Int32) (w : q_W) {q : Nat} (h1 : q ≠ 31) (h2 : q ≠ 33) (h3 : q ≠ 35) : (eW d x y z w).1 q = w.1 q := by
  unfold eW
  rw [sI_cell _ _ _ _ _ h1, sI_cell _ _ _ _ _ h2, sI_cell _ _ _ _ _ h2, sI_cell _ _ _ _ _ h1, sI_cell _ _ _ _ _ h3]
theorem eW_31 (d : Nat) (x y z : Int32) (w : q_W) {q : Nat} (h1 : q ≠ 7) (h2 : q ≠ 9) : (eW d x y z w).1 31 q = w.1 31 q := by
  unfold eW
  rw [sI_k _ _ _ _ _ h1, sI_cell _ _ _ _ 31 (by decide), sI_cell _ _ _ _ 31 (by decide), sI_k _ _ _ _ _ h2, sI_cell _ _ _ _ 31 (by decide)]
theorem eW_7 (d : Nat) (x y z : Int32) (w : q_W) : (eW d x y z w).1 31 7 = z := sI_same _ _ _ _
theorem eW_9 (d : Nat) (x y z : Int32) (w : q_W) : (eW d x y z w).1 31 9 = nI (d + 1) := by
  unfold eW
  rw [sI_k _ _ _ _ _ (by decide), sI_cell _ _ _ _ 31 (by decide), sI_cell _ _ _ _ 31 (by decide), sI_same]
theorem eW_35 (d : Nat) (x y z : Int32) (w : q_W) (j : Nat) : (eW d x y z w).1 35 j = if j = d then w.1 31 7 else w.1 35 j := by
  unfold eW
  rw [sI_cell _ _ _ _ 35 (by decide), sI_cell _ _ _ _ 35 (by decide), sI_cell _ _ _ _ 35 (by decide), sI_cell _ _ _ _ 35 (by decide), sI_if]
theorem eW_33 (d : Nat) (x y z : Int32) (w : q_W) (j : Nat) : (eW d x y z w).1 33 j = if j = 8 * (d + 1) + 1 then y else if j = 8 * (d + 1) + 0 then x else w.1 33 j := by
  unfold eW
  rw [sI_cell _ _ _ _ 33 (by decide), sI_if, sI_if, sI_cell _ _ _ _ 33 (by decide), sI_cell _ _ _ _ 33 (by decide)]
/-- DO -/
theorem step_do (hX : XS W0 P s n pm fo fr pg ws cs b0 D0 M0 rC rR fs p i D k u v) (hG : PG s pm fo fr pg n ws cs) (hi : i < (pg p).length) (hK : KDo pm p (itA (pg p) i) (pgE pg pm p i) (pgE pg pm p (i + 1))) : OUS W0 P s n pm fo fr pg ws cs b0 D0 M0 rC rR fs p i D k u v := by
  have hX0 := hX
  obtain ⟨h1, h2, h3, h4, h5, h6, h7, h8, h9, h10, h11, h12, h13, h14, h15, h16⟩ := hX
  obtain ⟨q, hq, hx, z0, zm, ht⟩ := hK
  have hd : fs.length ≤ 6 := by have := FRS_len fs p h2 h16; have := h1.2.2.2.2.2.1; omega
  have hn8 : n ≤ 8 := h1.2.2.2.2.2.1
  have hs2 : s < 2 := h1.2.1
  have h18 : v.1 0 18 = nI s := h1.2.2.2.2.1
  have h11q := (h1.2.2.2.2.2.2.2.2.2.2.2.2 q (by omega)).2.2.2
  obtain ⟨pm2, _, hpg0, _, _, _⟩ := hG q (by omega)
  have hpg0 : pgE pg pm q 0 = pS (pm q) := hpg0
  have hfq : 2000 * s + fr q < 4000 := by
    have := (lookR hG (p := q) (by omega) (i := 0) (Nat.zero_le _)).2
    have := h1.2.2.2.2.2.2.2.2.2.2.1
    omega
  have op : (itA (pg p) i).2.1 = nI 17 := by rw [hx]; rfl
  have hr0 := fun rec => ref_op hX0 hG hi (o := 17) (x := nI q) (y := nI (pm q)) (by rw [hx]; rfl) rec (nI fs.length)
  obtain ⟨w0, w1, wl, hs⟩ := tw2 hG h2 hi (a := 22) (b := nI q) (by rw [hx])
  have ref0 := ref_at hX0 hG hi
  clear hx
  generalize hσ : pgE pg pm p i = σ at *
  obtain ⟨h, a, r⟩ := σ
  have z0 : h = pm q := z0
  have zm : a = some 8 := zm
  subst z0
  subst zm
  have ht : pgE pg pm p (i + 1) = (0, none, r) := ht
  have hr0 : ∀ rec, fX11_does_h38 rec (nI fs.length) (nI (2000 * s + (fr p + i))) v = fX11_does_n638 rec (nI fs.length) (nI (2000 * s + (fr p + i))) (nI q) (nI (pm q)) v := fun rec => hr0 rec
  obtain ⟨g1, g2, g3, g4, g5, g6⟩ := h14
  have g2 : u.1 31 8 = nI (ofs (some 8) + pm q) := g2
  have g2 : u.1 31 8 = nI (pm q) := by rw [g2, ofs_8, Nat.zero_add]
  have g3 : v.1 0 48 = nI (pm q) := g3
  have g4 : ∀ j, j < pm q → u.1 32 j = v.1 25 j := fun j hj => by
    have := g4 j hj
    have : u.1 32 (ofs (some 8) + j) = v.1 25 j := this
    rw [ofs_8, Nat.zero_add] at this
    exact this
  have o12 : okS (pm p) (0, none, r) := h12
  have v13 : VLS (pm p) fs.length (0, none, r) u v := h13
  -- the reference
  have l := l664_ok (fr := fr) (q := q) (m := pm q) (X := fs.length + 1) (by omega) hs2 pm2 (by omega) hfq (pm q) q_N 0 (q_sI (q_sI v 24 fs.length (nI (2000 * s + (fr p + i)))) 0 48 0) (by omega) (by
    have : 2 < q_N := Nat.le_of_ble_eq_true rfl
    omega) (sI_same _ _ _ _) (by rw [sI_k _ _ _ _ _ (by decide), sI_cell _ _ _ _ 0 (by decide), h18]) (by rw [sI_cell _ _ _ _ 11 (by decide), sI_cell _ _ _ _ 11 (by decide), h11q])
  obtain ⟨v', l1, l2, l3, l4⟩ := l
  have hr : ∀ rec : Int32 → Int32 → q_W → Option (Int32 × q_W), fX11_does_h38 rec (nI fs.length) (nI (2000 * s + (fr p + i))) v = rec (nI (fs.length + 1)) (nI (2000 * s + (fr q + 0))) v' := by
    intro rec
    rw [hr0, ← l1 rec]
    unfold fX11_does_n638 fX11_does_l664
    rw [if_pos (q_inb_nI (by omega) (by omega)), q_lt_eq, q_lt_eq, q_ix_nI (by omega), q_lt_eq, sI_cell _ _ _ _ 0 (by decide), g3, show nI (pm q) - nI (pm q) = 0 by grind, nI_1, nI_0]
  have v24 : ∀ j, v'.1 24 j = if j = fs.length then nI (2000 * s + (fr p + i)) else v.1 24 j := fun j => by
    rw [l2 24 (by decide), sI_cell _ _ _ _ 24 (by decide), sI_if]
  have vc : ∀ c, c ≠ 0 → c ≠ 23 → c ≠ 24 → v'.1 c = v.1 c := fun c a b d => by
    rw [l2 c b, sI_cell _ _ _ _ _ a, sI_cell _ _ _ _ _ d]
  have v0 : ∀ c, c ≠ 48 → v'.1 0 c = v.1 0 c := fun c a => by
    rw [l2 0 (by decide), sI_k _ _ _ _ _ a, sI_cell _ _ _ _ 0 (by decide)]
  have v48 : v'.1 0 48 = nI 0 := by
    rw [l2 0 (by decide), sI_same]; rfl
  have v23 : ∀ t, v'.1 23 t = if 16 * (fs.length + 1) + 0 ≤ t ∧ t < 16 * (fs.length + 1) + pm q then v.1 25 (t - 16 * (fs.length + 1)) else v.1 23 t := fun t => by
    rw [l4, sI_cell _ _ _ _ 25 (by decide), sI_cell _ _ _ _ 25 (by decide), sI_cell _ _ _ _ 23 (by decide), sI_cell _ _ _ _ 23 (by decide)]
  -- the class
  have hcls : ∃ u' x y, fX1_step u = some ((), u') ∧ (0 < pm q → x = u.1 32 0) ∧ (1 < pm q → y = u.1 32 1) ∧ (∀ c, c ≠ 31 → c ≠ 33 → c ≠ 35 → u'.1 c = u.1 c) ∧ (∀ c, c ≠ 7 → c ≠ 8 → c ≠ 9 → u'.1 31 c = u.1 31 c) ∧ u'.1 31 7 = nI (fo q) ∧ u'.1 31 8 = nI 0 ∧ u'.1 31 9 = nI (fs.length + 1) ∧ (∀ j, u'.1 35 j = if j = fs.length then nI (fo p + wo (pg p) (i + 1)) else u.1 35 j) ∧ (∀ j, u'.1 33 j = if j = 8 * (fs.length + 1) + 1 then y else if j = 8 * (fs.length + 1) + 0 then x else u.1 33 j) ∧ u'.2 = u.2 := by
    have hst : fX1_step u = q_b (fX1_enter (nI q) (q_sI (q_sI u 31 7 (nI (fo p + wo (pg p) i + 1))) 31 7 (nI (fo p + wo (pg p) i + 1 + 1)))) fun _ w => some ((), w) := by
      unfold fX1_step
      rw [nextW h1 h4 (by omega), q_b_some, w0, if_neg (by decide), if_neg (by decide), if_neg (by decide), if_neg (by decide), if_neg (by decide), if_neg (by decide), if_neg (by decide), if_pos rfl, nextW (XE_7 h1 7 _) (sI_same _ _ _ _) wl, q_b_some, w1]
    have hw7 : (q_sI (q_sI u 31 7 (nI (fo p + wo (pg p) i + 1))) 31 7 (nI (fo p + wo (pg p) i + 1 + 1))).1 31 7 = nI (fo p + wo (pg p) (i + 1)) := by rw [sI_same, hs]; rfl
    have hwc : ∀ c, c ≠ 31 → (q_sI (q_sI u 31 7 (nI (fo p + wo (pg p) i + 1))) 31 7 (nI (fo p + wo (pg p) i + 1 + 1))).1 c = u.1 c := fun c a => by rw [sI_cell _ _ _ _ _ a, sI_cell _ _ _ _ _ a]
    have hw31 : ∀ c, c ≠ 7 → (q_sI (q_sI u 31 7 (nI (fo p + wo (pg p) i + 1))) 31 7 (nI (fo p + wo (pg p) i + 1 + 1))).1 31 c = u.1 31 c := fun c a => by rw [sI_k _ _ _ _ _ a, sI_k _ _ _ _ _ a]
    have hwE : XE W0 P s n pm fo fr ws cs (q_sI (q_sI u 31 7 (nI (fo p + wo (pg p) i + 1))) 31 7 (nI (fo p + wo (pg p) i + 1 + 1))) v := XE_7 (XE_7 h1 7 _) 7 _
    have hw2 : (q_sI (q_sI u 31 7 (nI (fo p + wo (pg p) i + 1))) 31 7 (nI (fo p + wo (pg p) i + 1 + 1))).2 = u.2 := rfl
    generalize q_sI (q_sI u 31 7 (nI (fo p + wo (pg p) i + 1))) 31 7 (nI (fo p + wo (pg p) i + 1 + 1)) = w at *
    have fin : ∀ (w' : q_W) (x y : Int32), fX1_enter (nI q) w = fX1_enter_n35 (nI q) y x w' → fxC w w' → w'.1 31 7 = w.1 31 7 → w'.1 31 8 = nI 0 → w'.1 32 = w.1 32 → (0 < pm q → x = u.1 32 0) → (1 < pm q → y = u.1 32 1) → ∃ u' x y, fX1_step u = some ((), u') ∧ (0 < pm q → x = u.1 32 0) ∧ (1 < pm q → y = u.1 32 1) ∧ (∀ c, c ≠ 31 → c ≠ 33 → c ≠ 35 → u'.1 c = u.1 c) ∧ (∀ c, c ≠ 7 → c ≠ 8 → c ≠ 9 → u'.1 31 c = u.1 31 c) ∧ u'.1 31 7 = nI (fo q) ∧ u'.1 31 8 = nI 0 ∧ u'.1 31 9 = nI (fs.length + 1) ∧ (∀ j, u'.1 35 j = if j = fs.length then nI (fo p + wo (pg p) (i + 1)) else u.1 35 j) ∧ (∀ j, u'.1 33 j = if j = 8 * (fs.length + 1) + 1 then y else if j = 8 * (fs.length + 1) + 0 then x else u.1 33 j) ∧ u'.2 = u.2 := by
      intro w' x y he fx f7 f8 f32 ex ey
      have f9 : w'.1 31 9 = nI fs.length := by rw [fx.2.1 9 (by decide) (by decide), hw31 9 (by decide), h5]
      refine ⟨eW fs.length x y (nI (fo q)) w', x, y, by rw [hst, he, enter_35 (XE_fx hwE fx) (by omega) f9 hd, q_b_some], ex, ey, fun c a b d => ?_, fun c a b d => ?_, eW_7 _ _ _ _ _, ?_, eW_9 _ _ _ _ _, fun j => ?_, fun j => ?_, ?_⟩
      · rw [eW_cell _ _ _ _ _ a b d]
        by_cases e : c = 32
        · rw [e, f32, hwc 32 (by decide)]
        · rw [fx.1 c a e, hwc c a]
      · rw [eW_31 _ _ _ _ _ a d, fx.2.1 c a b, hw31 c a]
      · rw [eW_31 _ _ _ _ _ (by decide) (by decide), f8]
      · rw [eW_35, f7, hw7, fx.1 35 (by decide) (by decide), hwc 35 (by decide)]
      · rw [eW_33, fx.1 33 (by decide) (by decide), hwc 33 (by decide)]
      · show w'.2 = u.2
        rw [fx.2.2, hw2]
    have hn := needs_XE hwE (show q < n by omega)
    have hP : w.2.1 31 5 = P := hwE.2.2.1
    have c012 : pm q = 0 ∨ pm q = 1 ∨ pm q = 2 := by omega
    rcases c012 with c | c | c
    · rw [c] at hn g2
      refine fin w 0 0 ?_ (fxC_r w) rfl (by rw [hw31 8 (by decide), g2]) rfl (fun a => by omega) (fun a => by omega)
      unfold fX1_enter fX1_enter_n22
      rw [hP, if_pos (isP_c h1.1), hn, q_b_some, if_pos (show nI 0 ≤ 1 by decide), if_pos (show nI 0 ≤ 0 by decide)]
    · rw [c] at hn g2
      refine fin (q_sI w 31 8 (nI 0)) (u.1 32 0) 0 ?_ (fxC_7 w 8 _ (by omega)) (sI_k _ _ _ _ _ (by decide)) (sI_same _ _ _ _) (sI_cell _ _ _ _ _ (by decide)) (fun _ => rfl) (fun a => by omega)
      unfold fX1_enter fX1_enter_n22
      rw [hP, if_pos (isP_c h1.1), hn, q_b_some, if_pos (show nI 1 ≤ 1 by decide), if_neg (show ¬ nI 1 ≤ 0 by decide), pop_c (t := 0) (by rw [hw31 8 (by decide), g2]) (by omega), q_b_some, hwc 32 (by decide)]
    · rw [c] at hn g2
      refine fin (q_sI (q_sI w 31 8 (nI 1)) 31 8 (nI 0)) (u.1 32 0) (u.1 32 1) ?_ (fxC_t (fxC_7 w 8 _ (by omega)) (fxC_7 _ 8 _ (by omega))) (by rw [sI_k _ _ _ _ _ (by decide), sI_k _ _ _ _ _ (by decide)]) (sI_same _ _ _ _) (by rw [sI_cell _ _ _ _ _ (by decide), sI_cell _ _ _ _ _ (by decide)]) (fun _ => rfl) (fun _ => rfl)
      unfold fX1_enter fX1_enter_n22
      rw [hP, if_pos (isP_c h1.1), hn, q_b_some, if_neg (show ¬ nI 2 ≤ 1 by decide), pop_c (t := 1) (by rw [hw31 8 (by decide), g2]) (by omega), q_b_some, if_neg (show ¬ nI 2 ≤ 0 by decide), pop_c (t := 0) (sI_same _ _ _ _) (by omega), q_b_some, sI_cell _ _ _ _ 32 (by decide), hwc 32 (by decide)]
  obtain ⟨u', x, y, hstep, ex, ey, uc, u31, u7, u8, u9, u35, u33, u2⟩ := hcls
  have hn : ¬ ((itA (pg p) i).2.1 = 8 ∨ (itA (pg p) i).2.1 = 11) := by rw [op]; decide
  have hn9 : ¬ (itA (pg p) i).2.1 = 9 := by rw [op]; decide
  have keep33 : ∀ j, j < 8 * (fs.length + 1) → u'.1 33 j = u.1 33 j := fun j hj => by rw [u33, if_neg (by omega), if_neg (by omega)]
  have keep23 : ∀ j, j < 16 * (fs.length + 1) → v'.1 23 j = v.1 23 j := fun j hj => by rw [v23, if_neg (by omega)]
  have u34 : u'.1 34 = u.1 34 := uc 34 (by decide) (by decide) (by decide)
  refine ⟨1, (p, i + 1) :: fs, q, 0, D, k, u', v', Nat.le_refl 1, STC_1 h10 hstep, hr, ⟨?_, by omega, Nat.zero_le _, ?_, u9, by rw [u31 10 (by decide) (by decide) (by decide), h6], by rw [v0 39 (by decide), h7], h8, by rw [u31 12 (by decide) (by decide) (by decide), h9], by rw [u31 13 (by decide) (by decide) (by decide), h10], fun c => by rw [hpg0] at c; exact absurd rfl c, ?_, ?_, ?_, ?_, ?_⟩, ?_, Nat.le_refl _, Nat.le_refl _, fun _ e => absurd e hn, fun _ e => absurd e hn9⟩
  · exact XE_keep h1 (fun c a _ _ _ => uc c (by omega) (by omega) (by omega)) (by rw [u2]) (fun c a b => vc c a (by omega) (by omega)) ⟨fun q _ _ _ _ x => v0 q x, by rw [l3]; rfl⟩
  · rw [u7, wo_0]; rfl
  · rw [hpg0]
    exact ⟨by show pm q ≤ 8; omega, Nat.le_refl _, pm2, fun j hj => by have hj : j < pm q := hj; show j < 8; omega, fun _ _ => rfl, fun _ _ a _ => a⟩
  · rw [hpg0]
    intro j hj
    have hj : j < pm q := hj
    show u'.1 33 (8 * (fs.length + 1) + j) = v'.1 23 (16 * (fs.length + 1) + j) ∧ (pm q ≤ j → _)
    refine ⟨?_, fun c => absurd c (by omega)⟩
    rw [u33, v23, if_pos (show 16 * (fs.length + 1) + 0 ≤ 16 * (fs.length + 1) + j ∧ 16 * (fs.length + 1) + j < 16 * (fs.length + 1) + pm q by omega), show 16 * (fs.length + 1) + j - 16 * (fs.length + 1) = j by omega, ← g4 j hj]
    have : j = 0 ∨ j = 1 := by omega
    rcases this with rfl | rfl
    · rw [if_neg (by omega), if_pos rfl, ex hj]
    · rw [if_pos rfl, ey hj]
  · rw [hpg0]
    exact SKS_none rfl u8 v48
  · exact RWS_keep h15 (fun c a => uc c (by omega) (by omega) (by omega)) (fun c a => v0 c (by omega)) (fun c a => vc c (by omega) (by omega) (by omega))
  · refine ⟨hq, h2, by omega, hi, ?_, ?_, by rw [ht], by rw [ht], by rw [ht]; exact o12, ?_, ?_⟩
    · rw [u35, if_pos rfl]
    · rw [v24, if_pos rfl]; rfl
    · rw [ht]
      exact VLS_keep v13 o12 (fun j hj => ⟨keep33 _ (by omega), by rw [u34]⟩) (fun j hj => keep23 _ (by omega))
    · exact FRS_keep fs p h16 (fun j hj => ⟨by rw [u35, if_neg (by omega)], by rw [v24, if_neg (by omega)]⟩) (fun j hj => ⟨keep33 _ (by omega), by rw [u34]⟩) (fun j hj => keep23 _ (by omega))
  · have e0 : phs pg pm ((p, i + 1) :: fs) = phi pg pm p (i + 1) + phs pg pm fs := rfl
    have e1 : phi pg pm q 0 ≤ (wds ((pg q).map Prod.fst)).length + 1 := by
      unfold phi
      by_cases c : 0 < (pg q).length ∧ ((itA (pg q) 0).2.1 = 8 ∨ (itA (pg q) 0).2.1 = 11)
      · rw [if_pos c]; omega
      · rw [if_neg c, hpg0, if_pos rfl]; omega
    have e2 := (lookE hG (p := q) (by omega)).2
    rw [wo_len] at e2
    have e3 := h1.2.2.2.2.2.2.2.2.1
    have e4 : phi pg pm p (i + 1) ≤ ((wds ((pg p).map Prod.fst)).length - wo (pg p) (i + 1)) + 1 := by
      unfold phi
      by_cases c : i + 1 < (pg p).length ∧ ((itA (pg p) (i + 1)).2.1 = 8 ∨ (itA (pg p) (i + 1)).2.1 = 11)
      · rw [if_pos c]; omega
      · rw [if_neg c, ht, if_pos rfl]; omega
    have e5 : phi pg pm p i = ((wds ((pg p).map Prod.fst)).length - wo (pg p) i) + 1 + 1700 := by
      unfold phi
      rw [if_neg (fun c => hn c.2), hσ, if_neg (show ¬ (some 8 : Option Nat) = none by intro c; cases c)]
    unfold pot
    omega
end
