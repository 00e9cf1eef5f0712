/-! the executor: a stroke -/
theorem add9_lok (m : Nat) (hk : m < 480) : ∀ d N j (w : q_W), j + d = 6 → d < N → w.1 9 2 = nI m → ∃ w', q_it N (fX6_add_h38 9 36) (fun _ _ => none) (nI j) w = some (nI m, w') ∧ w'.2 = w.2 ∧ (∀ q, q ≠ 11 → q ≠ 9 → w'.1 q = w.1 q) ∧ w'.1 9 2 = nI (m + 1) ∧ (∀ i, i ≠ 2 → w'.1 9 i = w.1 9 i) ∧ (∀ i, w'.1 11 i = if 6 * m + j ≤ i ∧ i < 6 * m + 6 then w.1 36 (i - 6 * m) else w.1 11 i) := by
  have hl6 : lC 36 = 6 := by decide
  intro d
  induction d with
  | zero =>
    intro N j w h hN hw
    obtain ⟨N, rfl⟩ : ∃ M, N = M + 1 := ⟨N - 1, by omega⟩
    have h6 : (6 : Int32) ≤ nI j := by rw [show (6 : Int32) = nI 6 from rfl, nI_leI (by omega) (by omega)]; omega
    rw [q_itS, fX6_add_h38, if_pos h6]
    unfold fX6_add_n73
    rw [q_lt_eq, hw, nI_1, sI_same, nI_pred]
    refine ⟨_, rfl, rfl, fun q h1 h2 => sI_cell _ _ _ _ _ h2, sI_same _ _ _ _, fun i hi => sI_k _ _ _ _ _ hi, fun i => ?_⟩
    rw [if_neg (by omega), sI_cell _ _ _ _ _ (by decide)]
  | succ d ih =>
    intro N j w h hN hw
    obtain ⟨N, rfl⟩ : ∃ M, N = M + 1 := ⟨N - 1, by omega⟩
    have h6 : ¬ (6 : Int32) ≤ nI j := by rw [show (6 : Int32) = nI 6 from rfl, nI_leI (by omega) (by omega)]; omega
    have hib : q_inb (nI j) (lC 36) := by rw [hl6]; exact q_inb_nI (show j < 6 by omega) (by decide)
    have e : nI m * 6 + nI j = nI (6 * m + j) := by
      rw [show (6 : Int32) = nI 6 from rfl, pk_mul, nI_add, Nat.mul_comm]
    rw [q_itS, fX6_add_h38, if_neg h6, if_neg (show ¬ (Int32.ofNat (lC 36)) ≤ nI j by rw [hl6]; exact h6), if_pos hib, q_lt_eq, hw, e, if_pos (q_inb_nI (by omega) (by omega)), q_lt_eq, q_lt_eq, nI_1, q_ix_nI (by omega), q_ix_nI (by omega)]
    have e6 : fC 9 1 = 11 := rfl
    rw [e6]
    obtain ⟨w', e1, e2, e3, e4, e5, e6⟩ := ih N (j + 1) (q_sI w 11 (6 * m + j) (w.1 36 j)) (by omega) (by omega) (by rw [sI_cell _ _ _ _ _ (by decide)]; exact hw)
    refine ⟨w', e1, e2, fun q h1 h2 => (e3 q h1 h2).trans (sI_cell _ _ _ _ _ h1), e4, fun i hi => (e5 i hi).trans (by rw [sI_cell _ _ _ _ _ (by decide)]), fun i => ?_⟩
    rw [e6 i, sI_cell _ _ _ _ 36 (by decide)]
    by_cases ei : i = 6 * m + j
    · subst ei
      rw [if_neg (by omega), if_pos (by omega), sI_same]
      rw [Nat.add_sub_cancel_left]
    · rw [sI_k _ _ _ _ _ ei]
      by_cases h1 : 6 * m + j ≤ i ∧ i < 6 * m + 6
      · rw [if_pos h1, if_pos (by omega)]
      · rw [if_neg h1, if_neg (by omega)]
theorem full9 {m L : Nat} {w : q_W} (hL : L ≤ 480) (hm : m ≤ L) (hw : w.1 9 2 = nI m) (hl : w.1 9 3 = nI L) : fX6_isFull 9 w = some (if m < L then 0 else 1, w) := by
  unfold fX6_isFull
  rw [if_pos (by decide), hw, hl]
  by_cases h : m < L
  · rw [if_pos h, if_pos (by rw [nI_ltI (by omega) (by omega)]; exact h)]
  · rw [if_neg h, if_neg (by rw [nI_ltI (by omega) (by omega)]; exact h)]
theorem add9_ok {m L : Nat} {w : q_W} (hL : L ≤ 480) (hm : m < L) (hw : w.1 9 2 = nI m) (hl : w.1 9 3 = nI L) (c : Int32) : ∃ w', fX6_add 9 c 36 w = some (nI m, w') ∧ w'.2 = w.2 ∧ (∀ q, q ≠ 9 → q ≠ 10 → q ≠ 11 → w'.1 q = w.1 q) ∧ w'.1 9 2 = nI (m + 1) ∧ (∀ i, i ≠ 2 → w'.1 9 i = w.1 9 i) ∧ w'.1 10 m = c ∧ (∀ i, i ≠ m → w'.1 10 i = w.1 10 i) ∧ (∀ j, j < 6 → w'.1 11 (6 * m + j) = w.1 36 j) ∧ ∀ i, i < 6 * m → w'.1 11 i = w.1 11 i := by
  unfold fX6_add
  rw [if_pos (by decide), if_pos (by decide), full9 hL (by omega) hw hl, if_pos hm, q_b_some, if_pos rfl, hw, if_neg (nI_pos (by omega)), show (480 : Int32) = nI 480 from rfl, if_pos (by rw [nI_ltI (by omega) (by omega)]; omega), q_lt_eq, if_pos (q_inb_nI (by omega) (by omega)), q_lt_eq, q_ix_nI (by omega)]
  have e5 : fC 9 0 = 10 := rfl
  rw [e5]
  unfold fX6_add_l38
  obtain ⟨w', e1, e2, e3, e4, e5, e6⟩ := add9_lok m (by omega) 6 q_N 0 (q_sI w 10 m c) rfl (Nat.le_of_ble_eq_true rfl) (by rw [sI_cell _ _ _ _ _ (by decide)]; exact hw)
  rw [nI_0] at e1
  refine ⟨w', e1, e2, fun q h1 h2 h3 => (e3 q h3 h1).trans (sI_cell _ _ _ _ _ h2), e4, fun i hi => (e5 i hi).trans (by rw [sI_cell _ _ _ _ _ (by decide)]), ?_, fun i hi => ?_, fun j hj => ?_, fun i hi => ?_⟩
  · rw [e3 10 (by decide) (by decide), sI_same]
  · rw [e3 10 (by decide) (by decide), sI_k _ _ _ _ _ hi]
  · rw [e6, if_pos (by omega), sI_cell _ _ _ _ _ (by decide)]
    rw [Nat.add_sub_cancel_left]
  · rw [e6, if_neg (by omega), sI_cell _ _ _ _ _ (by decide)]
/-- the class: the numbers off its pile -/
def stF (c : Int32) (w : q_W) : Option (Unit × q_W) := fX1_stroke_h15 (fun _ _ _ => none) c (-1) w
theorem st15_ok (c : Int32) : ∀ d N (w : q_W), d ≤ 6 → d < N → w.1 31 8 = nI d → ∃ w', q_it N fX1_stroke_h15 (fun _ _ _ => none) c (nI d - 1) w = stF c w' ∧ w'.1 31 8 = nI 0 ∧ (∀ j, j < d → w'.1 36 j = w.1 32 j) ∧ (∀ j, d ≤ j → w'.1 36 j = w.1 36 j) ∧ (∀ q, q ≠ 31 → q ≠ 36 → w'.1 q = w.1 q) ∧ (∀ q, q ≠ 8 → w'.1 31 q = w.1 31 q) ∧ w'.2 = w.2 := by
  intro d
  induction d with
  | zero =>
    intro N w _ hN h8
    obtain ⟨N, rfl⟩ : ∃ M, N = M + 1 := ⟨N - 1, by omega⟩
    refine ⟨w, ?_, h8, fun j hj => absurd hj (Nat.not_lt_zero j), fun _ _ => rfl, fun _ _ _ => rfl, fun _ _ => rfl, rfl⟩
    rw [q_itS, show nI 0 - 1 = -1 from rfl]
    unfold stF fX1_stroke_h15
    rw [if_pos (show (-1 : Int32) < 0 by decide), if_pos (show (-1 : Int32) < 0 by decide)]
  | succ d ih =>
    intro N w hd hN h8
    obtain ⟨N, rfl⟩ : ∃ M, N = M + 1 := ⟨N - 1, by omega⟩
    obtain ⟨w', e1, e2, e3, e4, e5, e6, e7⟩ := ih N (q_sI (q_sI w 31 8 (nI d)) 36 d (w.1 32 d)) (by omega) (by omega) (by rw [sI_cell _ _ _ _ 31 (by decide), sI_same])
    refine ⟨w', ?_, e2, fun j hj => ?_, fun j hj => ?_, fun q a b => ?_, fun q a => ?_, e7⟩
    · rw [q_itS, nI_s1, fX1_stroke_h15, if_neg (nI_pos (by omega)), pop_c h8 (by omega), q_b_some, if_pos (q_inb_nI (by omega) (by omega)), q_lt_eq, q_ix_nI (by omega), q_lt_eq, show nI d + (-1) = nI d - 1 by grind, e1]
    · by_cases c : j < d
      · rw [e3 j c, sI_cell _ _ _ _ 32 (by decide), sI_cell _ _ _ _ 32 (by decide)]
      · obtain rfl : j = d := by omega
        rw [e4 j (Nat.le_refl j), sI_same]
    · rw [e4 j (by omega), sI_k _ _ _ _ _ (by omega), sI_cell _ _ _ _ 36 (by decide)]
    · rw [e5 q a b, sI_cell _ _ _ _ _ b, sI_cell _ _ _ _ _ a]
    · rw [e6 q a, sI_cell _ _ _ _ 31 (by decide), sI_k _ _ _ _ _ a]
/-- the reference: six numbers into its row -/
theorem st129_ok (M : Nat) (hM : M < 120) : ∀ d N j (w : q_W), j + d = 6 → d < N → w.1 0 40 = nI M → ∃ w', q_it N fX11_strokes_h129 (fun _ _ => none) (nI j) w = some (0, w') ∧ w'.2 = w.2 ∧ (∀ q, q ≠ 22 → q ≠ 0 → w'.1 q = w.1 q) ∧ w'.1 0 40 = nI (M + 1) ∧ (∀ i, i ≠ 40 → w'.1 0 i = w.1 0 i) ∧ (∀ i, w'.1 22 i = if 6 * M + j ≤ i ∧ i < 6 * M + 6 then w.1 26 (i - 6 * M) else w.1 22 i) := by
  intro d
  induction d with
  | zero =>
    intro N j w h hN hw
    obtain ⟨N, rfl⟩ : ∃ M, N = M + 1 := ⟨N - 1, by omega⟩
    have h6 : (6 : Int32) ≤ nI j := by rw [show (6 : Int32) = nI 6 from rfl, nI_leI (by omega) (by omega)]; omega
    rw [q_itS, fX11_strokes_h129, if_pos h6]
    rw [q_lt_eq, hw, nI_1]
    refine ⟨_, rfl, rfl, fun q h1 h2 => sI_cell _ _ _ _ _ h2, sI_same _ _ _ _, fun i hi => sI_k _ _ _ _ _ hi, fun i => ?_⟩
    rw [if_neg (by omega), sI_cell _ _ _ _ _ (by decide)]
  | succ d ih =>
    intro N j w h hN hw
    obtain ⟨N, rfl⟩ : ∃ M, N = M + 1 := ⟨N - 1, by omega⟩
    have h6 : ¬ (6 : Int32) ≤ nI j := by rw [show (6 : Int32) = nI 6 from rfl, nI_leI (by omega) (by omega)]; omega
    have e : 6 * nI M + nI j = nI (6 * M + j) := by
      rw [show (6 : Int32) = nI 6 from rfl, pk_mul, nI_add]
    rw [q_itS, fX11_strokes_h129, if_neg h6, if_pos (q_inb_nI (show j < 6 by omega) (by decide)), q_lt_eq, hw, e, if_pos (q_inb_nI (by omega) (by omega)), q_lt_eq, q_lt_eq, nI_1, q_ix_nI (by omega), q_ix_nI (by omega)]
    obtain ⟨w', e1, e2, e3, e4, e5, e6⟩ := ih N (j + 1) (q_sI w 22 (6 * M + j) (w.1 26 j)) (by omega) (by omega) (by rw [sI_cell _ _ _ _ _ (by decide)]; exact hw)
    refine ⟨w', e1, e2, fun q h1 h2 => (e3 q h1 h2).trans (sI_cell _ _ _ _ _ h1), e4, fun i hi => (e5 i hi).trans (by rw [sI_cell _ _ _ _ _ (by decide)]), fun i => ?_⟩
    rw [e6 i, sI_cell _ _ _ _ 26 (by decide)]
    by_cases ei : i = 6 * M + j
    · subst ei
      rw [if_neg (by omega), if_pos (by omega), sI_same]
      rw [Nat.add_sub_cancel_left]
    · rw [sI_k _ _ _ _ _ ei]
      by_cases h1 : 6 * M + j ≤ i ∧ i < 6 * M + 6
      · rw [if_pos h1, if_pos (by omega)]
      · rw [if_neg h1, if_neg (by omega)]
/-- the reference: the numbers off its pile -/
def stR (c : Int32) (w : q_W) : Option (Int32 × q_W) := fX11_strokes_h59 (fun _ _ _ _ _ => none) c 0 0 0 w
theorem st59_ok {c m o : Nat} (hm : o + m ≤ 6) : ∀ d N j (w : q_W), j + d = m → d < N → w.1 0 48 = 0 → ∃ w', q_it N fX11_strokes_h59 (fun _ _ _ _ _ => none) (nI c) (nI m) (nI o) (nI j) w = stR (nI c) w' ∧ (∀ q, q ≠ 26 → w'.1 q = w.1 q) ∧ w'.2 = w.2 ∧ ∀ t, w'.1 26 t = if o + j ≤ t ∧ t < o + m then w.1 25 (t - o) else w.1 26 t := by
  intro d
  induction d with
  | zero =>
    intro N j w hj hN h48
    obtain ⟨N, rfl⟩ : ∃ a, N = a + 1 := ⟨N - 1, by omega⟩
    refine ⟨w, ?_, fun _ _ => rfl, rfl, fun t => by rw [if_neg (by omega)]⟩
    rw [q_itS]
    unfold stR fX11_strokes_h59
    rw [if_pos (by rw [nI_leI (by omega) (by omega)]; omega), if_pos (show (0 : Int32) ≤ 0 by decide)]
  | succ d ih =>
    intro N j w hj hN h48
    obtain ⟨N, rfl⟩ : ∃ a, N = a + 1 := ⟨N - 1, by omega⟩
    obtain ⟨w', e1, e2, e3, e4⟩ := ih N (j + 1) (q_sI w 26 (o + j) (w.1 25 j)) (by omega) (by omega) (by rw [sI_cell _ _ _ _ 0 (by decide)]; exact h48)
    refine ⟨w', ?_, fun q hq => by rw [e2 q hq, sI_cell _ _ _ _ _ hq], e3, fun t => ?_⟩
    · rw [q_itS, fX11_strokes_h59, if_neg (by rw [nI_leI (by omega) (by omega)]; omega), h48, show (0 : Int32) + nI j = nI j by grind, q_lt_eq, if_pos (q_inb_nI (by omega) (by omega)), nI_add, q_lt_eq, if_pos (q_inb_nI (by omega) (by omega)), q_ix_nI (by omega), q_ix_nI (by omega), q_lt_eq, q_lt_eq, nI_1, e1]
    · rw [e4, sI_if, sI_cell _ _ _ _ 25 (by decide)]
      by_cases c1 : o + (j + 1) ≤ t ∧ t < o + m
      · rw [if_pos c1, if_pos (by omega)]
      · rw [if_neg c1]
        by_cases c2 : t = o + j
        · rw [if_pos c2, if_pos (by omega), c2, show o + j - o = j by omega]
        · rw [if_neg c2, if_neg (by omega)]
theorem fitsB_congr {x y : Nat → Int32} {c : Nat} (h : ∀ j, j < nums c → x j = y j) : fitsB x c 0 = fitsB y c 0 := by
  unfold fitsB
  rw [Bool.eq_iff_iff, List.all_eq_true, List.all_eq_true]
  refine forall_congr' fun i => forall_congr' fun hi => ?_
  rw [List.mem_range'_1] at hi
  rw [h i (by omega)]
section
variable {W0 : q_W × q_W} {P s n : Nat} {pm fo fr : Nat → Nat} {pg : Nat → List AI} {ws : List Int32} {cs : List Tr} {b0 D0 M0 rC rR : Nat} {fs : List (Nat × Nat)} {p i D k : Nat} {u v : q_W}
/-- a stroke -/
theorem step_str (hX : XS W0 P s n pm fo fr pg ws cs b0 D0 M0 rC rR fs p i D k u v) (hG : PG s pm fo fr pg n ws cs) (hi : i < (pg p).length) (hK : KStr (itA (pg p) i) (pgE pg pm p i) (pgE pg pm p (i + 1))) : OUS W0 P s n pm fo fr pg ws cs b0 D0 M0 rC rR fs p i D k u v ∨ OUE W0 P s n pm fo fr pg ws cs b0 D0 M0 rC rR fs p i D k u v ∨ OUR W0 s fr pg D0 M0 rC rR fs p i D k v := by
  have hX0 := hX
  obtain ⟨h1, h2, h3, h4, h5, h6, h7, h8, h9, h10, h11, h12, h13, h14, h15, h16⟩ := hX
  obtain ⟨c, ax, hc, hax, hx, z0, zm, ht⟩ := hK
  have op : (itA (pg p) i).2.1 = nI 9 := by rw [hx]; rfl
  have hr0 := fun rec => ref_op hX0 hG hi (o := 9) (x := nI c) (y := nI ax) (by rw [hx]; rfl) rec (nI fs.length)
  obtain ⟨w0, w1, wl, hs⟩ := tw2 hG h2 hi (a := 21) (b := nI c) (by rw [hx])
  clear hx
  generalize hσ : pgE pg pm p i = σ at *
  obtain ⟨h, a, r⟩ := σ
  have z0 : h = mny c := z0
  have zm2 : c = 0 ∧ ax = 0 ∧ a = some 8 ∨ 1 ≤ c ∧ a = some ax := zm
  subst z0
  have ht : pgE pg pm p (i + 1) = (0, none, r) := ht
  have hr0 : ∀ rec, fX11_does_h38 rec (nI fs.length) (nI (2000 * s + (fr p + i))) v = fX11_does_n257 rec (nI fs.length) (nI (2000 * s + (fr p + i))) (nI c) (nI ax) v := fun rec => hr0 rec
  obtain ⟨g1, g2, g3, g4, g5, g6⟩ := h14
  have g2 : u.1 31 8 = nI (ofs a + mny c) := g2
  have g3 : v.1 0 48 = nI (mny c) := g3
  have g4 : ∀ j, j < mny c → u.1 32 (ofs a + j) = v.1 25 j := g4
  have g5 : ∀ b, b < 2 → a = some b → u.1 32 0 = nI b := g5
  have am : a ≠ none := by
    rcases zm2 with ⟨_, _, e⟩ | ⟨_, e⟩ <;> (rw [e]; intro e; cases e)
  have h11 : u.1 31 11 = v.1 0 44 := h11 am
  have hoc : ofs a = if c = 0 then 0 else 1 := by
    rcases zm2 with ⟨e, _, e'⟩ | ⟨e, e'⟩
    · rw [e', if_pos e]; rfl
    · rw [e', if_neg (by omega)]
      have : ax = 0 ∨ ax = 1 := by omega
      rcases this with rfl | rfl <;> rfl
  have hnm : ofs a + mny c = nums c ∧ nums c ≤ 6 := by
    rw [hoc]
    have : c = 0 ∨ c = 1 ∨ c = 2 ∨ c = 3 := by omega
    rcases this with rfl | rfl | rfl | rfl <;> decide
  obtain ⟨hnm, hn6⟩ := hnm
  -- the class
  have hqN : 6 < q_N := Nat.le_of_ble_eq_true rfl
  obtain ⟨uw, e1, e8, e36, _, ec, e31, e2⟩ := st15_ok (nI c) (nums c) q_N (q_sI (q_sI u 31 7 (nI (fo p + wo (pg p) i + 1))) 31 7 (nI (fo p + wo (pg p) i + 1 + 1))) hn6 (by omega) (by rw [sI_k _ _ _ _ _ (by decide), sI_k _ _ _ _ _ (by decide), g2, hnm])
  have hst : fX1_step u = q_b (stF (nI c) uw) fun _ w => some ((), w) := by
    unfold fX1_step fX1_stroke fX1_stroke_l15
    rw [nextW h1 h4 (by omega), q_b_some, w0, if_neg (by decide), if_neg (by decide), if_neg (by decide), if_neg (by decide), if_neg (by decide), if_neg (by decide), if_pos rfl, nextW (XE_7 h1 7 _) (sI_same _ _ _ _) wl, q_b_some, w1, numbersOf_ok c (by omega), q_b_some]
    have em : q_imin (nI (nums c)) 6 = nI (nums c) := by
      have : c = 0 ∨ c = 1 ∨ c = 2 ∨ c = 3 := by omega
      rcases this with rfl | rfl | rfl | rfl <;> decide
    rw [em, q_lt_eq, e1]
  have uc : ∀ q, q ≠ 31 → q ≠ 36 → uw.1 q = u.1 q := fun q x y => by
    rw [ec q x y, sI_cell _ _ _ _ _ x, sI_cell _ _ _ _ _ x]
  have u31 : ∀ q, q ≠ 7 → q ≠ 8 → uw.1 31 q = u.1 31 q := fun q x y => by
    rw [e31 q y, sI_k _ _ _ _ _ x, sI_k _ _ _ _ _ x]
  have u7 : uw.1 31 7 = nI (fo p + wo (pg p) (i + 1)) := by
    rw [e31 7 (by decide), sI_same, hs]; rfl
  have u2 : uw.2 = u.2 := by rw [e2]; rfl
  have u36 : ∀ j, j < nums c → uw.1 36 j = u.1 32 j := fun j hj => by
    rw [e36 j hj, sI_cell _ _ _ _ 32 (by decide), sI_cell _ _ _ _ 32 (by decide)]
  clear e1 e36 ec e31 e2
  -- the reference
  obtain ⟨vw, f1, f2, f3, f4⟩ := st59_ok (c := c) (m := mny c) (o := ofs a) (by omega) (mny c) q_N 0 (q_sI (q_sI v 0 48 0) 26 0 (nI ax)) (by omega) (by omega) (by rw [sI_cell _ _ _ _ 0 (by decide), sI_same])
  have hrf : fX11_strokes (nI c) (nI ax) v = stR (nI c) vw := by
    rw [← f1]
    have n37 : ∀ o, fX11_strokes_n37 (nI c) (nI ax) (nI (mny c)) o v = fX11_strokes_l59 (nI c) (nI (mny c)) o 0 (q_sI (q_sI v 0 48 0) 26 0 (nI ax)) := by
      intro o
      unfold fX11_strokes_n37
      rw [g3, show nI (mny c) - nI (mny c) = 0 by grind, q_lt_eq, if_pos (show q_inb (0 : Int32) 6 by decide), q_lt_eq, show q_ix (0 : Int32) = 0 by decide]
    have n27 : fX11_strokes_n27 (nI c) (nI ax) (nI (mny c)) v = fX11_strokes_l59 (nI c) (nI (mny c)) (nI (ofs a)) 0 (q_sI (q_sI v 0 48 0) 26 0 (nI ax)) := by
      unfold fX11_strokes_n27
      rw [hoc]
      by_cases e : c = 0
      · rw [if_pos e, if_pos (by rw [e]; rfl), n37]; rfl
      · rw [if_neg e, if_neg (nI_ne0 (by omega) (by omega)), n37]; rfl
    have last : fX11_strokes (nI c) (nI ax) v = fX11_strokes_n27 (nI c) (nI ax) (nI (mny c)) v := by
      unfold fX11_strokes
      have : c = 0 ∨ c = 1 ∨ c = 2 ∨ c = 3 := by omega
      rcases this with rfl | rfl | rfl | rfl
      · rw [if_pos (show nI 0 = 0 from rfl)]; rfl
      · rw [if_neg (show ¬ nI 1 = 0 by decide), if_pos (show nI 1 = 1 from rfl)]; rfl
      · rw [if_neg (show ¬ nI 2 = 0 by decide), if_neg (show ¬ nI 2 = 1 by decide), if_pos (show nI 2 = 2 from rfl)]; rfl
      · rw [if_neg (show ¬ nI 3 = 0 by decide), if_neg (show ¬ nI 3 = 1 by decide), if_neg (show ¬ nI 3 = 2 by decide)]; rfl
    rw [last, n27]
    rfl
  have vc : ∀ q, q ≠ 0 → q ≠ 26 → vw.1 q = v.1 q := fun q x y => by
    rw [f2 q y, sI_cell _ _ _ _ _ y, sI_cell _ _ _ _ _ x]
  have v0 : ∀ q, q ≠ 48 → vw.1 0 q = v.1 0 q := fun q x => by
    rw [f2 0 (by decide), sI_cell _ _ _ _ 0 (by decide), sI_k _ _ _ _ _ x]
  have v48 : vw.1 0 48 = nI 0 := by
    rw [f2 0 (by decide), sI_cell _ _ _ _ 0 (by decide), sI_same]; rfl
  have v26 : ∀ j, j < nums c → uw.1 36 j = vw.1 26 j := by
    intro j hj
    rw [u36 j hj, f4]
    by_cases e : ofs a + 0 ≤ j ∧ j < ofs a + mny c
    · rw [if_pos e, sI_cell _ _ _ _ 25 (by decide), sI_cell _ _ _ _ 25 (by decide), ← g4 (j - ofs a) (by omega), show ofs a + (j - ofs a) = j by omega]
    · rw [if_neg e]
      have o1 : ofs a = 1 := by
        have := ofs_le a
        omega
      have j0 : j = 0 := by omega
      subst j0
      rw [sI_same]
      rcases zm2 with ⟨_, _, e'⟩ | ⟨_, e'⟩
      · rw [e'] at o1
        exact absurd o1 (by decide)
      · exact g5 ax hax e'
  have hfit := fitsB_congr (c := c) (x := uw.1 36) (y := vw.1 26) v26
  have hP6 : uw.2.1 31 6 = 9 := by rw [u2]; exact h1.2.2.2.1.1
  obtain ⟨R1, R2, R3, R4, R5, R6, R7, R8, R9, RF, R10⟩ := h15
  have U2 : uw.1 9 2 = nI (b0 + k) := by rw [uc 9 (by decide) (by decide), R6]
  have U3 : uw.1 9 3 = nI (b0 + rC) := by rw [uc 9 (by decide) (by decide), R7]
  have V40 : vw.1 0 40 = nI (M0 + k) := by rw [v0 40 (by decide), R8]
  have V41 : vw.1 0 41 = nI rR := by rw [v0 41 (by decide), R9]
  have hfo := fits_ok 36 (by decide) (by decide) c (by omega) uw
  have hiso := isStroke_ok c hc vw
  have hE : XE W0 P s n pm fo fr ws cs uw vw := XE_keep h1 (fun q x _ _ _ => uc q (by omega) (by omega)) (by rw [u2]) (fun q x y => vc q x (by omega)) ⟨fun q _ _ _ _ x => v0 q x, by rw [f3]; rfl⟩
  have hn : ¬ ((itA (pg p) i).2.1 = 8 ∨ (itA (pg p) i).2.1 = 11) := by rw [op]; decide
  cases hb : fitsB (vw.1 26) c 0 with
  | false =>
    right; left
    rw [hfit, hb] at hfo
    rw [hb] at hiso
    have hstep : fX1_step u = some ((), q_sI (q_sI uw 31 12 2) 31 13 1) := by
      rw [hst]
      unfold stF fX1_stroke_h15
      rw [if_pos (show (-1 : Int32) < 0 by decide), hfo, q_b_some, if_pos (show b01 false = 0 from rfl)]
      unfold fX1_breakOff
      rw [q_lt_eq, q_lt_eq, q_b_some, q_b_some]
    refine ⟨1, 2, q_sI (q_sI uw 31 12 2) 31 13 1, vw, Nat.le_refl 1, by omega, STC_1 h10 hstep, sI_same _ _ _ _, by rw [sI_k _ _ _ _ _ (by decide), sI_same]; rfl, by omega, fun rec => ?_, XE_7 (XE_7 hE 12 2) 13 1, fun c => absurd c (by omega), fun _ => ?_, fun c => absurd c (by omega), fun q x => by rw [sI_cell _ _ _ _ _ (by omega), sI_cell _ _ _ _ _ (by omega), uc q (by omega) (by omega)]⟩
    · rw [hr0]
      unfold fX11_does_n257
      rw [hrf]
      unfold stR fX11_strokes_h59
      rw [if_pos (show (0 : Int32) ≤ 0 by decide), hiso, q_b_some, if_pos (show b01 false = 0 from rfl), q_b_some, if_neg (by decide)]
      rfl
    · rw [sI_k _ _ _ _ _ (by decide), sI_k _ _ _ _ _ (by decide), u31 11 (by decide) (by decide), h11, v0 44 (by decide)]
  | true =>
    rw [hfit, hb] at hfo
    rw [hb] at hiso
    have hfull := full9 (m := b0 + k) (L := b0 + rC) R1 (by omega) U2 U3
    have hF : fX1_step u = q_b (if k < rC then q_b (fX6_add 9 (nI c) 36 uw) fun _ w => some ((), w) else some ((), q_sI (q_sI uw 31 12 4) 31 13 1)) fun _ w => some ((), w) := by
      rw [hst]
      unfold stF fX1_stroke_h15
      rw [if_pos (show (-1 : Int32) < 0 by decide), hfo, q_b_some, if_neg (show ¬ b01 true = 0 by decide), hP6, if_pos (show cC 9 = 6 by decide), hfull, q_b_some]
      by_cases e : k < rC
      · rw [if_pos e, if_pos (show b0 + k < b0 + rC by omega), if_pos rfl, hP6, if_pos (show cC 9 = 6 by decide)]
      · rw [if_neg e, if_neg (show ¬ b0 + k < b0 + rC by omega), if_neg i_10]
        unfold fX1_breakOff
        rw [q_lt_eq, q_lt_eq, q_b_some, q_b_some]
    have hR4 : M0 + k = rR → ∀ rec : Int32 → Int32 → q_W → Option (Int32 × q_W), fX11_does_h38 rec (nI fs.length) (nI (2000 * s + (fr p + i))) v = some (nI 4, vw) := by
      intro e rec
      rw [hr0]
      unfold fX11_does_n257
      rw [hrf]
      unfold stR fX11_strokes_h59
      rw [if_pos (show (0 : Int32) ≤ 0 by decide), hiso, q_b_some, if_neg (show ¬ b01 true = 0 by decide), V40, V41, e, if_pos rfl, q_b_some, if_neg (by decide)]
      rfl
    by_cases ek : k < rC
    · rw [if_pos ek] at hF
      by_cases eR : M0 + k = rR
      · right; right
        exact ⟨by omega, hi, Or.inr ⟨op, eR⟩, 4, vw, by omega, by omega, hE.2.2.2.1.2.2.2, hR4 eR⟩
      · left
        obtain ⟨u', a1, a2, a3, a4, a5, a6, a7, a8, a9⟩ := add9_ok (m := b0 + k) (L := b0 + rC) R1 (by omega) U2 U3 (nI c)
        rw [a1, q_b_some, q_b_some] at hF
        obtain ⟨v', b1, b2, b3, b4, b5, b6⟩ := st129_ok (M0 + k) (by omega) 6 q_N 0 (q_sI vw 21 (M0 + k) (nI c)) rfl (Nat.le_of_ble_eq_true rfl) (by rw [sI_cell _ _ _ _ _ (by decide)]; exact V40)
        have hr : ∀ rec : Int32 → Int32 → q_W → Option (Int32 × q_W), fX11_does_h38 rec (nI fs.length) (nI (2000 * s + (fr p + i))) v = rec (nI fs.length) (nI (2000 * s + (fr p + (i + 1)))) v' := by
          intro rec
          rw [hr0]
          unfold fX11_does_n257
          rw [hrf]
          unfold stR fX11_strokes_h59
          rw [if_pos (show (0 : Int32) ≤ 0 by decide), hiso, q_b_some, if_neg (show ¬ b01 true = 0 by decide), V40, V41, if_neg (nI_ne (by omega) (by omega) eR), q_lt_eq, if_pos (q_inb_nI (by omega) (by omega)), q_lt_eq, q_ix_nI (by omega)]
          unfold fX11_strokes_l129
          rw [nI_0] at b1
          rw [b1, q_b_some, if_pos (show (0 : Int32) ≤ 0 by decide), n890_r]
        have uc' : ∀ q, q ≠ 9 → q ≠ 10 → q ≠ 11 → q ≠ 31 → q ≠ 36 → u'.1 q = u.1 q := fun q x y z t1 t2 => by rw [a3 q x y z, uc q t1 t2]
        have u31' : ∀ q, q ≠ 7 → q ≠ 8 → u'.1 31 q = u.1 31 q := fun q x y => by rw [a3 31 (by decide) (by decide) (by decide), u31 q x y]
        have vc' : ∀ q, q ≠ 0 → q ≠ 21 → q ≠ 22 → q ≠ 26 → v'.1 q = v.1 q := fun q x y z t => by rw [b3 q z x, sI_cell _ _ _ _ _ y, vc q x t]
        have v0' : ∀ q, q ≠ 40 → q ≠ 48 → v'.1 0 q = v.1 0 q := fun q x y => by rw [b5 q x, sI_cell _ _ _ _ 0 (by decide), v0 q y]
        refine ⟨1, fs, p, i + 1, D, k + 1, u', v', Nat.le_refl 1, STC_1 h10 hF, hr, ⟨?_, h2, hi, ?_, ?_, ?_, ?_, h8, ?_, ?_, fun e => by rw [ht] at e; exact absurd rfl e, ?_, ?_, ?_, ?_, ?_⟩, ?_, Nat.le_refl _, Nat.le_succ k, fun _ e => absurd e hn, fun _ _ => Nat.le_refl _⟩
        · exact XE_keep h1 (fun q x y z t => uc' q y z t (by omega) (by omega)) (by rw [a2, u2]) (fun q x y => vc' q x (by omega) (by omega) (by omega)) ⟨fun q _ x _ _ y => v0' q x y, by rw [b2]; show vw.2 = v.2; rw [f3]; rfl⟩
        · rw [a3 31 (by decide) (by decide) (by decide), u7]
        · rw [u31' 9 (by decide) (by decide), h5]
        · rw [u31' 10 (by decide) (by decide), h6]
        · rw [v0' 39 (by decide) (by decide), h7]
        · rw [u31' 12 (by decide) (by decide), h9]
        · rw [u31' 13 (by decide) (by decide), h10]
        · rw [ht]; exact h12
        · rw [ht]
          have hv : VLS (pm p) fs.length (0, none, r) u v := h13
          have ho : okS (pm p) (0, none, r) := h12
          exact VLS_keep hv ho (fun j _ => ⟨by rw [uc' 33 (by decide) (by decide) (by decide) (by decide) (by decide)], by rw [uc' 34 (by decide) (by decide) (by decide) (by decide) (by decide)]⟩) (fun j _ => by rw [vc' 23 (by decide) (by decide) (by decide) (by decide)])
        · rw [ht]
          refine SKS_none rfl ?_ ?_
          · rw [a3 31 (by decide) (by decide) (by decide), e8]
          · rw [b5 48 (by decide), sI_cell _ _ _ _ 0 (by decide), v48]
        · refine ⟨R1, R2, R3, by omega, by omega, a4, by rw [a5 3 (by decide), U3], b4, by rw [b5 41 (by decide), sI_cell _ _ _ _ 0 (by decide), V41], ⟨fun j hj => by rw [a7 _ (by omega), uc 10 (by decide) (by decide), RF.1 j hj], fun j hj => by rw [a9 _ (by omega), uc 11 (by decide) (by decide), RF.2.1 j hj], fun j hj => by rw [b3 21 (by decide) (by decide), sI_k _ _ _ _ _ (by omega), vc 21 (by decide) (by decide), RF.2.2.1 j hj], fun j hj => by rw [b6, if_neg (by omega), sI_cell _ _ _ _ 22 (by decide), vc 22 (by decide) (by decide), RF.2.2.2 j hj]⟩, fun j hj => ?_⟩
          by_cases ej : j = k
          · subst ej
            have h36 : ∀ i, i < nums c → u'.1 11 (6 * (b0 + j) + i) = uw.1 36 i := fun i hi => a8 i (by omega)
            refine ⟨c, hc, a6, by rw [b3 21 (by decide) (by decide), sI_same], fun i hi => ?_, ?_⟩
            · rw [h36 i hi, b6, if_pos (by omega), sI_cell _ _ _ _ 26 (by decide), show 6 * (M0 + j) + i - 6 * (M0 + j) = i by omega, v26 i hi]
            · rw [fitsB_congr (c := c) (y := uw.1 36) h36, hfit, hb]
          · obtain ⟨c', hc', d1, d2, d3, d4⟩ := R10 j (by omega)
            have hn6' : nums c' ≤ 6 := by
              have : c' = 0 ∨ c' = 1 ∨ c' = 2 ∨ c' = 3 := by omega
              rcases this with rfl | rfl | rfl | rfl <;> decide
            have h11' : ∀ i, i < nums c' → u'.1 11 (6 * (b0 + j) + i) = u.1 11 (6 * (b0 + j) + i) := fun i hi => by
              rw [a9 _ (by omega), uc 11 (by decide) (by decide)]
            refine ⟨c', hc', by rw [a7 _ (by omega), uc 10 (by decide) (by decide), d1], by rw [b3 21 (by decide) (by decide), sI_k _ _ _ _ _ (by omega), vc 21 (by decide) (by decide), d2], fun i hi => ?_, ?_⟩
            · rw [h11' i hi, b6, if_neg (by omega), sI_cell _ _ _ _ 22 (by decide), vc 22 (by decide) (by decide), d3 i hi]
            · rw [fitsB_congr (c := c') (y := fun i => u.1 11 (6 * (b0 + j) + i)) h11', d4]
        · exact FRS_keep fs p h16 (fun j _ => ⟨by rw [uc' 35 (by decide) (by decide) (by decide) (by decide) (by decide)], by rw [vc' 24 (by decide) (by decide) (by decide) (by decide)]⟩) (fun j _ => ⟨by rw [uc' 33 (by decide) (by decide) (by decide) (by decide) (by decide)], by rw [uc' 34 (by decide) (by decide) (by decide) (by decide) (by decide)]⟩) (fun j _ => by rw [vc' 23 (by decide) (by decide) (by decide) (by decide)])
        · have := phi_drop (pm := pm) (i' := i + 1) hi hn (Nat.lt_succ_self i) hi (fun _ => by rw [ht]) (j := 1) (by omega)
          unfold pot
          omega
    · right; left
      rw [if_neg ek, q_b_some] at hF
      refine ⟨1, 4, q_sI (q_sI uw 31 12 4) 31 13 1, vw, Nat.le_refl 1, by omega, STC_1 h10 hF, sI_same _ _ _ _, by rw [sI_k _ _ _ _ _ (by decide), sI_same]; rfl, by omega, hR4 (by omega), XE_7 (XE_7 hE 12 4) 13 1, fun c => absurd c (by omega), fun _ => ?_, fun c => absurd c (by omega), fun q x => by rw [sI_cell _ _ _ _ _ (by omega), sI_cell _ _ _ _ _ (by omega), uc q (by omega) (by omega)]⟩
      rw [sI_k _ _ _ _ _ (by decide), sI_k _ _ _ _ _ (by decide), u31 11 (by decide) (by decide), h11, v0 44 (by decide)]
end
