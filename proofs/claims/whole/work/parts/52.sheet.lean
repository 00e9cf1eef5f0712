/-! sheets: filled alike -/
noncomputable def cellS (m t : Nat) (K : Nat → Nat) (Z : Nat → Nat → Int32) (sh at_ : Nat) : Int32 := colS m t K Z (nI (64 * (at_ / 16) + 32)) (nI (64 * (at_ % 16) + 32 + (if at_ / 16 % 2 = 1 then sh else 0)))
def isQ (q : Nat) : Prop := q = 14 ∨ q = 18
theorem isQ_c {q : Nat} (h : isQ q) : cC q = 8 := by rcases h with rfl | rfl <;> rfl
theorem isQ_0 {q : Nat} (h : isQ q) : fC q 0 = q + 1 := by rcases h with rfl | rfl <;> rfl
/-- what a walk over the cells leaves alone -/
def frS (q : Nat) (w w' : q_W) : Prop := (∀ c, c ≠ 12 → c ≠ q + 1 → w'.1 c = w.1 c) ∧ (∀ k, k ≠ 4 → k ≠ 5 → w'.1 12 k = w.1 12 k) ∧ w'.2 = w.2
theorem frS_t {q : Nat} {a b c : q_W} (h : frS q a b) (h' : frS q b c) : frS q a c := ⟨fun q x y => (h'.1 q x y).trans (h.1 q x y), fun k x y => (h'.2.1 k x y).trans (h.2.1 k x y), h'.2.2.trans h.2.2⟩
theorem BC_S {q0 : Nat} (hq : isQ q0) {m t : Nat} {g K : Nat → Nat} {Z : Nat → Nat → Int32} {w w' : q_W} {q : Nat} (f : frS q0 w w') (H : BC q m t g K Z w) : BC q m t g K Z w' := by
  have h0 : q0 = 14 ∨ q0 = 18 := hq
  have h1 : q = 4 ∨ q = 9 := H.1
  unfold BC at *
  rw [f.2.2, f.2.1 2 (by decide) (by decide), f.2.1 3 (by decide) (by decide), f.1 q (by omega) (by omega), f.1 13 (by decide) (by omega), f.1 (q + 1) (by omega) (by omega), f.1 (q + 2) (by omega) (by omega)]
  exact H
theorem pX_ok {q : Nat} (hq : isQ q) {a : Nat} (ha : a < 256) (w : q_W) : fX8_pointX q (nI a) w = some (nI (64 * (a / 16) + 32), w) := by
  unfold fX8_pointX
  rw [if_pos (isQ_c hq), show (16 : Int32) = nI 16 from rfl, pk_div (by omega) (by decide) (by decide), show (64 : Int32) = nI 64 from rfl, pk_mul, show (32 : Int32) = nI 32 from rfl, nI_add]
theorem pY_ok {q : Nat} (hq : isQ q) {a sh : Nat} (ha : a < 256) (w : q_W) (hw : w.1 q 6 = nI sh) : fX8_pointY q (nI a) w = some (nI (64 * (a % 16) + 32 + (if a / 16 % 2 = 1 then sh else 0)), w) := by
  unfold fX8_pointY
  rw [if_pos (isQ_c hq), show (16 : Int32) = nI 16 from rfl, pk_rem (by omega) (by decide) (by decide), pk_div (by omega) (by decide) (by decide), q_lt_eq, show (2 : Int32) = nI 2 from rfl, pk_rem (by omega) (by decide) (by decide), show (64 : Int32) = nI 64 from rfl, pk_mul, show (32 : Int32) = nI 32 from rfl, nI_add, hw, nI_add]
  by_cases h : a / 16 % 2 = 1
  · rw [if_neg (nI_ne0 (by omega) (by omega)), if_pos h]
  · rw [if_pos (show nI (a / 16 % 2) = 0 by rw [show a / 16 % 2 = 0 by omega]; rfl), if_neg h, Int32.add_zero, Nat.add_zero]
theorem fill_lok {q0 : Nat} (hq : isQ q0) {q m t : Nat} {g K : Nat → Nat} {Z : Nat → Nat → Int32} (V : BV m t K Z) (sh : Nat) : ∀ d N j w, j + d = 256 → d < N → BC q m t g K Z w → w.1 q0 6 = nI sh → ∃ w', q_it N (fX8_fill_h7 q0) (fun _ _ => none) (nI j) w = some ((), w') ∧ frS q0 w w' ∧ ∀ i, w'.1 (q0 + 1) i = if j ≤ i ∧ i < 256 then cellS m t K Z sh i else w.1 (q0 + 1) i := by
  have hqq : q0 = 14 ∨ q0 = 18 := hq
  intro d
  induction d with
  | zero =>
    intro N j w h hN H hs
    obtain ⟨N, rfl⟩ : ∃ M, N = M + 1 := ⟨N - 1, by omega⟩
    rw [q_itS, fX8_fill_h7, if_pos (by rw [show (256 : Int32) = nI 256 from rfl, nI_leI (by omega) (by omega)]; omega)]
    exact ⟨w, rfl, ⟨fun _ _ _ => rfl, fun _ _ _ => rfl, rfl⟩, fun i => by rw [if_neg (by omega)]⟩
  | succ d ih =>
    intro N j w h hN H hs
    obtain ⟨N, rfl⟩ : ∃ M, N = M + 1 := ⟨N - 1, by omega⟩
    rw [q_itS, fX8_fill_h7, if_neg (by rw [show (256 : Int32) = nI 256 from rfl, nI_leI (by omega) (by omega)]; omega), pX_ok hq (by omega), q_b_some, pY_ok hq (by omega) w hs, q_b_some, colC H V, q_b_some, if_pos (q_inb_nI (by omega) (by omega)), q_lt_eq, q_lt_eq, nI_1, q_ix_nI (by omega), isQ_0 hq]
    show ∃ w', q_it N (fX8_fill_h7 q0) (fun _ _ => none) (nI (j + 1)) (q_sI (atC w (endS m t K Z (nI (64 * (j / 16) + 32)) (nI (64 * (j % 16) + 32 + (if j / 16 % 2 = 1 then sh else 0)))).1 (endS m t K Z (nI (64 * (j / 16) + 32)) (nI (64 * (j % 16) + 32 + (if j / 16 % 2 = 1 then sh else 0)))).2) (q0 + 1) j (cellS m t K Z sh j)) = _ ∧ _
    generalize (endS m t K Z (nI (64 * (j / 16) + 32)) (nI (64 * (j % 16) + 32 + (if j / 16 % 2 = 1 then sh else 0)))) = p
    have f1 : frS q0 w (q_sI (atC w p.1 p.2) (q0 + 1) j (cellS m t K Z sh j)) := ⟨fun c h1 h2 => by rw [sI_cell _ _ _ _ _ h2, atC_o _ _ _ _ h1], fun k h1 h2 => by rw [sI_cell _ _ _ _ _ (by omega), atC_k _ _ _ _ h1 h2], rfl⟩
    obtain ⟨w', e, f, x⟩ := ih N (j + 1) _ (by omega) (by omega) (BC_S hq f1 H) (by rw [f1.1 q0 (by omega) (by omega)]; exact hs)
    refine ⟨w', e, frS_t f1 f, fun i => ?_⟩
    rw [x i]
    by_cases ei : i = j
    · subst ei
      rw [if_neg (by omega), if_pos (by omega), sI_same]
    · rw [sI_k _ _ _ _ _ ei, atC_o _ _ _ _ (by omega)]
      by_cases h1 : j ≤ i ∧ i < 256
      · rw [if_pos h1, if_pos (by omega)]
      · rw [if_neg h1, if_neg (by omega)]
theorem fillC {q0 : Nat} (hq : isQ q0) {q m t : Nat} {g K : Nat → Nat} {Z : Nat → Nat → Int32} (V : BV m t K Z) (sh : Nat) (w : q_W) (H : BC q m t g K Z w) : ∃ w', fX8_fill q0 (nI sh) w = some ((), w') ∧ (∀ c, c ≠ 12 → c ≠ q0 → c ≠ q0 + 1 → w'.1 c = w.1 c) ∧ (∀ k, k ≠ 6 → w'.1 q0 k = w.1 q0 k) ∧ w'.2 = w.2 ∧ w'.1 q0 6 = nI sh ∧ ∀ i, i < 256 → w'.1 (q0 + 1) i = cellS m t K Z sh i := by
  have hqq : q0 = 14 ∨ q0 = 18 := hq
  have h1 : q = 4 ∨ q = 9 := H.1
  unfold fX8_fill fX8_fill_l7
  rw [if_pos (isQ_c hq), q_lt_eq]
  have H' : BC q m t g K Z (q_sI w q0 6 (nI sh)) := by
    unfold BC at *
    rw [sI_r, sI_cell _ _ _ _ 12 (by omega), sI_cell _ _ _ _ q (by omega), sI_cell _ _ _ _ 13 (by omega), sI_cell _ _ _ _ (q + 1) (by omega), sI_cell _ _ _ _ (q + 2) (by omega)]
    exact H
  obtain ⟨w', e, f, x⟩ := fill_lok hq V sh 256 q_N 0 _ rfl (Nat.le_of_ble_eq_true rfl) H' (sI_same _ _ _ _)
  rw [nI_0] at e
  refine ⟨w', e, fun c a1 a2 a3 => (f.1 c a1 a3).trans (sI_cell _ _ _ _ _ a2), fun k hk => (congrFun (f.1 q0 (by omega) (by omega)) k).trans (sI_k _ _ _ _ _ hk), f.2.2, (congrFun (f.1 q0 (by omega) (by omega)) 6).trans (sI_same _ _ _ _), fun i hi => ?_⟩
  rw [x i, if_pos (by omega)]
/-- the reference: what a walk over the cells leaves alone -/
def frK (w w' : q_W) : Prop := (∀ c, c ≠ 0 → c ≠ 32 → w'.1 c = w.1 c) ∧ (∀ k, k ≠ 61 → k ≠ 62 → w'.1 0 k = w.1 0 k) ∧ w'.2 = w.2
theorem frK_r (w : q_W) : frK w w := ⟨fun _ _ _ => rfl, fun _ _ _ => rfl, rfl⟩
theorem frK_t {a b c : q_W} (h : frK a b) (h' : frK b c) : frK a c := ⟨fun q x y => (h'.1 q x y).trans (h.1 q x y), fun k x y => (h'.2.1 k x y).trans (h.2.1 k x y), h'.2.2.trans h.2.2⟩
theorem BR_K {m t : Nat} {K : Nat → Nat} {Z : Nat → Nat → Int32} {w w' : q_W} (f : frK w w') (H : BR m t K Z w) : BR m t K Z w' := by
  unfold BR at *
  rw [f.2.1 55 (by decide) (by decide), f.2.1 56 (by decide) (by decide), f.1 29 (by decide) (by decide), f.1 30 (by decide) (by decide)]
  exact H
theorem lays1_lok {m t : Nat} {K : Nat → Nat} {Z : Nat → Nat → Int32} (V : BV m t K Z) (sh to i : Nat) (hto : to < 2) (hi : i < 16) (rec2 : Int32 → Int32 → q_W → Option (Unit × q_W)) : ∀ d N j w, j + d = 16 → d < N → BR m t K Z w → w.1 0 60 = nI sh → ∃ w', q_it N (fX11_lays_h10 rec2) (fun _ _ _ _ => none) (nI to) (nI i) (nI j) w = rec2 (nI to) (nI (i + 1)) w' ∧ frK w w' ∧ ∀ x, w'.1 32 x = if 256 * to + 16 * i + j ≤ x ∧ x < 256 * to + 16 * i + 16 then cellS m t K Z sh (x - 256 * to) else w.1 32 x := by
  intro d
  induction d with
  | zero =>
    intro N j w h hN H hs
    obtain ⟨N, rfl⟩ : ∃ M, N = M + 1 := ⟨N - 1, by omega⟩
    rw [q_itS, fX11_lays_h10, if_pos (by rw [show (16 : Int32) = nI 16 from rfl, nI_leI (by omega) (by omega)]; omega), q_lt_eq, nI_1]
    exact ⟨w, rfl, frK_r w, fun x => by rw [if_neg (by omega)]⟩
  | succ d ih =>
    intro N j w h hN H hs
    obtain ⟨N, rfl⟩ : ∃ M, N = M + 1 := ⟨N - 1, by omega⟩
    have ex : (if nI i - nI i / 2 * 2 = 1 then fX11_lays_n62 rec2 (q_it N (fX11_lays_h10 rec2) (fun _ _ _ _ => none)) (nI to) (nI i) (nI j) (w.1 0 60) (64 * nI j + 32) (64 * nI i + 32) (256 * nI to + 16 * nI i + nI j) w else fX11_lays_n62 rec2 (q_it N (fX11_lays_h10 rec2) (fun _ _ _ _ => none)) (nI to) (nI i) (nI j) 0 (64 * nI j + 32) (64 * nI i + 32) (256 * nI to + 16 * nI i + nI j) w) = fX11_lays_n62 rec2 (q_it N (fX11_lays_h10 rec2) (fun _ _ _ _ => none)) (nI to) (nI i) (nI j) (nI (if i % 2 = 1 then sh else 0)) (nI (64 * j + 32)) (nI (64 * i + 32)) (nI (256 * to + 16 * i + j)) w := by
      rw [show (2 : Int32) = nI 2 from rfl, pk_rem (by omega) (by decide) (by decide), hs, show (64 : Int32) = nI 64 from rfl, pk_mul, pk_mul, show (32 : Int32) = nI 32 from rfl, nI_add, nI_add, show (256 : Int32) = nI 256 from rfl, show (16 : Int32) = nI 16 from rfl, pk_mul, pk_mul, nI_add, nI_add]
      by_cases h2 : i % 2 = 1
      · rw [if_pos (show nI (i % 2) = 1 by rw [h2]; rfl), if_pos h2]
      · rw [if_neg (show ¬ nI (i % 2) = 1 by rw [show (1 : Int32) = nI 1 from rfl, nI_eq (by omega) (by omega)]; exact h2), if_neg h2, nI_0]
    rw [q_itS, fX11_lays_h10, if_neg (by rw [show (16 : Int32) = nI 16 from rfl, nI_leI (by omega) (by omega)]; omega), ex]
    unfold fX11_lays_n62
    rw [nI_add, colR H V, q_b_some, if_pos (q_inb_nI (by omega) (by omega)), q_lt_eq, q_lt_eq, nI_1, q_ix_nI (by omega)]
    generalize hp : (endS m t K Z (nI (64 * i + 32)) (nI (64 * j + 32 + (if i % 2 = 1 then sh else 0)))) = p
    generalize hc : colS m t K Z (nI (64 * i + 32)) (nI (64 * j + 32 + (if i % 2 = 1 then sh else 0))) = c
    have f1 : frK w (q_sI (atR w p.1 p.2) 32 (256 * to + 16 * i + j) c) := ⟨fun q h1 h2 => by rw [sI_cell _ _ _ _ _ h2, atR_o _ _ _ _ h1], fun k h1 h2 => by rw [sI_cell _ _ _ _ _ (by decide), atR_k _ _ _ _ h1 h2], rfl⟩
    obtain ⟨w', e, f, x⟩ := ih N (j + 1) _ (by omega) (by omega) (BR_K f1 H) (by rw [f1.2.1 60 (by decide) (by decide)]; exact hs)
    refine ⟨w', e, frK_t f1 f, fun y => ?_⟩
    rw [x y]
    by_cases ei : y = 256 * to + 16 * i + j
    · subst ei
      rw [if_neg (by omega), if_pos (by omega), sI_same, ← hc]
      unfold cellS
      rw [show (256 * to + 16 * i + j - 256 * to) / 16 = i by omega, show (256 * to + 16 * i + j - 256 * to) % 16 = j by omega]
    · rw [sI_k _ _ _ _ _ ei, atR_o _ _ _ _ (by decide)]
      by_cases h1 : 256 * to + 16 * i + j ≤ y ∧ y < 256 * to + 16 * i + 16
      · rw [if_pos h1, if_pos (by omega)]
      · rw [if_neg h1, if_neg (by omega)]
theorem lays2_lok {m t : Nat} {K : Nat → Nat} {Z : Nat → Nat → Int32} (V : BV m t K Z) (sh to : Nat) (hto : to < 2) : ∀ d N i w, i + d = 16 → d < N → BR m t K Z w → w.1 0 60 = nI sh → ∃ w', q_it N fX11_lays_h2 (fun _ _ _ => none) (nI to) (nI i) w = some ((), w') ∧ frK w w' ∧ ∀ x, w'.1 32 x = if 256 * to + 16 * i ≤ x ∧ x < 256 * to + 256 then cellS m t K Z sh (x - 256 * to) else w.1 32 x := by
  intro d
  induction d with
  | zero =>
    intro N i w h hN H hs
    obtain ⟨N, rfl⟩ : ∃ M, N = M + 1 := ⟨N - 1, by omega⟩
    rw [q_itS, fX11_lays_h2, if_pos (by rw [show (16 : Int32) = nI 16 from rfl, nI_leI (by omega) (by omega)]; omega)]
    exact ⟨w, rfl, frK_r w, fun x => by rw [if_neg (by omega)]⟩
  | succ d ih =>
    intro N i w h hN H hs
    obtain ⟨N, rfl⟩ : ∃ M, N = M + 1 := ⟨N - 1, by omega⟩
    rw [q_itS, fX11_lays_h2, if_neg (by rw [show (16 : Int32) = nI 16 from rfl, nI_leI (by omega) (by omega)]; omega)]
    unfold fX11_lays_l10
    obtain ⟨w1, e1, f1, x1⟩ := lays1_lok V sh to i hto (by omega) (q_it N fX11_lays_h2 (fun _ _ _ => none)) 16 q_N 0 w rfl (Nat.le_of_ble_eq_true rfl) H hs
    rw [nI_0] at e1
    rw [e1]
    obtain ⟨w', e, f, x⟩ := ih N (i + 1) w1 (by omega) (by omega) (BR_K f1 H) (by rw [f1.2.1 60 (by decide) (by decide)]; exact hs)
    refine ⟨w', e, frK_t f1 f, fun y => ?_⟩
    rw [x y, x1 y]
    by_cases h1 : 256 * to + 16 * (i + 1) ≤ y ∧ y < 256 * to + 256
    · rw [if_pos h1, if_pos (by omega)]
    · rw [if_neg h1]
      by_cases h2 : 256 * to + 16 * i + 0 ≤ y ∧ y < 256 * to + 16 * i + 16
      · rw [if_pos h2, if_pos (by omega)]
      · rw [if_neg h2, if_neg (by omega)]
theorem laysR {m t : Nat} {K : Nat → Nat} {Z : Nat → Nat → Int32} (V : BV m t K Z) (sh to : Nat) (hto : to < 2) (w : q_W) (H : BR m t K Z w) (hs : w.1 0 60 = nI sh) : ∃ w', fX11_lays (nI to) w = some ((), w') ∧ frK w w' ∧ (∀ i, i < 256 → w'.1 32 (256 * to + i) = cellS m t K Z sh i) ∧ ∀ x, (x < 256 * to ∨ 256 * to + 256 ≤ x) → w'.1 32 x = w.1 32 x := by
  unfold fX11_lays fX11_lays_l2
  obtain ⟨w', e, f, x⟩ := lays2_lok V sh to hto 16 q_N 0 w rfl (Nat.le_of_ble_eq_true rfl) H hs
  rw [nI_0] at e
  refine ⟨w', e, f, fun i hi => ?_, fun y hy => ?_⟩
  · rw [x, if_pos (by omega), Nat.add_sub_cancel_left]
  · rw [x, if_neg (by omega)]
