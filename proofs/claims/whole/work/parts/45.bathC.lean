/-! the bath of the class -/
def BC (q m t : Nat) (g K : Nat → Nat) (Z : Nat → Nat → Int32) (u : q_W) : Prop :=
  (q = 4 ∨ q = 9) ∧ u.2.1 12 1 = q ∧ u.1 12 2 = nI m ∧ u.1 12 3 = nI t ∧ ∃ L, L ≤ 480 ∧ u.1 q 2 = nI L ∧ ∀ i, i < m → g i < L ∧ u.1 13 i = nI (g i) ∧ u.1 (q + 1) (g i) = nI (K i) ∧ ∀ j, j < nums (K i) → u.1 (q + 2) (6 * g i + j) = Z i j
def BV (m t : Nat) (K : Nat → Nat) (Z : Nat → Nat → Int32) : Prop := m ≤ 120 ∧ t ≤ 9 ∧ ∀ i, i < m → K i ≤ 3 ∧ fitsB (Z i) (K i) 0 = true
theorem BC_c {q m t : Nat} {g K : Nat → Nat} {Z : Nat → Nat → Int32} {u : q_W} (H : BC q m t g K Z u) : cC q = 6 := by
  rcases H.1 with rfl | rfl <;> rfl
theorem BC_at {q m t : Nat} {g K : Nat → Nat} {Z : Nat → Nat → Int32} {u : q_W} (H : BC q m t g K Z u) (x y : Int32) : BC q m t g K Z (atC u x y) := by
  have hq : q ≠ 12 ∧ q + 1 ≠ 12 ∧ q + 2 ≠ 12 := by rcases H.1 with rfl | rfl <;> decide
  unfold BC at *
  rw [atC_2, atC_k _ _ _ 2 (by decide) (by decide), atC_k _ _ _ 3 (by decide) (by decide), atC_o _ _ _ q hq.1, atC_o _ _ _ 13 (by decide), atC_o _ _ _ (q + 1) hq.2.1, atC_o _ _ _ (q + 2) hq.2.2]
  exact H
theorem num_ok {q : Nat} (hq : q = 4 ∨ q = 9) (w : q_W) (L r j : Nat) (hL : L ≤ 480) (h : w.1 q 2 = nI L) (hr : r < L) (hj : j < 6) : fX6_numberOf q (nI r) (nI j) w = some (w.1 (q + 2) (6 * r + j), w) := by
  have hc : cC q = 6 := by rcases hq with rfl | rfl <;> rfl
  have hf : fC q 1 = q + 2 := by rcases hq with rfl | rfl <;> rfl
  unfold fX6_numberOf fX6_numberOf_n34
  rw [if_pos hc, if_neg (nI_pos (by omega)), h, if_neg (by rw [nI_leI (by omega) (by omega)]; omega)]
  rw [show (480 : Int32) = nI 480 from rfl, if_neg (by rw [nI_leI (by omega) (by omega)]; omega), if_neg (nI_pos (by omega))]
  rw [show (6 : Int32) = nI 6 from rfl, if_neg (by rw [nI_leI (by omega) (by omega)]; omega), if_neg (by decide), q_lt_eq, pk_mul, nI_add, Nat.mul_comm r 6, if_pos (q_inb_nI (by omega) (by omega)), q_ix_nI (by omega), hf]
theorem knd_ok {q : Nat} (hq : q = 4 ∨ q = 9) (w : q_W) (L r : Nat) (hL : L ≤ 480) (h : w.1 q 2 = nI L) (hr : r < L) : fX6_kindOf q (nI r) w = some (w.1 (q + 1) r, w) := by
  have hc : cC q = 6 := by rcases hq with rfl | rfl <;> rfl
  have hf : fC q 0 = q + 1 := by rcases hq with rfl | rfl <;> rfl
  unfold fX6_kindOf
  rw [if_pos hc, if_neg (nI_pos (by omega)), h, if_neg (by rw [nI_leI (by omega) (by omega)]; omega)]
  rw [show (480 : Int32) = nI 480 from rfl, if_neg (by rw [nI_leI (by omega) (by omega)]; omega), if_pos (q_inb_nI (by omega) (by omega)), q_ix_nI (by omega), hf]
theorem nums_le (c : Nat) (hc : c ≤ 5) : nums c ≤ 6 := by
  have : c = 0 ∨ c = 1 ∨ c = 2 ∨ c = 3 ∨ c = 4 ∨ c = 5 := by omega
  rcases this with rfl | rfl | rfl | rfl | rfl | rfl <;> decide
theorem nums_ge3 (c : Nat) (hc : c ≤ 3) : 3 ≤ nums c := by
  have : c = 0 ∨ c = 1 ∨ c = 2 ∨ c = 3 := by omega
  rcases this with rfl | rfl | rfl | rfl <;> decide
theorem num1 {q m t : Nat} {g K : Nat → Nat} {Z : Nat → Nat → Int32} {w : q_W} (H : BC q m t g K Z w) {i j : Nat} (hi : i < m) (hK : K i ≤ 3) (hj : j < nums (K i)) : fX6_numberOf q (nI (g i)) (nI j) w = some (Z i j, w) := by
  obtain ⟨hq, h1, h2, h3, L, hL, h4, h5⟩ := H
  obtain ⟨a1, a2, a3, a4⟩ := h5 i hi
  have := nums_le (K i) (by omega)
  rw [num_ok hq w L (g i) j hL h4 a1 (by omega), a4 j hj]
theorem kind1 {q m t : Nat} {g K : Nat → Nat} {Z : Nat → Nat → Int32} {w : q_W} (H : BC q m t g K Z w) {i : Nat} (hi : i < m) : fX6_kindOf q (nI (g i)) w = some (nI (K i), w) := by
  obtain ⟨hq, h1, h2, h3, L, hL, h4, h5⟩ := H
  obtain ⟨a1, a2, a3, a4⟩ := h5 i hi
  rw [knd_ok hq w L (g i) hL h4 a1, a3]
theorem subneg {a b : Nat} (h : a < b) (hb : b < 2 ^ 31) : nI a - nI b = 0 - nI (b - a) := by
  have : nI b = nI (b - a) + nI a := by rw [nI_add]; congr 1; omega
  rw [this]
  grind
theorem toothC_ok {o b h : Nat} (ho : o < 2 ^ 30) (hb : b < 2 ^ 30) (hh : h < 2 ^ 31) (h0 : 0 < h) (x : Int32) (w : q_W) : fX0_toothDrag (nI o - nI b) x (nI h) w = some (tooth (dst (nI o) (nI b)) h x, w) := by
  rw [dst_n (by omega) (by omega)]
  by_cases hob : b ≤ o
  · rw [pk_sub hob, toothC_pos (by omega) hh h0, show o - b + (b - o) = o - b by omega]
  · rw [subneg (by omega) (by omega), toothC_neg (by omega) (by omega) hh h0, show o - b + (b - o) = b - o by omega]
theorem combC_lok {q m t : Nat} {g K : Nat → Nat} {Z : Nat → Nat → Int32} {w : q_W} (H : BC q m t g K Z w) {i : Nat} (hi : i < m) (hk : K i = 2) (o b c d e : Nat) (ho : o < 1024) (hb : b < 1024) (hc : c < 1024) (hd : d ≤ 20) (he0 : 1 ≤ e) (he : e < 1024) (z1 : Z i 1 = nI b) (z2 : Z i 2 = nI c) (z3 : Z i 3 = nI d) (z5 : Z i 5 = nI e) : ∀ s N k, k + s = d → s < N → q_it N fX0_dragOf_h99 (fun _ _ _ _ _ _ => none) (nI (g i)) (nI o) (nI b) (combS (Z i) (nI o) k) (nI k) w = some (combS (Z i) (nI o) d, w) := by
  have hcc := BC_c H
  have hr := H.2.1
  have n2 : fX6_numberOf q (nI (g i)) 2 w = some (Z i 2, w) := num1 H hi (by omega) (by rw [hk]; decide)
  have n3 : fX6_numberOf q (nI (g i)) 3 w = some (Z i 3, w) := num1 H hi (by omega) (by rw [hk]; decide)
  have n4 : fX6_numberOf q (nI (g i)) 4 w = some (Z i 4, w) := num1 H hi (by omega) (by rw [hk]; decide)
  have n5 : fX6_numberOf q (nI (g i)) 5 w = some (Z i 5, w) := num1 H hi (by omega) (by rw [hk]; decide)
  intro s
  induction s with
  | zero =>
    intro N k h hN
    obtain ⟨N, rfl⟩ : ∃ M, N = M + 1 := ⟨N - 1, by omega⟩
    rw [q_itS, fX0_dragOf_h99, hr, if_pos hcc, n3, q_b_some, z3, if_pos (by rw [nI_leI (by omega) (by omega)]; omega), show k = d by omega]
  | succ s ih =>
    intro N k h hN
    obtain ⟨N, rfl⟩ : ∃ M, N = M + 1 := ⟨N - 1, by omega⟩
    have hkc : k * c ≤ 20 * 1024 := Nat.mul_le_mul (by omega) (by omega)
    rw [q_itS, fX0_dragOf_h99, hr, if_pos hcc, n3, q_b_some, z3, if_neg (by rw [nI_leI (by omega) (by omega)]; omega), hr, if_pos hcc, n2, q_b_some, q_lt_eq, z2, hr, if_pos hcc, n4, q_b_some, hr, if_pos hcc, n5, q_b_some, z5]
    have e1 : nI o - nI b - nI k * nI c = nI o - nI (b + k * c) := by
      rw [← nI_add, pk_mul]
      grind
    rw [e1, toothC_ok (by omega) (by omega) (by omega) (by omega), q_b_some, q_lt_eq, q_lt_eq, nI_1]
    have e2 : combS (Z i) (nI o) k + tooth (dst (nI o) (nI (b + k * c))) e (Z i 4) = combS (Z i) (nI o) (k + 1) := by
      show _ = combS (Z i) (nI o) k + tooth (dst (nI o) (Z i 1 + nI k * Z i 2)) (q_ix (Z i 5)) (Z i 4)
      rw [z1, z2, z5, q_ixn (by omega), pk_mul, nI_add]
    rw [e2]
    exact ih N (k + 1) (by omega) (by omega)
theorem dragC_n {q m t : Nat} {g K : Nat → Nat} {Z : Nat → Nat → Int32} {w : q_W} (H : BC q m t g K Z w) (V : BV m t K Z) {i : Nat} (hi : i < m) (h0 : K i ≠ 0) {o : Nat} (ho : o < 1024) : fX0_dragOf_n23 (nI (g i)) (nI o) w = some (drg (K i) (Z i) (nI o), w) := by
  have hcc := BC_c H
  have hr := H.2.1
  obtain ⟨hK, hF⟩ := V.2.2 i hi
  have hn3 := nums_ge3 (K i) hK
  have n1 : fX6_numberOf q (nI (g i)) 1 w = some (Z i 1, w) := num1 H hi (by omega) (j := 1) (by omega)
  have n2 : fX6_numberOf q (nI (g i)) 2 w = some (Z i 2, w) := num1 H hi (by omega) (j := 2) (by omega)
  have kd := kind1 H hi
  unfold fX0_dragOf_n23 drg
  rw [hr, if_pos hcc, n1, q_b_some, hr, if_pos hcc, kd, q_b_some]
  have : K i = 1 ∨ K i = 2 ∨ K i = 3 := by omega
  rcases this with hk | hk | hk
  · rw [hk] at hF
    obtain ⟨a, b, d, ha, hb, hd0, hd, z0, z1, z2, z3⟩ := fits1 hF
    have n3 : fX6_numberOf q (nI (g i)) 3 w = some (Z i 3, w) := num1 H hi (by omega) (by rw [hk]; decide)
    rw [hk, if_pos (show nI 1 = 1 from rfl), hr, if_pos hcc, n2, q_b_some, hr, if_pos hcc, n3, q_b_some, z1, z3, toothC_ok (by omega) (by omega) (by omega) (by omega), q_b_some, if_pos rfl, q_ixn (by omega)]
  · rw [hk] at hF
    obtain ⟨a, b, c, d, e, ha, hb, hc0, hc, hd0, hd, he0, he, z0, z1, z2, z3, z4, z5⟩ := fits2 hF
    have := combC_lok H hi hk o b c d e ho hb hc hd he0 he z1 z2 z3 z5 d q_N 0 (by omega) (Nat.lt_of_le_of_lt hd (Nat.le_of_ble_eq_true rfl))
    rw [hk, if_neg (show ¬ nI 2 = 1 by decide), if_pos (show nI 2 = 2 from rfl), if_neg (by decide), if_pos rfl, z1, z3, q_ixn (by omega)]
    exact this
  · rw [hk] at hF
    obtain ⟨a, b, ha, hb0, hb, z0, z1, z2⟩ := fits3 hF
    rw [hk, if_neg (show ¬ nI 3 = 1 by decide), if_neg (show ¬ nI 3 = 2 by decide), if_pos (show nI 3 = 3 from rfl), hr, if_pos hcc, n2, q_b_some, if_neg (by decide), if_neg (by decide)]
    unfold fX0_waveDrag fX0_waveDrag_n24 waveS
    have hp : nI 0 < nI b := nI_lt (by omega) (by omega)
    rw [nI_0] at hp
    have hz : ¬ nI b = 0 := nI_ne0 (by omega) (by omega)
    rw [z1, if_pos hp, if_neg hz, q_lt_eq, if_neg hz, if_neg hz]
    by_cases hw : nI b - (nI o - nI o / nI b * nI b) ≤ nI o - nI o / nI b * nI b
    · rw [if_pos hw, if_pos hw, q_b_some]
    · rw [if_neg hw, if_neg hw, q_b_some]
theorem n0C {q m t : Nat} {g K : Nat → Nat} {Z : Nat → Nat → Int32} {w : q_W} (H : BC q m t g K Z w) (V : BV m t K Z) {i : Nat} (hi : i < m) : fX6_numberOf q (nI (g i)) 0 w = some (Z i 0, w) := by
  have hK := (V.2.2 i hi).1
  refine num1 H hi hK (j := 0) ?_
  have : K i = 0 ∨ K i = 1 ∨ K i = 2 ∨ K i = 3 := by omega
  rcases this with e | e | e | e <;> rw [e] <;> decide
theorem dragC {q m t : Nat} {g K : Nat → Nat} {Z : Nat → Nat → Int32} {w : q_W} (H : BC q m t g K Z w) (V : BV m t K Z) {i : Nat} (hi : i < m) (h0 : K i ≠ 0) {a b : Nat} (ha : a < 1024) (hb : b < 1024) (hx : w.1 12 4 = nI a) (hy : w.1 12 5 = nI b) : fX0_dragOf (nI (g i)) w = some (drg (K i) (Z i) (if Z i 0 = 0 then nI b else nI a), w) := by
  unfold fX0_dragOf
  rw [H.2.1, if_pos (BC_c H), n0C H V hi, q_b_some, hx, hy]
  by_cases hz : Z i 0 = 0
  · rw [if_pos hz, if_pos hz, dragC_n H V hi h0 hb]
  · rw [if_neg hz, if_neg hz, dragC_n H V hi h0 ha]
theorem moveC {q m t : Nat} {g K : Nat → Nat} {Z : Nat → Nat → Int32} {u : q_W} (H : BC q m t g K Z u) (V : BV m t K Z) {i : Nat} (hi : i < m) (x y d : Int32) : fX0_moveBy (nI (g i)) d (atC u x y) = some ((), if Z i 0 = 0 then atC u (x + d) y else atC u x (y + d)) := by
  have H' := BC_at H x y
  unfold fX0_moveBy
  rw [H'.2.1, if_pos (BC_c H), n0C H' V hi, q_b_some, atC_x, atC_y, q_lt_eq, q_lt_eq, atC_wx, atC_wy]
  by_cases hz : Z i 0 = 0
  · rw [if_pos hz, if_pos hz]
  · rw [if_neg hz, if_neg hz]
theorem tiredC {q m t : Nat} {g K : Nat → Nat} {Z : Nat → Nat → Int32} {w : q_W} (H : BC q m t g K Z w) (V : BV m t K Z) {R : Nat} (hR : R ≤ 512) : fX0_tired (nI R) w = some (nI (radN R t), w) := by
  have hb : R * (10 - t) ≤ 512 * 10 := Nat.mul_le_mul hR (by omega)
  unfold fX0_tired radN
  rw [H.2.2.2.1, rad_ok hR V.2.1, q_lt_eq, show (1 : Int32) = nI 1 from rfl]
  by_cases h : 1 ≤ R * (10 - t) / 10
  · rw [if_pos h, if_pos (by rw [nI_leI (by omega) (by omega)]; exact h)]
  · rw [if_neg h, if_neg (by rw [nI_leI (by omega) (by omega)]; exact h)]
theorem stretchC (u : q_W) (x y a b n d : Int32) (hd : ¬ d = 0) : fX0_stretchFrom a b n d (atC u x y) = some ((), atC u (a + ((x - a) * n) / d) (b + ((y - b) * n) / d)) := by
  unfold fX0_stretchFrom
  rw [if_neg hd, if_neg hd, q_lt_eq, atC_x, atC_wx, if_neg hd, q_lt_eq, atC_y, atC_wy]
theorem sq00 (a : Int32) : a * a + (0 : Int32) * 0 = a * a := by grind
theorem leaveC {q m t : Nat} {g K : Nat → Nat} {Z : Nat → Nat → Int32} {u : q_W} (H : BC q m t g K Z u) (V : BV m t K Z) {i : Nat} (hi : i < m) (h0 : K i = 0) {a b : Nat} (ha : a < 1024) (hb : b < 1024) : fX0_leaveDrop (nI (g i)) (atC u (nI a) (nI b)) = match bk0 t (Z i) (nI a) (nI b) with
    | none => some (0, atC u (nI a) (nI b))
    | some p => some (1, atC u p.1 p.2) := by
  have H' := BC_at H (nI a) (nI b)
  have hF := (V.2.2 i hi).2
  rw [h0] at hF
  obtain ⟨X, Y, R, C, hX, hY, hR1, hR, hC, z0, z1, z2, z3⟩ := fits0 hF
  have n1 : fX6_numberOf q (nI (g i)) 1 (atC u (nI a) (nI b)) = some (Z i 1, (atC u (nI a) (nI b))) := num1 H' hi (by omega) (by rw [h0]; decide)
  have n2 : fX6_numberOf q (nI (g i)) 2 (atC u (nI a) (nI b)) = some (Z i 2, (atC u (nI a) (nI b))) := num1 H' hi (by omega) (by rw [h0]; decide)
  obtain ⟨hD1, hD2⟩ := dD_ok ha hb hX hY z0 z1
  have er : rR t (Z i) = radN R t := by unfold rR; rw [z2, q_ixn (by omega)]
  have hrl := radN_le (t := t) hR
  have hrr : radN R t * radN R t ≤ 512 * 512 := Nat.mul_le_mul (by omega) (by omega)
  have hrr0 : 1 * 1 ≤ radN R t * radN R t := Nat.mul_le_mul (by omega) (by omega)
  unfold fX0_leaveDrop fX0_squareOf bk0
  rw [H'.2.1, if_pos (BC_c H), n0C H' V hi, q_b_some, H'.2.1, if_pos (BC_c H), n1, q_b_some, atC_x, atC_y, hD2, q_b_some, H'.2.1, if_pos (BC_c H), n2, q_b_some, z2, tiredC H' V hR, q_b_some, q_b_some, q_lt_eq, sq00, pk_mul, er]
  by_cases hl : dD (nI a) (nI b) (Z i) < radN R t * radN R t
  · have hs := pk_sneg (by omega) hl
    rw [if_pos hl, if_neg]
    rw [i_lt] at hs
    rw [i_le]
    omega
  · have hp : 0 < rt (dD (nI a) (nI b) (Z i)) := rt_pos (by omega)
    have hp2 : rt (dD (nI a) (nI b) (Z i)) ≤ 2000 := rt_le (by omega)
    rw [if_neg hl, pk_sub (by omega), if_pos (nI_pos' (by omega)), rootC_ok _ (by omega), q_b_some, rootC_ok _ (by omega), q_b_some, stretchC _ _ _ _ _ _ _ (nI_ne0 hp (by omega)), q_b_some]
theorem makeC {q m t : Nat} {g K : Nat → Nat} {Z : Nat → Nat → Int32} {u : q_W} (H : BC q m t g K Z u) (V : BV m t K Z) {i : Nat} (hi : i < m) (h0 : K i = 0) {a b : Nat} (ha : a < 1024) (hb : b < 1024) : fX0_makeWay (nI (g i)) (atC u (nI a) (nI b)) = some ((), atC u (fw0 t (Z i) (nI a) (nI b)).1 (fw0 t (Z i) (nI a) (nI b)).2) := by
  have H' := BC_at H (nI a) (nI b)
  have hF := (V.2.2 i hi).2
  rw [h0] at hF
  obtain ⟨X, Y, R, C, hX, hY, hR1, hR, hC, z0, z1, z2, z3⟩ := fits0 hF
  have n1 : fX6_numberOf q (nI (g i)) 1 (atC u (nI a) (nI b)) = some (Z i 1, (atC u (nI a) (nI b))) := num1 H' hi (by omega) (by rw [h0]; decide)
  have n2 : fX6_numberOf q (nI (g i)) 2 (atC u (nI a) (nI b)) = some (Z i 2, (atC u (nI a) (nI b))) := num1 H' hi (by omega) (by rw [h0]; decide)
  obtain ⟨hD1, hD2⟩ := dD_ok ha hb hX hY z0 z1
  have er : rR t (Z i) = radN R t := by unfold rR; rw [z2, q_ixn (by omega)]
  have hrl := radN_le (t := t) hR
  have hrr : radN R t * radN R t ≤ 512 * 512 := Nat.mul_le_mul (by omega) (by omega)
  unfold fX0_makeWay fX0_squareOf fw0
  rw [H'.2.1, if_pos (BC_c H), n0C H' V hi, q_b_some, H'.2.1, if_pos (BC_c H), n1, q_b_some, atC_x, atC_y, hD2, q_b_some, H'.2.1, if_pos (BC_c H), n2, q_b_some, z2, tiredC H' V hR, q_b_some, er]
  by_cases hl : dD (nI a) (nI b) (Z i) = 0
  · rw [if_pos hl, hl, if_pos (show nI 0 = 0 from rfl), q_lt_eq, atC_x, atC_wx]
  · have hp : 0 < rt (dD (nI a) (nI b) (Z i)) := rt_pos (by omega)
    have hp2 : rt (dD (nI a) (nI b) (Z i)) ≤ 2000 := rt_le (by omega)
    rw [if_neg hl, if_neg (nI_ne0 (by omega) (by omega)), q_b_some, sq00, pk_mul, nI_add, rootC_ok _ (by omega), q_b_some, rootC_ok _ (by omega), q_b_some, stretchC _ _ _ _ _ _ _ (nI_ne0 hp (by omega)), q_b_some]
def cvC (g : Nat → Nat) (c : Nat) : Int32 := if c = 0 then -1 else if c = 1 then -2 else nI (g (c - 2))
theorem back_out (w : q_W) (x y : Int32) (h : ptB x y = false) (N : Nat) (x3 : Int32) : q_it (N + 1) fX0_goBack_h22 (fun _ _ => none) x3 (atC w x y) = some (-2, atC w x y) := by
  have e : fX0_goBack_n94 (atC w x y) = some (-2, atC w x y) := by
    unfold fX0_goBack_n94
    rw [atC_x, atC_y, isPointC, q_b_some, h, if_pos b01_f]
  rw [q_itS, fX0_goBack_h22]
  by_cases hx : x3 < 0
  · rw [if_pos hx, e]
  · rw [if_neg hx, atC_x, atC_y, isPointC, q_b_some, h, if_pos b01_f, e]
theorem nI_m1 (n : Nat) : nI n + (-1) = nI n - 1 := by grind
theorem backC_lok {q m t : Nat} {g K : Nat → Nat} {Z : Nat → Nat → Int32} {u : q_W} (H : BC q m t g K Z u) (V : BV m t K Z) : ∀ i N x y, i ≤ m → i < N → ptB x y = true → q_it N fX0_goBack_h22 (fun _ _ => none) (nI i - 1) (atC u x y) = some (cvC g (org t K Z i x y).1, atC u (org t K Z i x y).2.1 (org t K Z i x y).2.2) := by
  intro i
  induction i with
  | zero =>
    intro N x y h1 h2 h3
    obtain ⟨N, rfl⟩ : ∃ M, N = M + 1 := ⟨N - 1, by omega⟩
    rw [q_itS, fX0_goBack_h22, if_pos (show nI 0 - 1 < 0 by decide)]
    unfold fX0_goBack_n94
    rw [atC_x, atC_y, isPointC, q_b_some, h3, if_neg b01_t]
    rfl
  | succ i ih =>
    intro N x y h1 h2 h3
    obtain ⟨N, rfl⟩ : ∃ M, N = M + 1 := ⟨N - 1, by omega⟩
    obtain ⟨M, rfl⟩ : ∃ M, N = M + 1 := ⟨N - 1, by omega⟩
    have hm := V.1
    have H' := BC_at H x y
    obtain ⟨a, b, ha, hb, rfl, rfl⟩ := ptB_of h3
    have hp : (atC u (nI a) (nI b)).1 13 i = nI (g i) := (by obtain ⟨_, _, _, _, L, _, _, h5⟩ := H'; exact (h5 i (by omega)).2.1)
    rw [nI_pred, q_itS, fX0_goBack_h22, if_neg (nI_pos (by omega)), atC_x, atC_y, isPointC, q_b_some, h3, if_neg b01_t, if_pos (q_inb_nI (by omega) (by omega)), q_lt_eq, q_ix_nI (by omega), hp, H'.2.1, if_pos (BC_c H), kind1 H' (show i < m by omega), q_b_some]
    unfold fX0_goBack_n88
    by_cases h0 : K i = 0
    · rw [h0, if_pos (show nI 0 = 0 from rfl), leaveC H V (show i < m by omega) h0 ha hb]
      have eo : org t K Z (i + 1) (nI a) (nI b) = match bk0 t (Z i) (nI a) (nI b) with
        | none => (i + 2, nI a, nI b)
        | some p => if ptB p.1 p.2 then org t K Z i p.1 p.2 else (1, p.1, p.2) := by
        conv => lhs; unfold org
        unfold bkw
        rw [if_pos h0]
        cases bk0 t (Z i) (nI a) (nI b) <;> rfl
      rw [eo]
      cases hbk : bk0 t (Z i) (nI a) (nI b) with
      | none =>
        simp only []
        rw [q_b_some, if_pos rfl]
        unfold cvC
        rw [if_neg (by omega), if_neg (by omega), Nat.add_sub_cancel]
      | some p =>
        simp only []
        rw [q_b_some, if_neg i_10, q_lt_eq, nI_m1]
        cases hpp : ptB p.1 p.2 with
        | true =>
          rw [if_pos rfl]
          exact ih (M + 1) p.1 p.2 (by omega) (by omega) hpp
        | false =>
          rw [if_neg (by decide), back_out _ _ _ hpp]
          rfl
    · have hK := (V.2.2 i (by omega)).1
      rw [if_neg (nI_ne0 (by omega) (by omega)), dragC H' V (show i < m by omega) h0 ha hb (atC_x _ _ _) (atC_y _ _ _), q_b_some, moveC H V (show i < m by omega), q_b_some, q_lt_eq, nI_m1]
      have eo : org t K Z (i + 1) (nI a) (nI b) = if ptB (if Z i 0 = 0 then (nI a - drg (K i) (Z i) (nI b), nI b) else (nI a, nI b - drg (K i) (Z i) (nI a))).1 (if Z i 0 = 0 then (nI a - drg (K i) (Z i) (nI b), nI b) else (nI a, nI b - drg (K i) (Z i) (nI a))).2 then org t K Z i (if Z i 0 = 0 then (nI a - drg (K i) (Z i) (nI b), nI b) else (nI a, nI b - drg (K i) (Z i) (nI a))).1 (if Z i 0 = 0 then (nI a - drg (K i) (Z i) (nI b), nI b) else (nI a, nI b - drg (K i) (Z i) (nI a))).2 else (1, (if Z i 0 = 0 then (nI a - drg (K i) (Z i) (nI b), nI b) else (nI a, nI b - drg (K i) (Z i) (nI a))).1, (if Z i 0 = 0 then (nI a - drg (K i) (Z i) (nI b), nI b) else (nI a, nI b - drg (K i) (Z i) (nI a))).2) := by
        conv => lhs; unfold org
        unfold bkw
        rw [if_neg h0]
        by_cases hz : Z i 0 = 0
        · rw [if_pos hz, if_pos hz]
        · rw [if_neg hz, if_neg hz]
      have ew : (if Z i 0 = 0 then atC u (nI a + (0 - drg (K i) (Z i) (if Z i 0 = 0 then nI b else nI a))) (nI b) else atC u (nI a) (nI b + (0 - drg (K i) (Z i) (if Z i 0 = 0 then nI b else nI a)))) = atC u (if Z i 0 = 0 then (nI a - drg (K i) (Z i) (nI b), nI b) else (nI a, nI b - drg (K i) (Z i) (nI a))).1 (if Z i 0 = 0 then (nI a - drg (K i) (Z i) (nI b), nI b) else (nI a, nI b - drg (K i) (Z i) (nI a))).2 := by
        have es (p r : Int32) : p + (0 - r) = p - r := by grind
        by_cases hz : Z i 0 = 0
        · simp only [if_pos hz]; rw [es]
        · simp only [if_neg hz]; rw [es]
      rw [eo, ew]
      generalize (if Z i 0 = 0 then (nI a - drg (K i) (Z i) (nI b), nI b) else (nI a, nI b - drg (K i) (Z i) (nI a))) = p
      cases hpp : ptB p.1 p.2 with
      | true =>
        rw [if_pos rfl]
        exact ih (M + 1) p.1 p.2 (by omega) (by omega) hpp
      | false =>
        rw [if_neg (by decide), back_out _ _ _ hpp]
        rfl
theorem qmin_ok {m n : Nat} (h : m ≤ n) (hn : n < 2 ^ 31) : q_imin (nI m) (nI n) = nI m := by
  unfold q_imin
  by_cases e : m = n
  · subst e; rw [if_neg (nI_nlt (Nat.le_refl _) hn)]
  · rw [if_neg (nI_nlt h hn)]
theorem backC {q m t : Nat} {g K : Nat → Nat} {Z : Nat → Nat → Int32} {u : q_W} (H : BC q m t g K Z u) (V : BV m t K Z) (x y : Int32) : fX0_goBack x y u = if ptB x y then some (cvC g (org t K Z m x y).1, atC u (org t K Z m x y).2.1 (org t K Z m x y).2.2) else some (-2, atC u x y) := by
  have hm := V.1
  unfold fX0_goBack fX0_goBack_l22
  rw [q_lt_eq, q_lt_eq, q_lt_eq]
  show q_it q_N fX0_goBack_h22 (fun _ _ => none) (q_imin ((atC u x y).1 12 2) 120 - 1) (atC u x y) = _
  rw [atC_k _ _ _ 2 (by decide) (by decide), H.2.2.1, show (120 : Int32) = nI 120 from rfl, qmin_ok hm (by decide)]
  cases hp : ptB x y with
  | true =>
    rw [if_pos rfl]
    exact backC_lok H V m q_N x y (Nat.le_refl _) (Nat.lt_of_le_of_lt hm (Nat.le_of_ble_eq_true rfl)) hp
  | false =>
    rw [if_neg (by decide)]
    exact back_out _ _ _ hp 3999999999 _
