/-! the bath of the reference -/
def BR (m t : Nat) (K : Nat → Nat) (Z : Nat → Nat → Int32) (v : q_W) : Prop :=
  v.1 0 55 = nI m ∧ v.1 0 56 = nI t ∧ ∀ i, i < m → v.1 29 i = nI (K i) ∧ ∀ j, j < nums (K i) → v.1 30 (6 * i + j) = Z i j
theorem BR_at {m t : Nat} {K : Nat → Nat} {Z : Nat → Nat → Int32} {v : q_W} (H : BR m t K Z v) (x y : Int32) : BR m t K Z (atR v x y) := by
  unfold BR at *
  rw [atR_k _ _ _ 55 (by decide) (by decide), atR_k _ _ _ 56 (by decide) (by decide), atR_o _ _ _ 29 (by decide), atR_o _ _ _ 30 (by decide)]
  exact H
theorem nI6 (s : Nat) : (6 : Int32) * nI s = nI (6 * s) := by rw [show (6 : Int32) = nI 6 from rfl, pk_mul]
theorem farR {o b : Nat} (ho : o < 2 ^ 30) (hb : b < 2 ^ 30) : (if nI o ≤ nI b then nI b - nI o else nI o - nI b) = nI (dst (nI o) (nI b)) := by
  rw [dst_n (by omega) (by omega)]
  by_cases h : o ≤ b
  · rw [if_pos (by rw [nI_leI (by omega) (by omega)]; exact h), pk_sub h]; congr 1; omega
  · rw [if_neg (by rw [nI_leI (by omega) (by omega)]; exact h), pk_sub (by omega)]; congr 1; omega
theorem combR_lok {m t : Nat} {K : Nat → Nat} {Z : Nat → Nat → Int32} {w : q_W} (H : BR m t K Z w) (hm : m ≤ 120) {i : Nat} (hi : i < m) (hk : K i = 2) (o b c d e : Nat) (ho : o < 1024) (hb : b < 1024) (hc : c < 1024) (hd : d ≤ 20) (he0 : 1 ≤ e) (he : e < 1024) (z1 : Z i 1 = nI b) (z2 : Z i 2 = nI c) (z3 : Z i 3 = nI d) (z4 : small (Z i 4) 1023) (z5 : Z i 5 = nI e) : ∀ s N k, k + s = d → s < N → q_it N fX11_drags_h134 (fun _ _ _ _ _ => none) (nI o) (nI (6 * i)) (combS (Z i) (nI o) k) (nI k) w = some (combS (Z i) (nI o) d, w) := by
  have a (j : Nat) (hj : j < 6) : w.1 30 (6 * i + j) = Z i j := (H.2.2 i hi).2 j (by rw [hk]; exact hj)
  intro s
  induction s with
  | zero =>
    intro N k h hN
    obtain ⟨N, rfl⟩ : ∃ M, N = M + 1 := ⟨N - 1, by omega⟩
    rw [q_itS, fX11_drags_h134, q_lt_eq, show (3 : Int32) = nI 3 from rfl, nI_add, if_pos (q_inb_nI (by omega) (by omega)), q_ix_nI (by omega), a 3 (by decide), z3, if_pos (by rw [nI_leI (by omega) (by omega)]; omega), show k = d by omega]
  | succ s ih =>
    intro N k h hN
    obtain ⟨N, rfl⟩ : ∃ M, N = M + 1 := ⟨N - 1, by omega⟩
    have hkc : k * c ≤ 20 * 1024 := Nat.mul_le_mul (by omega) (by omega)
    rw [q_itS, fX11_drags_h134, q_lt_eq, show (3 : Int32) = nI 3 from rfl, nI_add, if_pos (q_inb_nI (by omega) (by omega)), q_ix_nI (by omega), a 3 (by decide), z3, if_neg (by rw [nI_leI (by omega) (by omega)]; omega)]
    rw [q_lt_eq, nI_1, if_pos (q_inb_nI (by omega) (by omega)), q_lt_eq, show (2 : Int32) = nI 2 from rfl, nI_add, if_pos (q_inb_nI (by omega) (by omega)), q_lt_eq, q_ix_nI (by omega), q_ix_nI (by omega), a 1 (by decide), a 2 (by decide), z1, z2, pk_mul, nI_add]
    rw [q_lt_eq, show (4 : Int32) = nI 4 from rfl, nI_add, if_pos (q_inb_nI (by omega) (by omega)), q_lt_eq, show (5 : Int32) = nI 5 from rfl, nI_add, if_pos (q_inb_nI (by omega) (by omega)), q_ix_nI (by omega), q_ix_nI (by omega), a 4 (by decide), a 5 (by decide), z5]
    have e2 : combS (Z i) (nI o) k + tooth (dst (nI o) (nI (b + k * c))) e (Z i 4) = combS (Z i) (nI o) (k + 1) := by
      show _ = combS (Z i) (nI o) k + tooth (dst (nI o) (Z i 1 + nI k * Z i 2)) (q_ix (Z i 5)) (Z i 4)
      rw [z1, z2, z5, q_ixn (by omega), pk_mul, nI_add]
    have hd1 : dst (nI o) (nI (b + k * c)) < 2 ^ 31 := by rw [dst_n (by omega) (by omega)]; omega
    have far := farR (o := o) (b := b + k * c) (by omega) (by omega)
    unfold fX11_drags_n204
    have fin : ∀ f, f = nI (dst (nI o) (nI (b + k * c))) → (q_b (fX11_drag (Z i 4) (nI e) f w) fun r1 w2 => q_lt (combS (Z i) (nI o) k + r1) fun y3 => q_lt (nI k + 1) fun y4 => q_it N fX11_drags_h134 (fun _ _ _ _ _ => none) (nI o) (nI (6 * i)) y3 y4 w2) = some (combS (Z i) (nI o) d, w) := by
      rintro f rfl
      rw [dragR_ok hd1 (by omega) (by omega) z4, q_b_some, q_lt_eq, q_lt_eq, nI_1, e2]
      exact ih N (k + 1) (by omega) (by omega)
    by_cases hob : nI o ≤ nI (b + k * c)
    · rw [if_pos hob] at far ⊢
      exact fin _ far
    · rw [if_neg hob] at far ⊢
      exact fin _ far
theorem dragsR {m t : Nat} {K : Nat → Nat} {Z : Nat → Nat → Int32} {w : q_W} (H : BR m t K Z w) (V : BV m t K Z) {i : Nat} (hi : i < m) (h0 : K i ≠ 0) {o : Nat} (ho : o < 1024) : fX11_drags (nI i) (nI o) w = some (drg (K i) (Z i) (nI o), w) := by
  have hm := V.1
  obtain ⟨hK, hF⟩ := V.2.2 i hi
  obtain ⟨kd, a⟩ := H.2.2 i hi
  unfold fX11_drags drg
  rw [nI6, q_lt_eq, if_pos (q_inb_nI (by omega) (by omega)), q_ix_nI (by omega), kd]
  have : K i = 1 ∨ K i = 2 ∨ K i = 3 := by omega
  rcases this with hk | hk | hk
  · rw [hk] at hF
    obtain ⟨c, b, d, hc, hb, hd0, hd, z0, z1, z2, z3⟩ := fits1 hF
    have a (j : Nat) (hj : j < 4) : w.1 30 (6 * i + j) = Z i j := a j (by rw [hk]; exact hj)
    have hd1 : dst (nI o) (nI b) < 2 ^ 31 := by rw [dst_n (by omega) (by omega)]; omega
    have far := farR (o := o) (b := b) (by omega) (by omega)
    rw [hk, if_neg (show ¬ nI 1 = 3 by decide), if_pos (q_inb_nI (show i < 120 by omega) (by omega)), if_pos (show nI 1 = 1 from rfl), q_lt_eq, show (2 : Int32) = nI 2 from rfl, nI_add, if_pos (q_inb_nI (by omega) (by omega)), q_lt_eq, show (3 : Int32) = nI 3 from rfl, nI_add, if_pos (q_inb_nI (by omega) (by omega)), q_lt_eq, nI_1, if_pos (q_inb_nI (by omega) (by omega)), q_ix_nI (by omega), q_ix_nI (by omega), q_ix_nI (by omega), a 1 (by decide), a 2 (by decide), a 3 (by decide), z1, z3, if_pos rfl, q_ixn (by omega)]
    unfold fX11_drags_n124
    have fin : ∀ f, f = nI (dst (nI o) (nI b)) → (q_b (fX11_drag (Z i 2) (nI d) f w) fun r1 w2 => some (r1, w2)) = some (tooth (dst (nI o) (nI b)) d (Z i 2), w) := by
      rintro f rfl
      rw [dragR_ok hd1 (by omega) (by omega) z2, q_b_some]
    by_cases hob : nI o ≤ nI b
    · rw [if_pos hob] at far ⊢
      rw [q_lt_eq, if_pos (q_inb_nI (by omega) (by omega)), q_ix_nI (by omega), a 1 (by decide), z1]
      exact fin _ far
    · rw [if_neg hob] at far ⊢
      rw [q_lt_eq, if_pos (q_inb_nI (by omega) (by omega)), q_ix_nI (by omega), a 1 (by decide), z1]
      exact fin _ far
  · rw [hk] at hF
    obtain ⟨c0, b, c, d, e, hc0, hb, hc1, hc, hd0, hd, he0, he, z0, z1, z2, z3, z4, z5⟩ := fits2 hF
    have := combR_lok H hm hi hk o b c d e ho hb hc hd he0 he z1 z2 z3 z4 z5 d q_N 0 (by omega) (Nat.lt_of_le_of_lt hd (Nat.le_of_ble_eq_true rfl))
    rw [hk, if_neg (show ¬ nI 2 = 3 by decide), if_pos (q_inb_nI (show i < 120 by omega) (by omega)), if_neg (show ¬ nI 2 = 1 by decide), if_neg (by decide), if_pos rfl, z3, q_ixn (by omega)]
    exact this
  · rw [hk] at hF
    obtain ⟨c, b, hc, hb0, hb, z0, z1, z2⟩ := fits3 hF
    have a (j : Nat) (hj : j < 3) : w.1 30 (6 * i + j) = Z i j := a j (by rw [hk]; exact hj)
    have hz : ¬ nI b = 0 := nI_ne0 (by omega) (by omega)
    rw [hk, if_pos (show nI 3 = 3 from rfl), q_lt_eq, nI_1, if_pos (q_inb_nI (by omega) (by omega)), q_lt_eq, q_ix_nI (by omega), a 1 (by decide), z1, if_neg hz, q_lt_eq, if_neg (show ¬ (3 : Nat) = 1 by decide), if_neg (show ¬ (3 : Nat) = 2 by decide), q_lt_eq]
    unfold fX11_drags_n48 waveS
    rw [q_lt_eq, show (2 : Int32) = nI 2 from rfl, nI_add, if_pos (q_inb_nI (by omega) (by omega)), if_neg hz, q_lt_eq, if_pos (q_inb_nI (by omega) (by omega)), if_neg hz, q_ix_nI (by omega), a 2 (by decide), z1]
    generalize hc' : nI o - nI o / nI b * nI b = r
    by_cases h1 : r ≤ nI b - r
    · rw [if_pos h1]
      by_cases h2 : nI b - r ≤ r
      · have : r = nI b - r := Int32.le_antisymm h1 h2
        rw [if_pos h2, ← this]
      · rw [if_neg h2]
    · have h2 : nI b - r ≤ r := by rw [i_le] at h1 ⊢; omega
      rw [if_neg h1, if_pos h2]
theorem radiusR {m t : Nat} {K : Nat → Nat} {Z : Nat → Nat → Int32} {w : q_W} (H : BR m t K Z w) (V : BV m t K Z) {i : Nat} (hi : i < m) (h0 : K i = 0) {R : Nat} (hR : R ≤ 512) (z2 : Z i 2 = nI R) : fX11_radius (nI i) w = some (nI (radN R t), w) := by
  have hm := V.1
  have hb : R * (10 - t) ≤ 512 * 10 := Nat.mul_le_mul hR (by omega)
  obtain ⟨kd, a⟩ := H.2.2 i hi
  unfold fX11_radius radN
  rw [nI6, q_lt_eq, show (2 : Int32) = nI 2 from rfl, nI_add, if_pos (q_inb_nI (by omega) (by omega)), q_ix_nI (by omega), a 2 (by rw [h0]; decide), z2, H.2.1, rad_ok hR V.2.1, q_lt_eq, show (1 : Int32) = nI 1 from rfl]
  by_cases h : 1 ≤ R * (10 - t) / 10
  · rw [if_pos h, if_pos (by rw [nI_leI (by omega) (by omega)]; exact h)]
  · rw [if_neg h, if_neg (by rw [nI_leI (by omega) (by omega)]; exact h)]
theorem backsR_n (u : q_W) (x y : Int32) : fX11_backs_n187 (atR u x y) = some (if ptB x y then 0 else 2, atR u x y) := by
  unfold fX11_backs_n187
  rw [atR_x, atR_y, isPointR, q_b_some]
  cases ptB x y with
  | true => rw [if_neg b01_t, if_pos rfl]
  | false => rw [if_pos b01_f, if_neg (by decide)]
theorem backsR {m t : Nat} {K : Nat → Nat} {Z : Nat → Nat → Int32} {u : q_W} (H : BR m t K Z u) (V : BV m t K Z) {i : Nat} (hi : i < m) {a b : Nat} (ha : a < 1024) (hb : b < 1024) : fX11_backs (nI i) (atR u (nI a) (nI b)) = match bkw t (K i) (Z i) (nI a) (nI b) with
    | none => some (1, atR u (nI a) (nI b))
    | some p => some (if ptB p.1 p.2 then 0 else 2, atR u p.1 p.2) := by
  have hm := V.1
  have H' := BR_at H (nI a) (nI b)
  obtain ⟨hK, hF⟩ := V.2.2 i hi
  obtain ⟨kd, ac⟩ := H'.2.2 i hi
  unfold fX11_backs bkw
  rw [nI6, if_pos (q_inb_nI (by omega) (by omega)), q_ix_nI (by omega), kd]
  by_cases h0 : K i = 0
  · rw [h0] at hF
    obtain ⟨X, Y, R, C, hX, hY, hR1, hR, hC, z0, z1, z2, z3⟩ := fits0 hF
    have ac (j : Nat) (hj : j < 4) : (atR u (nI a) (nI b)).1 30 (6 * i + j) = Z i j := ac j (by rw [h0]; exact hj)
    obtain ⟨hD1, hD2⟩ := dD_ok ha hb hX hY z0 z1
    have er : rR t (Z i) = radN R t := by unfold rR; rw [z2, q_ixn (by omega)]
    have hrl := radN_le (t := t) hR
    have hrr : radN R t * radN R t ≤ 512 * 512 := Nat.mul_le_mul (by omega) (by omega)
    have hrr0 : 1 * 1 ≤ radN R t * radN R t := Nat.mul_le_mul (by omega) (by omega)
    unfold bk0
    have a0 := ac 0 (by decide)
    rw [Nat.add_zero] at a0
    rw [h0, if_pos (show nI 0 = 0 from rfl), if_pos rfl, q_lt_eq, if_pos (q_inb_nI (by omega) (by omega)), q_lt_eq, q_lt_eq, nI_1, if_pos (q_inb_nI (by omega) (by omega)), q_lt_eq, q_lt_eq, q_ix_nI (by omega), q_ix_nI (by omega), a0, ac 1 (by decide), atR_x, atR_y, hD2, radiusR H' V hi h0 hR z2, q_b_some, pk_mul, er]
    by_cases hl : dD (nI a) (nI b) (Z i) < radN R t * radN R t
    · rw [if_pos hl, if_neg (by rw [nI_leI (by omega) (by omega)]; omega)]
    · have hp : 0 < rt (dD (nI a) (nI b) (Z i)) := rt_pos (by omega)
      have hp2 : rt (dD (nI a) (nI b) (Z i)) ≤ 2000 := rt_le (by omega)
      have hz := nI_ne0 hp (by omega)
      rw [if_neg hl, if_pos (by rw [nI_leI (by omega) (by omega)]; omega), pk_sub (by omega), rootR_ok _ (by omega), q_b_some, rootR_ok _ (by omega), q_b_some, q_lt_eq, if_pos (q_inb_nI (by omega) (by omega)), if_neg hz, q_lt_eq, q_ix_nI (by omega), a0, atR_wx, q_lt_eq, if_pos (q_inb_nI (by omega) (by omega)), if_neg hz, q_lt_eq, q_ix_nI (by omega), atR_wy]
      have a1 := ac 1 (by decide)
      rw [atR_o _ _ _ 30 (by decide)] at a1 ⊢
      rw [a1, backsR_n]
  · have e0 : 0 < nums (K i) := by
      have : K i = 1 ∨ K i = 2 ∨ K i = 3 := by omega
      rcases this with e | e | e <;> rw [e] <;> decide
    have a0 := ac 0 e0
    rw [Nat.add_zero] at a0
    rw [if_neg (nI_ne0 (by omega) (by omega)), if_neg h0, q_lt_eq, if_pos (q_inb_nI (by omega) (by omega)), q_ix_nI (by omega), a0, atR_x, atR_y]
    by_cases hz : Z i 0 = 0
    · rw [if_pos hz, if_pos hz, dragsR H' V hi h0 hb, q_b_some, q_lt_eq, atR_wx, backsR_n]
    · rw [if_neg hz, if_neg hz, dragsR H' V hi h0 ha, q_b_some, q_lt_eq, atR_wy, backsR_n]
theorem forthR_n (u : q_W) (x y : Int32) : fX11_forth_n194 (atR u x y) = some (b01 (ptB x y), atR u x y) := by
  unfold fX11_forth_n194
  rw [atR_x, atR_y, isPointR, q_b_some, if_pos (b01_or _)]
theorem forthR {m t : Nat} {K : Nat → Nat} {Z : Nat → Nat → Int32} {u : q_W} (H : BR m t K Z u) (V : BV m t K Z) {i : Nat} (hi : i < m) {a b : Nat} (ha : a < 1024) (hb : b < 1024) : fX11_forth (nI i) (atR u (nI a) (nI b)) = some (b01 (ptB (fww t (K i) (Z i) (nI a) (nI b)).1 (fww t (K i) (Z i) (nI a) (nI b)).2), atR u (fww t (K i) (Z i) (nI a) (nI b)).1 (fww t (K i) (Z i) (nI a) (nI b)).2) := by
  have hm := V.1
  have H' := BR_at H (nI a) (nI b)
  obtain ⟨hK, hF⟩ := V.2.2 i hi
  obtain ⟨kd, ac⟩ := H'.2.2 i hi
  unfold fX11_forth fX11_forth_n140 fww
  rw [nI6, if_pos (q_inb_nI (by omega) (by omega)), q_ix_nI (by omega), kd]
  by_cases h0 : K i = 0
  · rw [h0] at hF
    obtain ⟨X, Y, R, C, hX, hY, hR1, hR, hC, z0, z1, z2, z3⟩ := fits0 hF
    have ac (j : Nat) (hj : j < 4) : (atR u (nI a) (nI b)).1 30 (6 * i + j) = Z i j := ac j (by rw [h0]; exact hj)
    obtain ⟨hD1, hD2⟩ := dD_ok ha hb hX hY z0 z1
    have er : rR t (Z i) = radN R t := by unfold rR; rw [z2, q_ixn (by omega)]
    have hrl := radN_le (t := t) hR
    have hrr : radN R t * radN R t ≤ 512 * 512 := Nat.mul_le_mul (by omega) (by omega)
    unfold fw0
    have a0 := ac 0 (by decide)
    rw [Nat.add_zero] at a0
    rw [h0, if_pos (show nI 0 = 0 from rfl), if_pos rfl, q_lt_eq, if_pos (q_inb_nI (by omega) (by omega)), q_lt_eq, q_lt_eq, nI_1, if_pos (q_inb_nI (by omega) (by omega)), q_lt_eq, q_lt_eq, q_ix_nI (by omega), q_ix_nI (by omega), a0, ac 1 (by decide), atR_x, atR_y, hD2, radiusR H' V hi h0 hR z2, q_b_some, er]
    by_cases hl : dD (nI a) (nI b) (Z i) = 0
    · rw [if_pos hl, hl, if_pos (show nI 0 = 0 from rfl), q_lt_eq, atR_x, atR_wx, forthR_n]
    · have hp : 0 < rt (dD (nI a) (nI b) (Z i)) := rt_pos (by omega)
      have hp2 : rt (dD (nI a) (nI b) (Z i)) ≤ 2000 := rt_le (by omega)
      have hz := nI_ne0 hp (by omega)
      rw [if_neg hl, if_neg (nI_ne0 (by omega) (by omega)), rootR_ok _ (by omega), q_b_some, pk_mul, nI_add, rootR_ok _ (by omega), q_b_some, q_lt_eq, if_pos (q_inb_nI (by omega) (by omega)), if_neg hz, q_lt_eq, q_ix_nI (by omega), a0, atR_wx, q_lt_eq, if_pos (q_inb_nI (by omega) (by omega)), if_neg hz, q_lt_eq, q_ix_nI (by omega), atR_wy]
      have a1 := ac 1 (by decide)
      rw [atR_o _ _ _ 30 (by decide)] at a1 ⊢
      rw [a1, forthR_n]
  · have e0 : 0 < nums (K i) := by
      have : K i = 1 ∨ K i = 2 ∨ K i = 3 := by omega
      rcases this with e | e | e <;> rw [e] <;> decide
    have a0 := ac 0 e0
    rw [Nat.add_zero] at a0
    rw [if_neg (nI_ne0 (by omega) (by omega)), if_neg h0, q_lt_eq, if_pos (q_inb_nI (by omega) (by omega)), q_ix_nI (by omega), a0, atR_x, atR_y]
    by_cases hz : Z i 0 = 0
    · rw [if_pos hz, if_pos hz, dragsR H' V hi h0 hb, q_b_some, q_lt_eq, atR_wx, forthR_n]
    · rw [if_neg hz, if_neg hz, dragsR H' V hi h0 ha, q_b_some, q_lt_eq, atR_wy, forthR_n]
theorem originR_lok {m t : Nat} {K : Nat → Nat} {Z : Nat → Nat → Int32} {u : q_W} (H : BR m t K Z u) (V : BV m t K Z) : ∀ i N x y, i ≤ m → i < N → ptB x y = true → q_it N fX11_origin_h28 (fun _ _ => none) (nI i - 1) (atR u x y) = some (cvC id (org t K Z i x y).1, atR u (org t K Z i x y).2.1 (org t K Z i x y).2.2) := by
  have hm := V.1
  intro i
  induction i with
  | zero =>
    intro N x y h1 h2 h3
    obtain ⟨N, rfl⟩ : ∃ M, N = M + 1 := ⟨N - 1, by omega⟩
    rw [q_itS, fX11_origin_h28, if_pos (show nI 0 - 1 < 0 by decide)]
    rfl
  | succ i ih =>
    intro N x y h1 h2 h3
    obtain ⟨N, rfl⟩ : ∃ M, N = M + 1 := ⟨N - 1, by omega⟩
    obtain ⟨a, b, ha, hb, rfl, rfl⟩ := ptB_of h3
    rw [nI_pred, q_itS, fX11_origin_h28, if_neg (nI_pos (by omega)), backsR H V (show i < m by omega) ha hb]
    unfold org
    cases hbk : bkw t (K i) (Z i) (nI a) (nI b) with
    | none =>
      simp only []
      rw [q_b_some, if_neg (by decide), if_pos rfl]
      unfold cvC
      rw [if_neg (by omega), if_neg (by omega), Nat.add_sub_cancel]
      rfl
    | some p =>
      simp only []
      rw [q_b_some]
      cases hpp : ptB p.1 p.2 with
      | true =>
        rw [if_pos rfl, if_pos rfl, if_pos (by decide), q_lt_eq, nI_m1]
        exact ih N p.1 p.2 (by omega) (by omega) hpp
      | false =>
        rw [if_neg (show ¬ false = true by decide), if_neg (show ¬ false = true by decide), if_neg (by decide), if_neg (by decide)]
        rfl
theorem originR {m t : Nat} {K : Nat → Nat} {Z : Nat → Nat → Int32} {u : q_W} (H : BR m t K Z u) (V : BV m t K Z) (x y : Int32) : fX11_origin x y u = if ptB x y then some (cvC id (org t K Z m x y).1, atR u (org t K Z m x y).2.1 (org t K Z m x y).2.2) else some (-2, atR u x y) := by
  have hm := V.1
  unfold fX11_origin fX11_origin_l28
  rw [q_lt_eq, q_lt_eq, isPointR, q_b_some]
  cases hp : ptB x y with
  | true =>
    rw [if_neg b01_t, if_pos rfl, q_lt_eq]
    show q_it q_N fX11_origin_h28 (fun _ _ => none) ((atR u x y).1 0 55 - 1) (atR u x y) = _
    rw [atR_k _ _ _ 55 (by decide) (by decide), H.1]
    exact originR_lok H V m q_N x y (Nat.le_refl _) (Nat.lt_of_le_of_lt hm (Nat.le_of_ble_eq_true rfl)) hp
  | false =>
    rw [if_pos b01_f, if_neg (by decide)]
    rfl
theorem goesR_lok {m t : Nat} {K : Nat → Nat} {Z : Nat → Nat → Int32} {u : q_W} (H : BR m t K Z u) (V : BV m t K Z) : ∀ n i N x y, i + n = m → n < N → ptB x y = true → q_it N fX11_goes_h12 (fun _ _ => none) (nI i) (atR u x y) = some (b01 (fwl t K Z n i x y).1, atR u (fwl t K Z n i x y).2.1 (fwl t K Z n i x y).2.2) := by
  have hm := V.1
  intro n
  induction n with
  | zero =>
    intro i N x y h1 h2 h3
    obtain ⟨N, rfl⟩ : ∃ M, N = M + 1 := ⟨N - 1, by omega⟩
    rw [q_itS, fX11_goes_h12, atR_k _ _ _ 55 (by decide) (by decide), H.1, if_pos (by rw [nI_leI (by omega) (by omega)]; omega)]
    rfl
  | succ n ih =>
    intro i N x y h1 h2 h3
    obtain ⟨N, rfl⟩ : ∃ M, N = M + 1 := ⟨N - 1, by omega⟩
    obtain ⟨a, b, ha, hb, rfl, rfl⟩ := ptB_of h3
    rw [q_itS, fX11_goes_h12, atR_k _ _ _ 55 (by decide) (by decide), H.1, if_neg (by rw [nI_leI (by omega) (by omega)]; omega), forthR H V (show i < m by omega) ha hb, q_b_some]
    have eo : fwl t K Z (n + 1) i (nI a) (nI b) = if ptB (fww t (K i) (Z i) (nI a) (nI b)).1 (fww t (K i) (Z i) (nI a) (nI b)).2 then fwl t K Z n (i + 1) (fww t (K i) (Z i) (nI a) (nI b)).1 (fww t (K i) (Z i) (nI a) (nI b)).2 else (false, (fww t (K i) (Z i) (nI a) (nI b)).1, (fww t (K i) (Z i) (nI a) (nI b)).2) := rfl
    rw [eo]
    generalize fww t (K i) (Z i) (nI a) (nI b) = p
    cases hpp : ptB p.1 p.2 with
    | true =>
      rw [if_pos rfl, if_neg b01_t, q_lt_eq, nI_1]
      exact ih (i + 1) N p.1 p.2 (by omega) (by omega) hpp
    | false =>
      rw [if_neg (show ¬ false = true by decide), if_pos b01_f]
      rfl
theorem goesR {m t : Nat} {K : Nat → Nat} {Z : Nat → Nat → Int32} {u : q_W} (H : BR m t K Z u) (V : BV m t K Z) (x y : Int32) (hp : ptB x y = true) : fX11_goes x y u = some (b01 (fwl t K Z m 0 x y).1, atR u (fwl t K Z m 0 x y).2.1 (fwl t K Z m 0 x y).2.2) := by
  have hm := V.1
  unfold fX11_goes fX11_goes_l12
  rw [q_lt_eq, q_lt_eq]
  exact goesR_lok H V m 0 q_N x y (by omega) (Nat.lt_of_le_of_lt hm (Nat.le_of_ble_eq_true rfl)) hp
theorem colR {m t : Nat} {K : Nat → Nat} {Z : Nat → Nat → Int32} {u : q_W} (H : BR m t K Z u) (V : BV m t K Z) (x y : Int32) : fX11_colourOf x y u = some (colS m t K Z x y, atR u (endS m t K Z x y).1 (endS m t K Z x y).2) := by
  have hm := V.1
  unfold fX11_colourOf colS endS
  rw [originR H V]
  cases hp : ptB x y with
  | false =>
    rw [if_neg (by decide), if_neg (by decide), if_neg (by decide), q_b_some, if_neg (by decide)]
  | true =>
    have ho := org_lt t K Z m x y
    rw [if_pos rfl, if_pos rfl, if_pos rfl, q_b_some]
    unfold cvC
    by_cases h2 : (org t K Z m x y).1 < 2
    · rw [if_pos h2]
      by_cases h0 : (org t K Z m x y).1 = 0
      · rw [if_pos h0, if_neg (by decide)]
      · rw [if_neg h0, if_pos (show (org t K Z m x y).1 = 1 by omega), if_neg (by decide)]
    · have H' := BR_at H (org t K Z m x y).2.1 (org t K Z m x y).2.2
      have hk := ho.2 (by omega)
      rw [if_neg h2, if_neg (show ¬ (org t K Z m x y).1 = 0 by omega), if_neg (show ¬ (org t K Z m x y).1 = 1 by omega), if_pos (nI_pos' (show id ((org t K Z m x y).1 - 2) < 2 ^ 31 by show (org t K Z m x y).1 - 2 < 2 ^ 31; omega))]
      show q_lt (6 * nI ((org t K Z m x y).1 - 2) + 3) _ = _
      rw [nI6, show (3 : Int32) = nI 3 from rfl, nI_add, q_lt_eq, if_pos (q_inb_nI (by omega) (by omega)), q_ix_nI (by omega), (H'.2.2 ((org t K Z m x y).1 - 2) (by omega)).2 3 (by rw [hk]; decide)]
