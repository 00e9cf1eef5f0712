/-! row: members, their sums, the strokes picked -/
def memb (n L x j : Nat) : Nat := x / n ^ (L - 1 - j) % n
theorem memb_lt {n : Nat} (hn : 0 < n) (L x j : Nat) : memb n L x j < n := Nat.mod_lt _ hn
theorem mod_nI {x n : Nat} (hx : x < 2 ^ 31) (hn : 0 < n) (hn' : n < 2 ^ 31) : nI x - nI x / nI n * nI n = nI (x % n) := by
  have h := Nat.div_add_mod x n
  have h2 : n * (x / n) = x / n * n := Nat.mul_comm _ _
  rw [pk_div hx hn hn', pk_mul, nI_subI (by omega), show x - x / n * n = x % n by omega]
theorem memb_s {n d x j : Nat} (hj : j < d) : memb n (d + 1) x j = memb n d (x / n) j := by
  unfold memb
  rw [Nat.div_div_eq_div_mul, show d + 1 - 1 - j = (d - 1 - j) + 1 by omega, Nat.pow_succ, Nat.mul_comm n]
theorem memb_0 (n d x : Nat) : memb n (d + 1) x d = x % n := by
  unfold memb
  rw [show d + 1 - 1 - d = 0 by omega, Nat.pow_zero, Nat.div_one]
theorem div_lt' {n d x : Nat} (h : x < n ^ (d + 1)) : x / n < n ^ d := by
  rw [Nat.pow_succ, Nat.mul_comm] at h
  exact Nat.div_lt_of_lt_mul h
theorem setC_lok {n : Nat} (hn : 0 < n) (hn8 : n ≤ 8) : ∀ d N x (w : q_W), d ≤ 3 → d < N → x < n ^ d → x < 2 ^ 31 → ∃ w', q_it N fX3_setMembers_h19 (fun _ _ _ _ => none) (nI n) (nI x) (nI d - 1) w = some (1, w') ∧ (∀ c, c ≠ 41 → w'.1 c = w.1 c) ∧ w'.2 = w.2 ∧ ∀ j, w'.1 41 j = if j < d then nI (memb n d x j) else w.1 41 j := by
  intro d
  induction d with
  | zero =>
    intro N x w hd hN hx hx2
    obtain ⟨N, rfl⟩ : ∃ z, N = z + 1 := ⟨N - 1, by omega⟩
    have hx : x < 1 := hx
    obtain rfl : x = 0 := by omega
    refine ⟨w, ?_, fun _ _ => rfl, rfl, fun j => by rw [if_neg (by omega)]⟩
    rw [q_itS, fX3_setMembers_h19, if_pos (show nI 0 - 1 < 0 by decide), if_pos (show nI 0 = 0 from rfl)]
  | succ d ih =>
    intro N x w hd hN hx hx2
    obtain ⟨N, rfl⟩ : ∃ z, N = z + 1 := ⟨N - 1, by omega⟩
    have hle := Nat.div_le_self x n
    obtain ⟨w', e1, e2, e3, e4⟩ := ih N (x / n) (q_sI w 41 d (nI (x % n))) (by omega) (by omega) (div_lt' hx) (by omega)
    refine ⟨w', ?_, fun c hc => by rw [e2 c hc, sI_cell _ _ _ _ _ hc], e3, fun j => ?_⟩
    · rw [q_itS, nI_s1, fX3_setMembers_h19, if_neg (nI_pos (by omega)), if_neg (nI_ne0 (by omega) (by omega)), if_pos (q_inb_nI (by omega) (by omega)), mod_nI hx2 hn (by omega), q_ix_nI (by omega), q_lt_eq, if_neg (nI_ne0 (by omega) (by omega)), pk_div hx2 hn (by omega), q_lt_eq, nI_m1, q_lt_eq, e1]
    · rw [e4]
      by_cases c : j < d
      · rw [if_pos c, if_pos (by omega), memb_s c]
      · rw [if_neg c, sI_if]
        by_cases c2 : j = d
        · subst c2
          rw [if_pos rfl, if_pos (by omega), memb_0]
        · rw [if_neg c2, if_neg (by omega)]
theorem setR_lok {n : Nat} (hn : 0 < n) (hn8 : n ≤ 8) (rec33 : Int32 → Int32 → Int32 → Int32 → q_W → Option (Int32 × q_W)) (rec49 : Int32 → Int32 → Int32 → Int32 → Int32 → q_W → Option (Int32 × q_W)) (x2 x5 x6 x7 : Int32) : ∀ d N x (w : q_W), d ≤ 3 → d < N → x < 2 ^ 31 → ∃ w', q_it N (fX11_row_h66 rec33 rec49) (fun _ _ _ _ _ _ _ _ => none) x2 (nI n) x5 x6 x7 (nI x) (nI d - 1) w = (q_b (fX11_begins 60 w') fun _ w2 => fX11_row_l108 rec33 rec49 x2 (nI n) x5 x6 x7 1 0 w2) ∧ (∀ c, c ≠ 36 → w'.1 c = w.1 c) ∧ w'.2 = w.2 ∧ ∀ j, w'.1 36 j = if j < d then nI (memb n d x j) else w.1 36 j := by
  intro d
  induction d with
  | zero =>
    intro N x w hd hN hx2
    obtain ⟨N, rfl⟩ : ∃ z, N = z + 1 := ⟨N - 1, by omega⟩
    refine ⟨w, ?_, fun _ _ => rfl, rfl, fun j => by rw [if_neg (by omega)]⟩
    rw [q_itS, fX11_row_h66, if_pos (show nI 0 - 1 < 0 by decide)]
  | succ d ih =>
    intro N x w hd hN hx2
    obtain ⟨N, rfl⟩ : ∃ z, N = z + 1 := ⟨N - 1, by omega⟩
    have hle := Nat.div_le_self x n
    obtain ⟨w', e1, e2, e3, e4⟩ := ih N (x / n) (q_sI w 36 d (nI (x % n))) (by omega) (by omega) (by omega)
    refine ⟨w', ?_, fun c hc => by rw [e2 c hc, sI_cell _ _ _ _ _ hc], e3, fun j => ?_⟩
    · rw [q_itS, nI_s1, fX11_row_h66, if_neg (nI_pos (by omega)), if_neg (nI_ne0 (by omega) (by omega)), if_pos (q_inb_nI (by omega) (by omega)), mod_nI hx2 hn (by omega), q_ix_nI (by omega), q_lt_eq, if_neg (nI_ne0 (by omega) (by omega)), pk_div hx2 hn (by omega), q_lt_eq, nI_m1, q_lt_eq, e1]
    · rw [e4]
      by_cases c : j < d
      · rw [if_pos c, if_pos (by omega), memb_s c]
      · rw [if_neg c, sI_if]
        by_cases c2 : j = d
        · subst c2
          rw [if_pos rfl, if_pos (by omega), memb_0]
        · rw [if_neg c2, if_neg (by omega)]
/-- strokes and deeds of the members before i -/
def sK (u : q_W) (ms : Nat → Nat) (i : Nat) : Nat := match i with
  | 0 => 0
  | i + 1 => sK u ms i + q_ix (u.1 39 (ms i))
def sD (u : q_W) (ms : Nat → Nat) (i : Nat) : Nat := match i with
  | 0 => 0
  | i + 1 => sD u ms i + q_ix (u.1 40 (ms i))
theorem sK_mono (u : q_W) (ms : Nat → Nat) {i : Nat} : ∀ j, i ≤ j → sK u ms i ≤ sK u ms j := by
  intro j
  induction j with
  | zero => intro h; rw [show i = 0 by omega]; exact Nat.le_refl _
  | succ j ih =>
    intro h
    by_cases e : i = j + 1
    · subst e; exact Nat.le_refl _
    · have := ih (by omega)
      show _ ≤ sK u ms j + _
      omega
theorem sD_mono (u : q_W) (ms : Nat → Nat) {i : Nat} : ∀ j, i ≤ j → sD u ms i ≤ sD u ms j := by
  intro j
  induction j with
  | zero => intro h; rw [show i = 0 by omega]; exact Nat.le_refl _
  | succ j ih =>
    intro h
    by_cases e : i = j + 1
    · subst e; exact Nat.le_refl _
    · have := ih (by omega)
      show _ ≤ sD u ms j + _
      omega
theorem sK_find (u : q_W) (ms : Nat → Nat) : ∀ L r, r < sK u ms L → ∃ j r', j < L ∧ r' < q_ix (u.1 39 (ms j)) ∧ r = sK u ms j + r' := by
  intro L
  induction L with
  | zero => intro r h; exact absurd h (Nat.not_lt_zero r)
  | succ L ih =>
    intro r h
    by_cases c : r < sK u ms L
    · obtain ⟨j, r', a, b, e⟩ := ih r c
      exact ⟨j, r', by omega, b, e⟩
    · have h : r < sK u ms L + q_ix (u.1 39 (ms L)) := h
      exact ⟨L, r - sK u ms L, Nat.lt_succ_self L, by omega, by omega⟩
/-- the members from i on hold together -/
def okM (u : q_W) (ms : Nat → Nat) (i L : Nat) : Prop := (∀ j, i ≤ j → j < L → ¬ u.1 39 (ms j) = -1) ∧ sK u ms L ≤ 60 ∧ sD u ms L ≤ 2000
theorem okM_s {u : q_W} {ms : Nat → Nat} {i L : Nat} (h : ¬ u.1 39 (ms i) = -1) : okM u ms i L ↔ okM u ms (i + 1) L := by
  unfold okM
  constructor
  · rintro ⟨a, b⟩
    exact ⟨fun j x y => a j (by omega) y, b⟩
  · rintro ⟨a, b⟩
    refine ⟨fun j x y => ?_, b⟩
    by_cases e : j = i
    · subst e; exact h
    · exact a j (by omega) y
def HE (n : Nat) (u : q_W) : Prop := ∀ p, p < n → u.1 39 p = -1 ∨ ∃ b k D, b + k ≤ 480 ∧ k ≤ 60 ∧ D ≤ 2000 ∧ u.1 38 p = nI b ∧ u.1 39 p = nI k ∧ u.1 40 p = nI D
theorem hold_lok {n L : Nat} {ms : Nat → Nat} {u : q_W} (hn8 : n ≤ 8) (hE : HE n u) (hL : L ≤ 3) (hm : ∀ j, j < L → u.1 41 j = nI (ms j) ∧ ms j < n) : ∀ d N i, i + d = L → d < N → sK u ms i ≤ 60 * i → sD u ms i ≤ 2000 * i → ∃ r, q_it N fX3_holdsTogether_h7 (fun _ _ _ _ _ => none) (nI L) (nI (sK u ms i)) (nI (sD u ms i)) (nI i) u = some (r, u) ∧ (r = 1 ∧ okM u ms i L ∨ r = 0 ∧ ¬ okM u ms i L) := by
  intro d
  induction d with
  | zero =>
    intro N i hd hN hK hD
    obtain ⟨N, rfl⟩ : ∃ z, N = z + 1 := ⟨N - 1, by omega⟩
    obtain rfl : i = L := by omega
    rw [q_itS, fX3_holdsTogether_h7, if_pos (by rw [nI_leI (by omega) (by omega)]; omega)]
    unfold fX3_holdsTogether_n79 okM
    by_cases c1 : 60 < sK u ms i
    · rw [if_pos (by rw [show (60 : Int32) = nI 60 from rfl, nI_ltI (by omega) (by omega)]; exact c1)]
      exact ⟨0, rfl, Or.inr ⟨rfl, fun h => by omega⟩⟩
    · rw [if_neg (by rw [show (60 : Int32) = nI 60 from rfl, nI_ltI (by omega) (by omega)]; exact c1)]
      by_cases c2 : 2000 < sD u ms i
      · rw [if_pos (by rw [show (2000 : Int32) = nI 2000 from rfl, nI_ltI (by omega) (by omega)]; exact c2)]
        exact ⟨0, rfl, Or.inr ⟨rfl, fun h => by omega⟩⟩
      · rw [if_neg (by rw [show (2000 : Int32) = nI 2000 from rfl, nI_ltI (by omega) (by omega)]; exact c2)]
        exact ⟨1, rfl, Or.inl ⟨rfl, fun j x y => by omega, by omega, by omega⟩⟩
  | succ d ih =>
    intro N i hd hN hK hD
    obtain ⟨N, rfl⟩ : ∃ z, N = z + 1 := ⟨N - 1, by omega⟩
    obtain ⟨m1, m2⟩ := hm i (by omega)
    have hib : q_inb (nI (ms i)) 8 := q_inb_nI (by omega) (by omega)
    rw [q_itS, fX3_holdsTogether_h7, if_neg (by rw [nI_leI (by omega) (by omega)]; omega), if_neg (by rw [show (3 : Int32) = nI 3 from rfl, nI_leI (by omega) (by omega)]; omega), if_pos (q_inb_nI (by omega) (by omega)), q_ix_nI (by omega), m1, q_lt_eq, if_neg (nI_pos (by omega)), if_neg (by rw [show (8 : Int32) = nI 8 from rfl, nI_leI (by omega) (by omega)]; omega), if_pos hib, q_ix_nI (by omega)]
    rcases hE (ms i) m2 with e | ⟨b, k, D, h0, h1, h2, h3, h4, h5⟩
    · rw [if_pos e]
      exact ⟨0, rfl, Or.inr ⟨rfl, fun h => h.1 i (Nat.le_refl i) (by omega) e⟩⟩
    · have hne : ¬ u.1 39 (ms i) = -1 := by rw [h4]; exact nI_nm1 (by omega)
      have sK1 : sK u ms (i + 1) = sK u ms i + k := by
        show _ + q_ix _ = _
        rw [h4, q_ix_nI (by omega)]
      have sD1 : sD u ms (i + 1) = sD u ms i + D := by
        show _ + q_ix _ = _
        rw [h5, q_ix_nI (by omega)]
      obtain ⟨r, e1, e2⟩ := ih N (i + 1) (by omega) (by omega) (by omega) (by omega)
      rw [if_neg hne, if_pos hib, h4, nI_add, q_lt_eq, if_pos hib, h5, nI_add, q_lt_eq, nI_1, q_lt_eq, ← sK1, ← sD1, e1, okM_s hne]
      exact ⟨r, rfl, e2⟩
/-- picked behind S others -/
theorem pickS_lok {b K S : Nat} (hb : b + K < 2 ^ 31) (hK : S + K ≤ 120) : ∀ d N j (w : q_W), j + d = K → d < N → w.1 12 2 = nI (S + j) → ∃ w', q_it N fX3_pickAll_h2 (fun _ _ _ _ => none) (nI b) (nI K) (nI j) w = some ((), w') ∧ w'.1 12 2 = nI (S + K) ∧ (∀ i, w'.1 13 i = if S + j ≤ i ∧ i < S + K then nI (b + (i - S)) else w.1 13 i) ∧ (∀ c, c ≠ 12 → c ≠ 13 → w'.1 c = w.1 c) ∧ (∀ c, c ≠ 2 → w'.1 12 c = w.1 12 c) ∧ w'.2 = w.2 := by
  intro d
  induction d with
  | zero =>
    intro N j w hj hN h2
    obtain ⟨N, rfl⟩ : ∃ a, N = a + 1 := ⟨N - 1, by omega⟩
    refine ⟨w, ?_, by rw [h2, show j = K by omega], fun i => by rw [if_neg (by omega)], fun _ _ _ => rfl, fun _ _ => rfl, rfl⟩
    rw [q_itS, fX3_pickAll_h2, if_pos (by rw [nI_leI (by omega) (by omega)]; omega)]
  | succ d ih =>
    intro N j w hj hN h2
    obtain ⟨N, rfl⟩ : ∃ a, N = a + 1 := ⟨N - 1, by omega⟩
    obtain ⟨w', e1, e2, e3, e4, e5, e6⟩ := ih N (j + 1) (q_sI (q_sI w 13 (S + j) (nI (b + j))) 12 2 (nI (S + (j + 1)))) (by omega) (by omega) (sI_same _ _ _ _)
    refine ⟨w', ?_, e2, fun i => ?_, fun c x y => ?_, fun c x => ?_, e6⟩
    · rw [q_itS, fX3_pickAll_h2, if_neg (by rw [nI_leI (by omega) (by omega)]; omega), nI_add]
      unfold fX0_pick
      rw [h2, if_neg (nI_pos (by omega)), if_neg (by rw [show (120 : Int32) = nI 120 from rfl, nI_leI (by omega) (by omega)]; omega), q_lt_eq, if_pos (q_inb_nI (by omega) (by omega)), q_ix_nI (by omega), q_lt_eq, q_lt_eq, sI_cell _ _ _ _ 12 (by decide), h2, nI_1, q_b_some, q_lt_eq, nI_1, show S + j + 1 = S + (j + 1) by omega, e1]
    · rw [e3, sI_cell _ _ _ _ 13 (by decide), sI_if]
      by_cases c1 : S + (j + 1) ≤ i ∧ i < S + K
      · rw [if_pos c1, if_pos (by omega)]
      · rw [if_neg c1]
        by_cases c2 : i = S + j
        · rw [if_pos c2, if_pos (by omega), c2, show S + j - S = j by omega]
        · rw [if_neg c2, if_neg (by omega)]
    · rw [e4 c x y, sI_cell _ _ _ _ _ x, sI_cell _ _ _ _ _ y]
    · rw [e5 c x, sI_k _ _ _ _ _ x, sI_cell _ _ _ _ 12 (by decide)]
theorem pickM_lok {n L : Nat} {ms : Nat → Nat} {u : q_W} (hn8 : n ≤ 8) (hE : HE n u) (hL : L ≤ 3) (hm : ∀ j, j < L → u.1 41 j = nI (ms j) ∧ ms j < n) (hok : okM u ms 0 L) : ∀ d N i (w : q_W), i + d = L → d < N → (∀ c, c ≠ 12 → c ≠ 13 → w.1 c = u.1 c) → w.1 12 2 = nI (sK u ms i) → ∃ w', q_it N fX3_pickMembers_h14 (fun _ _ _ => none) (nI L) (nI i) w = some ((), w') ∧ w'.1 12 2 = nI (sK u ms L) ∧ (∀ j, i ≤ j → j < L → ∀ r, r < q_ix (u.1 39 (ms j)) → w'.1 13 (sK u ms j + r) = nI (q_ix (u.1 38 (ms j)) + r)) ∧ (∀ r, r < sK u ms i → w'.1 13 r = w.1 13 r) ∧ (∀ c, c ≠ 12 → c ≠ 13 → w'.1 c = w.1 c) ∧ (∀ c, c ≠ 2 → w'.1 12 c = w.1 12 c) ∧ w'.2 = w.2 := by
  have hqN : 60 < q_N := Nat.le_of_ble_eq_true rfl
  intro d
  induction d with
  | zero =>
    intro N i w hd hN hw h2
    obtain ⟨N, rfl⟩ : ∃ z, N = z + 1 := ⟨N - 1, by omega⟩
    obtain rfl : i = L := by omega
    refine ⟨w, ?_, h2, fun j x y => by omega, fun _ _ => rfl, fun _ _ _ => rfl, fun _ _ => rfl, rfl⟩
    rw [q_itS, fX3_pickMembers_h14, if_pos (by rw [nI_leI (by omega) (by omega)]; omega)]
  | succ d ih =>
    intro N i w hd hN hw h2
    obtain ⟨N, rfl⟩ : ∃ z, N = z + 1 := ⟨N - 1, by omega⟩
    obtain ⟨m1, m2⟩ := hm i (by omega)
    have hib : q_inb (nI (ms i)) 8 := q_inb_nI (by omega) (by omega)
    rcases hE (ms i) m2 with e | ⟨b, k, D, h0, h1, h3, h4, h5, h6⟩
    · exact absurd e (hok.1 i (Nat.zero_le _) (by omega))
    · have sK1 : sK u ms (i + 1) = sK u ms i + k := by
        show _ + q_ix _ = _
        rw [h5, q_ix_nI (by omega)]
      have hle := sK_mono u ms (i := i + 1) L (by omega)
      have h60 := hok.2.1
      obtain ⟨w1, p1, p2, p3, p4, p5, p6⟩ := pickS_lok (b := b) (K := k) (S := sK u ms i) (by omega) (by omega) k q_N 0 w (by omega) (by omega) h2
      rw [← sK1] at p2 p3
      obtain ⟨w', e1, e2, e3, e4, e5, e6, e7⟩ := ih N (i + 1) w1 (by omega) (by omega) (fun c x y => by rw [p4 c x y, hw c x y]) p2
      refine ⟨w', ?_, e2, fun j x y r hr => ?_, fun r hr => ?_, fun c x y => by rw [e5 c x y, p4 c x y], fun c x => by rw [e6 c x, p5 c x], by rw [e7, p6]⟩
      · have n62 : fX3_pickMembers_n62 (q_it N fX3_pickMembers_h14 (fun _ _ _ => none)) (nI L) (nI i) w1 = some ((), w') := by
          unfold fX3_pickMembers_n62
          rw [q_lt_eq, nI_1, e1]
        rw [nI_0] at p1
        rw [q_itS, fX3_pickMembers_h14, if_neg (by rw [nI_leI (by omega) (by omega)]; omega), if_neg (by rw [show (3 : Int32) = nI 3 from rfl, nI_leI (by omega) (by omega)]; omega), if_pos (q_inb_nI (by omega) (by omega)), q_ix_nI (by omega), hw 41 (by decide) (by decide), m1, q_lt_eq, if_neg (nI_pos (by omega)), if_neg (by rw [show (8 : Int32) = nI 8 from rfl, nI_leI (by omega) (by omega)]; omega), if_pos hib, if_pos hib, q_ix_nI (by omega), hw 38 (by decide) (by decide), hw 39 (by decide) (by decide), h4, h5]
        unfold fX3_pickAll fX3_pickAll_l2
        rw [p1, q_b_some, n62]
      · by_cases ej : j = i
        · subst ej
          rw [h5, q_ix_nI (by omega)] at hr
          rw [e4 _ (by omega), p3, if_pos (by omega), h4, q_ix_nI (by omega), show sK u ms j + r - sK u ms j = r by omega]
        · exact e3 j (by omega) y r hr
      · rw [e4 r (by omega), p3, if_neg (by omega)]
