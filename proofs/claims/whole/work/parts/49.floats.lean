/-! what floats: class, reference -/
def gL (l : List Nat) (i : Nat) : Nat := l.getD i 0
def KL (u : q_W) (l : List Nat) (i : Nat) : Nat := kd u (gL l i)
def ZL (u : q_W) (l : List Nat) (i j : Nat) : Int32 := nm u (gL l i) j
/-- what a pick leaves alone -/
def frB (w w' : q_W) : Prop := (∀ q, q ≠ 7 → q ≠ 12 → q ≠ 13 → w'.1 q = w.1 q) ∧ (∀ q k, ¬ (q = 12 ∧ k = 1) → w'.2.1 q k = w.2.1 q k) ∧ w'.2.2 = w.2.2
theorem frB_r (w : q_W) : frB w w := ⟨fun _ _ _ _ => rfl, fun _ _ _ => rfl, rfl⟩
theorem frB_t {a b c : q_W} (h : frB a b) (h' : frB b c) : frB a c := ⟨fun q x y z => (h'.1 q x y z).trans (h.1 q x y z), fun q k x => (h'.2.1 q k x).trans (h.2.1 q k x), h'.2.2.trans h.2.2⟩
theorem frB_at (w : q_W) (x y : Int32) : frB w (atC w x y) := ⟨fun q _ h _ => atC_o _ _ _ _ h, fun _ _ _ => rfl, rfl⟩
theorem frB_7 {w w' : q_W} (h : same7 w w') : frB w w' := ⟨fun q h1 _ _ => h.1 q h1, fun q k _ => by rw [h.2], by rw [h.2]⟩
/-- every stroke and lay of the log keeps its bounds -/
def I_bnd (k : Nat) (u : q_W) : Prop := ∀ i, i < k → (kd u i ≤ 4 → fitsB (nm u i) (kd u i) 0 = true)
theorem mem_getD {l : List Nat} {i : Nat} (h : i < l.length) : l.getD i 0 ∈ l := by
  rw [List.getD_eq_getElem?_getD, List.getElem?_eq_getElem h]
  exact List.getElem_mem h
theorem BV_scan {u v : q_W} {k n : Nat} (hl : I_log k u v) (hb : I_bnd k u) (hn : n ≤ k) (T t : Nat) (ht : t ≤ 9) : BV (scan u n T n 0 0 []).2.length t (KL u (scan u n T n 0 0 []).2) (ZL u (scan u n T n 0 0 []).2) := by
  have hk := hl.1
  obtain ⟨⟨s1, s2⟩, s3⟩ := scan_len u n T n 0 0 [] (Nat.zero_le _) (fun x hx => by cases hx)
  refine ⟨by omega, ht, fun i hi => ?_⟩
  obtain ⟨a1, a2, a3⟩ := s2 _ (mem_getD hi)
  obtain ⟨k1, k2, k3, k4⟩ := kd_ok hl (i := (scan u n T n 0 0 []).2.getD i 0) (by omega)
  refine ⟨by show kd u _ ≤ 3; unfold gL; omega, ?_⟩
  exact hb ((scan u n T n 0 0 []).2.getD i 0) (by omega) (by omega)
theorem pickC {u v : q_W} {k n : Nat} (hl : I_log k u v) (hv : I_val k u) (hn : n ≤ k) (T : Nat) (hT : T < 2 ^ 31) : ∃ w, fX2_pickStrokes (nI n) (nI T) u = some (layV (scan u n T n 0 0 []).1, w) ∧ BC 4 (scan u n T n 0 0 []).2.length (min T 9) (gL (scan u n T n 0 0 []).2) (KL u (scan u n T n 0 0 []).2) (ZL u (scan u n T n 0 0 []).2) w ∧ frB u w := by
  have hk := hl.1
  unfold fX2_pickStrokes fX0_begin
  obtain ⟨u1, e1, s1, f1⟩ := findOut_b n k u hn hk hl.2.1 hv
  rw [e1, q_b_some, if_pos (by decide), q_lt_eq, q_lt_eq, q_lt_eq, q_b_some]
  unfold fX2_pickStrokes_l20
  generalize hw : q_sI (q_sI (q_sR u1 12 1 4) 12 2 0) 12 3 (q_imin (nI T) 9) = w0
  have c (q : Nat) (h : q ≠ 12) : w0.1 q = u1.1 q := by subst hw; rw [sI_cell _ _ _ _ _ h, sI_cell _ _ _ _ _ h]; rfl
  have hr : w0.2.1 12 1 = 4 := by subst hw; simp [q_sI, q_sR]
  have h2 : w0.1 12 2 = nI 0 := by subst hw; rfl
  have h3 : w0.1 12 3 = nI (min T 9) := by
    subst hw
    rw [sI_same]
    by_cases h : T ≤ 9
    · rw [show (9 : Int32) = nI 9 from rfl, qmin_ok h (by decide), show min T 9 = T by omega]
    · unfold q_imin
      rw [if_pos (by rw [show (9 : Int32) = nI 9 from rfl, nI_ltI (by omega) (by omega)]; omega), show min T 9 = 9 by omega]
      rfl
  have hf : frB u w0 := by
    refine ⟨fun q x y z => (c q y).trans (s1.1 q x), fun q k x => ?_, ?_⟩
    · subst hw
      show (q_sR u1 12 1 4).2.1 q k = _
      unfold q_sR
      simp only [if_neg x]
      rw [s1.2]
    · subst hw
      show u1.2.2 = _
      rw [s1.2]
  obtain ⟨w, e, p, f⟩ := pickC_lok hl hn T hT n q_N 0 0 [] w0 (by omega) (Nat.lt_of_le_of_lt (show n ≤ 120 by omega) (Nat.le_of_ble_eq_true rfl)) (Nat.le_refl _) (Nat.le_refl _) ((c 4 (by decide)).trans (s1.1 4 (by decide))) ((c 5 (by decide)).trans (s1.1 5 (by decide))) (fun i hi => by rw [c 7 (by decide)]; exact f1 i hi) ⟨h2, fun i hi => absurd hi (Nat.not_lt_zero i)⟩
  rw [nI_0] at e
  refine ⟨w, e, ⟨Or.inl rfl, by rw [f.2.2]; exact hr, p.1, by rw [f.2.1 3 (by decide)]; exact h3, k, by omega, ?_, fun i hi => ?_⟩, frB_t hf ⟨fun q _ y z => f.1 q y z, fun q k _ => by rw [f.2.2], by rw [f.2.2]⟩⟩
  · rw [f.1 4 (by decide) (by decide), c 4 (by decide), s1.1 4 (by decide)]; exact hl.2.1
  · obtain ⟨⟨s1', s2⟩, s3⟩ := scan_len u n T n 0 0 [] (Nat.zero_le _) (fun x hx => by cases hx)
    obtain ⟨a1, a2, a3⟩ := s2 _ (mem_getD hi)
    obtain ⟨k1, k2, k3, k4⟩ := kd_ok hl (i := (scan u n T n 0 0 []).2.getD i 0) (by omega)
    refine ⟨by show (scan u n T n 0 0 []).2.getD i 0 < k; omega, p.2 i hi, ?_, fun j hj => ?_⟩
    · rw [f.1 5 (by decide) (by decide), c 5 (by decide), s1.1 5 (by decide)]; exact k1
    · rw [f.1 6 (by decide) (by decide), c 6 (by decide), s1.1 6 (by decide)]; rfl
/-- the reference's strokes in a row -/
def FL (u : q_W) (l : List Nat) (w : q_W) : Prop := w.1 0 55 = nI l.length ∧ ∀ i, i < l.length → w.1 31 i = nI (l.getD i 0) ∧ w.1 29 i = nI (KL u l i) ∧ ∀ j, j < nums (KL u l i) → w.1 30 (6 * i + j) = ZL u l i j
def frF (w w' : q_W) : Prop := (∀ q, q ≠ 0 → q ≠ 29 → q ≠ 30 → q ≠ 31 → w'.1 q = w.1 q) ∧ (∀ k, k ≠ 55 → k ≠ 56 → k ≠ 60 → w'.1 0 k = w.1 0 k) ∧ w'.2 = w.2
theorem frF_r (w : q_W) : frF w w := ⟨fun _ _ _ _ _ => rfl, fun _ _ _ _ => rfl, rfl⟩
theorem frF_t {a b c : q_W} (h : frF a b) (h' : frF b c) : frF a c := ⟨fun q x y z z' => (h'.1 q x y z z').trans (h.1 q x y z z'), fun k x y z => (h'.2.1 k x y z).trans (h.2.1 k x y z), h'.2.2.trans h.2.2⟩
theorem frF_log {u v v' : q_W} {k : Nat} (f : frF v v') (h : I_log k u v) : I_log k u v' := by
  unfold I_log at *
  rw [f.2.1 50 (by decide) (by decide) (by decide), f.1 27 (by decide) (by decide) (by decide) (by decide), f.1 28 (by decide) (by decide) (by decide) (by decide)]
  exact h
theorem frF_0 (w : q_W) (k : Nat) (x : Int32) (h : k = 55 ∨ k = 56 ∨ k = 60) : frF w (q_sI w 0 k x) := ⟨fun q h0 _ _ _ => sI_cell _ _ _ _ _ h0, fun k' h1 h2 h3 => sI_k _ _ _ _ _ (by omega), rfl⟩
/-- six numbers come behind -/
theorem cpR_lok {k : Nat} (rec10 : Int32 → Int32 → Int32 → Int32 → q_W → Option (Int32 × q_W)) (x1 x2 x3 : Int32) (j m : Nat) (hj : j < 120) (hm : m < 120) : ∀ d N s w, s + d = 6 → d < N → w.1 0 55 = nI m → ∃ w', q_it N (fX11_floats_h129 rec10) (fun _ _ _ _ _ _ => none) x1 x2 x3 (nI j) (nI s) w = rec10 x1 x2 x3 (nI (j + 1)) w' ∧ w'.2 = w.2 ∧ (∀ q, q ≠ 30 → q ≠ 0 → w'.1 q = w.1 q) ∧ w'.1 0 55 = nI (m + 1) ∧ (∀ i, i ≠ 55 → w'.1 0 i = w.1 0 i) ∧ (∀ i, w'.1 30 i = if 6 * m + s ≤ i ∧ i < 6 * m + 6 then w.1 28 (6 * j + (i - 6 * m)) else w.1 30 i) := by
  intro d
  induction d with
  | zero =>
    intro N s w h hN hw
    obtain ⟨N, rfl⟩ : ∃ M, N = M + 1 := ⟨N - 1, by omega⟩
    rw [q_itS, fX11_floats_h129, if_pos (by rw [show (6 : Int32) = nI 6 from rfl, nI_leI (by omega) (by omega)]; omega), q_lt_eq, hw, nI_1]
    unfold fX11_floats_n180
    rw [q_lt_eq, nI_1]
    refine ⟨_, rfl, rfl, fun q _ h2 => sI_cell _ _ _ _ _ h2, sI_same _ _ _ _, fun i hi => sI_k _ _ _ _ _ hi, fun i => ?_⟩
    rw [if_neg (by omega), sI_cell _ _ _ _ _ (by decide)]
  | succ d ih =>
    intro N s w h hN hw
    obtain ⟨N, rfl⟩ : ∃ M, N = M + 1 := ⟨N - 1, by omega⟩
    rw [q_itS, fX11_floats_h129, if_neg (by rw [show (6 : Int32) = nI 6 from rfl, nI_leI (by omega) (by omega)]; omega), hw, nI6, nI6, nI_add, nI_add, q_lt_eq, if_pos (q_inb_nI (by omega) (by omega)), q_lt_eq, if_pos (q_inb_nI (by omega) (by omega)), q_lt_eq, q_lt_eq, nI_1, q_ix_nI (by omega), q_ix_nI (by omega)]
    obtain ⟨w', e1, e2, e3, e4, e5, e6⟩ := ih N (s + 1) (q_sI w 30 (6 * m + s) (w.1 28 (6 * j + s))) (by omega) (by omega) (by rw [sI_cell _ _ _ _ _ (by decide)]; exact hw)
    refine ⟨w', e1, e2, fun q h1 h2 => (e3 q h1 h2).trans (sI_cell _ _ _ _ _ h1), e4, fun i hi => (e5 i hi).trans (by rw [sI_cell _ _ _ _ _ (by decide)]), fun i => ?_⟩
    rw [e6 i, sI_cell _ _ _ _ 28 (by decide)]
    by_cases ei : i = 6 * m + s
    · subst ei
      rw [if_neg (by omega), if_pos (by omega), sI_same, Nat.add_sub_cancel_left]
    · rw [sI_k _ _ _ _ _ ei]
      by_cases h1 : 6 * m + s ≤ i ∧ i < 6 * m + 6
      · rw [if_pos h1, if_pos (by omega)]
      · rw [if_neg h1, if_neg (by omega)]
theorem FL_snoc {u v : q_W} {k : Nat} (hl : I_log k u v) {j : Nat} (hj : j < k) {l : List Nat} {w w' : q_W} (h27 : w.1 27 = v.1 27) (h28 : w.1 28 = v.1 28) (P : FL u l w) (hlen : l.length < 120) (e55 : w'.1 0 55 = nI (l.length + 1)) (e31 : ∀ i, w'.1 31 i = if i = l.length then nI j else w.1 31 i) (e29 : ∀ i, w'.1 29 i = if i = l.length then w.1 27 j else w.1 29 i) (e30 : ∀ i, w'.1 30 i = if 6 * l.length ≤ i ∧ i < 6 * l.length + 6 then w.1 28 (6 * j + (i - 6 * l.length)) else w.1 30 i) : FL u (l ++ [j]) w' := by
  obtain ⟨k1, k2, k3, k4⟩ := kd_ok hl hj
  refine ⟨by rw [e55, List.length_append]; rfl, fun i hi => ?_⟩
  rw [List.length_append, show [j].length = 1 from rfl] at hi
  by_cases e : i = l.length
  · subst e
    have eg : gL (l ++ [j]) l.length = j := snoc_eq
    unfold KL ZL
    rw [eg, snoc_eq, e31, if_pos rfl, e29, if_pos rfl, h27, k3]
    refine ⟨rfl, rfl, fun s hs => ?_⟩
    have := nums_le _ k2
    rw [e30, if_pos (by omega), Nat.add_sub_cancel_left, h28, k4 s hs]
  · have eg : gL (l ++ [j]) i = gL l i := snoc_lt (by omega)
    obtain ⟨p1, p2, p3⟩ := P.2 i (by omega)
    unfold KL ZL at *
    rw [eg, snoc_lt (by omega), e31, if_neg e, e29, if_neg e]
    refine ⟨p1, p2, fun s hs => ?_⟩
    have : nums (kd u (gL l i)) ≤ 6 := by
      apply nums_le
      unfold kd
      have : w.1 29 i = nI (q_ix (u.1 5 (gL l i))) := p2
      by_cases h5 : kd u (gL l i) ≤ 5
      · exact h5
      · exfalso
        have h0 : nums (kd u (gL l i)) = 0 := by
          unfold nums
          rw [List.getD_eq_getElem?_getD, List.getElem?_eq_none (by show 6 ≤ kd u (gL l i); omega)]
          rfl
        omega
    rw [e30, if_neg (by omega), p3 s hs]
/-- the tire of T lays -/
theorem tire_ok (p : Nat) (hp : p < 2 ^ 31) (f : Int32 → Option (Int32 × q_W)) : (if nI p ≤ 9 then f (nI p) else f 9) = f (nI (min p 9)) := by
  by_cases h : p ≤ 9
  · rw [if_pos (by rw [show (9 : Int32) = nI 9 from rfl, nI_leI (by omega) (by omega)]; exact h), show min p 9 = p by omega]
  · rw [if_neg (by rw [show (9 : Int32) = nI 9 from rfl, nI_leI (by omega) (by omega)]; exact h), show min p 9 = 9 by omega]
    rfl
theorem floats_lok {u v : q_W} {k n : Nat} (hl : I_log k u v) (hv : I_val k u) (hn : n ≤ k) (T : Nat) (hT : T < 2 ^ 31) (x2 : Int32) : ∀ d N j p l fl w, j + d = n → d < N → p ≤ j → p ≤ T → fl.length ≤ j → (p = T → fl = l) → (p < T → l = []) → frF v w → FL u fl w → (x2 = nI T ∨ (x2 = -1 ∧ p + cntL u n d j = T)) → ∃ r w', q_it N fX11_floats_h10 (fun _ _ _ _ _ => none) (nI n) x2 (nI p) (nI j) w = some (r, w') ∧ frF v w' ∧ ((x2 = nI T ∧ p + cntL u n d j ≤ T ∧ r = 0 ∧ (scan u n T d j p l).1 = none) ∨ ((x2 = -1 ∧ (scan u n T d j p l).1 = none ∨ x2 = nI T ∧ T < p + cntL u n d j ∧ ∃ i, (scan u n T d j p l).1 = some i ∧ w'.1 0 60 = nm u i 0) ∧ r = 1 ∧ w'.1 0 56 = nI (min T 9) ∧ FL u (scan u n T d j p l).2 w')) := by
  have hk := hl.1
  intro d
  induction d with
  | zero =>
    intro N j p l fl w h1 h2 h3 hpT h4 h5 h5' h6 h7 h8
    obtain ⟨N, rfl⟩ : ∃ M, N = M + 1 := ⟨N - 1, by omega⟩
    rw [q_itS, fX11_floats_h10, if_pos (by rw [nI_leI (by omega) (by omega)]; omega), tire_ok p (by omega) (fun z => fX11_floats_n199 x2 z w)]
    unfold fX11_floats_n199
    rw [q_lt_eq]
    unfold scan cntL
    unfold cntL at h8
    have hf := frF_t h6 (frF_0 w 56 (nI (min p 9)) (Or.inr (Or.inl rfl)))
    by_cases hx : x2 = -1
    · rw [if_pos hx]
      refine ⟨1, _, rfl, hf, Or.inr ⟨Or.inl ⟨hx, rfl⟩, rfl, ?_, ?_⟩⟩
      · have : p = T := by
          rcases h8 with h8 | h8
          · rw [h8] at hx
            exact absurd hx (by intro c; have := nI_pos hT; rw [c] at this; exact this (by decide))
          · omega
        rw [sI_same, this]
      · have : p = T := by
          rcases h8 with h8 | h8
          · rw [h8] at hx
            exact absurd hx (by intro c; have := nI_pos hT; rw [c] at this; exact this (by decide))
          · omega
        rw [← h5 this]
        unfold FL at *
        rw [sI_k _ _ _ _ _ (by decide), sI_cell _ _ _ _ 31 (by decide), sI_cell _ _ _ _ 29 (by decide), sI_cell _ _ _ _ 30 (by decide)]
        exact h7
    · rw [if_neg hx]
      have : x2 = nI T := by
        rcases h8 with h8 | h8
        · exact h8
        · exact absurd h8.1 hx
      exact ⟨0, _, rfl, hf, Or.inl ⟨this, by omega, rfl, rfl⟩⟩
  | succ d ih =>
    intro N j p l fl w h1 h2 h3 hpT h4 h5 h5' h6 h7 h8
    obtain ⟨N, rfl⟩ : ∃ M, N = M + 1 := ⟨N - 1, by omega⟩
    obtain ⟨k1, k2, k3, k4⟩ := kd_ok hl (show j < k by omega)
    have hlw := frF_log h6 hl
    have h27 : w.1 27 = v.1 27 := h6.1 27 (by decide) (by decide) (by decide) (by decide)
    have h28 : w.1 28 = v.1 28 := h6.1 28 (by decide) (by decide) (by decide) (by decide)
    have ib : q_inb (nI j) 120 := q_inb_nI (by omega) (by omega)
    rw [q_itS, fX11_floats_h10, if_neg (by rw [nI_leI (by omega) (by omega)]; omega), if_pos ib, q_ix_nI (by omega), h27, k3, struckR hlw hv hn (show j < n by omega), q_b_some]
    unfold scan cntL
    unfold cntL at h8
    have x2T : x2 = nI T ∨ x2 = -1 := by rcases h8 with h8 | h8; exact Or.inl h8; exact Or.inr h8.1
    by_cases c1 : (outB u n j || kd u j == 5) = true
    · rw [if_neg (show ¬ ((outB u n j || kd u j == 5) = false ∧ kd u j = 4) by rw [c1]; intro c; exact absurd c.1 (by decide)), Nat.zero_add] at h8 ⊢
      rw [if_pos c1]
      obtain ⟨r, w', e, x⟩ := ih N (j + 1) p l fl w (by omega) (by omega) (by omega) hpT (by omega) h5 h5' h6 h7 h8
      refine ⟨r, w', ?_, x⟩
      rw [← e]
      unfold fX11_floats_n180
      rw [q_lt_eq, nI_1]
      by_cases c5 : nI (kd u j) = 5
      · rw [if_pos c5]
      · rw [if_neg c5, if_neg]
        have : outB u n j = true := by
          rw [Bool.or_eq_true] at c1
          rcases c1 with c | c
          · exact c
          · exfalso
            have : kd u j = 5 := by simpa using c
            rw [this] at c5
            exact c5 rfl
        rw [this]
        exact b01_t
    · have c1' : (outB u n j || kd u j == 5) = false := by
        cases h : (outB u n j || kd u j == 5) with
        | true => exact absurd h c1
        | false => rfl
      have co : outB u n j = false := by
        rw [Bool.or_eq_false_iff] at c1'
        exact c1'.1
      have c5 : kd u j ≠ 5 := by
        rw [Bool.or_eq_false_iff] at c1'
        intro c
        rw [c] at c1'
        exact absurd c1'.2 (by decide)
      rw [if_neg (show ¬ nI (kd u j) = 5 by rw [show (5 : Int32) = nI 5 from rfl, nI_eq (by omega) (by omega)]; exact c5), co, if_pos b01_f, if_pos ib, h27, k3, Bool.false_or, if_neg (show ¬ (kd u j == 5) = true by simp [c5])]
      rw [co, Bool.false_or] at h8
      by_cases c4 : kd u j = 4
      · rw [if_pos (show nI (kd u j) = 4 by rw [c4]; rfl), if_pos c4, if_pos (show (kd u j == 5) = false ∧ kd u j = 4 from ⟨by simp [c5], c4⟩)]
        rw [if_pos (show (kd u j == 5) = false ∧ kd u j = 4 from ⟨by simp [c5], c4⟩)] at h8
        by_cases cT : nI p = x2
        · have hx : x2 = nI T := by
            rcases x2T with x | x
            · exact x
            · exfalso
              rw [x] at cT
              have := nI_pos (show p < 2 ^ 31 by omega)
              rw [cT] at this
              exact this (by decide)
          have epT : p = T := by rw [hx, nI_eq (by omega) hT] at cT; exact cT
          rw [if_pos cT, if_pos epT, nI6, q_lt_eq, if_pos (q_inb_nI (by omega) (by omega)), q_lt_eq, q_ix_nI (by omega), tire_ok p (by omega) (fun z => q_lt (q_sI (q_sI w 0 60 (w.1 28 (6 * j))) 0 56 z) fun w5 => some (1, w5)), q_lt_eq]
          refine ⟨1, _, rfl, frF_t h6 (frF_t (frF_0 w 60 _ (Or.inr (Or.inr rfl))) (frF_0 _ 56 _ (Or.inr (Or.inl rfl)))), Or.inr ⟨Or.inr ⟨hx, by omega, j, rfl, ?_⟩, rfl, ?_, ?_⟩⟩
          · rw [sI_k _ _ _ _ _ (by decide), sI_same, h28]
            exact k4 0 (by rw [c4]; decide)
          · rw [sI_same, epT]
          · rw [← h5 epT]
            unfold FL at *
            rw [sI_k _ _ _ _ _ (by decide), sI_k _ _ _ _ _ (by decide), sI_cell _ _ _ _ 31 (by decide), sI_cell _ _ _ _ 29 (by decide), sI_cell _ _ _ _ 30 (by decide), sI_cell _ _ _ _ 31 (by decide), sI_cell _ _ _ _ 29 (by decide), sI_cell _ _ _ _ 30 (by decide)]
            exact h7
        · have epT : p ≠ T := by
            intro c
            rcases h8 with x | x
            · rw [x, c] at cT; exact cT rfl
            · omega
          rw [if_neg cT, if_neg epT, q_lt_eq, q_lt_eq, nI_1]
          have hl0 : l = [] := h5' (by omega)
          subst hl0
          obtain ⟨r, w', e, f, x⟩ := ih N (j + 1) (p + 1) [] [] (q_sI w 0 55 0) (by omega) (by omega) (by omega) (by omega) (by show 0 ≤ j + 1; omega) (fun _ => rfl) (fun _ => rfl) (frF_t h6 (frF_0 w 55 0 (Or.inl rfl))) ⟨sI_same _ _ _ _, fun i hi => absurd hi (Nat.not_lt_zero i)⟩ (by rcases h8 with h8 | h8; exact Or.inl h8; exact Or.inr ⟨h8.1, by omega⟩)
          refine ⟨r, w', ?_, f, ?_⟩
          · rw [← e]
            unfold fX11_floats_n180
            rw [q_lt_eq, nI_1]
          · rw [show p + (1 + cntL u n d (j + 1)) = p + 1 + cntL u n d (j + 1) by omega]
            exact x
      · rw [if_neg (show ¬ nI (kd u j) = 4 by rw [show (4 : Int32) = nI 4 from rfl, nI_eq (by omega) (by omega)]; exact c4), if_neg c4, if_neg (show ¬ ((kd u j == 5) = false ∧ kd u j = 4) by intro c; exact c4 c.2), Nat.zero_add]
        rw [if_neg (show ¬ ((kd u j == 5) = false ∧ kd u j = 4) by intro c; exact c4 c.2), Nat.zero_add] at h8
        have ibl : q_inb (nI fl.length) 120 := q_inb_nI (by omega) (by omega)
        rw [if_pos ib, q_lt_eq, h7.1, if_pos ibl, q_lt_eq, q_ix_nI (by omega)]
        have hw1 : (q_sI w 29 fl.length (nI (kd u j))).1 0 55 = nI fl.length := by rw [sI_cell _ _ _ _ _ (by decide)]; exact h7.1
        rw [q_lt_eq, hw1, if_pos ibl, q_lt_eq, q_ix_nI (by omega)]
        unfold fX11_floats_l129
        obtain ⟨w2, e1, e2, e3, e4, e5, e6⟩ := cpR_lok (k := k) (q_it N fX11_floats_h10 (fun _ _ _ _ _ => none)) (nI n) x2 (nI p) j fl.length (by omega) (by omega) 6 q_N 0 (q_sI (q_sI w 29 fl.length (nI (kd u j))) 31 fl.length (nI j)) rfl (Nat.le_of_ble_eq_true rfl) (by rw [sI_cell _ _ _ _ _ (by decide)]; exact hw1)
        rw [nI_0] at e1
        rw [e1]
        have hf2 : frF w w2 := by
          refine ⟨fun q y1 y2 y3 y4 => ?_, fun k' y1 y2 y3 => ?_, e2⟩
          · rw [e3 q y3 y1, sI_cell _ _ _ _ _ y4, sI_cell _ _ _ _ _ y2]
          · rw [e5 k' y1, sI_cell _ _ _ _ _ (by decide), sI_cell _ _ _ _ _ (by decide)]
        have P : FL u (fl ++ [j]) w2 := by
          refine FL_snoc hl (show j < k by omega) h27 h28 h7 (by omega) e4 (fun i => ?_) (fun i => ?_) (fun i => ?_)
          · rw [e3 31 (by decide) (by decide)]
            by_cases ei : i = fl.length
            · subst ei; rw [sI_same, if_pos rfl]
            · rw [sI_k _ _ _ _ _ ei, if_neg ei, sI_cell _ _ _ _ _ (by decide)]
          · rw [e3 29 (by decide) (by decide), sI_cell _ _ _ _ _ (by decide)]
            by_cases ei : i = fl.length
            · subst ei; rw [sI_same, if_pos rfl, h27, k3]
            · rw [sI_k _ _ _ _ _ ei, if_neg ei]
          · rw [e6 i, sI_cell _ _ _ _ 28 (by decide), sI_cell _ _ _ _ 28 (by decide), sI_cell _ _ _ _ 30 (by decide), sI_cell _ _ _ _ 30 (by decide), Nat.add_zero]
        obtain ⟨r, w', e, f, x⟩ := ih N (j + 1) p (if p = T then l ++ [j] else l) (fl ++ [j]) w2 (by omega) (by omega) (by omega) hpT (by rw [List.length_append]; show fl.length + 1 ≤ _; omega) (fun c => by rw [if_pos c, h5 c]) (fun c => by rw [if_neg (by omega)]; exact h5' c) (frF_t h6 hf2) P h8
        exact ⟨r, w', e, f, x⟩
