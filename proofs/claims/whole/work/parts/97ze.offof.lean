/-! the search: the reference takes its rows for strokes -/
theorem off32_lok {a : Nat} (ha : a < 120) (rec10 : Int32 → q_W → Option (Int32 × q_W)) : ∀ d N t (w : q_W), t + d = 6 → d < N → ∃ w', q_it N (fX11_offOf_h32 rec10) (fun _ _ _ => none) (nI a) (nI t) w = rec10 (nI (a + 1)) w' ∧ (∀ c, c ≠ 30 → w'.1 c = w.1 c) ∧ w'.2 = w.2 ∧ ∀ i, w'.1 30 i = if 6 * a + t ≤ i ∧ i < 6 * a + 6 then w.1 22 i else w.1 30 i := by
  intro d
  induction d with
  | zero =>
    intro N t w ht hN
    obtain ⟨N, rfl⟩ : ∃ x, N = x + 1 := ⟨N - 1, by omega⟩
    refine ⟨w, ?_, fun _ _ => rfl, rfl, fun i => by rw [if_neg (by omega)]⟩
    rw [q_itS, fX11_offOf_h32, if_pos (by rw [show (6 : Int32) = nI 6 from rfl, nI_leI (by omega) (by omega)]; omega), q_lt_eq, nI_1]
  | succ d ih =>
    intro N t w ht hN
    obtain ⟨N, rfl⟩ : ∃ x, N = x + 1 := ⟨N - 1, by omega⟩
    have e : 6 * nI a + nI t = nI (6 * a + t) := by
      rw [show (6 : Int32) = nI 6 from rfl, pk_mul, nI_add]
    obtain ⟨w', e1, e2, e3, e4⟩ := ih N (t + 1) (q_sI w 30 (6 * a + t) (w.1 22 (6 * a + t))) (by omega) (by omega)
    refine ⟨w', ?_, fun c hc => by rw [e2 c hc, sI_cell _ _ _ _ _ hc], e3, fun i => ?_⟩
    · rw [q_itS, fX11_offOf_h32, if_neg (by rw [show (6 : Int32) = nI 6 from rfl, nI_leI (by omega) (by omega)]; omega), e, q_lt_eq, if_pos (q_inb_nI (by omega) (by omega)), q_lt_eq, if_pos (q_inb_nI (by omega) (by omega)), q_ix_nI (by omega), q_lt_eq, q_lt_eq, nI_1, e1]
    · rw [e4, sI_cell _ _ _ _ 22 (by decide), sI_if]
      by_cases c1 : 6 * a + (t + 1) ≤ i ∧ i < 6 * a + 6
      · rw [if_pos c1, if_pos (by omega)]
      · rw [if_neg c1]
        by_cases c2 : i = 6 * a + t
        · rw [if_pos c2, if_pos (by omega), c2]
        · rw [if_neg c2, if_neg (by omega)]
theorem off10_lok {K : Nat} (hK : K ≤ 120) : ∀ d N j (w : q_W), j + d = K → d < N → w.1 0 40 = nI K → ∃ w', q_it N fX11_offOf_h10 (fun _ _ => none) (nI j) w = (q_b (fX11_lays 1 w') fun _ w2 => q_b (fX11_unlikes w2) fun r3 w4 => some (r3, w4)) ∧ (∀ c, c ≠ 29 → c ≠ 30 → w'.1 c = w.1 c) ∧ w'.2 = w.2 ∧ (∀ i, w'.1 29 i = if j ≤ i ∧ i < K then w.1 21 i else w.1 29 i) ∧ ∀ i, w'.1 30 i = if 6 * j ≤ i ∧ i < 6 * K then w.1 22 i else w.1 30 i := by
  have hqN : 6 < q_N := Nat.le_of_ble_eq_true rfl
  intro d
  induction d with
  | zero =>
    intro N j w hj hN h40
    obtain ⟨N, rfl⟩ : ∃ x, N = x + 1 := ⟨N - 1, by omega⟩
    refine ⟨w, ?_, fun _ _ _ => rfl, rfl, fun i => by rw [if_neg (by omega)], fun i => by rw [if_neg (by omega)]⟩
    rw [q_itS, fX11_offOf_h10, h40, if_pos (by rw [nI_leI (by omega) (by omega)]; omega)]
  | succ d ih =>
    intro N j w hj hN h40
    obtain ⟨N, rfl⟩ : ∃ x, N = x + 1 := ⟨N - 1, by omega⟩
    obtain ⟨w1, p1, p2, p3, p4⟩ := off32_lok (a := j) (by omega) (q_it N fX11_offOf_h10 (fun _ _ => none)) 6 q_N 0 (q_sI w 29 j (w.1 21 j)) (by omega) hqN
    obtain ⟨w', e1, e2, e3, e4, e5⟩ := ih N (j + 1) w1 (by omega) (by omega) (by rw [p2 0 (by decide), sI_cell _ _ _ _ 0 (by decide), h40])
    refine ⟨w', ?_, fun c x y => by rw [e2 c x y, p2 c y, sI_cell _ _ _ _ _ x], by rw [e3, p3]; rfl, fun i => ?_, fun i => ?_⟩
    · rw [q_itS, fX11_offOf_h10, h40, if_neg (by rw [nI_leI (by omega) (by omega)]; omega), if_pos (q_inb_nI (by omega) (by omega)), if_pos (q_inb_nI (by omega) (by omega)), q_ix_nI (by omega), q_lt_eq]
      unfold fX11_offOf_l32
      rw [show (0 : Int32) = nI 0 from rfl, p1, e1]
    · rw [e4, p2 21 (by decide), p2 29 (by decide), sI_cell _ _ _ _ 21 (by decide), sI_if]
      by_cases c1 : j + 1 ≤ i ∧ i < K
      · rw [if_pos c1, if_pos (by omega)]
      · rw [if_neg c1]
        by_cases c2 : i = j
        · rw [if_pos c2, if_pos (by omega), c2]
        · rw [if_neg c2, if_neg (by omega)]
    · rw [e5, p2 22 (by decide), p4, sI_cell _ _ _ _ 22 (by decide), sI_cell _ _ _ _ 30 (by decide)]
      by_cases c1 : 6 * (j + 1) ≤ i ∧ i < 6 * K
      · rw [if_pos c1, if_pos (by omega)]
      · rw [if_neg c1]
        by_cases c2 : 6 * j + 0 ≤ i ∧ i < 6 * j + 6
        · rw [if_pos c2, if_pos (by omega)]
        · rw [if_neg c2, if_neg (by omega)]
/-- kinds and numbers of the rows of the class's pile -/
def kR (u : q_W) (i : Nat) : Nat := q_ix (u.1 10 i)
def zR (u : q_W) (i j : Nat) : Int32 := u.1 11 (6 * i + j)
theorem RWE_kR {K : Nat} {u v : q_W} (h : RWE K u v) {i : Nat} (hi : i < K) : kR u i ≤ 3 ∧ u.1 10 i = nI (kR u i) ∧ v.1 21 i = nI (kR u i) ∧ (∀ j, j < nums (kR u i) → zR u i j = v.1 22 (6 * i + j)) ∧ fitsB (zR u i) (kR u i) 0 = true := by
  obtain ⟨c, hc, d1, d2, d3, d4⟩ := h.2.2 i hi
  have e : kR u i = c := by
    unfold kR
    rw [d1, q_ix_nI (by omega)]
  rw [e]
  exact ⟨hc, d1, d2, d3, d4⟩
theorem BV_rows {K t : Nat} {u v : q_W} (h : RWE K u v) (hK : K ≤ 120) (ht : t ≤ 9) : BV K t (kR u) (zR u) := ⟨hK, ht, fun i hi => ⟨(RWE_kR h hi).1, (RWE_kR h hi).2.2.2.2⟩⟩
/-- what the reference makes of its rows -/
theorem offOf_ok {K t sh : Nat} {u v : q_W} (h : RWE K u v) (hK : K ≤ 120) (ht : t ≤ 9) (h56 : v.1 0 56 = nI t) (h60 : v.1 0 60 = nI sh) : ∃ v', fX11_offOf v = some (nI (cntU (fun i => v.1 32 i) (cellS K t (kR u) (zR u) sh) 256 0), v') ∧ (∀ c, c ≠ 0 → c ≠ 29 → c ≠ 30 → c ≠ 32 → v'.1 c = v.1 c) ∧ (∀ i, i ≠ 55 → i ≠ 61 → i ≠ 62 → v'.1 0 i = v.1 0 i) ∧ v'.2 = v.2 ∧ ∀ i, i < 256 → v'.1 32 i = v.1 32 i := by
  have hqN : 256 < q_N := Nat.le_of_ble_eq_true rfl
  have V := BV_rows h hK ht
  obtain ⟨w, e1, e2, e3, e4, e5⟩ := off10_lok hK K q_N 0 (q_sI v 0 55 (nI K)) (by omega) (by omega) (by rw [sI_k _ _ _ _ _ (by decide)]; exact h.2.1)
  have hB : BR K t (kR u) (zR u) w := by
    refine ⟨by rw [e2 0 (by decide) (by decide), sI_same], by rw [e2 0 (by decide) (by decide), sI_k _ _ _ _ _ (by decide), h56], fun i hi => ?_⟩
    obtain ⟨a1, a2, a3, a4, a5⟩ := RWE_kR h hi
    have n6 := nums6 a1
    refine ⟨by rw [e4, if_pos (by omega), sI_cell _ _ _ _ 21 (by decide), a3], fun j hj => ?_⟩
    rw [e5, if_pos (by omega), sI_cell _ _ _ _ 22 (by decide), a4 j hj]
  obtain ⟨w', l1, l2, l3, l4⟩ := laysR V sh 1 (by omega) w hB (by rw [e2 0 (by decide) (by decide), sI_k _ _ _ _ _ (by decide), h60])
  have h32 : ∀ i, i < 256 → w'.1 32 i = v.1 32 i := fun i hi => by rw [l4 i (Or.inl (by omega)), e2 32 (by decide) (by decide), sI_cell _ _ _ _ 32 (by decide)]
  refine ⟨w', ?_, fun c x y z t => ?_, fun i x y z => ?_, ?_, h32⟩
  · unfold fX11_offOf fX11_offOf_l10
    rw [h.2.1, q_lt_eq, show (0 : Int32) = nI 0 from rfl, e1, show (1 : Int32) = nI 1 from rfl, l1, q_b_some]
    unfold fX11_unlikes fX11_unlikes_l4
    have := unlikes_lok 256 q_N 0 0 w' (by omega) hqN (Nat.le_refl 0)
    rw [nI_0, Nat.zero_add] at this
    rw [this, q_b_some]
    rw [cntU_cong 256 0 (f' := fun i => v.1 32 i) (g' := cellS K t (kR u) (zR u) sh) (fun i _ hi => ⟨h32 i (by omega), ?_⟩)]
    have := l3 i (by omega)
    rw [show 256 * 1 + i = 256 + i by omega] at this
    exact this
  · rw [l2.1 c x t, e2 c y z, sI_cell _ _ _ _ _ x]
  · rw [l2.2.1 i y z, e2 0 (by decide) (by decide), sI_k _ _ _ _ _ x]
  · rw [l2.2.2, e3]; rfl
