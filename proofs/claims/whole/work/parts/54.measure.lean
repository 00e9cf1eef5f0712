/-! cell, area, edge, match, unlike -/
def frX (w w' : q_W) : Prop := (∀ c, c ≠ 7 → c ≠ 12 → c ≠ 13 → ¬ (14 ≤ c ∧ c ≤ 21) → w'.1 c = w.1 c) ∧ (∀ c k, ¬ (c = 12 ∧ k = 1) → w'.2.1 c k = w.2.1 c k) ∧ w'.2.2 = w.2.2
theorem frX_t {a b c : q_W} (h : frX a b) (h' : frX b c) : frX a c := ⟨fun q x y z a => (h'.1 q x y z a).trans (h.1 q x y z a), fun q k x => (h'.2.1 q k x).trans (h.2.1 q k x), h'.2.2.trans h.2.2⟩
theorem frX_T {q : Nat} (hq : isQ q) {w w' : q_W} (h : frT q w w') : frX w w' := ⟨fun c a b d e => h.1 c a b d (by rcases hq with rfl | rfl <;> omega) (by rcases hq with rfl | rfl <;> omega), h.2.1, h.2.2⟩
theorem frX_B {w w' : q_W} (h : frB w w') : frX w w' := ⟨fun c a b d _ => h.1 c a b d, h.2.1, h.2.2⟩
theorem frX_r (w : q_W) : frX w w := ⟨fun _ _ _ _ _ => rfl, fun _ _ _ => rfl, rfl⟩
def frY (w w' : q_W) : Prop := (∀ c, c ≠ 0 → ¬ (29 ≤ c ∧ c ≤ 34) → w'.1 c = w.1 c) ∧ (∀ k, k ≠ 55 → k ≠ 56 → k ≠ 60 → k ≠ 61 → k ≠ 62 → k ≠ 64 → k ≠ 65 → k ≠ 68 → w'.1 0 k = w.1 0 k) ∧ w'.2 = w.2
theorem frY_t {a b c : q_W} (h : frY a b) (h' : frY b c) : frY a c := ⟨fun q x y => (h'.1 q x y).trans (h.1 q x y), fun k x y z a b c d e => (h'.2.1 k x y z a b c d e).trans (h.2.1 k x y z a b c d e), h'.2.2.trans h.2.2⟩
theorem frY_G {w w' : q_W} (h : frG w w') : frY w w' := ⟨fun c a b => h.1 c a (by omega) (by omega) (by omega) (by omega), fun k a b c d e _ _ _ => h.2.1 k a b c d e, h.2.2⟩
theorem frY_r (w : q_W) : frY w w := ⟨fun _ _ _ => rfl, fun _ _ _ _ _ _ _ _ _ => rfl, rfl⟩
def I_ch (k : Nat) (u : q_W) : Prop := chOK 14 k u ∧ chOK 18 k u
theorem ch_B {k : Nat} {u u' : q_W} (f : frB u u') (h : I_ch k u) : I_ch k u' := ⟨chOK_fr (Or.inl rfl) h.1 (f.1 14 (by decide) (by decide) (by decide)) (f.1 15 (by decide) (by decide) (by decide)) (f.1 5 (by decide) (by decide) (by decide)) (f.1 6 (by decide) (by decide) (by decide)), chOK_fr (Or.inr rfl) h.2 (f.1 18 (by decide) (by decide) (by decide)) (f.1 19 (by decide) (by decide) (by decide)) (f.1 5 (by decide) (by decide) (by decide)) (f.1 6 (by decide) (by decide) (by decide))⟩
theorem frX_val {u u' : q_W} {k : Nat} (f : frX u u') (h : I_val k u) : I_val k u' := by
  unfold I_val at *
  rw [f.1 5 (by decide) (by decide) (by decide) (by decide), f.1 6 (by decide) (by decide) (by decide) (by decide)]
  exact h
theorem frX_bnd {u u' : q_W} {k : Nat} (f : frX u u') (h : I_bnd k u) : I_bnd k u' := by
  unfold I_bnd at *
  rw [kd_eq (f.1 5 (by decide) (by decide) (by decide) (by decide)), nm_eq (f.1 6 (by decide) (by decide) (by decide) (by decide))]
  exact h
theorem frX_log {u u' v : q_W} {k : Nat} (f : frX u u') (h : I_log k u v) : I_log k u' v := by
  unfold I_log at *
  rw [f.1 4 (by decide) (by decide) (by decide) (by decide), f.1 5 (by decide) (by decide) (by decide) (by decide), f.1 6 (by decide) (by decide) (by decide) (by decide)]
  exact h
theorem frY_log {u v v' : q_W} {k : Nat} (f : frY v v') (h : I_log k u v) : I_log k u v' := by
  unfold I_log at *
  rw [f.2.1 50 (by decide) (by decide) (by decide) (by decide) (by decide) (by decide) (by decide) (by decide), f.1 27 (by decide) (by decide), f.1 28 (by decide) (by decide)]
  exact h
theorem chOK_T {q k : Nat} (hq : isQ q) {u u' : q_W} {n s : Nat} (f : frT q u u') (hn : n ≤ k) (hs : s < cntL u n n 0) (h7 : u'.1 q 7 = nI s) (h8 : u'.1 q 8 = nI n) (hs6 : u'.1 q 6 = nI (shO u n s)) (hc : ∀ i, i < 256 → u'.1 (q + 1) i = shtS u n s i) : chOK q k u' := by
  have h0 : q = 14 ∨ q = 18 := hq
  have h5 : u'.1 5 = u.1 5 := f.1 5 (by decide) (by decide) (by decide) (by omega) (by omega)
  have h6 : u'.1 6 = u.1 6 := f.1 6 (by decide) (by decide) (by decide) (by omega) (by omega)
  exact Or.inr ⟨n, s, hn, by rw [cntL_eq h5 h6]; exact hs, h7, h8, by rw [shO_eq h5 h6]; exact hs6, fun i hi => by rw [shtS_eq h5 h6]; exact hc i hi⟩
theorem take14s {u v : q_W} {k : Nat} (hl : I_log k u v) (hv : I_val k u) (hb : I_bnd k u) (hc : I_ch k u) (a b : Int32) : (∃ u' v' n s, fX10_takeSheet 14 a b u = some (1, u') ∧ fX11_isSheet a b 0 v = some (1, v') ∧ frX u u' ∧ I_ch k u' ∧ frG v v' ∧ n ≤ k ∧ s < cntL u n n 0 ∧ a = nI s ∧ b = nI n ∧ v'.1 0 56 = nI (min s 9) ∧ (u'.1 14 6 = nI (shO u n s) ∧ v'.1 0 60 = nI (shO u n s)) ∧ ∀ i, i < 256 → u'.1 15 i = shtS u n s i ∧ v'.1 32 i = shtS u n s i) ∨ (∃ u' v', fX10_takeSheet 14 a b u = some (0, u') ∧ fX11_isSheet a b 0 v = some (0, v') ∧ frX u u' ∧ I_ch k u' ∧ frG v v') := by
  by_cases h : ∃ n s, n ≤ k ∧ s < cntL u n n 0 ∧ a = nI s ∧ b = nI n
  · obtain ⟨n, s, hn, hs, rfl, rfl⟩ := h
    obtain ⟨w, e, f, h7, h8, h6, c⟩ := takeC (Or.inl rfl) hl hv hb hc.1 hn hs
    obtain ⟨w', e', f', c', _, t', z'⟩ := takeR hl hv hb hn hs 0 (by decide)
    refine Or.inl ⟨w, w', n, s, e, e', frX_T (Or.inl rfl) f, ⟨chOK_T (Or.inl rfl) f hn hs h7 h8 h6 c, ?_⟩, f', hn, hs, rfl, rfl, t', ⟨h6, z'⟩, fun i hi => ⟨c i hi, ?_⟩⟩
    · exact chOK_fr (Or.inr rfl) hc.2 (f.1 18 (by decide) (by decide) (by decide) (by decide) (by decide)) (f.1 19 (by decide) (by decide) (by decide) (by decide) (by decide)) (f.1 5 (by decide) (by decide) (by decide) (by decide) (by decide)) (f.1 6 (by decide) (by decide) (by decide) (by decide) (by decide))
    · have := c' i hi
      rw [Nat.mul_zero, Nat.zero_add] at this
      exact this
  · obtain ⟨w, w', e, e', f, f'⟩ := takeNo (Or.inl rfl) hl hv a b 0 h
    exact Or.inr ⟨w, w', e, e', frX_B f, ch_B f hc, f'⟩
theorem take14 {u v : q_W} {k : Nat} (hl : I_log k u v) (hv : I_val k u) (hb : I_bnd k u) (hc : I_ch k u) (a b : Int32) : (∃ u' v' n s, fX10_takeSheet 14 a b u = some (1, u') ∧ fX11_isSheet a b 0 v = some (1, v') ∧ frX u u' ∧ I_ch k u' ∧ frG v v' ∧ n ≤ k ∧ s < cntL u n n 0 ∧ a = nI s ∧ b = nI n ∧ v'.1 0 56 = nI (min s 9) ∧ ∀ i, i < 256 → u'.1 15 i = shtS u n s i ∧ v'.1 32 i = shtS u n s i) ∨ (∃ u' v', fX10_takeSheet 14 a b u = some (0, u') ∧ fX11_isSheet a b 0 v = some (0, v') ∧ frX u u' ∧ I_ch k u' ∧ frG v v') := by
  rcases take14s hl hv hb hc a b with ⟨u', v', n, s, e, e', f, c', f', a1, a2, a3, a4, a5, _, cc⟩ | h
  · exact Or.inl ⟨u', v', n, s, e, e', f, c', f', a1, a2, a3, a4, a5, cc⟩
  · exact Or.inr h
theorem take18 {u v : q_W} {k : Nat} (hl : I_log k u v) (hv : I_val k u) (hb : I_bnd k u) (hc : I_ch k u) (a b : Int32) : (∃ u' v' n s, fX10_takeSheet 18 a b u = some (1, u') ∧ fX11_isSheet a b 1 v = some (1, v') ∧ frX u u' ∧ I_ch k u' ∧ frG v v' ∧ u'.1 15 = u.1 15 ∧ (∀ i, i < 256 → v'.1 32 i = v.1 32 i) ∧ ∀ i, i < 256 → u'.1 19 i = shtS u n s i ∧ v'.1 32 (256 + i) = shtS u n s i) ∨ (∃ u' v', fX10_takeSheet 18 a b u = some (0, u') ∧ fX11_isSheet a b 1 v = some (0, v') ∧ frX u u' ∧ I_ch k u' ∧ frG v v') := by
  by_cases h : ∃ n s, n ≤ k ∧ s < cntL u n n 0 ∧ a = nI s ∧ b = nI n
  · obtain ⟨n, s, hn, hs, rfl, rfl⟩ := h
    obtain ⟨w, e, f, h7, h8, h6, c⟩ := takeC (Or.inr rfl) hl hv hb hc.2 hn hs
    obtain ⟨w', e', f', c', c2, _⟩ := takeR hl hv hb hn hs 1 (by decide)
    refine Or.inl ⟨w, w', n, s, e, e', frX_T (Or.inr rfl) f, ⟨?_, chOK_T (Or.inr rfl) f hn hs h7 h8 h6 c⟩, f', f.1 15 (by decide) (by decide) (by decide) (by decide) (by decide), fun i hi => c2 i (by omega), fun i hi => ⟨c i hi, ?_⟩⟩
    · exact chOK_fr (Or.inl rfl) hc.1 (f.1 14 (by decide) (by decide) (by decide) (by decide) (by decide)) (f.1 15 (by decide) (by decide) (by decide) (by decide) (by decide)) (f.1 5 (by decide) (by decide) (by decide) (by decide) (by decide)) (f.1 6 (by decide) (by decide) (by decide) (by decide) (by decide))
    · have := c' i hi
      rw [Nat.mul_one] at this
      exact this
  · obtain ⟨w, w', e, e', f, f'⟩ := takeNo (Or.inr rfl) hl hv a b 1 h
    exact Or.inr ⟨w, w', e, e', frX_B f, ch_B f hc, f'⟩
theorem isCell_ok (a b : Int32) (w : q_W) : fX8_isCell a b w = some (b01 (chk a 0 15 && chk b 0 15), w) := by
  have t (x : Int32) (h0 : ¬ x < 0) : chk x 0 15 = !decide (16 ≤ x) := by
    unfold chk
    rw [decide_eq_false h0]
    by_cases h : 16 ≤ x
    · rw [decide_eq_true h, decide_eq_false]; rfl
      rw [i_le] at h ⊢
      have : (16 : Int32).toInt = 16 := rfl
      have : (15 : Int32).toInt = 15 := rfl
      omega
    · rw [decide_eq_false h, decide_eq_true]; rfl
      rw [i_le] at h ⊢
      have : (16 : Int32).toInt = 16 := rfl
      have : (15 : Int32).toInt = 15 := rfl
      omega
  have t0 (x : Int32) (h0 : x < 0) : chk x 0 15 = false := by unfold chk; rw [decide_eq_true h0]; rfl
  unfold fX8_isCell
  by_cases h1 : a < 0
  · rw [if_pos h1, t0 a h1]; rfl
  · rw [if_neg h1, t a h1]
    by_cases h2 : 16 ≤ a
    · rw [if_pos h2, decide_eq_true h2]; rfl
    · rw [if_neg h2, decide_eq_false h2]
      by_cases h3 : b < 0
      · rw [if_pos h3, t0 b h3]; rfl
      · rw [if_neg h3, t b h3]
        by_cases h4 : 16 ≤ b
        · rw [if_pos h4, decide_eq_true h4]; rfl
        · rw [if_neg h4, decide_eq_false h4]; rfl
theorem chk15 {x : Int32} (h : chk x 0 15 = true) : ∃ a, a < 16 ∧ x = nI a := by
  obtain ⟨a, _, ha, e⟩ := chk_nI (lo := 0) (hi := 15) h (by decide) (by decide)
  exact ⟨a, by omega, e⟩
theorem colQ {q : Nat} (hq : isQ q) {i j : Nat} (hi : i < 16) (hj : j < 16) (w : q_W) : fX8_colourOf q (nI i) (nI j) w = some (w.1 (q + 1) (16 * i + j), w) := by
  unfold fX8_colourOf
  have c (a : Nat) (ha : a < 16) : chk (nI a) 0 15 = true := by
    rw [chk_iff, nI_toInt (by omega), show (0 : Int32).toInt = 0 from rfl, show (15 : Int32).toInt = 15 from rfl]
    omega
  rw [if_pos (isQ_c hq), isCell_ok, c i hi, c j hj, q_b_some, if_neg (show ¬ b01 (true && true) = 0 by decide), show (16 : Int32) = nI 16 from rfl, pk_mul, nI_add, Nat.mul_comm i 16, q_lt_eq, if_pos (q_inb_nI (by omega) (by omega)), q_ix_nI (by omega), isQ_0 hq]
theorem sim_cell {u v : q_W} {k : Nat} (hl : I_log k u v) (hv : I_val k u) (hb : I_bnd k u) (hc : I_ch k u) (a i j b : Int32) : ∃ r u' v', fX10_cell a i j b u = some (r, u') ∧ fX11_cell a i j b v = some (r, v') ∧ frX u u' ∧ I_ch k u' ∧ frY v v' := by
  unfold fX10_cell fX11_cell
  rw [isCell_ok, in_ok, q_b_some, q_b_some]
  cases h1 : chk i 0 15 with
  | false =>
    rw [Bool.false_and, if_pos b01_f, if_pos b01_f]
    exact ⟨_, _, _, rfl, rfl, frX_r _, hc, frY_r _⟩
  | true =>
    rw [Bool.true_and, if_neg b01_t, in_ok, q_b_some]
    cases h2 : chk j 0 15 with
    | false =>
      rw [if_pos b01_f, if_pos b01_f]
      exact ⟨_, _, _, rfl, rfl, frX_r _, hc, frY_r _⟩
    | true =>
      rw [if_neg b01_t, if_neg b01_t]
      rcases take14 hl hv hb hc a b with ⟨u', v', n, s, e, e', f, c', f', _, _, _, _, _, cc⟩ | ⟨u', v', e, e', f, c', f'⟩
      · obtain ⟨x, hx, rfl⟩ := chk15 h1
        obtain ⟨y, hy, rfl⟩ := chk15 h2
        obtain ⟨g1, g2⟩ := cc (16 * x + y) (by omega)
        rw [e, q_b_some, if_neg i_10, e', q_b_some, if_neg i_10, colQ (Or.inl rfl) hx hy, q_b_some, show (16 : Int32) = nI 16 from rfl, pk_mul, nI_add, q_lt_eq, if_pos (q_inb_nI (by omega) (by omega)), q_ix_nI (by omega), g1, g2]
        exact ⟨_, _, _, rfl, rfl, f, c', frY_G f'⟩
      · rw [e, q_b_some, if_pos rfl, e', q_b_some, if_pos rfl]
        exact ⟨_, _, _, rfl, rfl, f, c', frY_G f'⟩
theorem area_lok (u v : q_W) (x : Int32) (h : ∀ i, i < 256 → u.1 15 i = v.1 32 i) : ∀ d N j c, j + d = 256 → d < N → ∃ r, q_it N (fX8_areaOf_h4 14) (fun _ _ _ _ => none) x c (nI j) u = some (r, u) ∧ q_it N fX11_area_h28 (fun _ _ _ _ => none) x c (nI j) v = some (r, v) := by
  intro d
  induction d with
  | zero =>
    intro N j c hj hN
    obtain ⟨N, rfl⟩ : ∃ M, N = M + 1 := ⟨N - 1, by omega⟩
    have h6 : (256 : Int32) ≤ nI j := by rw [show (256 : Int32) = nI 256 from rfl, nI_leI (by omega) (by omega)]; omega
    rw [q_itS, q_itS, fX8_areaOf_h4, fX11_area_h28, if_pos h6, if_pos h6]
    exact ⟨c, rfl, rfl⟩
  | succ d ih =>
    intro N j c hj hN
    obtain ⟨N, rfl⟩ : ∃ M, N = M + 1 := ⟨N - 1, by omega⟩
    have h6 : ¬ (256 : Int32) ≤ nI j := by rw [show (256 : Int32) = nI 256 from rfl, nI_leI (by omega) (by omega)]; omega
    rw [q_itS, q_itS, fX8_areaOf_h4, fX11_area_h28, if_neg h6, if_neg h6, if_pos (show q_inb (nI j) 256 from q_inb_nI (by omega) (by omega)), if_pos (show q_inb (nI j) 512 from q_inb_nI (by omega) (by omega)), q_ix_nI (by omega), show fC 14 0 = 15 from rfl, h j (by omega)]
    unfold fX8_areaOf_n24 fX11_area_n50
    simp only [q_lt_eq]
    rw [nI_1]
    by_cases hx : v.1 32 j = x
    · rw [if_pos hx, if_pos hx]
      exact ih N (j + 1) (c + 1) (by omega) (by omega)
    · rw [if_neg hx, if_neg hx]
      exact ih N (j + 1) c (by omega) (by omega)
theorem sim_area {u v : q_W} {k : Nat} (hl : I_log k u v) (hv : I_val k u) (hb : I_bnd k u) (hc : I_ch k u) (a c b : Int32) : ∃ r u' v', fX10_area a c b u = some (r, u') ∧ fX11_area a c b v = some (r, v') ∧ frX u u' ∧ I_ch k u' ∧ frY v v' := by
  have eC : fX10_area a c b u = if chk c (-1) 7 then fX10_area_n16 a c b 1 u else some (-1, u) := by
    unfold fX10_area fX10_area_n15 chk
    have e0 : fX10_area_n16 a c b 0 u = some (-1, u) := by unfold fX10_area_n16; rw [if_pos rfl]
    by_cases h1 : c < -1
    · rw [if_pos h1, e0, decide_eq_true h1]; rfl
    · rw [if_neg h1, decide_eq_false h1]
      by_cases h2 : 7 < c
      · rw [if_pos h2, e0, decide_eq_false (by rw [i_le]; rw [i_lt] at h2; omega)]; rfl
      · rw [if_neg h2, decide_eq_true (by rw [i_le]; rw [i_lt] at h2; omega)]; rfl
  rw [eC]
  unfold fX11_area
  rw [in_ok, q_b_some]
  cases h1 : chk c (-1) 7 with
  | false =>
    rw [if_neg (by decide), if_pos b01_f]
    exact ⟨_, _, _, rfl, rfl, frX_r _, hc, frY_r _⟩
  | true =>
    rw [if_pos rfl, if_neg b01_t]
    unfold fX10_area_n16
    rw [if_neg i_10]
    rcases take14 hl hv hb hc a b with ⟨u', v', n, s, e, e', f, c', f', _, _, _, _, _, cc⟩ | ⟨u', v', e, e', f, c', f'⟩
    · rw [e, q_b_some, if_neg i_10, e', q_b_some, if_neg i_10]
      unfold fX8_areaOf fX8_areaOf_l4 fX11_area_l28
      rw [if_pos (show cC 14 = 8 from rfl)]
      obtain ⟨r, r1, r2⟩ := area_lok u' v' c (fun i hi => (cc i hi).1.trans (cc i hi).2.symm) 256 q_N 0 0 rfl (Nat.le_of_ble_eq_true rfl)
      rw [nI_0] at r1 r2
      rw [r1, r2, q_b_some]
      exact ⟨_, _, _, rfl, rfl, f, c', frY_G f'⟩
    · rw [e, q_b_some, if_pos rfl, e', q_b_some, if_pos rfl]
      exact ⟨_, _, _, rfl, rfl, f, c', frY_G f'⟩
/-- both sheets are taken -/
theorem both {u v : q_W} {k : Nat} (hl : I_log k u v) (hv : I_val k u) (hb : I_bnd k u) (hc : I_ch k u) (a b c : Int32) : (∃ u' v1 v', fX10_takeBoth a b c u = some (1, u') ∧ fX11_isSheet a c 0 v = some (1, v1) ∧ fX11_isSheet b c 1 v1 = some (1, v') ∧ frX u u' ∧ I_ch k u' ∧ frY v v' ∧ (∀ i, i < 256 → u'.1 15 i = v'.1 32 i) ∧ ∀ i, i < 256 → u'.1 19 i = v'.1 32 (256 + i)) ∨ (∃ u' v', fX10_takeBoth a b c u = some (0, u') ∧ frX u u' ∧ I_ch k u' ∧ frY v v' ∧ (fX11_isSheet a c 0 v = some (0, v') ∨ ∃ v1, fX11_isSheet a c 0 v = some (1, v1) ∧ fX11_isSheet b c 1 v1 = some (0, v'))) := by
  unfold fX10_takeBoth
  rcases take14 hl hv hb hc a c with ⟨u1, v1, n, s, e, e', f, c', f', _, _, _, _, _, cc⟩ | ⟨u', v', e, e', f, c', f'⟩
  · have hl1 := frG_log f' (frX_log f hl)
    rw [e, q_b_some, if_neg i_10]
    rcases take18 hl1 (frX_val f hv) (frX_bnd f hb) c' b c with ⟨u', v', n', s', g, g', h, d', h', x1, x2, x3⟩ | ⟨u', v', g, g', h, d', h'⟩
    · rw [g, q_b_some, if_neg i_10]
      refine Or.inl ⟨u', v1, v', rfl, e', g', frX_t f h, d', frY_G (frG_t f' h'), fun i hi => ?_, fun i hi => (x3 i hi).1.trans (x3 i hi).2.symm⟩
      rw [x1, x2 i hi]
      exact (cc i hi).1.trans (cc i hi).2.symm
    · rw [g, q_b_some, if_pos rfl]
      exact Or.inr ⟨u', v', rfl, frX_t f h, d', frY_G (frG_t f' h'), Or.inr ⟨v1, e', g'⟩⟩
  · rw [e, q_b_some, if_pos rfl]
    exact Or.inr ⟨u', v', rfl, f, c', frY_G f', Or.inl e'⟩
theorem unlike_lok (u v : q_W) (h : ∀ i, i < 256 → u.1 15 i = v.1 32 i) (h' : ∀ i, i < 256 → u.1 19 i = v.1 32 (256 + i)) : ∀ d N j c, j + d = 256 → d < N → ∃ r, q_it N (fX8_cellsUnlike_h4 14 18) (fun _ _ _ => none) c (nI j) u = some (r, u) ∧ q_it N fX11_unlikes_h4 (fun _ _ _ => none) c (nI j) v = some (r, v) := by
  intro d
  induction d with
  | zero =>
    intro N j c hj hN
    obtain ⟨N, rfl⟩ : ∃ M, N = M + 1 := ⟨N - 1, by omega⟩
    have h6 : (256 : Int32) ≤ nI j := by rw [show (256 : Int32) = nI 256 from rfl, nI_leI (by omega) (by omega)]; omega
    rw [q_itS, q_itS, fX8_cellsUnlike_h4, fX11_unlikes_h4, if_pos h6, if_pos h6]
    exact ⟨c, rfl, rfl⟩
  | succ d ih =>
    intro N j c hj hN
    obtain ⟨N, rfl⟩ : ∃ M, N = M + 1 := ⟨N - 1, by omega⟩
    have h6 : ¬ (256 : Int32) ≤ nI j := by rw [show (256 : Int32) = nI 256 from rfl, nI_leI (by omega) (by omega)]; omega
    have hib : q_inb (nI j) 256 := q_inb_nI (by omega) (by omega)
    rw [q_itS, q_itS, fX8_cellsUnlike_h4, fX11_unlikes_h4, if_neg h6, if_neg h6, if_pos hib, if_pos hib, if_pos (show q_inb (nI j) 512 from q_inb_nI (by omega) (by omega)), q_lt_eq, q_lt_eq, show (256 : Int32) + nI j = nI (256 + j) by rw [show (256 : Int32) = nI 256 from rfl, nI_add], if_pos (show q_inb (nI (256 + j)) 512 from q_inb_nI (by omega) (by omega)), q_ix_nI (by omega), q_ix_nI (by omega), show fC 14 0 = 15 from rfl, show fC 18 0 = 19 from rfl, h j (by omega), h' j (by omega)]
    unfold fX8_cellsUnlike_n29 fX11_unlikes_n33
    simp only [q_lt_eq]
    rw [nI_1]
    by_cases hx : v.1 32 j = v.1 32 (256 + j)
    · rw [if_pos hx, if_pos hx]
      exact ih N (j + 1) c (by omega) (by omega)
    · rw [if_neg hx, if_neg hx]
      exact ih N (j + 1) (c + 1) (by omega) (by omega)
theorem sim_unlike {u v : q_W} {k : Nat} (hl : I_log k u v) (hv : I_val k u) (hb : I_bnd k u) (hc : I_ch k u) (a b c : Int32) : ∃ r u' v', fX10_unlike a b c u = some (r, u') ∧ fX11_unlike a b c v = some (r, v') ∧ frX u u' ∧ I_ch k u' ∧ frY v v' := by
  unfold fX10_unlike fX11_unlike
  rcases both hl hv hb hc a b c with ⟨u', v1, v', e, e1, e2, f, c', f', g1, g2⟩ | ⟨u', v', e, f, c', f', g⟩
  · rw [e, q_b_some, if_neg i_10, e1, q_b_some, if_neg i_10, e2, q_b_some, if_neg i_10]
    unfold fX8_cellsUnlike fX8_cellsUnlike_l4 fX11_unlikes fX11_unlikes_l4
    rw [if_pos (show cC 14 = 8 from rfl), if_pos (show cC 18 = 8 from rfl)]
    obtain ⟨r, r1, r2⟩ := unlike_lok u' v' g1 g2 256 q_N 0 0 rfl (Nat.le_of_ble_eq_true rfl)
    rw [nI_0] at r1 r2
    rw [r1, r2, q_b_some, q_b_some]
    exact ⟨_, _, _, rfl, rfl, f, c', f'⟩
  · rw [e, q_b_some, if_pos rfl]
    rcases g with g | ⟨v1, g1, g2⟩
    · rw [g, q_b_some, if_pos rfl]
      exact ⟨_, _, _, rfl, rfl, f, c', f'⟩
    · rw [g1, q_b_some, if_neg i_10, g2, q_b_some, if_pos rfl]
      exact ⟨_, _, _, rfl, rfl, f, c', f'⟩
theorem differs_lok (u v : q_W) (h : ∀ i, i < 256 → u.1 15 i = v.1 32 i) (h' : ∀ i, i < 256 → u.1 19 i = v.1 32 (256 + i)) (s : Int32) : ∀ d N j c, j + d = 16 → d < N → ∃ r, q_it N (fX8_edgesUnlike_h5 14 18) (fun _ _ _ _ => none) s c (nI j) u = some (r, u) ∧ q_it N fX11_differs_h4 (fun _ _ _ _ => none) s c (nI j) v = some (r, v) := by
  intro d
  induction d with
  | zero =>
    intro N j c hj hN
    obtain ⟨N, rfl⟩ : ∃ M, N = M + 1 := ⟨N - 1, by omega⟩
    have h6 : (16 : Int32) ≤ nI j := by rw [show (16 : Int32) = nI 16 from rfl, nI_leI (by omega) (by omega)]; omega
    rw [q_itS, q_itS, fX8_edgesUnlike_h5, fX11_differs_h4, if_pos h6, if_pos h6]
    exact ⟨c, rfl, rfl⟩
  | succ d ih =>
    intro N j c hj hN
    obtain ⟨N, rfl⟩ : ∃ M, N = M + 1 := ⟨N - 1, by omega⟩
    have h6 : ¬ (16 : Int32) ≤ nI j := by rw [show (16 : Int32) = nI 16 from rfl, nI_leI (by omega) (by omega)]; omega
    have c0 : chk 0 0 15 = true := rfl
    rw [q_itS, q_itS, fX8_edgesUnlike_h5, fX11_differs_h4, if_neg h6, if_neg h6, isCell_ok, in_ok, c0, Bool.true_and, q_b_some, q_b_some]
    unfold fX8_edgesUnlike_n46 fX11_differs_n50
    rw [nI_1]
    cases hx : chk (nI j + s) 0 15 with
    | false =>
      rw [if_pos b01_f, if_pos b01_f, q_lt_eq, q_lt_eq]
      exact ih N (j + 1) c (by omega) (by omega)
    | true =>
      obtain ⟨m, hm, em⟩ := chk15 hx
      have e1 : (240 : Int32) + nI j = nI (240 + j) := by rw [show (240 : Int32) = nI 240 from rfl, nI_add]
      have e2 : (256 : Int32) + nI j + s = nI (256 + m) := by rw [Int32.add_assoc, em, show (256 : Int32) = nI 256 from rfl, nI_add]
      have e3 : fX8_colourOf 14 15 (nI j) u = some (u.1 15 (16 * 15 + j), u) := colQ (Or.inl rfl) (show 15 < 16 by decide) (show j < 16 by omega) u
      have e4 : fX8_colourOf 18 0 (nI m) u = some (u.1 19 (16 * 0 + m), u) := colQ (Or.inr rfl) (show 0 < 16 by decide) hm u
      rw [if_neg b01_t, if_neg b01_t, em, e3, q_b_some, e4, q_b_some]
      simp only [q_lt_eq]
      rw [e1, e2, if_pos (show q_inb (nI (240 + j)) 512 from q_inb_nI (by omega) (by omega)), if_pos (show q_inb (nI (256 + m)) 512 from q_inb_nI (by omega) (by omega)), q_ix_nI (by omega), q_ix_nI (by omega), h (16 * 15 + j) (by omega), h' (16 * 0 + m) (by omega), show 16 * 15 + j = 240 + j by omega, show 256 + (16 * 0 + m) = 256 + m by omega]
      by_cases hy : v.1 32 (240 + j) = v.1 32 (256 + m)
      · rw [if_pos hy, if_pos hy]
        exact ih N (j + 1) c (by omega) (by omega)
      · rw [if_neg hy, if_neg hy]
        exact ih N (j + 1) (c + 1) (by omega) (by omega)
theorem differs_ok (u v : q_W) (h : ∀ i, i < 256 → u.1 15 i = v.1 32 i) (h' : ∀ i, i < 256 → u.1 19 i = v.1 32 (256 + i)) (s : Int32) : ∃ r, fX8_edgesUnlike 14 18 s u = some (r, u) ∧ fX11_differs s v = some (r, v) := by
  unfold fX8_edgesUnlike fX8_edgesUnlike_l5 fX11_differs fX11_differs_l4
  rw [if_pos (show cC 14 = 8 from rfl), if_pos (show cC 18 = 8 from rfl)]
  obtain ⟨r, r1, r2⟩ := differs_lok u v h h' s 16 q_N 0 0 rfl (Nat.le_of_ble_eq_true rfl)
  rw [nI_0] at r1 r2
  exact ⟨r, r1, r2⟩
theorem sim_edge {u v : q_W} {k : Nat} (hl : I_log k u v) (hv : I_val k u) (hb : I_bnd k u) (hc : I_ch k u) (a b s c : Int32) : ∃ r u' v', fX10_edge a b s c u = some (r, u') ∧ fX11_edge a b s c v = some (r, v') ∧ frX u u' ∧ I_ch k u' ∧ frY v v' := by
  have eC : fX10_edge a b s c u = if chk s (-15) 15 then fX10_edge_n17 a b s c 1 u else some (-1, u) := by
    unfold fX10_edge fX10_edge_n16 chk
    have e0 : fX10_edge_n17 a b s c 0 u = some (-1, u) := by unfold fX10_edge_n17; rw [if_pos rfl]
    have l1 : (-15 : Int32).toInt = -15 := rfl
    have l2 : (-16 : Int32).toInt = -16 := rfl
    have l3 : (15 : Int32).toInt = 15 := rfl
    have l4 : (16 : Int32).toInt = 16 := rfl
    by_cases h1 : s ≤ -16
    · rw [if_pos h1, e0, decide_eq_true (by rw [i_lt]; rw [i_le] at h1; omega)]; rfl
    · rw [if_neg h1, decide_eq_false (by rw [i_lt]; rw [i_le] at h1; omega)]
      by_cases h2 : 16 ≤ s
      · rw [if_pos h2, e0, decide_eq_false (by rw [i_le] at h2 ⊢; omega)]; rfl
      · rw [if_neg h2, decide_eq_true (by rw [i_le] at h2 ⊢; omega)]; rfl
  rw [eC]
  unfold fX11_edge
  rw [in_ok, q_b_some]
  cases h1 : chk s (-15) 15 with
  | false =>
    rw [if_neg (by decide), if_pos b01_f]
    exact ⟨_, _, _, rfl, rfl, frX_r _, hc, frY_r _⟩
  | true =>
    rw [if_pos rfl, if_neg b01_t]
    unfold fX10_edge_n17
    rw [if_neg i_10]
    rcases both hl hv hb hc a b c with ⟨u', v1, v', e, e1, e2, f, c', f', g1, g2⟩ | ⟨u', v', e, f, c', f', g⟩
    · rw [e, q_b_some, if_neg i_10, e1, q_b_some, if_neg i_10, e2, q_b_some, if_neg i_10]
      obtain ⟨r, r1, r2⟩ := differs_ok u' v' g1 g2 s
      rw [r1, r2, q_b_some, q_b_some]
      exact ⟨_, _, _, rfl, rfl, f, c', f'⟩
    · rw [e, q_b_some, if_pos rfl]
      rcases g with g | ⟨v1, g1, g2⟩
      · rw [g, q_b_some, if_pos rfl]
        exact ⟨_, _, _, rfl, rfl, f, c', f'⟩
      · rw [g1, q_b_some, if_neg i_10, g2, q_b_some, if_pos rfl]
        exact ⟨_, _, _, rfl, rfl, f, c', f'⟩
/-- one shift is weighed -/
theorem shift_st (u v : q_W) (h : ∀ i, i < 256 → u.1 15 i = v.1 32 i) (h' : ∀ i, i < 256 → u.1 19 i = v.1 32 (256 + i)) (r12 r36 : Int32 → Int32 → Int32 → q_W → Option (Int32 × q_W)) (r22 r46 : Int32 → Int32 → Int32 → Int32 → q_W → Option (Int32 × q_W)) (b m f s : Int32) (h1 : ¬ 1 < s) (h2 : ¬ 2 ≤ s) : ∃ b' m', fX8_bestShift_h22 14 18 r12 r22 b m f s u = r22 b' m' f (s + 2) u ∧ fX11_match_h46 r36 r46 b m f s v = r46 b' m' f (s + 2) v := by
  unfold fX8_bestShift_h22 fX11_match_h46
  obtain ⟨r, r1, r2⟩ := differs_ok u v h h' (s * f)
  have ea : (if 0 ≤ b then fX11_match_n78 r36 r46 b m f s r b 16 v else fX11_match_n78 r36 r46 b m f s r (0 - b) 16 v) = fX11_match_n78 r36 r46 b m f s r (q_iabs b) 16 v := by
    unfold q_iabs
    by_cases c : 0 ≤ b
    · rw [if_pos c, if_pos c]
    · rw [if_neg c, if_neg c]
  rw [if_neg h1, if_neg h2, r1, r2, q_b_some, q_b_some, ea]
  unfold fX11_match_n78 fX11_match_n111 fX8_bestShift_n69
  simp only [q_lt_eq]
  by_cases c : m * (16 - f) ≤ r * (16 - q_iabs b)
  · rw [if_pos c, if_neg (by rw [Int32.not_lt]; exact c)]
    exact ⟨_, _, rfl, rfl⟩
  · rw [if_neg c, if_pos (by rw [Int32.not_le] at c; exact c)]
    exact ⟨_, _, rfl, rfl⟩
theorem shift_two (u v : q_W) (h : ∀ i, i < 256 → u.1 15 i = v.1 32 i) (h' : ∀ i, i < 256 → u.1 19 i = v.1 32 (256 + i)) (r12 r36 : Int32 → Int32 → Int32 → q_W → Option (Int32 × q_W)) (b m f : Int32) : ∃ b' m', fX8_bestShift_l22 14 18 r12 b m f (-1) u = r12 b' m' (f + 1) u ∧ fX11_match_l46 r36 b m f (-1) v = r36 b' m' (f + 1) v := by
  unfold fX8_bestShift_l22 fX11_match_l46
  obtain ⟨b1, m1, x1, y1⟩ := shift_st u v h h' r12 r36 (q_it 3999999999 (fX8_bestShift_h22 14 18 r12) (fun _ _ _ _ _ => none)) (q_it 3999999999 (fX11_match_h46 r36) (fun _ _ _ _ _ => none)) b m f (-1) (by decide) (by decide)
  obtain ⟨b2, m2, x2, y2⟩ := shift_st u v h h' r12 r36 (q_it 3999999998 (fX8_bestShift_h22 14 18 r12) (fun _ _ _ _ _ => none)) (q_it 3999999998 (fX11_match_h46 r36) (fun _ _ _ _ _ => none)) b1 m1 f (-1 + 2) (by decide) (by decide)
  refine ⟨b2, m2, ?_, ?_⟩
  · rw [q_itN]
    refine x1.trans ?_
    rw [show (3999999999 : Nat) = 3999999998 + 1 from rfl, q_itS]
    refine x2.trans ?_
    rw [show (3999999998 : Nat) = 3999999997 + 1 from rfl, q_itS]
    unfold fX8_bestShift_h22
    rw [if_pos (show (1 : Int32) < -1 + 2 + 2 by decide), q_lt_eq]
  · rw [q_itN]
    refine y1.trans ?_
    rw [show (3999999999 : Nat) = 3999999998 + 1 from rfl, q_itS]
    refine y2.trans ?_
    rw [show (3999999998 : Nat) = 3999999997 + 1 from rfl, q_itS]
    unfold fX11_match_h46
    rw [if_pos (show (2 : Int32) ≤ -1 + 2 + 2 by decide), q_lt_eq]
theorem match_lok (u v : q_W) (h : ∀ i, i < 256 → u.1 15 i = v.1 32 i) (h' : ∀ i, i < 256 → u.1 19 i = v.1 32 (256 + i)) : ∀ d N f b m, f + d = 16 → d < N → ∃ r, q_it N (fX8_bestShift_h12 14 18) (fun _ _ _ _ => none) b m (nI f) u = some (r, u) ∧ q_it N fX11_match_h36 (fun _ _ _ _ => none) b m (nI f) v = some (r, v) := by
  intro d
  induction d with
  | zero =>
    intro N f b m hj hN
    obtain ⟨N, rfl⟩ : ∃ M, N = M + 1 := ⟨N - 1, by omega⟩
    have h6 : (16 : Int32) ≤ nI f := by rw [show (16 : Int32) = nI 16 from rfl, nI_leI (by omega) (by omega)]; omega
    rw [q_itS, q_itS, fX8_bestShift_h12, fX11_match_h36, if_pos h6, if_pos h6]
    exact ⟨b, rfl, rfl⟩
  | succ d ih =>
    intro N f b m hj hN
    obtain ⟨N, rfl⟩ : ∃ M, N = M + 1 := ⟨N - 1, by omega⟩
    have h6 : ¬ (16 : Int32) ≤ nI f := by rw [show (16 : Int32) = nI 16 from rfl, nI_leI (by omega) (by omega)]; omega
    obtain ⟨b', m', e1, e2⟩ := shift_two u v h h' (q_it N (fX8_bestShift_h12 14 18) (fun _ _ _ _ => none)) (q_it N fX11_match_h36 (fun _ _ _ _ => none)) b m (nI f)
    rw [q_itS, q_itS, fX8_bestShift_h12, fX11_match_h36, if_neg h6, if_neg h6, e1, e2, nI_1]
    exact ih N (f + 1) b' m' (by omega) (by omega)
theorem sim_match {u v : q_W} {k : Nat} (hl : I_log k u v) (hv : I_val k u) (hb : I_bnd k u) (hc : I_ch k u) (a b c : Int32) : ∃ r u' v', fX10_match a b c u = some (r, u') ∧ fX11_match a b c v = some (r, v') ∧ frX u u' ∧ I_ch k u' ∧ frY v v' := by
  unfold fX10_match fX11_match
  rcases both hl hv hb hc a b c with ⟨u', v1, v', e, e1, e2, f, c', f', g1, g2⟩ | ⟨u', v', e, f, c', f', g⟩
  · rw [e, q_b_some, if_neg i_10, e1, q_b_some, if_neg i_10, e2, q_b_some, if_neg i_10]
    unfold fX8_bestShift fX8_bestShift_l12 fX11_match_l36
    rw [if_pos (show cC 14 = 8 from rfl), if_pos (show cC 18 = 8 from rfl)]
    obtain ⟨r, r1, r2⟩ := differs_ok u' v' g1 g2 0
    rw [r1, r2, q_b_some, q_b_some]
    obtain ⟨r', s1, s2⟩ := match_lok u' v' g1 g2 15 q_N 1 0 r rfl (Nat.le_of_ble_eq_true rfl)
    rw [show (1 : Int32) = nI 1 from rfl, s1, s2, q_b_some]
    exact ⟨_, _, _, rfl, rfl, f, c', f'⟩
  · rw [e, q_b_some, if_pos rfl]
    rcases g with g | ⟨v1, g1, g2⟩
    · rw [g, q_b_some, if_pos rfl]
      exact ⟨_, _, _, rfl, rfl, f, c', f'⟩
    · rw [g1, q_b_some, if_neg i_10, g2, q_b_some, if_pos rfl]
      exact ⟨_, _, _, rfl, rfl, f, c', f'⟩
