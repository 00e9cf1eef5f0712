/-! pieces and largest: over all cells -/
theorem max_eq (g r : Int32) : q_imax g r = if r ≤ g then g else r := by
  unfold q_imax
  by_cases h : g < r
  · rw [if_pos h, if_neg (by rw [Int32.not_le]; exact h)]
  · rw [if_neg h, if_pos (by rw [Int32.not_lt] at h; exact h)]
def frL (w w' : q_W) : Prop := (∀ c, c ≠ 14 → c ≠ 16 → c ≠ 17 → w'.1 c = w.1 c) ∧ (∀ k, k ≠ 3 → k ≠ 4 → k ≠ 5 → w'.1 14 k = w.1 14 k) ∧ w'.2 = w.2
theorem frL_t {a b c : q_W} (h : frL a b) (h' : frL b c) : frL a c := ⟨fun q x y z => (h'.1 q x y z).trans (h.1 q x y z), fun k x y z => (h'.2.1 k x y z).trans (h.2.1 k x y z), h'.2.2.trans h.2.2⟩
theorem frL_Q {w w' : q_W} (h : frQ w w') : frL w w' := ⟨h.1, fun k a _ _ => h.2.1 k a, h.2.2⟩
theorem frL_r (w : q_W) : frL w w := frL_Q (frQ_r w)
theorem frL_0 (w : q_W) (k : Nat) (x : Int32) (h : k = 3 ∨ k = 4 ∨ k = 5) : frL w (q_sI w 14 k x) := ⟨fun q h0 _ _ => sI_cell _ _ _ _ _ h0, fun k' h1 h2 h3 => sI_k _ _ _ _ _ (by omega), rfl⟩
theorem hang_lok {C : Nat → Int32} : ∀ d N k (S : Nat → Bool) (u v : q_W), k + d = 256 → d < N → (∀ i, i < 256 → C i = -1 → S i = true) → (∀ i, i < 256 → u.1 17 i = b01 (S i)) → (∀ i, i < 256 → u.1 15 i = C i) → (∀ i, i < 256 → C i ≠ -1 → v.1 33 i = b01 (S i)) → (∀ i, i < 256 → v.1 32 i = C i) → u.1 14 4 = v.1 0 64 → u.1 14 5 = v.1 0 65 → ∃ u' v', q_it N (fX8_findPieces_h48 14) (fun _ _ => none) (nI k) u = some ((), u') ∧ q_it N fX11_hangs_h34 (fun _ _ => none) (nI k) v = some ((), v') ∧ u'.1 14 4 = v'.1 0 64 ∧ u'.1 14 5 = v'.1 0 65 ∧ frL u u' ∧ frZ2 v v' := by
  intro d
  induction d with
  | zero =>
    intro N k S u v h1 hN hb Ra Rb Rc Rd e4 e5
    obtain ⟨N, rfl⟩ : ∃ M, N = M + 1 := ⟨N - 1, by omega⟩
    have h6 : (256 : Int32) ≤ nI k := by rw [show (256 : Int32) = nI 256 from rfl, nI_leI (by omega) (by omega)]; omega
    rw [q_itS, q_itS, fX8_findPieces_h48, fX11_hangs_h34, if_pos h6, if_pos h6]
    exact ⟨u, v, rfl, rfl, e4, e5, frL_r u, frZ2_r v⟩
  | succ d ih =>
    intro N k S u v h1 hN hb Ra Rb Rc Rd e4 e5
    obtain ⟨N, rfl⟩ : ∃ M, N = M + 1 := ⟨N - 1, by omega⟩
    have h6 : ¬ (256 : Int32) ≤ nI k := by rw [show (256 : Int32) = nI 256 from rfl, nI_leI (by omega) (by omega)]; omega
    have hk : k < 256 := by omega
    have ib : q_inb (nI k) 256 := q_inb_nI hk (by omega)
    have ib2 : q_inb (nI k) 512 := q_inb_nI (by omega) (by omega)
    rw [q_itS, q_itS, fX8_findPieces_h48, fX11_hangs_h34, if_neg h6, if_neg h6, if_pos ib, if_pos ib, q_ix_nI (by omega), show fC 14 2 = 17 from rfl, Ra k hk]
    cases hS : S k with
    | true =>
      rw [if_neg b01_t]
      obtain ⟨u', v', x1, x2, x3, x4, x5, x6⟩ := ih N (k + 1) S u v (by omega) (by omega) hb Ra Rb Rc Rd e4 e5
      refine ⟨u', v', ?_, ?_, x3, x4, x5, x6⟩
      · unfold fX8_findPieces_n97
        rw [q_lt_eq, nI_1]
        exact x1
      · unfold fX11_hangs_n212
        by_cases hc : C k = -1
        · by_cases h0 : v.1 33 k = 0
          · rw [if_pos h0, if_pos ib2, Rd k hk, if_pos hc, q_lt_eq, nI_1]
            exact x2
          · rw [if_neg h0, q_lt_eq, nI_1]
            exact x2
        · rw [Rc k hk hc, hS, if_neg b01_t, q_lt_eq, nI_1]
          exact x2
    | false =>
      have hc : C k ≠ -1 := fun c => by rw [hb k hk c] at hS; exact absurd hS (by decide)
      rw [if_pos b01_f, Rc k hk hc, hS, if_pos b01_f, if_pos ib2, Rd k hk, if_neg hc]
      obtain ⟨v1, S2, L2, y1, y2, y3, y4, y5, y6⟩ := startR hk hc Rc Rd hS (q_it N fX11_hangs_h34 (fun _ _ => none))
      obtain ⟨u1, S1, z1, z2, z3, z4⟩ := startC (C := C) hk (w := q_sI u 14 4 (u.1 14 4 + 1)) (fun i hi => by rw [sI_cell _ _ _ _ _ (by decide)]; exact Ra i hi) (fun i hi => by rw [sI_cell _ _ _ _ _ (by decide)]; exact Rb i hi) hS
      have eS : ∀ i, S1 i = S2 i := Fill_one z2 y2
      have ec : cntB S1 256 = cntB S2 256 := cntB_cong 256 (fun i _ => eS i)
      rw [q_lt_eq, show (16 : Int32) = nI 16 from rfl, pk_rem (by omega) (by decide) (by decide), pk_div (by omega) (by decide) (by decide), z1, q_b_some, q_lt_eq]
      unfold fX8_findPieces_n97
      rw [q_lt_eq, nI_1]
      obtain ⟨u', v', x1, x2, x3, x4, x5, x6⟩ := ih N (k + 1) S2 (q_sI u1 14 5 (q_imax ((q_sI u 14 4 (u.1 14 4 + 1)).1 14 5) (nI (cntB S1 256 - cntB S 256)))) v1 (by omega) (by omega) (fun i hi hci => y2.1 i (hb i hi hci)) (fun i hi => by rw [sI_cell _ _ _ _ _ (by decide), z3.1 i hi, eS i]) (fun i hi => by rw [sI_cell _ _ _ _ _ (by decide)]; exact z3.2.2.2 i hi) y3.1 y3.2.2.2 (by
        rw [sI_k _ _ _ _ _ (by decide), z4.2.1 4 (by decide), sI_same, y5, e4]) (by
        rw [sI_same, max_eq, sI_k _ _ _ _ _ (by decide), y6, e5, ec])
      refine ⟨u', v', x1, ?_, x3, x4, frL_t (frL_0 u 4 _ (Or.inr (Or.inl rfl))) (frL_t (frL_Q z4) (frL_t (frL_0 u1 5 _ (Or.inr (Or.inr rfl))) x5)), frZ2_t y4 x6⟩
      rw [q_ix_nI (show k < 2 ^ 31 by omega), show (16 : Int32) = nI 16 from rfl, pk_rem (by omega) (by decide) (by decide), pk_div (by omega) (by decide) (by decide)] at y1
      exact y1.trans x2
/-- the marks begin: class, reference -/
theorem initC_lok (C : Nat → Int32) : ∀ d N j (w : q_W), j + d = 256 → d < N → (∀ i, i < 256 → w.1 15 i = C i) → (∀ i, i < j → w.1 17 i = b01 (decide (C i = -1))) → ∃ w', q_it N (fX8_findPieces_h12 14) (fun _ _ => none) (nI j) w = fX8_findPieces_l48 14 0 w' ∧ (∀ c, c ≠ 17 → w'.1 c = w.1 c) ∧ w'.2 = w.2 ∧ ∀ i, i < 256 → w'.1 17 i = b01 (decide (C i = -1)) := by
  intro d
  induction d with
  | zero =>
    intro N j w h1 hN hC hm
    obtain ⟨N, rfl⟩ : ∃ M, N = M + 1 := ⟨N - 1, by omega⟩
    rw [q_itS, fX8_findPieces_h12, if_pos (by rw [show (256 : Int32) = nI 256 from rfl, nI_leI (by omega) (by omega)]; omega)]
    exact ⟨w, rfl, fun _ _ => rfl, rfl, fun i hi => hm i (by omega)⟩
  | succ d ih =>
    intro N j w h1 hN hC hm
    obtain ⟨N, rfl⟩ : ∃ M, N = M + 1 := ⟨N - 1, by omega⟩
    have ib : q_inb (nI j) 256 := q_inb_nI (by omega) (by omega)
    rw [q_itS, fX8_findPieces_h12, if_neg (by rw [show (256 : Int32) = nI 256 from rfl, nI_leI (by omega) (by omega)]; omega), if_pos ib, q_ix_nI (by omega), show fC 14 0 = 15 from rfl, hC j (by omega)]
    have go : ∀ s : Int32, vp_nar .boolean s = b01 (decide (C j = -1)) → ∃ w', fX8_findPieces_n39 14 (q_it N (fX8_findPieces_h12 14) (fun _ _ => none)) (nI j) s (nI j) w = fX8_findPieces_l48 14 0 w' ∧ (∀ c, c ≠ 17 → w'.1 c = w.1 c) ∧ w'.2 = w.2 ∧ ∀ i, i < 256 → w'.1 17 i = b01 (decide (C i = -1)) := by
      intro s hs
      unfold fX8_findPieces_n39
      rw [if_pos ib, q_lt_eq, q_lt_eq, nI_1, q_ix_nI (by omega), show fC 14 2 = 17 from rfl, hs]
      obtain ⟨w', e, f, g, x⟩ := ih N (j + 1) (q_sI w 17 j (b01 (decide (C j = -1)))) (by omega) (by omega) (fun i hi => by rw [sI_cell _ _ _ _ _ (by decide)]; exact hC i hi) (fun i hi => by
        by_cases ei : i = j
        · subst ei; rw [sI_same]
        · rw [sI_k _ _ _ _ _ ei]; exact hm i (by omega))
      exact ⟨w', e, fun c hc => (f c hc).trans (sI_cell _ _ _ _ _ hc), g, x⟩
    by_cases hc : C j = -1
    · rw [if_pos hc]
      exact go 1 (by rw [decide_eq_true hc]; rfl)
    · rw [if_neg hc]
      exact go 0 (by rw [decide_eq_false hc]; rfl)
theorem initR_lok : ∀ d N j (w : q_W), j + d = 256 → d < N → (∀ i, i < j → w.1 33 i = 0) → ∃ w', q_it N fX11_hangs_h12 (fun _ _ => none) (nI j) w = fX11_hangs_l34 0 w' ∧ (∀ c, c ≠ 33 → w'.1 c = w.1 c) ∧ w'.2 = w.2 ∧ ∀ i, i < 256 → w'.1 33 i = 0 := by
  intro d
  induction d with
  | zero =>
    intro N j w h1 hN hm
    obtain ⟨N, rfl⟩ : ∃ M, N = M + 1 := ⟨N - 1, by omega⟩
    rw [q_itS, fX11_hangs_h12, if_pos (by rw [show (256 : Int32) = nI 256 from rfl, nI_leI (by omega) (by omega)]; omega)]
    exact ⟨w, rfl, fun _ _ => rfl, rfl, fun i hi => hm i (by omega)⟩
  | succ d ih =>
    intro N j w h1 hN hm
    obtain ⟨N, rfl⟩ : ∃ M, N = M + 1 := ⟨N - 1, by omega⟩
    rw [q_itS, fX11_hangs_h12, if_neg (by rw [show (256 : Int32) = nI 256 from rfl, nI_leI (by omega) (by omega)]; omega), if_pos (q_inb_nI (by omega) (by omega)), q_lt_eq, q_lt_eq, nI_1, q_ix_nI (by omega)]
    obtain ⟨w', e, f, g, x⟩ := ih N (j + 1) (q_sI w 33 j (vp_nar .boolean 0)) (by omega) (by omega) (fun i hi => by
        by_cases ei : i = j
        · subst ei; rw [sI_same]; rfl
        · rw [sI_k _ _ _ _ _ ei]; exact hm i (by omega))
    exact ⟨w', e, fun c hc => (f c hc).trans (sI_cell _ _ _ _ _ hc), g, x⟩
theorem pieces_both {u v : q_W} (h : ∀ i, i < 256 → u.1 15 i = v.1 32 i) : ∃ u' v', fX8_findPieces 14 u = some ((), u') ∧ fX11_hangs v = some ((), v') ∧ u'.1 14 4 = v'.1 0 64 ∧ u'.1 14 5 = v'.1 0 65 ∧ frL u u' ∧ frZ2 v v' := by
  unfold fX8_findPieces fX8_findPieces_l12 fX11_hangs fX11_hangs_l12
  rw [if_pos (show cC 14 = 8 from rfl), q_lt_eq, q_lt_eq, q_lt_eq, q_lt_eq]
  obtain ⟨u1, e1, f1, g1, x1⟩ := initC_lok (u.1 15) 256 q_N 0 (q_sI (q_sI u 14 4 0) 14 5 0) rfl (Nat.le_of_ble_eq_true rfl) (fun i _ => by rw [sI_cell _ _ _ _ 15 (by decide), sI_cell _ _ _ _ 15 (by decide)]) (fun i hi => absurd hi (Nat.not_lt_zero i))
  obtain ⟨v1, e2, f2, g2, x2⟩ := initR_lok 256 q_N 0 (q_sI (q_sI v 0 64 0) 0 65 0) rfl (Nat.le_of_ble_eq_true rfl) (fun i hi => absurd hi (Nat.not_lt_zero i))
  rw [nI_0] at e1 e2
  rw [e1, e2]
  have k1 : frL u u1 := ⟨fun c a b d => by rw [f1 c d, sI_cell _ _ _ _ _ a, sI_cell _ _ _ _ _ a], fun k a b c => by rw [f1 14 (by decide), sI_k _ _ _ _ _ c, sI_k _ _ _ _ _ b], g1⟩
  have k2 : frZ2 v v1 := ⟨fun c a b d => by rw [f2 c b, sI_cell _ _ _ _ _ a, sI_cell _ _ _ _ _ a], fun k a b c => by rw [f2 0 (by decide), sI_k _ _ _ _ _ c, sI_k _ _ _ _ _ b], g2⟩
  have c15 : u1.1 15 = u.1 15 := k1.1 15 (by decide) (by decide) (by decide)
  have c32 : v1.1 32 = v.1 32 := k2.1 32 (by decide) (by decide) (by decide)
  unfold fX8_findPieces_l48 fX11_hangs_l34
  obtain ⟨u', v', a1, a2, a3, a4, a5, a6⟩ := hang_lok (C := u.1 15) 256 q_N 0 (fun i => decide (u.1 15 i = -1)) u1 v1 rfl (Nat.le_of_ble_eq_true rfl) (fun i _ hc => decide_eq_true hc) x1 (fun i _ => by rw [c15]) (fun i hi hc => by rw [x2 i hi, decide_eq_false hc]; rfl) (fun i hi => by rw [c32, h i hi]) (by rw [f1 14 (by decide), f2 0 (by decide)]; rfl) (by rw [f1 14 (by decide), f2 0 (by decide)]; rfl)
  rw [nI_0] at a1 a2
  exact ⟨u', v', a1, a2, a3, a4, frL_t k1 a5, frZ2_t k2 a6⟩
theorem frX_L {w w' : q_W} (h : frL w w') : frX w w' := ⟨fun c _ _ _ d => h.1 c (by omega) (by omega) (by omega), fun c k _ => by rw [h.2.2], by rw [h.2.2]⟩
theorem frY_Z {w w' : q_W} (h : frZ2 w w') : frY w w' := ⟨fun c a b => h.1 c a (by omega) (by omega), fun k _ _ _ _ _ a b c => h.2.1 k c a b, h.2.2⟩
theorem ch_L {k : Nat} {u u' : q_W} (f : frL u u') (h : I_ch k u) : I_ch k u' := by
  obtain ⟨h1, h2⟩ := h
  have h5 : u'.1 5 = u.1 5 := f.1 5 (by decide) (by decide) (by decide)
  have h6 : u'.1 6 = u.1 6 := f.1 6 (by decide) (by decide) (by decide)
  refine ⟨?_, chOK_fr (Or.inr rfl) h2 (f.1 18 (by decide) (by decide) (by decide)) (f.1 19 (by decide) (by decide) (by decide)) h5 h6⟩
  have e7 : u'.1 14 7 = u.1 14 7 := f.2.1 7 (by decide) (by decide) (by decide)
  have e8 : u'.1 14 8 = u.1 14 8 := f.2.1 8 (by decide) (by decide) (by decide)
  have e6 : u'.1 14 6 = u.1 14 6 := f.2.1 6 (by decide) (by decide) (by decide)
  have e15 : u'.1 15 = u.1 15 := f.1 15 (by decide) (by decide) (by decide)
  rcases h1 with h1 | ⟨n, s, a1, a2, a3, a4, a6, a5⟩
  · exact Or.inl (e7.trans h1)
  · exact Or.inr ⟨n, s, a1, by rw [cntL_eq h5 h6]; exact a2, e7.trans a3, e8.trans a4, by rw [e6, shO_eq h5 h6]; exact a6, fun i hi => by rw [shtS_eq h5 h6]; exact (congrFun e15 i).trans (a5 i hi)⟩
theorem sim_pieces {u v : q_W} {k : Nat} (hl : I_log k u v) (hv : I_val k u) (hb : I_bnd k u) (hc : I_ch k u) (a b : Int32) : ∃ r u' v', fX10_pieces a b u = some (r, u') ∧ fX11_pieces a b v = some (r, v') ∧ frX u u' ∧ I_ch k u' ∧ frY v v' := by
  unfold fX10_pieces fX11_pieces
  rcases take14 hl hv hb hc a b with ⟨u1, v1, n, s, e, e', f, c', f', _, _, _, _, _, cc⟩ | ⟨u', v', e, e', f, c', f'⟩
  · rw [e, q_b_some, if_neg i_10, e', q_b_some, if_neg i_10]
    unfold fX8_countPieces
    obtain ⟨u2, v2, a1, a2, a3, a4, a5, a6⟩ := pieces_both (fun i hi => (cc i hi).1.trans (cc i hi).2.symm)
    rw [if_pos (show cC 14 = 8 from rfl), a1, a2, q_b_some, q_b_some, q_b_some, a3]
    exact ⟨_, _, _, rfl, rfl, frX_t f (frX_L a5), ch_L a5 c', frY_t (frY_G f') (frY_Z a6)⟩
  · rw [e, q_b_some, if_pos rfl, e', q_b_some, if_pos rfl]
    exact ⟨_, _, _, rfl, rfl, f, c', frY_G f'⟩
theorem sim_largest {u v : q_W} {k : Nat} (hl : I_log k u v) (hv : I_val k u) (hb : I_bnd k u) (hc : I_ch k u) (a b : Int32) : ∃ r u' v', fX10_largest a b u = some (r, u') ∧ fX11_largest a b v = some (r, v') ∧ frX u u' ∧ I_ch k u' ∧ frY v v' := by
  unfold fX10_largest fX11_largest
  rcases take14 hl hv hb hc a b with ⟨u1, v1, n, s, e, e', f, c', f', _, _, _, _, _, cc⟩ | ⟨u', v', e, e', f, c', f'⟩
  · rw [e, q_b_some, if_neg i_10, e', q_b_some, if_neg i_10]
    unfold fX8_largestPiece
    obtain ⟨u2, v2, a1, a2, a3, a4, a5, a6⟩ := pieces_both (fun i hi => (cc i hi).1.trans (cc i hi).2.symm)
    rw [if_pos (show cC 14 = 8 from rfl), a1, a2, q_b_some, q_b_some, q_b_some, a4]
    exact ⟨_, _, _, rfl, rfl, frX_t f (frX_L a5), ch_L a5 c', frY_t (frY_G f') (frY_Z a6)⟩
  · rw [e, q_b_some, if_pos rfl, e', q_b_some, if_pos rfl]
    exact ⟨_, _, _, rfl, rfl, f, c', frY_G f'⟩
