/-! a pile told: both logs -/
theorem kind9 {K j : Nat} {w : q_W} (hK : K ≤ 120) (h : w.1 9 2 = nI K) (hj : j < K) : fX6_kindOf 9 (nI j) w = some (w.1 10 j, w) := by
  have e : fC 9 0 = 10 := rfl
  unfold fX6_kindOf
  rw [if_pos (by decide), if_neg (nI_pos (by omega)), h, if_neg (by rw [nI_leI (by omega) (by omega)]; omega), if_neg (by rw [show (480 : Int32) = nI 480 from rfl, nI_leI (by omega) (by omega)]; omega), if_pos (q_inb_nI (by omega) (by omega)), e, q_ix_nI (by omega)]
theorem number9 {K j t : Nat} {w : q_W} (hK : K ≤ 120) (h : w.1 9 2 = nI K) (hj : j < K) (ht : t < 6) : fX6_numberOf 9 (nI j) (nI t) w = some (w.1 11 (6 * j + t), w) := by
  have e : fC 9 1 = 11 := rfl
  have e2 : nI j * 6 + nI t = nI (6 * j + t) := by
    rw [show (6 : Int32) = nI 6 from rfl, pk_mul, nI_add, Nat.mul_comm]
  unfold fX6_numberOf fX6_numberOf_n34
  rw [if_pos (by decide), if_neg (nI_pos (by omega)), h, if_neg (by rw [nI_leI (by omega) (by omega)]; omega), if_neg (by rw [show (480 : Int32) = nI 480 from rfl, nI_leI (by omega) (by omega)]; omega), if_neg (nI_pos (by omega)), if_neg (by rw [show (6 : Int32) = nI 6 from rfl, nI_leI (by omega) (by omega)]; omega), if_neg i_10, e2, q_lt_eq, if_pos (q_inb_nI (by omega) (by omega)), e, q_ix_nI (by omega)]
/-- the class: six numbers of a row lie ready -/
theorem ta20 {K j : Nat} (hK : K ≤ 120) (hj : j < K) (rec2 : Int32 → q_W → Option (Unit × q_W)) : ∀ d N t (w : q_W), t + d = 6 → d < N → w.1 9 2 = nI K → ∃ w', q_it N (fX6_addAll_h20 4 9 8 rec2) (fun _ _ _ => none) (nI j) (nI t) w = fX6_addAll_n51 4 9 8 rec2 (nI j) w' ∧ (∀ q, q ≠ 8 → w'.1 q = w.1 q) ∧ w'.2 = w.2 ∧ ∀ i, w'.1 8 i = if t ≤ i ∧ i < 6 then w.1 11 (6 * j + i) else w.1 8 i := by
  intro d
  induction d with
  | zero =>
    intro N t w ht hN h9
    obtain ⟨N, rfl⟩ : ∃ a, N = a + 1 := ⟨N - 1, by omega⟩
    refine ⟨w, ?_, fun _ _ => rfl, rfl, fun i => by rw [if_neg (by omega)]⟩
    rw [q_itS, fX6_addAll_h20, if_pos (by rw [show (6 : Int32) = nI 6 from rfl, nI_leI (by omega) (by omega)]; omega)]
  | succ d ih =>
    intro N t w ht hN h9
    obtain ⟨N, rfl⟩ : ∃ a, N = a + 1 := ⟨N - 1, by omega⟩
    have h6 : ¬ (6 : Int32) ≤ nI t := by rw [show (6 : Int32) = nI 6 from rfl, nI_leI (by omega) (by omega)]; omega
    have hl : lC 8 = 6 := by decide
    obtain ⟨w', e1, e2, e3, e4⟩ := ih N (t + 1) (q_sI w 8 t (w.1 11 (6 * j + t))) (by omega) (by omega) (by rw [sI_cell _ _ _ _ 9 (by decide)]; exact h9)
    refine ⟨w', ?_, fun q hq => by rw [e2 q hq, sI_cell _ _ _ _ _ hq], e3, fun i => ?_⟩
    · rw [q_itS, fX6_addAll_h20, if_neg h6, if_neg (show ¬ (Int32.ofNat (lC 8)) ≤ nI t by rw [hl]; exact h6), number9 hK h9 hj (by omega), q_b_some, if_pos (by rw [hl]; exact q_inb_nI (by omega) (by omega)), q_lt_eq, q_ix_nI (by omega), q_lt_eq, nI_1, e1]
    · rw [e4, sI_if, sI_cell _ _ _ _ 11 (by decide)]
      by_cases c1 : t + 1 ≤ i ∧ i < 6
      · rw [if_pos c1, if_pos (by omega)]
      · rw [if_neg c1]
        by_cases c2 : i = t
        · rw [if_pos c2, if_pos (by omega), c2]
        · rw [if_neg c2, if_neg (by omega)]
/-- the reference: six numbers of a row lie ready -/
theorem ta67 {K j : Nat} (hK : K ≤ 120) (hj : j < K) (rec : Int32 → q_W → Option (Int32 × q_W)) : ∀ d N t (w : q_W), t + d = 6 → d < N → ∃ w', q_it N (fX11_run_h67 rec) (fun _ _ _ => none) (nI j) (nI t) w = (q_b (fX11_logs (w'.1 21 j) w') fun r1 w2 => if 0 ≤ r1 then rec (nI (j + 1)) w2 else some ((-1), w2)) ∧ (∀ q, q ≠ 26 → w'.1 q = w.1 q) ∧ w'.2 = w.2 ∧ ∀ i, w'.1 26 i = if t ≤ i ∧ i < 6 then w.1 22 (6 * j + i) else w.1 26 i := by
  intro d
  induction d with
  | zero =>
    intro N t w ht hN
    obtain ⟨N, rfl⟩ : ∃ a, N = a + 1 := ⟨N - 1, by omega⟩
    refine ⟨w, ?_, fun _ _ => rfl, rfl, fun i => by rw [if_neg (by omega)]⟩
    rw [q_itS, fX11_run_h67, if_pos (by rw [show (6 : Int32) = nI 6 from rfl, nI_leI (by omega) (by omega)]; omega), if_pos (q_inb_nI (by omega) (by omega)), q_ix_nI (by omega)]
    simp only [q_lt_eq, nI_1]
  | succ d ih =>
    intro N t w ht hN
    obtain ⟨N, rfl⟩ : ∃ a, N = a + 1 := ⟨N - 1, by omega⟩
    have h6 : ¬ (6 : Int32) ≤ nI t := by rw [show (6 : Int32) = nI 6 from rfl, nI_leI (by omega) (by omega)]; omega
    have e : 6 * nI j + nI t = nI (6 * j + t) := by
      rw [show (6 : Int32) = nI 6 from rfl, pk_mul, nI_add]
    obtain ⟨w', e1, e2, e3, e4⟩ := ih N (t + 1) (q_sI w 26 t (w.1 22 (6 * j + t))) (by omega) (by omega)
    refine ⟨w', ?_, fun q hq => by rw [e2 q hq, sI_cell _ _ _ _ _ hq], e3, fun i => ?_⟩
    · rw [q_itS, fX11_run_h67, if_neg h6, e, q_lt_eq, if_pos (q_inb_nI (by omega) (by omega)), if_pos (q_inb_nI (by omega) (by omega)), q_ix_nI (by omega), q_ix_nI (by omega), q_lt_eq, q_lt_eq, nI_1, e1]
    · rw [e4, sI_if, sI_cell _ _ _ _ 22 (by decide)]
      by_cases c1 : t + 1 ≤ i ∧ i < 6
      · rw [if_pos c1, if_pos (by omega)]
      · rw [if_neg c1]
        by_cases c2 : i = t
        · rw [if_pos c2, if_pos (by omega), c2]
        · rw [if_neg c2, if_neg (by omega)]
/-- the same rows lie in both piles -/
def RWE (K : Nat) (u v : q_W) : Prop := u.1 9 2 = nI K ∧ v.1 0 40 = nI K ∧ ∀ j, j < K → ∃ c, c ≤ 3 ∧ u.1 10 j = nI c ∧ v.1 21 j = nI c ∧ (∀ i, i < nums c → u.1 11 (6 * j + i) = v.1 22 (6 * j + i)) ∧ fitsB (fun i => u.1 11 (6 * j + i)) c 0 = true
theorem RWE_keep {K : Nat} {u v u' v' : q_W} (h : RWE K u v) (a : ∀ q, q = 9 ∨ q = 10 ∨ q = 11 → u'.1 q = u.1 q) (b : v'.1 0 40 = v.1 0 40) (c : ∀ q, q = 21 ∨ q = 22 → v'.1 q = v.1 q) : RWE K u' v' := by
  unfold RWE at *
  rw [a 9 (by decide), a 10 (by decide), a 11 (by decide), b, c 21 (by decide), c 22 (by decide)]
  exact h
theorem nums6 {c : Nat} (hc : c ≤ 3) : nums c ≤ 6 := by
  have : c = 0 ∨ c = 1 ∨ c = 2 ∨ c = 3 := by omega
  rcases this with rfl | rfl | rfl | rfl <;> decide
theorem bnd_add {k c q2 : Nat} {u u' : q_W} (hk : k < 120) (hc : c ≤ 3) (hl : ∀ i, i < k → ∃ c, c ≤ 5 ∧ u.1 5 i = nI c) (hb : I_bnd k u) (a : addedC q2 k (nI c) u u') (hf : fitsB (fun i => u.1 q2 i) c 0 = true) : I_bnd (k + 1) u' := by
  obtain ⟨a1, a2, a3, a4, a5, a6, a7, a8⟩ := a
  intro i hi h4
  by_cases e : i = k
  · subst e
    have ek : kd u' i = c := by
      unfold kd
      rw [a5, q_ix_nI (by omega)]
    rw [ek]
    rw [← hf]
    have := nums6 hc
    exact fitsB_congr fun j hj => a7 j (by omega)
  · have ek : kd u' i = kd u i := by
      unfold kd
      rw [a6 i e]
    rw [ek] at h4 ⊢
    rw [← hb i (by omega) h4]
    have n6 : nums (kd u i) ≤ 6 := by
      have : kd u i = 0 ∨ kd u i = 1 ∨ kd u i = 2 ∨ kd u i = 3 ∨ kd u i = 4 := by omega
      rcases this with e | e | e | e | e <;> (rw [e]; decide)
    exact fitsB_congr fun j hj => a8 _ (by omega)
/-- what telling leaves as it was -/
def taC (k : Nat) (u u' : q_W) : Prop := (∀ q, q ≠ 4 → q ≠ 5 → q ≠ 6 → q ≠ 8 → u'.1 q = u.1 q) ∧ u'.2 = u.2 ∧ (∀ i, i < k → u'.1 5 i = u.1 5 i) ∧ ∀ i, i < 6 * k → u'.1 6 i = u.1 6 i
def taR (v v' : q_W) : Prop := (∀ q, q ≠ 0 → q ≠ 26 → q ≠ 27 → q ≠ 28 → v'.1 q = v.1 q) ∧ (∀ i, i ≠ 50 → v'.1 0 i = v.1 0 i) ∧ v'.2 = v.2
theorem ta_both {K : Nat} (hK : K ≤ 120) : ∀ d N N' j k (u v : q_W), j + d = K → d < N → d < N' → k + d ≤ 120 → RWE K u v → I_log k u v → I_val k u → I_bnd k u → ∃ u' v', q_it N (fX6_addAll_h2 4 9 8) (fun _ _ => none) (nI j) u = some ((), u') ∧ q_it N' fX11_run_h55 (fun _ _ => none) (nI j) v = some (nI K, v') ∧ I_log (k + d) u' v' ∧ I_val (k + d) u' ∧ I_bnd (k + d) u' ∧ taC k u u' ∧ taR v v' := by
  have hqN : 6 < q_N := Nat.le_of_ble_eq_true rfl
  intro d
  induction d with
  | zero =>
    intro N N' j k u v hj hN hN' hk hR hl hv hb
    obtain ⟨N, rfl⟩ : ∃ a, N = a + 1 := ⟨N - 1, by omega⟩
    obtain ⟨N', rfl⟩ : ∃ a, N' = a + 1 := ⟨N' - 1, by omega⟩
    refine ⟨u, v, ?_, ?_, hl, hv, hb, ⟨fun _ _ _ _ _ => rfl, rfl, fun _ _ => rfl, fun _ _ => rfl⟩, ⟨fun _ _ _ _ _ => rfl, fun _ _ => rfl, rfl⟩⟩
    · rw [q_itS, fX6_addAll_h2, hR.1, if_pos (by rw [nI_leI (by omega) (by omega)]; omega)]
    · rw [q_itS, fX11_run_h55, hR.2.1, if_pos (by rw [nI_leI (by omega) (by omega)]; omega)]
  | succ d ih =>
    intro N N' j k u v hj hN hN' hk hR hl hv hb
    obtain ⟨N, rfl⟩ : ∃ a, N = a + 1 := ⟨N - 1, by omega⟩
    obtain ⟨N', rfl⟩ : ∃ a, N' = a + 1 := ⟨N' - 1, by omega⟩
    have hjK : j < K := by omega
    obtain ⟨c, hc, d1, d2, d3, d4⟩ := hR.2.2 j hjK
    have n6 := nums6 hc
    obtain ⟨u1, p1, p2, p3, p4⟩ := ta20 hK hjK (q_it N (fX6_addAll_h2 4 9 8) (fun _ _ => none)) 6 q_N 0 u (by omega) hqN hR.1
    obtain ⟨v1, r1, r2, r3, r4⟩ := ta67 hK hjK (q_it N' fX11_run_h55 (fun _ _ => none)) 6 q_N 0 v (by omega) hqN
    -- the logs
    have hl1 : I_log k u1 v1 := by
      obtain ⟨x1, x2, x3, x4, x5⟩ := hl
      refine ⟨x1, by rw [p2 4 (by decide), x2], by rw [p2 4 (by decide), x3], by rw [r2 0 (by decide), x4], fun i hi => ?_⟩
      rw [p2 5 (by decide), p2 6 (by decide), r2 27 (by decide), r2 28 (by decide)]
      exact x5 i hi
    have hv1 : I_val k u1 := by
      unfold I_val at *
      rw [p2 5 (by decide), p2 6 (by decide)]
      exact hv
    have hb1 : I_bnd k u1 := by
      unfold I_bnd kd nm at *
      rw [p2 5 (by decide), p2 6 (by decide)]
      exact hb
    have w0 : ∃ u2, fX6_add 4 (nI c) 8 u1 = some (nI k, u2) ∧ addedC 8 k (nI c) u1 u2 := by
      rcases add_ok 8 (by decide) (by decide) (by decide) (by decide) k (nI c) u1 (by omega) hl1.2.1 hl1.2.2.1 with ⟨e, _⟩ | ⟨_, x⟩
      · omega
      · exact x
    obtain ⟨u2, a1, aC⟩ := w0
    obtain ⟨v2, b1, aR⟩ := logs_ok k (nI c) v1 (by omega) hl1.2.2.2.1
    have e826 : ∀ t, t < nums c → u1.1 8 t = v1.1 26 t := fun t ht => by
      rw [p4, r4, if_pos (by omega), if_pos (by omega), d3 t ht]
    have hf : fitsB (fun i => u1.1 8 i) c 0 = true := by
      rw [← d4]
      exact fitsB_congr fun t ht => by rw [p4, if_pos (by omega)]
    have hl2 := log_add hl1 (by omega) c (by omega) aC aR e826
    have hv2 := val_add (by omega) (by omega) hv1 aC (fun e => by omega)
    have hb2 := bnd_add (by omega) hc (fun i hi => by
      obtain ⟨c', x1, x2, _⟩ := hl1.2.2.2.2 i hi
      exact ⟨c', x1, x2⟩) hb1 aC hf
    obtain ⟨C1, C2, C3, C4, C5, C6, C7, C8⟩ := aC
    obtain ⟨R1, R2, R3, R4, R5, R6, R7, R8⟩ := aR
    have hR2 : RWE K u2 v2 := RWE_keep hR (fun q hq => by rw [C2 q (by omega) (by omega) (by omega), p2 q (by omega)]) (by rw [R4 40 (by decide), r2 0 (by decide)]) (fun q hq => by rw [R2 q (by omega) (by omega) (by omega), r2 q (by omega)])
    obtain ⟨u', v', s1, s2, s3, s4, s5, s6, s7⟩ := ih N N' (j + 1) (k + 1) u2 v2 (by omega) (by omega) (by omega) (by omega) hR2 hl2 hv2 hb2
    refine ⟨u', v', ?_, ?_, by rw [show k + (d + 1) = k + 1 + d by omega]; exact s3, by rw [show k + (d + 1) = k + 1 + d by omega]; exact s4, by rw [show k + (d + 1) = k + 1 + d by omega]; exact s5, ⟨fun q x y z t => ?_, ?_, fun i hi => ?_, fun i hi => ?_⟩, ⟨fun q x y z t => ?_, fun i hi => ?_, ?_⟩⟩
    · have k9 := kind9 (w := u1) hK (by rw [p2 9 (by decide)]; exact hR.1) hjK
      rw [q_itS, fX6_addAll_h2, hR.1, if_neg (by rw [nI_leI (by omega) (by omega)]; omega), if_neg (by rw [show (480 : Int32) = nI 480 from rfl, nI_leI (by omega) (by omega)]; omega)]
      unfold fX6_addAll_l20
      rw [show (0 : Int32) = nI 0 from rfl, p1]
      unfold fX6_addAll_n51
      rw [k9, q_b_some, p2 10 (by decide), d1, a1, q_b_some, q_lt_eq, nI_1, s1]
    · rw [q_itS, fX11_run_h55, hR.2.1, if_neg (by rw [nI_leI (by omega) (by omega)]; omega)]
      unfold fX11_run_l67
      rw [show (0 : Int32) = nI 0 from rfl, r1, r2 21 (by decide), d2, b1, q_b_some, if_pos (by rw [← nI_0, nI_leI (by omega) (by omega)]; omega), s2]
    · rw [s6.1 q x y z t, C2 q x y z, p2 q t]
    · rw [s6.2.1, C1, p3]
    · rw [s6.2.2.1 i (by omega), C6 i (by omega), p2 5 (by decide)]
    · rw [s6.2.2.2 i (by omega), C8 i hi, p2 6 (by decide)]
    · rw [s7.1 q x y z t, R2 q x z t, r2 q y]
    · rw [s7.2.1 i hi, R4 i hi, r2 0 (by decide)]
    · rw [s7.2.2, R1, r3]
