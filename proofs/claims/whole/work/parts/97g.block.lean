/-! deeds one behind the other, at every depth -/
theorem km_st : ∀ r, r < 35 → ((¬ km r < 5 ∧ ¬ 8 < km r) ↔ (r = 22 ∨ r = 23 ∨ r = 24 ∨ r = 25)) ∧ (km r = 9 ↔ r = 26) ∧ (km r = 11 ↔ r = 28) ∧ (km r = 13 ↔ r = 30) := by decide
theorem starts_ok (r : Nat) (hr : rOK r) (u : q_W) : (isD r → fX5_startsDeed (km r) u = some (1, u)) ∧ (¬ isD r → fX5_startsDeed (km r) u = some (0, u)) := by
  obtain ⟨k1, k2, k3, k4⟩ := km_st r (rOK_35 hr)
  have n16 : fX5_startsDeed_n16 (km r) 0 u = if r = 26 then some (1, u) else if r = 28 then some (1, u) else if r = 30 then some (1, u) else some (0, u) := by
    unfold fX5_startsDeed_n16
    rw [if_pos rfl]
    by_cases c26 : r = 26
    · rw [if_pos (k2.mpr c26), if_pos c26]
    · rw [if_neg (fun x => c26 (k2.mp x)), if_neg c26]
      by_cases c28 : r = 28
      · rw [if_pos (k3.mpr c28), if_pos c28]
      · rw [if_neg (fun x => c28 (k3.mp x)), if_neg c28]
        by_cases c30 : r = 30
        · rw [if_pos (k4.mpr c30), if_pos c30]
        · rw [if_neg (fun x => c30 (k4.mp x)), if_neg c30]
  have main : fX5_startsDeed (km r) u = if (r = 22 ∨ r = 23 ∨ r = 24 ∨ r = 25) then some (1, u) else (if r = 26 then some (1, u) else if r = 28 then some (1, u) else if r = 30 then some (1, u) else some (0, u)) := by
    unfold fX5_startsDeed fX5_startsDeed_n15
    rw [n16]
    by_cases c1 : km r < 5
    · rw [if_pos c1, if_neg (fun x => (k1.mpr x).1 c1)]
    · rw [if_neg c1]
      by_cases c2 : 8 < km r
      · rw [if_pos c2, if_neg (fun x => (k1.mpr x).2 c2)]
      · rw [if_neg c2, if_pos (k1.mp ⟨c1, c2⟩)]
        unfold fX5_startsDeed_n16
        rw [if_neg i_10]
  unfold isD
  rw [main]
  constructor
  · intro h
    by_cases c : r = 22 ∨ r = 23 ∨ r = 24 ∨ r = 25
    · rw [if_pos c]
    · rw [if_neg c]
      by_cases c26 : r = 26
      · rw [if_pos c26]
      · rw [if_neg c26]
        by_cases c28 : r = 28
        · rw [if_pos c28]
        · rw [if_neg c28, if_pos (by omega)]
  · intro h
    rw [if_neg (by omega), if_neg (by omega), if_neg (by omega), if_neg (by omega)]
def DDD (P T s d mm : Nat) (pl : List (List Nat)) (pm : Nat → Nat) (rD : Int32 → q_W → Option (Unit × q_W)) : Prop := ∀ (N t : Nat) (L1 L2 : Nat × Int32) (ws : List Int32) (cs : List Tr) (nl : List (List Nat)) (sl : Nat → Nat) (u v : q_W) (r : Nat), CX P T s t d mm L1 L2 ws cs nl sl pl pm u v → 510 < N + 1 + t → v.1 3 t = nI r → isD r → DR P T s t d mm L1 L2 ws cs nl sl pl pm u v (N + 1) (fun t' => t < t') (rD (nI d) u) (q_b (fX11_tellDeed v) fun _ w => LQ N w) ∨ XB P s u v (rD (nI d) u) (q_b (fX11_tellDeed v) fun _ w => LQ N w)
theorem deeds_lok {P T s d mm : Nat} {pl : List (List Nat)} {pm : Nat → Nat} {rD : Int32 → q_W → Option (Unit × q_W)} (hd : d ≤ 6) (hD : DDD P T s d mm pl pm rD) : ∀ (K c M N t : Nat) (L1 L2 : Nat × Int32) (ws : List Int32) (cs : List Tr) (nl : List (List Nat)) (sl : Nat → Nat) (u v : q_W), T < t + K → CX P T s t d mm L1 L2 ws cs nl sl pl pm u v → c ≤ t → 502 < M + c → 510 < N + t → DR P T s t d mm L1 L2 ws cs nl sl pl pm u v N (fun t' => ∀ r, rOK r → v.1 3 t' = nI r → ¬ isD r) (q_it M (fX5_readDeeds_h2 rD) (fun _ _ _ => none) (nI d) (nI c) u) (LQ N v) ∨ XB P s u v (q_it M (fX5_readDeeds_h2 rD) (fun _ _ _ => none) (nI d) (nI c) u) (LQ N v) := by
  intro K
  induction K with
  | zero =>
    intro c M N t L1 L2 ws cs nl sl u v h1 hX
    have := hX.2.2.2.2.2.2.1
    omega
  | succ K ih =>
    intro c M N t L1 L2 ws cs nl sl u v h1 hX hc hM hN
    have hX0 := hX
    obtain ⟨x1, x2, x3, x4, x5, x6, x7, x8, x9, x10, x11, x12, x13, x14, x15⟩ := hX
    have hT := x1.1.1
    obtain ⟨M, rfl⟩ : ∃ X, M = X + 1 := ⟨M - 1, by omega⟩
    obtain ⟨r, q1, q2, q3, q4, q5, q6, q7⟩ := tkn x1 x7
    clear q5 q6
    obtain ⟨s1, s2⟩ := starts_ok r q1 u
    rw [q_itS, fX5_readDeeds_h2, if_neg (by rw [show (501 : Int32) = nI 501 from rfl, nI_leI (by omega) (by omega)]; omega), x3.2.2.2.1, q3]
    by_cases hi : isD r
    · obtain ⟨N, rfl⟩ : ∃ X, N = X + 1 := ⟨N - 1, by omega⟩
      rw [s1 hi, q_b_some, if_neg i_10, LQ_S x4 x5 hd]
      rcases hD N t L1 L2 ws cs nl sl u v r hX0 hN q2 hi with ⟨u1, v1, t1, A1, ns1, N1, k1, k2, k3, k4, k5, k6, k7, k8, k9, k10, k11, k12, k13⟩ | ⟨f, p, u1, v1, m, k1, k2, k3, k4, k5, k6⟩
      · have k13 : t < t1 := k13
        rw [k1, q_b_some, q_lt_eq, nI_1, k2]
        rcases ih (c + 1) M N1 t1 _ _ _ _ nl sl u1 v1 (by omega) k4 (by omega) (by omega) (by omega) with ⟨u2, v2, t2, A2, ns2, N2, j1, j2, j3, j4, j5, j6, j7, j8, j9, j10, j11, j12, j13⟩ | bad
        · refine Or.inl ⟨u2, v2, t2, A1 ++ A2, ns1 ++ ns2, N2, j1, j2, by omega, ?_, frE_t k5 j5, frH_t k6 j6, fun i hi => ?_, by omega, okNs_app k9 j9, ?_, ?_, fun cn nd => ?_, fun r' h1' h2' => ?_⟩
          · rw [adN_app, adN_app, List.map_append, wds_app, trs_app, ← List.append_assoc, ← List.append_assoc]
            exact j4
          · obtain ⟨a1, a2, a3⟩ := k7 i hi
            obtain ⟨b1, b2, b3⟩ := j7 i hi
            rw [b1, b2, b3, a1, a2, a3]
            exact ⟨rfl, rfl, rfl⟩
          · rw [List.map_append, wds_app, List.length_append]; omega
          · rw [List.length_append]; omega
          · obtain ⟨c1, c2⟩ := List.append_eq_nil_iff.mp cn
            obtain ⟨d1, d2⟩ := k12 c1 nd
            obtain ⟨e1, e2⟩ := j12 c2 nd
            refine ⟨GD_app (by rw [e2]; exact d1) (by
              rw [List.length_append, List.length_append, trs_len, List.length_map] at e1
              exact e1), ?_⟩
            rw [ssA_L (Nat.zero_le _), e2, d2]
          · exact j13 r' h1' (by rw [k6.1 3 (by decide) (by decide) (by decide) (by decide) (by decide) (by decide) (by decide) (by decide) (by decide)]; exact h2')
        · exact Or.inr (XB_t k5 k6 bad)
      · obtain ⟨M, rfl⟩ : ∃ X, M = X + 1 := ⟨M - 1, by omega⟩
        have hl : q_it (M + 1) (fX5_readDeeds_h2 rD) (fun _ _ _ => none) (nI d) (nI c + 1) u1 = some ((), u1) := by
          rw [q_itS, fX5_readDeeds_h2, k2.2.2.2.2.2.2, starts_F, q_b_some, if_pos rfl]
          by_cases c5 : 501 ≤ nI c + 1
          · rw [if_pos c5]
          · rw [if_neg c5]
        rw [k1, q_b_some, q_lt_eq, hl, k4]
        exact Or.inr ⟨f, p, u1, v1, m, rfl, k2, k3, rfl, k5, k6⟩
    · rw [s2 hi, q_b_some, if_pos rfl]
      refine Or.inl ⟨u, v, t, [], [], N, rfl, rfl, by omega, ?_, frE_r P u, frH_r s v, fun _ _ => ⟨rfl, rfl, rfl⟩, Nat.le_refl _, okNs_nil, Nat.zero_le _, Nat.zero_le _, fun _ _ => ⟨GD_nil, rfl⟩, fun r' h1' h2' => ?_⟩
      · have e1 : ws ++ wds (([] : List AI).map Prod.fst) = ws := List.append_nil ws
        have e2 : cs ++ trs (([] : List AI).map Prod.fst) = cs := List.append_nil cs
        rw [e1, e2]
        exact hX0
      · rw [q2] at h2'
        have := rOK_35 q1
        have := rOK_35 h1'
        rw [← (nI_eq (by omega) (by omega)).mp h2']
        exact hi
theorem deed_any {P T s d mm m : Nat} {pl : List (List Nat)} {pm : Nat → Nat} (hd : d ≤ 6) (hB : d ≤ 5 → BLK P T s (m + 1) (d + 1) mm pl pm) : DDD P T s d mm pl pm (fX5_readDeed (fX5_readFor (q_deeds (m + 1))) (fX5_readIf (q_deeds (m + 1)))) := by
  intro N t L1 L2 ws cs nl sl u v r hX hN h3 hi
  by_cases h7 : (r = 26 ∨ r = 28) ∧ d = 6
  · -- too deep
    obtain ⟨x1, x2, x3, x4, x5, x6, x7, x8, x9, x10, x11, x12, x13, x14, x15⟩ := hX
    have hT := x1.1.1
    obtain ⟨r', q1, q2, q3, q4, q5, q6, q7⟩ := tkn x1 x7
    clear q5 q6
    have e : r' = r := by
      by_cases e : r' = r
      · exact e
      · rw [h3] at q2
        have := rOK_35 q1
        unfold isD at hi
        exact absurd q2 (nI_ne (by omega) (by omega) (fun c => e c.symm))
    subst e
    obtain ⟨N, rfl⟩ : ∃ X, N = X + 1 := ⟨N - 1, by omega⟩
    obtain ⟨u1, e1, a1, b1⟩ := fail_st x3 2 (by omega)
    obtain ⟨v1, e2, a2, b2⟩ := failR_st x4 (by omega) 2 (by omega) 40 (by show 0 ≤ 40; omega) (by omega) (by omega)
    have e1 : fX5_fail 2 u = some ((), u1) := e1
    have e2 : fX11_fail 2 v = some ((), v1) := e2
    rw [rd_enter x3 q3 hi hd, if_pos h7, td_deed x4 (by omega) h3 q1 hi x5 hd, if_pos h7, e2, q_b_some, n177_F a2, q_b_some, LQ_F a2]
    unfold fX5_readDeed_n28
    rw [e1, q_b_some]
    exact Or.inr (XB_F ⟨2, _, u1, v1, 40, rfl, a1, b1, rfl, by rw [← q4]; exact a2, b2⟩)
  · by_cases c26 : r = 26
    · subst c26
      exact deed_for (hB (by omega)) hX (by omega) h3 _ N hN
    · by_cases c28 : r = 28
      · subst c28
        exact deed_if (hB (by omega)) hX (by omega) h3 _ N hN
      · have hT := hX.1.1.1
        have ht := hX.2.2.2.2.2.2.1
        by_cases c30 : r = 30
        · subst c30
          exact deed_do hX hd h3 _ _ N (by omega)
        · unfold isD at hi
          obtain ⟨k, hk, rfl⟩ : ∃ k, k ≤ 3 ∧ r = 22 + k := ⟨r - 22, by omega, by omega⟩
          exact deed_stroke hX hd hk h3 _ _ N (by omega)
theorem BLK_of {P T s d mm m : Nat} {pl : List (List Nat)} {pm : Nat → Nat} (hd : d ≤ 6) (hB : d ≤ 5 → BLK P T s (m + 1) (d + 1) mm pl pm) : BLK P T s (m + 1 + 1) d mm pl pm := by
  intro N t L1 L2 ws cs nl sl u v hX hN
  show _ ∨ XB P s u v (fX5_readDeeds (fX5_readDeed (fX5_readFor (q_deeds (m + 1))) (fX5_readIf (q_deeds (m + 1)))) (nI d) u) _
  show DR P T s t d mm L1 L2 ws cs nl sl pl pm u v N _ (fX5_readDeeds (fX5_readDeed (fX5_readFor (q_deeds (m + 1))) (fX5_readIf (q_deeds (m + 1)))) (nI d) u) _ ∨ _
  unfold fX5_readDeeds fX5_readDeeds_l2
  exact deeds_lok hd (deed_any hd hB) (T + 1) 0 q_N N t L1 L2 ws cs nl sl u v (by omega) hX (Nat.zero_le _) (Nat.le_of_ble_eq_true rfl) hN
theorem BLK_all {P T s mm : Nat} {pl : List (List Nat)} {pm : Nat → Nat} : ∀ k d, d + k = 6 → BLK P T s (k + 1 + 1) d mm pl pm := by
  intro k
  induction k with
  | zero => intro d h; exact BLK_of (by omega) (fun h5 => by omega)
  | succ k ih => intro d h; exact BLK_of (by omega) (fun _ => ih (d + 1) (by omega))
theorem deeds_ok {P T s t mm N : Nat} {L1 L2 : Nat × Int32} {ws : List Int32} {cs : List Tr} {nl : List (List Nat)} {sl : Nat → Nat} {pl : List (List Nat)} {pm : Nat → Nat} {u v : q_W} (hX : CX P T s t 0 mm L1 L2 ws cs nl sl pl pm u v) (hN : 510 < N + t) : DR P T s t 0 mm L1 L2 ws cs nl sl pl pm u v N (fun t' => ∀ r, rOK r → v.1 3 t' = nI r → ¬ isD r) (q_deedsT 0 u) (LQ N v) ∨ XB P s u v (q_deedsT 0 u) (LQ N v) :=
  BLK_all 6 0 rfl N t L1 L2 ws cs nl sl u v hX hN
