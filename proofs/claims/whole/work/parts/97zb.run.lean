/-! the run of a pattern -/
theorem nI_subI {a b : Nat} (h : b ≤ a) : nI a - nI b = nI (a - b) := by
  obtain ⟨c, rfl⟩ : ∃ c, a = c + b := ⟨a - b, by omega⟩
  rw [← nI_add, show c + b - b = c by omega]
  grind
theorem page_any {n : Nat} (hn : n ≤ 8) (a : Int32) : (∃ q, q < n ∧ a = nI q) ∨ (a < 0 ∨ nI n ≤ a) := by
  by_cases h0 : a < 0
  · exact Or.inr (Or.inl h0)
  · by_cases h1 : nI n ≤ a
    · exact Or.inr (Or.inr h1)
    · left
      have hb : q_inb a n := by
        rw [i_lt] at h0
        rw [i_le] at h1
        have e0 : (0 : Int32).toInt = 0 := by decide
        have e1 : (nI n).toInt = (n : Int) := nI_toInt (by omega)
        rw [e1] at h1
        have e2 : a.toNatClampNeg = a.toInt.toNat := rfl
        refine ⟨by rw [i_le]; omega, ?_⟩
        omega
      exact (q_inb_iff (by omega)).mp hb
theorem max0 {x : Nat} (hx : x < 2 ^ 31) : q_imax (nI x) 0 = nI x := by
  unfold q_imax
  rw [if_neg (nI_pos hx)]
/-- what a run leaves as it was -/
def rnC (k : Nat) (u u' : q_W) : Prop := (∀ q, q ≠ 0 → q ≠ 4 → q ≠ 5 → q ≠ 6 → q ≠ 8 → q ≠ 9 → q ≠ 10 → q ≠ 11 → ¬ (31 ≤ q ∧ q ≤ 36) → u'.1 q = u.1 q) ∧ (∀ i, i ≠ 13 → i ≠ 14 → u'.1 0 i = u.1 0 i) ∧ (∀ q i, q ≠ 31 → u'.2.1 q i = u.2.1 q i) ∧ u'.2.2 = u.2.2 ∧ (∀ i, i < k → u'.1 5 i = u.1 5 i) ∧ ∀ i, i < 6 * k → u'.1 6 i = u.1 6 i
def rnR (v v' : q_W) : Prop := (∀ q, q ≠ 0 → ¬ (21 ≤ q ∧ q ≤ 28) → v'.1 q = v.1 q) ∧ (∀ i, i ≠ 39 → i ≠ 40 → i ≠ 41 → i ≠ 44 → i ≠ 48 → i ≠ 50 → i ≠ 53 → i ≠ 54 → v'.1 0 i = v.1 0 i) ∧ v'.2 = v.2
theorem sim_run {k : Nat} {u v : q_W} (hl : I_log k u v) (hv : I_val k u) (hb : I_bnd k u) (hp : I_prog u v) (hm : u.1 0 13 = v.1 0 53 ∧ u.1 0 14 = v.1 0 54) (a1 a2 a3 : Int32) : ∃ r u' v' k', fX10_run a1 a2 a3 u = some (r, u') ∧ fX11_run a1 a2 a3 v = some (r, v') ∧ I_log k' u' v' ∧ I_val k' u' ∧ I_bnd k' u' ∧ k ≤ k' ∧ (u'.1 0 13 = v'.1 0 53 ∧ u'.1 0 14 = v'.1 0 54) ∧ rnC k u u' ∧ rnR v v' := by
  obtain ⟨s, hs, p7, p8, p18, pw⟩ := hp
  generalize hP : 43 + 4 * s = P at *
  have iP : isP P := by unfold isP; omega
  have hPn : 43 ≤ P ∧ P ≤ 47 := by omega
  obtain ⟨n, pm, fo, fr, pg, ws, cs, n8, hG, q4, v8, q3, wl, wa, cl, ca, pa⟩ := pw
  have hNb : q_N = 4000000000 := rfl
  have hk := hl.1
  rcases page_any n8 a1 with ⟨q, hq, rfl⟩ | ha
  · have hhas : fX4_has P (nI q) u = some (1, u) := by
      unfold fX4_has
      rw [if_pos (isP_c iP), if_neg (nI_pos (by omega)), q4, if_neg (by rw [nI_leI (by omega) (by omega)]; omega), if_neg (by rw [show (8 : Int32) = nI 8 from rfl, nI_leI (by omega) (by omega)]; omega)]
    have hpat : fX11_isPattern (nI q) v = some (1, v) := by
      unfold fX11_isPattern
      rw [if_neg (nI_pos (by omega)), p18, q_lt_eq, if_pos (q_inb_nI (by omega) (by omega)), q_ix_nI (by omega), v8, if_neg (by rw [nI_leI (by omega) (by omega)]; omega)]
    -- about to perform
    have e120 : (120 : Int32) - nI k = nI (120 - k) := nI_subI (a := 120) hk
    have hroom : fX2_roomLeft u = some (nI (120 - k), u) := by
      unfold fX2_roomLeft fX6_roomLeft
      rw [if_pos (by decide), hl.2.1, hl.2.2.1, nI_subI hk, q_b_some]
    have hclear : fX6_clear 9 (nI (120 - k)) u = some ((), q_sI (q_sI u 9 2 0) 9 3 (nI (120 - k))) := by
      unfold fX6_clear fX6_allow
      rw [if_pos (by decide), q_lt_eq, sI_same, max0 (by omega), show (0 : Int32) + nI (120 - k) = nI (120 - k) by grind, show (480 : Int32) = nI 480 from rfl, qmin_ok (by omega) (by omega), if_pos (by decide), q_lt_eq, q_b_some]
    have hbeg : fX11_begins (120 - v.1 0 50) v = some ((), q_sI (q_sI (q_sI v 0 39 0) 0 40 0) 0 41 (nI (120 - k))) := by
      unfold fX11_begins
      rw [hl.2.2.2.1, e120, q_lt_eq, q_lt_eq, q_lt_eq]
    have u2c : ∀ c, c ≠ 9 → (q_sI (q_sI u 9 2 0) 9 3 (nI (120 - k))).1 c = u.1 c := fun c hc => by rw [sI_cell _ _ _ _ _ hc, sI_cell _ _ _ _ _ hc]
    have u22 : (q_sI (q_sI u 9 2 0) 9 3 (nI (120 - k))).2 = u.2 := rfl
    have u92 : (q_sI (q_sI u 9 2 0) 9 3 (nI (120 - k))).1 9 2 = nI 0 := by rw [sI_k _ _ _ _ _ (by decide), sI_same]; rfl
    have u93 : (q_sI (q_sI u 9 2 0) 9 3 (nI (120 - k))).1 9 3 = nI (120 - k) := sI_same _ _ _ _
    generalize q_sI (q_sI u 9 2 0) 9 3 (nI (120 - k)) = u2 at *
    have v2c : ∀ c, c ≠ 0 → (q_sI (q_sI (q_sI v 0 39 0) 0 40 0) 0 41 (nI (120 - k))).1 c = v.1 c := fun c hc => by rw [sI_cell _ _ _ _ _ hc, sI_cell _ _ _ _ _ hc, sI_cell _ _ _ _ _ hc]
    have v20 : ∀ i, i ≠ 39 → i ≠ 40 → i ≠ 41 → (q_sI (q_sI (q_sI v 0 39 0) 0 40 0) 0 41 (nI (120 - k))).1 0 i = v.1 0 i := fun i a b c => by rw [sI_k _ _ _ _ _ c, sI_k _ _ _ _ _ b, sI_k _ _ _ _ _ a]
    have v22 : (q_sI (q_sI (q_sI v 0 39 0) 0 40 0) 0 41 (nI (120 - k))).2 = v.2 := rfl
    have v39 : (q_sI (q_sI (q_sI v 0 39 0) 0 40 0) 0 41 (nI (120 - k))).1 0 39 = 0 := by rw [sI_k _ _ _ _ _ (by decide), sI_k _ _ _ _ _ (by decide), sI_same]
    have v40 : (q_sI (q_sI (q_sI v 0 39 0) 0 40 0) 0 41 (nI (120 - k))).1 0 40 = nI 0 := by rw [sI_k _ _ _ _ _ (by decide), sI_same]; rfl
    have v41 : (q_sI (q_sI (q_sI v 0 39 0) 0 40 0) 0 41 (nI (120 - k))).1 0 41 = nI (120 - k) := sI_same _ _ _ _
    generalize q_sI (q_sI (q_sI v 0 39 0) 0 40 0) 0 41 (nI (120 - k)) = v2 at *
    have hO : PGO P s n pm fo fr pg ws cs u2 v2 := by
      refine ⟨n8, hG, by rw [u2c P (by omega), q4], by rw [v2c 8 (by decide), v8], by rw [u2c P (by omega), q3], wl, fun i hi => by rw [u2c (P + 1) (by omega), wa i hi], cl, fun i hi => ?_, fun i hi => ?_⟩
      · rw [v2c 12 (by decide), v2c 13 (by decide), v2c 14 (by decide)]
        exact ca i hi
      · rw [u2c (P + 2) (by omega), u2c (P + 3) (by omega), v2c 10 (by decide), v2c 11 (by decide)]
        exact pa i hi
    have hR : RWS (u31 P u2, v2) 0 0 (120 - k) (120 - k) 0 u2 v2 := ⟨by omega, by omega, by omega, by omega, by omega, u92, by rw [u93, Nat.zero_add], v40, v41, ⟨fun j hj => absurd hj (Nat.not_lt_zero j), fun j hj => absurd hj (by omega), fun j hj => absurd hj (Nat.not_lt_zero j), fun j hj => absurd hj (by omega)⟩, fun j hj => absurd hj (Nat.not_lt_zero j)⟩
    obtain ⟨f, u3, v3, D', K, e1, e2, g1, g2, g3, g4, g5, g6, _⟩ := perf0 iP hs (by rw [v20 18 (by decide) (by decide) (by decide), p18]) hO hq a2 a3 v39 hR
    obtain ⟨_, _, _, ⟨_, fu, fu2, fv, fv0, fv2⟩, _⟩ := g4
    have U3 : ∀ c, c ≠ 9 → c ≠ 10 → c ≠ 11 → ¬ (31 ≤ c ∧ c ≤ 36) → u3.1 c = u.1 c := fun c x y z t => by
      rw [fu c t x y z]
      show u2.1 c = _
      rw [u2c c x]
    have U32 : ∀ c i, c ≠ 31 → u3.2.1 c i = u.2.1 c i := fun c i x => by
      rw [fu2]
      show (if c = 31 ∧ i = 6 then 9 else if c = 31 ∧ i = 5 then P else u2.2.1 c i) = _
      rw [if_neg (fun a => x a.1), if_neg (fun a => x a.1), u22]
    have U33 : u3.2.2 = u.2.2 := by
      rw [fu2]
      show u2.2.2 = _
      rw [u22]
    have V3 : ∀ c, c ≠ 0 → ¬ (21 ≤ c ∧ c ≤ 26) → v3.1 c = v.1 c := fun c x y => by
      rw [fv c x y]
      show v2.1 c = _
      rw [v2c c x]
    have V30 : ∀ c, c ≠ 39 → c ≠ 40 → c ≠ 41 → c ≠ 44 → c ≠ 48 → v3.1 0 c = v.1 0 c := fun c x y z t r => by
      rw [fv0 c x y z t r]
      show v2.1 0 c = _
      rw [v20 c x y z]
    have V32 : v3.2 = v.2 := by
      rw [fv2]
      exact v22
    have hl3 : I_log k u3 v3 := by
      obtain ⟨x1, x2, x3, x4, x5⟩ := hl
      refine ⟨x1, by rw [U3 4 (by decide) (by decide) (by decide) (by decide), x2], by rw [U3 4 (by decide) (by decide) (by decide) (by decide), x3], by rw [V30 50 (by decide) (by decide) (by decide) (by decide) (by decide), x4], fun i hi => ?_⟩
      rw [U3 5 (by decide) (by decide) (by decide) (by decide), U3 6 (by decide) (by decide) (by decide) (by decide), V3 27 (by decide) (by decide), V3 28 (by decide) (by decide)]
      exact x5 i hi
    have hv3 : I_val k u3 := by
      unfold I_val at *
      rw [U3 5 (by decide) (by decide) (by decide) (by decide), U3 6 (by decide) (by decide) (by decide) (by decide)]
      exact hv
    have hb3 : I_bnd k u3 := by
      unfold I_bnd kd nm at *
      rw [U3 5 (by decide) (by decide) (by decide) (by decide), U3 6 (by decide) (by decide) (by decide) (by decide)]
      exact hb
    have hcls : fX10_run (nI q) a2 a3 u = (if nI f = 0 then
      q_b (fX2_tellAll 9 u3) fun r11 w12 =>
      q_b (fX6_size 9 w12) fun r13 w14 =>
      some (r13, w14)
    else
      q_lt (q_sI u3 0 13 (nI f)) fun w15 =>
      q_b (fX1_deedPlace w15) fun r16 w17 =>
      q_lt (q_sI w17 0 14 r16) fun w18 =>
      some ((-2), w18)) := by
      unfold fX10_run
      have r7 : u2.2.1 0 7 = P := by rw [u22, p7]
      rw [p7, if_pos (isP_c iP), hhas, q_b_some, if_neg i_10, hroom, q_b_some, hclear, q_b_some, r7, if_pos (isP_c iP), e1, q_b_some]
    have href : fX11_run (nI q) a2 a3 v = (if nI f ≤ 0 then
      fX11_run_l55 0 v3
    else
      q_lt (q_sI v3 0 53 (nI f)) fun w7 =>
      q_lt (q_sI w7 0 54 (w7.1 0 44)) fun w8 =>
      some ((-2), w8)) := by
      unfold fX11_run
      rw [hpat, q_b_some, if_neg i_10, hbeg, q_b_some, e2, q_b_some]
    by_cases c0 : f = 0
    · subst c0
      obtain ⟨hRf, _⟩ := g5 rfl
      obtain ⟨_, _, _, R4, _, R6, _, R8, _, _, R10⟩ := hRf
      have hRE : RWE K u3 v3 := by
        refine ⟨by rw [R6, Nat.zero_add], by rw [R8, Nat.zero_add], fun j hj => ?_⟩
        have := R10 j hj
        rw [Nat.zero_add] at this
        exact this
      obtain ⟨u4, v4, s1, s2, s3, s4, s5, s6, s7⟩ := ta_both (K := K) (by omega) K q_N q_N 0 k u3 v3 (by omega) (by omega) (by omega) (by omega) hRE hl3 hv3 hb3
      refine ⟨nI K, u4, v4, k + K, ?_, ?_, s3, s4, s5, by omega, ?_, ⟨fun c h0 h4 h5 h6 h8 h9 h10 h11 h31 => ?_, fun i x y => ?_, fun c i x => ?_, ?_, fun i hi => ?_, fun i hi => ?_⟩, ⟨fun c x y => ?_, fun i x1 x2 x3 x4 x5 x6 x7 x8 => ?_, ?_⟩⟩
      · rw [hcls, if_pos (show nI 0 = 0 from rfl)]
        unfold fX2_tellAll fX6_addAll fX6_addAll_l2 fX6_size
        rw [if_pos (by decide), if_pos (by decide), if_pos (by decide), if_pos (by decide), show (0 : Int32) = nI 0 from rfl, s1, q_b_some, q_b_some, if_pos (by decide), q_b_some, s6.1 9 (by decide) (by decide) (by decide) (by decide), hRE.1]
      · rw [href, if_pos (show nI 0 ≤ 0 by decide)]
        exact s2
      · rw [s6.1 0 (by decide) (by decide) (by decide) (by decide), U3 0 (by decide) (by decide) (by decide) (by decide), s7.2.1 53 (by decide), s7.2.1 54 (by decide), V30 53 (by decide) (by decide) (by decide) (by decide) (by decide), V30 54 (by decide) (by decide) (by decide) (by decide) (by decide)]
        exact hm
      · rw [s6.1 c h4 h5 h6 h8, U3 c h9 h10 h11 h31]
      · rw [s6.1 0 (by decide) (by decide) (by decide) (by decide), U3 0 (by decide) (by decide) (by decide) (by decide)]
      · rw [s6.2.1, U32 c i x]
      · rw [s6.2.1, U33]
      · rw [s6.2.2.1 i hi, U3 5 (by decide) (by decide) (by decide) (by decide)]
      · rw [s6.2.2.2 i hi, U3 6 (by decide) (by decide) (by decide) (by decide)]
      · rw [s7.1 c x (by omega) (by omega) (by omega), V3 c x (by omega)]
      · rw [s7.2.1 i x6, V30 i x1 x2 x3 x4 x5]
      · rw [s7.2.2, V32]
    · have nf : ¬ nI f = 0 := nI_ne0 (by omega) (by omega)
      have e11 := g6 c0
      refine ⟨-2, q_sI (q_sI u3 0 13 (nI f)) 0 14 (u3.1 31 11), q_sI (q_sI v3 0 53 (nI f)) 0 54 (v3.1 0 44), k, ?_, ?_, ?_, ?_, ?_, Nat.le_refl k, ?_, ⟨fun c h0 h4 h5 h6 h8 h9 h10 h11 h31 => ?_, fun i x y => ?_, fun c i x => U32 c i x, U33, fun i hi => ?_, fun i hi => ?_⟩, ⟨fun c x y => ?_, fun i x1 x2 x3 x4 x5 x6 x7 x8 => ?_, V32⟩⟩
      · rw [hcls, if_neg nf]
        unfold fX1_deedPlace
        rw [q_lt_eq, q_b_some, q_lt_eq, sI_cell _ _ _ _ 31 (by decide)]
      · rw [href, if_neg (nI_nle (by omega) (by omega)), q_lt_eq, q_lt_eq, sI_k _ _ _ _ _ (by decide)]
      · obtain ⟨x1, x2, x3, x4, x5⟩ := hl3
        refine ⟨x1, by rw [sI_cell _ _ _ _ 4 (by decide), sI_cell _ _ _ _ 4 (by decide), x2], by rw [sI_cell _ _ _ _ 4 (by decide), sI_cell _ _ _ _ 4 (by decide), x3], by rw [sI_k _ _ _ _ _ (by decide), sI_k _ _ _ _ _ (by decide), x4], fun i hi => ?_⟩
        rw [sI_cell _ _ _ _ 5 (by decide), sI_cell _ _ _ _ 5 (by decide), sI_cell _ _ _ _ 6 (by decide), sI_cell _ _ _ _ 6 (by decide), sI_cell _ _ _ _ 27 (by decide), sI_cell _ _ _ _ 27 (by decide), sI_cell _ _ _ _ 28 (by decide), sI_cell _ _ _ _ 28 (by decide)]
        exact x5 i hi
      · unfold I_val at *
        rw [sI_cell _ _ _ _ 5 (by decide), sI_cell _ _ _ _ 5 (by decide), sI_cell _ _ _ _ 6 (by decide), sI_cell _ _ _ _ 6 (by decide)]
        exact hv3
      · unfold I_bnd kd nm at *
        rw [sI_cell _ _ _ _ 5 (by decide), sI_cell _ _ _ _ 5 (by decide), sI_cell _ _ _ _ 6 (by decide), sI_cell _ _ _ _ 6 (by decide)]
        exact hb3
      · refine ⟨?_, ?_⟩
        · rw [sI_k _ _ _ _ _ (by decide), sI_same, sI_k _ _ _ _ _ (by decide), sI_same]
        · rw [sI_same, sI_same, e11]
      · rw [sI_cell _ _ _ _ _ h0, sI_cell _ _ _ _ _ h0, U3 c h9 h10 h11 h31]
      · rw [sI_k _ _ _ _ _ y, sI_k _ _ _ _ _ x, U3 0 (by decide) (by decide) (by decide) (by decide)]
      · rw [sI_cell _ _ _ _ 5 (by decide), sI_cell _ _ _ _ 5 (by decide), U3 5 (by decide) (by decide) (by decide) (by decide)]
      · rw [sI_cell _ _ _ _ 6 (by decide), sI_cell _ _ _ _ 6 (by decide), U3 6 (by decide) (by decide) (by decide) (by decide)]
      · rw [sI_cell _ _ _ _ _ x, sI_cell _ _ _ _ _ x, V3 c x (by omega)]
      · rw [sI_k _ _ _ _ _ x8, sI_k _ _ _ _ _ x7, V30 i x1 x2 x3 x4 x5]
  · have hhas : fX4_has P a1 u = some (0, u) := by
      unfold fX4_has
      rw [if_pos (isP_c iP)]
      by_cases h0 : a1 < 0
      · rw [if_pos h0]
      · rw [if_neg h0, q4, if_pos (by rcases ha with h | h; exact absurd h h0; exact h)]
    have hpat : fX11_isPattern a1 v = some (0, v) := by
      unfold fX11_isPattern
      by_cases h0 : a1 < 0
      · rw [if_pos h0]
      · rw [if_neg h0, p18, q_lt_eq, if_pos (q_inb_nI (by omega) (by omega)), q_ix_nI (by omega), v8, if_pos (by rcases ha with h | h; exact absurd h h0; exact h)]
    refine ⟨-1, u, v, k, ?_, ?_, hl, hv, hb, Nat.le_refl k, hm, ⟨fun _ _ _ _ _ _ _ _ _ _ => rfl, fun _ _ _ => rfl, fun _ _ _ => rfl, rfl, fun _ _ => rfl, fun _ _ => rfl⟩, ⟨fun _ _ _ => rfl, fun _ _ _ _ _ _ _ _ _ => rfl, rfl⟩⟩
    · unfold fX10_run
      rw [p7, if_pos (isP_c iP), hhas, q_b_some, if_pos rfl]
    · unfold fX11_run
      rw [hpat, q_b_some, if_pos rfl]
