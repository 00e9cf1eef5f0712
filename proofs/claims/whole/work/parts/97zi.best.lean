/-! the search: the nearest pattern -/
section
variable {s n t sh : Nat} {pm fo fr : Nat → Nat} {pg : Nat → List AI} {ws : List Int32} {cs : List Tr} {P : Nat}
/-- what was found so far: reference, class -/
def BST (x3 : Int32) (u v : q_W) : Prop := (x3 = -2 ∧ u.1 37 11 = nI 257 ∧ u.1 37 10 = -1) ∨ ∃ b m, b ≤ 256 ∧ m < 1000 ∧ x3 = nI m ∧ u.1 37 10 = nI m ∧ u.1 37 11 = nI b ∧ v.1 0 69 = nI b
theorem nI_nm2 {m : Nat} (h : m < 2 ^ 31) : ¬ nI m = -2 := fun e => nI_pos h (by rw [e]; decide)
theorem nI_nm1 {m : Nat} (h : m < 2 ^ 31) : ¬ nI m = -1 := fun e => nI_pos h (by rw [e]; decide)
theorem BST_eq {x3 : Int32} {u v u' v' : q_W} (h : BST x3 u v) (a : u'.1 37 = u.1 37) (b : v'.1 0 69 = v.1 0 69) : BST x3 u' v' := by
  unfold BST at *
  rw [a, b]
  exact h
theorem best_cmp {u v : q_W} (h : SB P s n t sh pm fo fr pg ws cs u v) {K : Nat} (hK : K ≤ 60) (hR : RWE K u v) {x2 : Int32} (h2 : q_imin x2 9 = nI t) {x3 : Int32} (hB : BST x3 u v) {m : Nat} (hm : m < 1000) : ∃ c u' v', fX3_compare (nI m) x2 u = some ((), u') ∧ fX11_offOf v = some (nI c, v') ∧ c ≤ 256 ∧ frZc u u' ∧ frV v v' ∧ v'.1 0 69 = v.1 0 69 ∧ ((x3 = -2 ∨ nI c < v'.1 0 69) ∧ BST (nI m) u' (q_sI v' 0 69 (nI c)) ∨ ¬ (x3 = -2 ∨ nI c < v'.1 0 69) ∧ BST x3 u' v') := by
  obtain ⟨i1, i2, i3, i4, i5, i6, i7, i8, i9⟩ := h
  obtain ⟨v', e1, g1, g2, g3, g4⟩ := offOf_ok (sh := sh) hR (by omega) i8 i7 i6
  have hc := cntU_le (fun i => v.1 32 i) (cellS K t (kR u) (zR u) sh) 256 0
  have hcc : cntU (cellS K t (kR u) (zR u) sh) (fun i => u.1 15 i) 256 0 = cntU (fun i => v.1 32 i) (cellS K t (kR u) (zR u) sh) 256 0 := by
    rw [cntU_sym]
    exact cntU_cong 256 0 (fun i _ hi => ⟨i9 i (by omega), rfl⟩)
  have hfV : frV v v' := ⟨fun c x => g1 c (by omega) (by omega) (by omega) (by omega), fun k x => g2 k (by omega) (by omega) (by omega), g3, g4⟩
  have h69 : v'.1 0 69 = v.1 0 69 := g2 69 (by decide) (by decide) (by decide)
  have cmp : ∀ B, B < 2 ^ 31 → u.1 37 11 = nI B → ∃ u', fX3_compare (nI m) x2 u = some ((), u') ∧ frZc u u' ∧ u'.1 37 11 = nI (min B (cntU (fun i => v.1 32 i) (cellS K t (kR u) (zR u) sh) 256 0)) ∧ u'.1 37 10 = if B ≤ cntU (fun i => v.1 32 i) (cellS K t (kR u) (zR u) sh) 256 0 then u.1 37 10 else nI m := by
    intro B hB h11
    obtain ⟨u', a1, a2, a3, a4⟩ := compare_ok (sh := sh) hR (by omega) i8 h2 i5 hB h11 (nI m)
    rw [hcc] at a3 a4
    refine ⟨u', a1, ⟨fun c x y => a2.1 c (by omega) (by omega) (by omega), fun k x y => a2.2.1 k x y, fun c k _ x => a2.2.2.1 c k x, a2.2.2.2⟩, a3, a4⟩
  generalize cntU (fun i => v.1 32 i) (cellS K t (kR u) (zR u) sh) 256 0 = c at *
  rcases hB with ⟨b1, b2, b3⟩ | ⟨b, m0, b1, b2, b3, b4, b5, b6⟩
  · obtain ⟨u', a1, a2, a3, a4⟩ := cmp 257 (by omega) b2
    refine ⟨c, u', v', a1, e1, hc, a2, hfV, h69, Or.inl ⟨Or.inl b1, Or.inr ⟨c, m, hc, hm, rfl, ?_, ?_, sI_same _ _ _ _⟩⟩⟩
    · rw [a4, if_neg (by omega)]
    · rw [a3, show min 257 c = c by omega]
  · obtain ⟨u', a1, a2, a3, a4⟩ := cmp b (by omega) b5
    refine ⟨c, u', v', a1, e1, hc, a2, hfV, h69, ?_⟩
    by_cases hlt : c < b
    · refine Or.inl ⟨Or.inr ?_, Or.inr ⟨c, m, hc, hm, rfl, ?_, ?_, sI_same _ _ _ _⟩⟩
      · rw [h69, b6, nI_ltI (by omega) (by omega)]; exact hlt
      · rw [a4, if_neg (by omega)]
      · rw [a3, show min b c = c by omega]
    · refine Or.inr ⟨?_, Or.inr ⟨b, m0, b1, b2, b3, ?_, ?_, ?_⟩⟩
      · rintro (e | e)
        · rw [b3] at e
          exact nI_nm2 (by omega) e
        · rw [h69, b6, nI_ltI (by omega) (by omega)] at e
          exact hlt e
      · rw [a4, if_pos (by omega), b4]
      · rw [a3, show min b c = b by omega]
      · rw [h69, b6]
theorem best_st {u v : q_W} (h : SB P s n t sh pm fo fr pg ws cs u v) {p a b : Nat} (hp : p < n) (ha : a < 4) (hb : b < 4) {x2 : Int32} (h2 : q_imin x2 9 = nI t) {x3 : Int32} (hB : BST x3 u v) (x4 x5 y5 : Int32) (c5 : ¬ x5 < nI b) (d5 : y5 ≤ 1 → b = 0) : ∃ x3' u' v', (∀ rec14 rec56 rec66, fX3_seekBest_h66 P rec14 rec56 rec66 x2 (nI p) x4 x5 (nI a) (nI b) u = rec66 x2 (nI p) x4 x5 (nI a) (nI (b + 1)) u') ∧ (∀ rec12 rec46 rec64, fX11_bestOf_h64 rec12 rec46 rec64 x3 (nI p) y5 (nI a) (nI b) v = rec64 x3' (nI p) y5 (nI a) (nI (b + 1)) v') ∧ frZc u u' ∧ frV v v' ∧ BST x3' u' v' := by
  have n8 := h.2.2.2.1.1
  have hcode : 16 * nI p + 4 * nI a + nI b = nI (16 * p + 4 * a + b) := by
    rw [show (16 : Int32) = nI 16 from rfl, pk_mul, show (4 : Int32) = nI 4 from rfl, pk_mul, nI_add, nI_add]
  obtain ⟨f, u3, v3, K, e1, e2, f4, g1, g2, g3, g4, g5⟩ := try_both h hp (nI a) (nI b)
  have hR : ∀ rec12 rec46 rec64, fX11_bestOf_h64 rec12 rec46 rec64 x3 (nI p) y5 (nI a) (nI b) v = (if nI f ≤ 0 then q_b (fX11_offOf v3) fun r6 w7 => if x3 = (-2) then fX11_bestOf_n126 rec12 rec46 rec64 (nI p) y5 (nI a) (nI b) r6 w7 else if r6 < (w7.1 0 69) then fX11_bestOf_n126 rec12 rec46 rec64 (nI p) y5 (nI a) (nI b) r6 w7 else fX11_bestOf_n146 rec12 rec46 rec64 x3 (nI p) y5 (nI a) (nI b) w7 else fX11_bestOf_n146 rec12 rec46 rec64 x3 (nI p) y5 (nI a) (nI b) v3) := by
    intro rec12 rec46 rec64
    have n77 : ∀ s0 : Int32, ¬ s0 ≤ nI b → fX11_bestOf_n77 rec12 rec46 rec64 x3 (nI p) y5 (nI a) (nI b) s0 (nI b) v = (if nI f ≤ 0 then q_b (fX11_offOf v3) fun r6 w7 => if x3 = (-2) then fX11_bestOf_n126 rec12 rec46 rec64 (nI p) y5 (nI a) (nI b) r6 w7 else if r6 < (w7.1 0 69) then fX11_bestOf_n126 rec12 rec46 rec64 (nI p) y5 (nI a) (nI b) r6 w7 else fX11_bestOf_n146 rec12 rec46 rec64 x3 (nI p) y5 (nI a) (nI b) w7 else fX11_bestOf_n146 rec12 rec46 rec64 x3 (nI p) y5 (nI a) (nI b) v3) := by
      intro s0 hs
      unfold fX11_bestOf_n77
      rw [if_neg hs, begins60, q_b_some, e2, q_b_some]
    unfold fX11_bestOf_h64
    by_cases c : y5 ≤ 1
    · rw [if_pos c, n77 1 (by rw [d5 c]; decide)]
    · rw [if_neg c, n77 4 (by rw [show (4 : Int32) = nI 4 from rfl, nI_leI (by omega) (by omega)]; omega)]
  have hC : ∀ rec14 rec56 rec66, fX3_seekBest_h66 P rec14 rec56 rec66 x2 (nI p) x4 x5 (nI a) (nI b) u = (if nI f = 0 then q_b (fX3_compare (nI (16 * p + 4 * a + b)) x2 u3) fun r6 w7 => fX3_seekBest_n119 P rec14 rec56 rec66 x2 (nI p) x4 x5 (nI a) (nI b) w7 else fX3_seekBest_n119 P rec14 rec56 rec66 x2 (nI p) x4 x5 (nI a) (nI b) u3) := by
    intro rec14 rec56 rec66
    unfold fX3_seekBest_h66
    rw [if_neg c5, clear60, q_b_some, e1, q_b_some, hcode]
  have hB3 : BST x3 u3 v3 := BST_eq hB g3 g4
  by_cases c0 : f = 0
  · subst c0
    obtain ⟨hK, hE⟩ := g5 rfl
    obtain ⟨c, u', v', a1, a2, a3, a4, a5, a6, a7⟩ := best_cmp (SB_keep h g1 g2) hK hE h2 hB3 (m := 16 * p + 4 * a + b) (by omega)
    rcases a7 with ⟨y1, y2⟩ | ⟨y1, y2⟩
    · refine ⟨nI (16 * p + 4 * a + b), u', q_sI v' 0 69 (nI c), fun r1 r2 r3 => ?_, fun r1 r2 r3 => ?_, frZc_t g1 a4, frV_t g2 (frV_t a5 (frV_I (by decide))), y2⟩
      · rw [hC, if_pos (show nI 0 = 0 from rfl), a1, q_b_some]
        unfold fX3_seekBest_n119
        rw [q_lt_eq, nI_1]
      · have e126 : fX11_bestOf_n126 r1 r2 r3 (nI p) y5 (nI a) (nI b) (nI c) v' = r3 (nI (16 * p + 4 * a + b)) (nI p) y5 (nI a) (nI (b + 1)) (q_sI v' 0 69 (nI c)) := by
          unfold fX11_bestOf_n126 fX11_bestOf_n146
          rw [hcode, q_lt_eq, q_lt_eq, q_lt_eq, nI_1]
        rw [hR, if_pos (show nI 0 ≤ 0 by decide), a2, q_b_some]
        by_cases z : x3 = -2
        · rw [if_pos z, e126]
        · rw [if_neg z, if_pos (by rcases y1 with y | y; exact absurd y z; exact y), e126]
    · refine ⟨x3, u', v', fun r1 r2 r3 => ?_, fun r1 r2 r3 => ?_, frZc_t g1 a4, frV_t g2 a5, y2⟩
      · rw [hC, if_pos (show nI 0 = 0 from rfl), a1, q_b_some]
        unfold fX3_seekBest_n119
        rw [q_lt_eq, nI_1]
      · rw [hR, if_pos (show nI 0 ≤ 0 by decide), a2, q_b_some, if_neg (fun z => y1 (Or.inl z)), if_neg (fun z => y1 (Or.inr z))]
        unfold fX11_bestOf_n146
        rw [q_lt_eq, nI_1]
  · refine ⟨x3, u3, v3, fun r1 r2 r3 => ?_, fun r1 r2 r3 => ?_, g1, g2, hB3⟩
    · rw [hC, if_neg (nI_ne0 (by omega) (by omega))]
      unfold fX3_seekBest_n119
      rw [q_lt_eq, nI_1]
    · rw [hR, if_neg (nI_nle (by omega) (by omega))]
      unfold fX11_bestOf_n146
      rw [q_lt_eq, nI_1]
theorem best_in {p a m2 mb : Nat} (hp : p < n) (ha : a < 4) (hm2 : m2 ≤ 2) (hmb : mb = if 1 < m2 then 3 else 0) {x2 : Int32} (h2 : q_imin x2 9 = nI t) (x4 : Int32) (rec14 : Int32 → Int32 → q_W → Option (Int32 × q_W)) (rec56 : Int32 → Int32 → Int32 → Int32 → Int32 → q_W → Option (Int32 × q_W)) (rec12 : Int32 → Int32 → q_W → Option (Int32 × q_W)) (rec46 : Int32 → Int32 → Int32 → Int32 → q_W → Option (Int32 × q_W)) : ∀ d N M b x3 (u v : q_W), b + d = mb + 1 → d < N → d < M → SB P s n t sh pm fo fr pg ws cs u v → BST x3 u v → ∃ x3' u' v', q_it N (fX3_seekBest_h66 P rec14 rec56) (fun _ _ _ _ _ _ _ => none) x2 (nI p) x4 (nI mb) (nI a) (nI b) u = rec56 x2 (nI p) x4 (nI mb) (nI (a + 1)) u' ∧ q_it M (fX11_bestOf_h64 rec12 rec46) (fun _ _ _ _ _ _ => none) x3 (nI p) (nI m2) (nI a) (nI b) v = rec46 x3' (nI p) (nI m2) (nI (a + 1)) v' ∧ frZc u u' ∧ frV v v' ∧ BST x3' u' v' := by
  have hb4 : mb ≤ 3 := by
    rw [hmb]
    by_cases c : 1 < m2
    · rw [if_pos c]; omega
    · rw [if_neg c]; omega
  intro d
  induction d with
  | zero =>
    intro N M b x3 u v hd hN hM h hB
    obtain ⟨N, rfl⟩ : ∃ z, N = z + 1 := ⟨N - 1, by omega⟩
    obtain ⟨M, rfl⟩ : ∃ z, M = z + 1 := ⟨M - 1, by omega⟩
    refine ⟨x3, u, v, ?_, ?_, frZc_r u, frV_r v, hB⟩
    · rw [q_itS, fX3_seekBest_h66, if_pos (by rw [nI_ltI (by omega) (by omega)]; omega), q_lt_eq, nI_1]
    · have n77 : ∀ s0 : Int32, s0 ≤ nI b → fX11_bestOf_n77 rec12 rec46 (q_it M (fX11_bestOf_h64 rec12 rec46) (fun _ _ _ _ _ _ => none)) x3 (nI p) (nI m2) (nI a) (nI b) s0 (nI b) v = rec46 x3 (nI p) (nI m2) (nI (a + 1)) v := by
        intro s0 hs
        unfold fX11_bestOf_n77
        rw [if_pos hs, q_lt_eq, nI_1]
      rw [q_itS, fX11_bestOf_h64]
      by_cases c : 1 < m2
      · rw [if_pos c] at hmb
        rw [if_neg (by rw [show (1 : Int32) = nI 1 from rfl, nI_leI (by omega) (by omega)]; omega), n77 4 (by rw [show (4 : Int32) = nI 4 from rfl, nI_leI (by omega) (by omega)]; omega)]
      · rw [if_neg c] at hmb
        rw [if_pos (by rw [show (1 : Int32) = nI 1 from rfl, nI_leI (by omega) (by omega)]; omega), n77 1 (by rw [show (1 : Int32) = nI 1 from rfl, nI_leI (by omega) (by omega)]; omega)]
  | succ d ih =>
    intro N M b x3 u v hd hN hM h hB
    obtain ⟨N, rfl⟩ : ∃ z, N = z + 1 := ⟨N - 1, by omega⟩
    obtain ⟨M, rfl⟩ : ∃ z, M = z + 1 := ⟨M - 1, by omega⟩
    obtain ⟨x, u1, v1, e1, e2, f1, f2, hB1⟩ := best_st h hp ha (show b < 4 by omega) h2 hB x4 (nI mb) (nI m2) (by rw [nI_ltI (by omega) (by omega)]; omega) (fun c => by
      rw [show (1 : Int32) = nI 1 from rfl, nI_leI (by omega) (by omega)] at c
      rw [if_neg (by omega)] at hmb
      omega)
    obtain ⟨x', u2, v2, g1, g2, f3, f4, hB2⟩ := ih N M (b + 1) x u1 v1 (by omega) (by omega) (by omega) (SB_keep h f1 f2) hB1
    exact ⟨x', u2, v2, by rw [q_itS, e1, g1], by rw [q_itS, e2, g2], frZc_t f1 f3, frV_t f2 f4, hB2⟩
theorem best_mid {p m2 ma mb : Nat} (hp : p < n) (hm2 : m2 ≤ 2) (hma : ma = if 0 < m2 then 3 else 0) (hmb : mb = if 1 < m2 then 3 else 0) {x2 : Int32} (h2 : q_imin x2 9 = nI t) (rec14 : Int32 → Int32 → q_W → Option (Int32 × q_W)) (rec12 : Int32 → Int32 → q_W → Option (Int32 × q_W)) : ∀ d N M a x3 (u v : q_W), a + d = ma + 1 → d < N → d < M → SB P s n t sh pm fo fr pg ws cs u v → BST x3 u v → ∃ x3' u' v', q_it N (fX3_seekBest_h56 P rec14) (fun _ _ _ _ _ _ => none) x2 (nI p) (nI ma) (nI mb) (nI a) u = rec14 x2 (nI (p + 1)) u' ∧ q_it M (fX11_bestOf_h46 rec12) (fun _ _ _ _ _ => none) x3 (nI p) (nI m2) (nI a) v = rec12 x3' (nI (p + 1)) v' ∧ frZc u u' ∧ frV v v' ∧ BST x3' u' v' := by
  have hqN : 6 < q_N := Nat.le_of_ble_eq_true rfl
  have ha4 : ma ≤ 3 := by
    rw [hma]
    by_cases c : 0 < m2
    · rw [if_pos c]; omega
    · rw [if_neg c]; omega
  have hb4 : mb ≤ 3 := by
    rw [hmb]
    by_cases c : 1 < m2
    · rw [if_pos c]; omega
    · rw [if_neg c]; omega
  intro d
  induction d with
  | zero =>
    intro N M a x3 u v hd hN hM h hB
    have n8 := h.2.2.2.1.1
    obtain ⟨N, rfl⟩ : ∃ z, N = z + 1 := ⟨N - 1, by omega⟩
    obtain ⟨M, rfl⟩ : ∃ z, M = z + 1 := ⟨M - 1, by omega⟩
    refine ⟨x3, u, v, ?_, ?_, frZc_r u, frV_r v, hB⟩
    · rw [q_itS, fX3_seekBest_h56, if_pos (by rw [nI_ltI (by omega) (by omega)]; omega), q_lt_eq, nI_1]
    · have n58 : ∀ s0 : Int32, s0 ≤ nI a → fX11_bestOf_n58 rec12 (q_it M (fX11_bestOf_h46 rec12) (fun _ _ _ _ _ => none)) x3 (nI p) (nI m2) (nI a) s0 (nI a) v = rec12 x3 (nI (p + 1)) v := by
        intro s0 hs
        unfold fX11_bestOf_n58
        rw [if_pos hs, q_lt_eq, nI_1]
      rw [q_itS, fX11_bestOf_h46]
      by_cases c : 0 < m2
      · rw [if_pos c] at hma
        rw [if_neg (nI_nle (by omega) (by omega)), n58 4 (by rw [show (4 : Int32) = nI 4 from rfl, nI_leI (by omega) (by omega)]; omega)]
      · rw [if_neg c] at hma
        rw [if_pos (by rw [show (0 : Int32) = nI 0 from rfl, nI_leI (by omega) (by omega)]; omega), n58 1 (by rw [show (1 : Int32) = nI 1 from rfl, nI_leI (by omega) (by omega)]; omega)]
  | succ d ih =>
    intro N M a x3 u v hd hN hM h hB
    obtain ⟨N, rfl⟩ : ∃ z, N = z + 1 := ⟨N - 1, by omega⟩
    obtain ⟨M, rfl⟩ : ∃ z, M = z + 1 := ⟨M - 1, by omega⟩
    obtain ⟨x, u1, v1, e1, e2, f1, f2, hB1⟩ := best_in hp (show a < 4 by omega) hm2 hmb h2 (nI ma) rec14 (q_it N (fX3_seekBest_h56 P rec14) (fun _ _ _ _ _ _ => none)) rec12 (q_it M (fX11_bestOf_h46 rec12) (fun _ _ _ _ _ => none)) (mb + 1) q_N q_N 0 x3 u v (by omega) (by omega) (by omega) h hB
    obtain ⟨x', u2, v2, g1, g2, f3, f4, hB2⟩ := ih N M (a + 1) x u1 v1 (by omega) (by omega) (by omega) (SB_keep h f1 f2) hB1
    refine ⟨x', u2, v2, ?_, ?_, frZc_t f1 f3, frV_t f2 f4, hB2⟩
    · rw [q_itS, fX3_seekBest_h56, if_neg (by rw [nI_ltI (by omega) (by omega)]; omega)]
      unfold fX3_seekBest_l66
      rw [nI_0] at e1
      rw [e1, g1]
    · have n58 : ∀ s0 : Int32, ¬ s0 ≤ nI a → fX11_bestOf_n58 rec12 (q_it M (fX11_bestOf_h46 rec12) (fun _ _ _ _ _ => none)) x3 (nI p) (nI m2) (nI a) s0 (nI a) v = rec12 x' (nI (p + 1)) v2 := by
        intro s0 hs
        unfold fX11_bestOf_n58 fX11_bestOf_l64
        rw [nI_0] at e2
        rw [if_neg hs, e2, g2]
      rw [q_itS, fX11_bestOf_h46]
      by_cases c : 0 < m2
      · rw [if_neg (nI_nle (by omega) (by omega)), n58 4 (by rw [show (4 : Int32) = nI 4 from rfl, nI_leI (by omega) (by omega)]; omega)]
      · rw [if_neg c] at hma
        rw [if_pos (by rw [show (0 : Int32) = nI 0 from rfl, nI_leI (by omega) (by omega)]; omega), n58 1 (by rw [show (1 : Int32) = nI 1 from rfl, nI_leI (by omega) (by omega)]; omega)]
theorem best_out {x2 : Int32} (h2 : q_imin x2 9 = nI t) : ∀ d N M p x3 (u v : q_W), p + d = n → d < N → d < M → SB P s n t sh pm fo fr pg ws cs u v → BST x3 u v → ∃ x3' u' v', q_it N (fX3_seekBest_h14 P) (fun _ _ _ => none) x2 (nI p) u = some ((if u'.1 37 10 = -1 then 0 else 1), u') ∧ q_it M fX11_bestOf_h12 (fun _ _ _ => none) x3 (nI p) v = some (x3', v') ∧ frZc u u' ∧ frV v v' ∧ BST x3' u' v' := by
  have hqN : 6 < q_N := Nat.le_of_ble_eq_true rfl
  intro d
  induction d with
  | zero =>
    intro N M p x3 u v hd hN hM h hB
    obtain ⟨i1, i2, i3, i4, _⟩ := h
    have n8 := i4.1
    obtain ⟨N, rfl⟩ : ∃ z, N = z + 1 := ⟨N - 1, by omega⟩
    obtain ⟨M, rfl⟩ : ∃ z, M = z + 1 := ⟨M - 1, by omega⟩
    refine ⟨x3, u, v, ?_, ?_, frZc_r u, frV_r v, hB⟩
    · rw [q_itS, fX3_seekBest_h14, size_SB i4 i1, q_b_some, if_pos (by rw [nI_leI (by omega) (by omega)]; omega)]
      by_cases c : u.1 37 10 = -1
      · rw [if_pos c, if_pos c]
      · rw [if_neg c, if_neg c]
    · rw [q_itS, fX11_bestOf_h12, i3, q_lt_eq, if_pos (q_inb_nI (by omega) (by omega)), q_ix_nI (by omega), i4.2.2.2.1, if_pos (by rw [nI_leI (by omega) (by omega)]; omega)]
  | succ d ih =>
    intro N M p x3 u v hd hN hM h hB
    have h' := h
    obtain ⟨i1, i2, i3, i4, _⟩ := h'
    have n8 := i4.1
    obtain ⟨N, rfl⟩ : ∃ z, N = z + 1 := ⟨N - 1, by omega⟩
    obtain ⟨M, rfl⟩ : ∃ z, M = z + 1 := ⟨M - 1, by omega⟩
    obtain ⟨j1, j2, j3⟩ := needs_SB i4 i1 (show p < n by omega)
    obtain ⟨x, u1, v1, e1, e2, f1, f2, hB1⟩ := best_mid (p := p) (m2 := pm p) (by omega) j3 rfl rfl h2 (q_it N (fX3_seekBest_h14 P) (fun _ _ _ => none)) (q_it M fX11_bestOf_h12 (fun _ _ _ => none)) ((if 0 < pm p then 3 else 0) + 1) q_N q_N 0 x3 u v (by omega) (by by_cases c : 0 < pm p; rw [if_pos c]; omega; rw [if_neg c]; omega) (by by_cases c : 0 < pm p; rw [if_pos c]; omega; rw [if_neg c]; omega) h hB
    obtain ⟨x', u2, v2, g1, g2, f3, f4, hB2⟩ := ih N M (p + 1) x u1 v1 (by omega) (by omega) (by omega) (SB_keep h f1 f2) hB1
    refine ⟨x', u2, v2, ?_, ?_, frZc_t f1 f3, frV_t f2 f4, hB2⟩
    · rw [nI_0] at e1
      have n51 : ∀ x4 y4 : Int32, x4 = nI (if 0 < pm p then 3 else 0) → y4 = nI (if 1 < pm p then 3 else 0) → fX3_seekBest_n51 P (q_it N (fX3_seekBest_h14 P) (fun _ _ _ => none)) x2 (nI p) x4 y4 u = some ((if u2.1 37 10 = -1 then 0 else 1), u2) := by
        rintro x4 y4 rfl rfl
        unfold fX3_seekBest_n51 fX3_seekBest_l56
        rw [e1, g1]
      have n35 : ∀ x4 : Int32, x4 = nI (if 0 < pm p then 3 else 0) → fX3_seekBest_n35 P (q_it N (fX3_seekBest_h14 P) (fun _ _ _ => none)) x2 (nI p) x4 u = some ((if u2.1 37 10 = -1 then 0 else 1), u2) := by
        intro x4 hx4
        unfold fX3_seekBest_n35
        rw [j1, q_b_some]
        by_cases c : 1 < pm p
        · rw [if_neg (by rw [show (1 : Int32) = nI 1 from rfl, nI_leI (by omega) (by omega)]; omega), n51 _ _ hx4 (by rw [if_pos c]; rfl)]
        · rw [if_pos (by rw [show (1 : Int32) = nI 1 from rfl, nI_leI (by omega) (by omega)]; omega), n51 _ _ hx4 (by rw [if_neg c]; rfl)]
      rw [q_itS, fX3_seekBest_h14, size_SB i4 i1, q_b_some, if_neg (by rw [nI_leI (by omega) (by omega)]; omega), j1, q_b_some]
      by_cases c : 0 < pm p
      · rw [if_neg (nI_nle (by omega) (by omega)), n35 _ (by rw [if_pos c]; rfl)]
      · rw [if_pos (by rw [show (0 : Int32) = nI 0 from rfl, nI_leI (by omega) (by omega)]; omega), n35 _ (by rw [if_neg c]; rfl)]
    · rw [q_itS, fX11_bestOf_h12, i3, q_lt_eq, if_pos (q_inb_nI (by omega) (by omega)), q_ix_nI (by omega), i4.2.2.2.1, if_neg (by rw [nI_leI (by omega) (by omega)]; omega), show (8 : Int32) = nI 8 from rfl, pk_mul, nI_add, q_lt_eq, if_pos (q_inb_nI (by omega) (by omega)), q_ix_nI (by omega), (i4.2.2.2.2.2.2.2.2.2 p (by omega)).2.2.1, q_lt_eq]
      unfold fX11_bestOf_l46
      rw [nI_0] at e2
      rw [e2, g2]
end
