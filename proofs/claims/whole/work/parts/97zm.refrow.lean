/-! row: the reference does the members one after another -/
/-- a row of the class and one of the reference -/
def RWo (u v : q_W) (a b : Nat) : Prop := ∃ c, c ≤ 3 ∧ u.1 10 a = nI c ∧ v.1 21 b = nI c ∧ (∀ i, i < nums c → u.1 11 (6 * a + i) = v.1 22 (6 * b + i)) ∧ fitsB (fun i => u.1 11 (6 * a + i)) c 0 = true
/-- what the reference has done of the members before i -/
def RWM (u : q_W) (ms : Nat → Nat) (i : Nat) (v : q_W) : Prop := v.1 0 39 = nI (sD u ms i) ∧ v.1 0 40 = nI (sK u ms i) ∧ v.1 0 41 = nI 60 ∧ ∀ j, j < i → ∀ r, r < q_ix (u.1 39 (ms j)) → RWo u v (q_ix (u.1 38 (ms j)) + r) (sK u ms j + r)
section
variable {s n t sh : Nat} {pm fo fr : Nat → Nat} {pg : Nat → List AI} {ws : List Int32} {cs : List Tr} {P S : Nat}
theorem EP_HE {u : q_W} (hS : S ≤ 480) (h : ∀ p, p < n → EP P S pm u p) : HE n u := by
  intro p hp
  rcases h p hp with ⟨a, _⟩ | ⟨_, b, f, up, up', h2, h3, h4, h5, h6, h7, h8, h9⟩
  · exact Or.inl a
  · by_cases c : f = 0
    · obtain ⟨k, D, k1, k2, k3, k4, k5, k6, k7, k8, k9, k10⟩ := h9 c
      exact Or.inr ⟨b, k, D, by omega, k1, k2, k6, k7, k8⟩
    · exact Or.inl (h8 c)
theorem does_EP {u v : q_W} (h : SB P s n t sh pm fo fr pg ws cs u v) {p : Nat} (hE : EP P S pm u p) (hp : p < n) (hpm : pm p = 0) {D0 M0 : Nat} (h39 : v.1 0 39 = nI D0) (hD : D0 ≤ 2000) (h40 : v.1 0 40 = nI M0) (hM : M0 ≤ 60) (h41 : v.1 0 41 = nI 60) : ∃ g v', fX11_does (nI p) 0 0 v = some (nI g, v') ∧ g ≤ 4 ∧ frV v v' ∧ v'.1 36 = v.1 36 ∧ (g ≠ 0 → u.1 39 p = -1 ∨ 2000 < D0 + q_ix (u.1 40 p) ∨ 60 < M0 + q_ix (u.1 39 p)) ∧ (g = 0 → ¬ u.1 39 p = -1 ∧ D0 + q_ix (u.1 40 p) ≤ 2000 ∧ M0 + q_ix (u.1 39 p) ≤ 60 ∧ v'.1 0 39 = nI (D0 + q_ix (u.1 40 p)) ∧ v'.1 0 40 = nI (M0 + q_ix (u.1 39 p)) ∧ v'.1 0 41 = nI 60 ∧ (∀ j, j < M0 → v'.1 21 j = v.1 21 j) ∧ (∀ j, j < 6 * M0 → v'.1 22 j = v.1 22 j) ∧ ∀ r, r < q_ix (u.1 39 p) → RWo u v' (q_ix (u.1 38 p) + r) (M0 + r)) := by
  rcases hE with ⟨_, c⟩ | ⟨_, b, f, up, up', h2, h3, h4, h5, h6, h7, h8, h9⟩
  · exact absurd hpm c
  · obtain ⟨i1, i2, i3, i4, _⟩ := h
    have hO : PGO P s n pm fo fr pg ws cs up v := PGO_keep i4 (fun q x y => h3 q x y) (fun _ _ _ => rfl)
    have hR : RWS (u31 P up, v) b M0 60 60 0 up v := ⟨by omega, by omega, by omega, by omega, by omega, h4, h5, h40, h41, ⟨fun _ _ => rfl, fun _ _ => rfl, fun _ _ => rfl, fun _ _ => rfl⟩, fun j hj => absurd hj (Nat.not_lt_zero j)⟩
    obtain ⟨f', u', D', k', g, v', e1, f4, e3, e4, g4, e6, e7, e8, _⟩ := perfO i1 i2 i3 hO hp 0 0 h39 hD (by omega) hR
    rw [h6] at e1
    obtain ⟨z1, rfl⟩ := Prod.mk.inj (Option.some.inj e1)
    obtain rfl : f = f' := (nI_eq (by omega) (by omega)).mp z1
    refine ⟨g, v', e4, g4, frV_FR e8, e8.1 36 (by decide) (by decide), fun hg => ?_, fun hg => ?_⟩
    · by_cases c0 : f = 0
      · obtain ⟨k, D, k1, k2, k3, k4, k5, k6, k7, k8, k9, k10⟩ := h9 c0
        obtain ⟨a1, a2, a3, a4⟩ := e3 c0
        rw [k4] at a1
        rw [k5] at a2
        have b1 := (nI_eq (show D < 2 ^ 31 by omega) (show D' < 2 ^ 31 by omega)).mp a1
        have b2 := (nI_eq (show b + k < 2 ^ 31 by omega) (show b + k' < 2 ^ 31 by omega)).mp a2
        rw [k7, k8, q_ix_nI (by omega), q_ix_nI (by omega)]
        right
        by_cases d1 : 2000 < D0 + D
        · exact Or.inl d1
        · refine Or.inr ?_
          by_cases d2 : 60 < M0 + k
          · exact d2
          · exact absurd (e6.mpr ⟨c0, by omega, by omega⟩) hg
      · exact Or.inl (h8 c0)
    · obtain ⟨c0, y1, y2⟩ := e6.mp hg
      obtain ⟨k, D, k1, k2, k3, k4, k5, k6, k7, k8, k9, k10⟩ := h9 c0
      obtain ⟨a1, a2, a3, a4⟩ := e3 c0
      rw [k4] at a1
      rw [k5] at a2
      have b1 := (nI_eq (show D < 2 ^ 31 by omega) (show D' < 2 ^ 31 by omega)).mp a1
      have b2 := (nI_eq (show b + k < 2 ^ 31 by omega) (show b + k' < 2 ^ 31 by omega)).mp a2
      obtain rfl : k = k' := by omega
      subst b1
      obtain ⟨_, _, _, _, g5, _⟩ := e7 hg
      obtain ⟨⟨_, _, _, R4, _, R6, _, R8, R9, RF, R10⟩, _, h39', _⟩ := g5 rfl
      rw [k6, k7, k8, q_ix_nI (by omega), q_ix_nI (by omega), q_ix_nI (by omega)]
      refine ⟨nI_nm1 (by omega), y1, y2, h39', R8, R9, fun j hj => RF.2.2.1 j hj, fun j hj => RF.2.2.2 j hj, fun r hr => ?_⟩
      obtain ⟨c, hc, d1, d2, d3, d4⟩ := R10 r hr
      have hn6 := nums6 hc
      have h11 : ∀ i, i < nums c → u.1 11 (6 * (b + r) + i) = up'.1 11 (6 * (b + r) + i) := fun i hi => k10 _ (by omega) (by omega)
      refine ⟨c, hc, by rw [k9 _ (by omega) (by omega), d1], d2, fun i hi => by rw [h11 i hi, d3 i hi], ?_⟩
      rw [fitsB_congr (c := c) (y := fun i => up'.1 11 (6 * (b + r) + i)) h11, d4]
theorem dead_row {L : Nat} {rec33 : Int32 → Int32 → Int32 → Int32 → q_W → Option (Int32 × q_W)} {rec49 : Int32 → Int32 → Int32 → Int32 → Int32 → q_W → Option (Int32 × q_W)} (N : Nat) (x2 x4 x5 x6 x7 x10 : Int32) (v : q_W) : q_it (N + 1) (fX11_row_h108 rec33 rec49) (fun _ _ _ _ _ _ _ _ => none) x2 x4 x5 x6 x7 0 x10 v = fX11_row_n227 rec33 rec49 x2 x4 x5 x6 x7 v := by
  have e : fX11_row_n172 rec33 rec49 x2 x4 x5 x6 x7 0 v = fX11_row_n227 rec33 rec49 x2 x4 x5 x6 x7 v := by
    unfold fX11_row_n172
    rw [if_pos rfl]
  rw [q_itS, fX11_row_h108]
  by_cases c : x6 ≤ x10
  · rw [if_pos c, e]
  · rw [if_neg c, if_pos rfl, e]
theorem refM_lok {u : q_W} {ms : Nat → Nat} {L : Nat} (hS : S ≤ 480) (hE : ∀ p, p < n → EP P S pm u p) (hL : L ≤ 3) (hm : ∀ j, j < L → ms j < n) (rec33 : Int32 → Int32 → Int32 → Int32 → q_W → Option (Int32 × q_W)) (rec49 : Int32 → Int32 → Int32 → Int32 → Int32 → q_W → Option (Int32 × q_W)) (x2 x5 x7 : Int32) : ∀ d N i (v : q_W), i + d = L → d < N → SB P s n t sh pm fo fr pg ws cs u v → (∀ j, j < L → v.1 36 j = nI (ms j)) → sK u ms i ≤ 60 → sD u ms i ≤ 2000 → RWM u ms i v → ∃ v', frV v v' ∧ v'.1 36 = v.1 36 ∧ (okM u ms i L ∧ q_it N (fX11_row_h108 rec33 rec49) (fun _ _ _ _ _ _ _ _ => none) x2 (nI n) x5 (nI L) x7 1 (nI i) v = fX11_row_n172 rec33 rec49 x2 (nI n) x5 (nI L) x7 1 v' ∧ RWM u ms L v' ∨ ¬ okM u ms i L ∧ q_it N (fX11_row_h108 rec33 rec49) (fun _ _ _ _ _ _ _ _ => none) x2 (nI n) x5 (nI L) x7 1 (nI i) v = fX11_row_n227 rec33 rec49 x2 (nI n) x5 (nI L) x7 v') := by
  intro d
  induction d with
  | zero =>
    intro N i v hd hN h h36 hK hD hW
    obtain ⟨N, rfl⟩ : ∃ z, N = z + 1 := ⟨N - 1, by omega⟩
    obtain rfl : i = L := by omega
    refine ⟨v, frV_r v, rfl, Or.inl ⟨⟨fun j x y => by omega, hK, hD⟩, ?_, hW⟩⟩
    rw [q_itS, fX11_row_h108, if_pos (by rw [nI_leI (by omega) (by omega)]; omega)]
  | succ d ih =>
    intro N i v hd hN h h36 hK hD hW
    obtain ⟨N, rfl⟩ : ∃ z, N = z + 1 := ⟨N - 1, by omega⟩
    obtain ⟨N', rfl⟩ : ∃ z, N = z + 1 := ⟨N - 1, by omega⟩
    have hmi := hm i (by omega)
    have h0 := h
    obtain ⟨i1, i2, i3, i4, _⟩ := h0
    have n8 := i4.1
    have pmi := (i4.2.2.2.2.2.2.2.2.2 (ms i) hmi).2.2.1
    have pm2 := (i4.2.1 (ms i) hmi).1
    have hst : q_it (N' + 1 + 1) (fX11_row_h108 rec33 rec49) (fun _ _ _ _ _ _ _ _ => none) x2 (nI n) x5 (nI L) x7 1 (nI i) v = if nI (pm (ms i)) = 0 then q_b (fX11_does (nI (ms i)) 0 0 v) fun r2 w3 => if r2 = 0 then fX11_row_n164 rec33 rec49 (q_it (N' + 1) (fX11_row_h108 rec33 rec49) (fun _ _ _ _ _ _ _ _ => none)) x2 (nI n) x5 (nI L) x7 (nI i) 1 w3 else fX11_row_n163 rec33 rec49 (q_it (N' + 1) (fX11_row_h108 rec33 rec49) (fun _ _ _ _ _ _ _ _ => none)) x2 (nI n) x5 (nI L) x7 (nI i) w3 else fX11_row_n163 rec33 rec49 (q_it (N' + 1) (fX11_row_h108 rec33 rec49) (fun _ _ _ _ _ _ _ _ => none)) x2 (nI n) x5 (nI L) x7 (nI i) v := by
      rw [q_itS, fX11_row_h108, if_neg (by rw [nI_leI (by omega) (by omega)]; omega), if_neg i_10, if_pos (q_inb_nI (by omega) (by omega)), q_ix_nI (by omega), h36 i (by omega), i3, show (8 : Int32) = nI 8 from rfl, pk_mul, nI_add, q_lt_eq, if_pos (q_inb_nI (by omega) (by omega)), q_ix_nI (by omega), pmi, if_pos (q_inb_nI (by omega) (by omega))]
    have n163 : ∀ w, fX11_row_n163 rec33 rec49 (q_it (N' + 1) (fX11_row_h108 rec33 rec49) (fun _ _ _ _ _ _ _ _ => none)) x2 (nI n) x5 (nI L) x7 (nI i) w = fX11_row_n227 rec33 rec49 x2 (nI n) x5 (nI L) x7 w := by
      intro w
      unfold fX11_row_n163 fX11_row_n164
      rw [q_lt_eq, dead_row (L := L)]
    by_cases hpm : pm (ms i) = 0
    · obtain ⟨g, v1, e1, e2, e3, e4, e5, e6⟩ := does_EP h (hE _ hmi) hmi hpm hW.1 hD hW.2.1 hK hW.2.2.1
      rw [hst, hpm, if_pos (show nI 0 = 0 from rfl), e1, q_b_some]
      by_cases c0 : g = 0
      · obtain ⟨a1, a2, a3, a4, a5, a6, a7, a8, a9⟩ := e6 c0
        subst c0
        obtain ⟨v', b1, b2, b3⟩ := ih (N' + 1) (i + 1) v1 (by omega) (by omega) (SB_keep h (frZc_r u) e3) (fun j hj => by rw [e4, h36 j hj]) a3 a2 ⟨a4, a5, a6, fun j hj r hr => by
          by_cases ej : j = i
          · subst ej
            exact a9 r hr
          · obtain ⟨c, q1, q2, q3, q4, q5⟩ := hW.2.2.2 j (by omega) r hr
            have hle := sK_mono u ms (i := j + 1) i (by omega)
            have hs : sK u ms (j + 1) = sK u ms j + q_ix (u.1 39 (ms j)) := rfl
            have hn6 := nums6 q1
            exact ⟨c, q1, q2, by rw [a7 _ (by omega), q3], fun t ht => by rw [a8 _ (by omega), q4 t ht], q5⟩⟩
        have n164 : fX11_row_n164 rec33 rec49 (q_it (N' + 1) (fX11_row_h108 rec33 rec49) (fun _ _ _ _ _ _ _ _ => none)) x2 (nI n) x5 (nI L) x7 (nI i) 1 v1 = q_it (N' + 1) (fX11_row_h108 rec33 rec49) (fun _ _ _ _ _ _ _ _ => none) x2 (nI n) x5 (nI L) x7 1 (nI (i + 1)) v1 := by
          unfold fX11_row_n164
          rw [q_lt_eq, nI_1]
        rw [if_pos (show nI 0 = 0 from rfl), n164, okM_s a1]
        exact ⟨v', frV_t e3 b1, by rw [b2, e4], b3⟩
      · rw [if_neg (nI_ne0 (by omega) (by omega)), n163]
        refine ⟨v1, e3, e4, Or.inr ⟨fun hok => ?_, rfl⟩⟩
        have l1 := sK_mono u ms (i := i + 1) L (by omega)
        have l2 := sD_mono u ms (i := i + 1) L (by omega)
        have s1 : sK u ms (i + 1) = sK u ms i + q_ix (u.1 39 (ms i)) := rfl
        have s2 : sD u ms (i + 1) = sD u ms i + q_ix (u.1 40 (ms i)) := rfl
        obtain ⟨o1, o2, o3⟩ := hok
        rcases e5 c0 with q | q | q
        · exact o1 i (Nat.le_refl i) (by omega) q
        · omega
        · omega
    · rw [hst, if_neg (nI_ne0 (by omega) (by omega)), n163]
      refine ⟨v, frV_r v, rfl, Or.inr ⟨fun hok => ?_, rfl⟩⟩
      rcases hE _ hmi with ⟨a, _⟩ | ⟨a, _⟩
      · exact hok.1 i (Nat.le_refl i) (by omega) a
      · exact hpm a
/-- the class's pile as the picked rows alone -/
def vuG (K : Nat) (g : Nat → Nat) (u : q_W) : q_W := (fun q k => if q = 9 ∧ k = 2 then nI K else if q = 10 then u.1 10 (g k) else if q = 11 then u.1 11 (6 * g (k / 6) + k % 6) else u.1 q k, u.2)
theorem vuG_11 (K : Nat) (g : Nat → Nat) (u : q_W) {i j : Nat} (hj : j < 6) : (vuG K g u).1 11 (6 * i + j) = u.1 11 (6 * g i + j) := by
  show u.1 11 (6 * g ((6 * i + j) / 6) + (6 * i + j) % 6) = _
  rw [show (6 * i + j) / 6 = i by omega, show (6 * i + j) % 6 = j by omega]
/-- both compare what the row made -/
theorem row_cmp {u v w : q_W} {ms : Nat → Nat} {L : Nat} (h : SB P s n t sh pm fo fr pg ws cs u v) (hS : S ≤ 480) (h92 : u.1 9 2 = nI S) (hE : ∀ p, p < n → EP P S pm u p) (hm : ∀ j, j < L → ms j < n) (hok : okM u ms 0 L) (hW : RWM u ms L v) (hw : ∀ c, c ≠ 12 → c ≠ 13 → w.1 c = u.1 c) (w1 : w.2.1 12 1 = 9) (w2 : w.1 12 2 = nI (sK u ms L)) (w3 : w.1 12 3 = nI t) (w13 : ∀ j, j < L → ∀ r, r < q_ix (u.1 39 (ms j)) → w.1 13 (sK u ms j + r) = nI (q_ix (u.1 38 (ms j)) + r)) {B : Nat} (hB : B < 2 ^ 31) : ∃ c w' v', c ≤ 256 ∧ fX8_unlikeUpTo 14 (nI B) w = some (nI (min B c), w') ∧ fX11_offOf v = some (nI c, v') ∧ (∀ e, e ≠ 12 → w'.1 e = w.1 e) ∧ w'.2 = w.2 ∧ frV v v' ∧ v'.1 36 = v.1 36 := by
  have hqN : 256 < q_N := Nat.le_of_ble_eq_true rfl
  have h60 := hok.2.1
  have pick : ∀ r, r < sK u ms L → q_ix (w.1 13 r) < S ∧ w.1 13 r = nI (q_ix (w.1 13 r)) ∧ RWo u v (q_ix (w.1 13 r)) r := by
    intro r hr
    obtain ⟨j, r', a, b, rfl⟩ := sK_find u ms L r hr
    have hbk : q_ix (u.1 38 (ms j)) + q_ix (u.1 39 (ms j)) ≤ S := by
      rcases hE _ (hm j a) with ⟨e, _⟩ | ⟨_, b0, f, up, up', h2, h3, h4, h5, h6, h7, h8, h9⟩
      · exact absurd e (hok.1 j (Nat.zero_le _) a)
      · by_cases c : f = 0
        · obtain ⟨k, D, k1, k2, k3, k4, k5, k6, k7, k8, k9, k10⟩ := h9 c
          rw [k6, k7, q_ix_nI (by omega), q_ix_nI (by omega)]
          exact k3
        · exact absurd (h8 c) (hok.1 j (Nat.zero_le _) a)
    rw [w13 j a r' b, q_ix_nI (by omega)]
    exact ⟨by omega, rfl, hW.2.2.2 j a r' b⟩
  obtain ⟨i1, i2, i3, i4, i5, i6, i7, i8, i9⟩ := h
  have hRE : RWE (sK u ms L) (vuG (sK u ms L) (fun r => q_ix (w.1 13 r)) u) v := by
    refine ⟨rfl, hW.2.1, fun j hj => ?_⟩
    obtain ⟨_, _, c, hc, d1, d2, d3, d4⟩ := pick j hj
    have hn6 := nums6 hc
    have h11 : ∀ i, i < nums c → (vuG (sK u ms L) (fun r => q_ix (w.1 13 r)) u).1 11 (6 * j + i) = u.1 11 (6 * q_ix (w.1 13 j) + i) := fun i hi => vuG_11 _ _ _ (by omega)
    refine ⟨c, hc, d1, d2, fun i hi => by rw [h11 i hi, d3 i hi], ?_⟩
    rw [fitsB_congr (c := c) (y := fun i => u.1 11 (6 * q_ix (w.1 13 j) + i)) h11, d4]
  obtain ⟨v', e1, g1, g2, g3, g4⟩ := offOf_ok (sh := sh) hRE (by omega) i8 i7 i6
  have V := BV_rows hRE (by omega) i8
  have H : BC 9 (sK u ms L) t (fun r => q_ix (w.1 13 r)) (kR (vuG (sK u ms L) (fun r => q_ix (w.1 13 r)) u)) (zR (vuG (sK u ms L) (fun r => q_ix (w.1 13 r)) u)) w := by
    refine ⟨Or.inr rfl, w1, w2, w3, S, hS, by rw [hw 9 (by decide) (by decide), h92], fun i hi => ?_⟩
    obtain ⟨p1, p2, _⟩ := pick i hi
    obtain ⟨a1, a2, _, _, _⟩ := RWE_kR hRE hi
    have hn6 := nums6 a1
    refine ⟨p1, p2, ?_, fun j hj => ?_⟩
    · rw [hw 10 (by decide) (by decide)]
      exact a2
    · rw [hw 11 (by decide) (by decide)]
      exact (vuG_11 (sK u ms L) (fun r => q_ix (w.1 13 r)) u (i := i) (j := j) (by omega)).symm
  obtain ⟨w', f1, f2, f3⟩ := upTo_lok (q0 := 14) (Or.inl rfl) (sh := sh) V hB 256 q_N 0 0 w (by omega) hqN (by omega) (Nat.le_refl 0) H (by rw [hw 14 (by decide) (by decide), i5])
  have hc : cntU (cellS (sK u ms L) t (kR (vuG (sK u ms L) (fun r => q_ix (w.1 13 r)) u)) (zR (vuG (sK u ms L) (fun r => q_ix (w.1 13 r)) u)) sh) (fun i => w.1 (14 + 1) i) 256 0 = cntU (fun i => v.1 32 i) (cellS (sK u ms L) t (kR (vuG (sK u ms L) (fun r => q_ix (w.1 13 r)) u)) (zR (vuG (sK u ms L) (fun r => q_ix (w.1 13 r)) u)) sh) 256 0 := by
    rw [cntU_sym]
    refine cntU_cong 256 0 (fun i _ hi => ⟨?_, rfl⟩)
    rw [show 14 + 1 = 15 by rfl, hw 15 (by decide) (by decide), i9 i (by omega)]
  rw [hc, Nat.zero_add, nI_0] at f1
  have hle := cntU_le (fun i => v.1 32 i) (cellS (sK u ms L) t (kR (vuG (sK u ms L) (fun r => q_ix (w.1 13 r)) u)) (zR (vuG (sK u ms L) (fun r => q_ix (w.1 13 r)) u)) sh) 256 0
  refine ⟨_, w', v', hle, ?_, e1, f2, f3, ⟨fun c x => g1 c (by omega) (by omega) (by omega) (by omega), fun k x => g2 k (by omega) (by omega) (by omega), g3, g4⟩, g1 36 (by decide) (by decide) (by decide) (by decide)⟩
  unfold fX8_unlikeUpTo fX8_unlikeUpTo_l5
  rw [if_pos (by decide)]
  exact f1
end
