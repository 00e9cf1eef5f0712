/-! reading: pattern by pattern -/
def frRD (s : Nat) (v v' : q_W) : Prop := (∀ q, q ≠ 0 → q ≠ 8 → q ≠ 10 → q ≠ 11 → q ≠ 12 → q ≠ 13 → q ≠ 14 → q ≠ 16 → q ≠ 17 → q ≠ 18 → q ≠ 19 → q ≠ 20 → v'.1 q = v.1 q) ∧ (∀ k, ¬ (11 ≤ k ∧ k ≤ 18) → k ≠ 24 → k ≠ 28 → k ≠ 30 → k ≠ 35 → k ≠ 36 → k ≠ 38 → v'.1 0 k = v.1 0 k) ∧ (∀ i, ¬ (2000 * s ≤ i ∧ i < 2000 * s + 2000) → v'.1 12 i = v.1 12 i ∧ v'.1 13 i = v.1 13 i ∧ v'.1 14 i = v.1 14 i) ∧ (∀ i, i ≠ s → v'.1 8 i = v.1 8 i) ∧ (∀ i, ¬ (8 * s ≤ i ∧ i < 8 * s + 8) → v'.1 10 i = v.1 10 i ∧ v'.1 11 i = v.1 11 i ∧ v'.2.2 9 i = v.2.2 9 i) ∧ v'.2.1 = v.2.1 ∧ ∀ q, q ≠ 9 → q ≠ 15 → v'.2.2 q = v.2.2 q
theorem frRD_T {s : Nat} {a b : q_W} (h : frPT s a b) : frRD s a b := ⟨h.1, fun k x1 x2 x3 x4 x5 x6 x7 => h.2.1 k (by omega) x2 x3 x4 x5 x6 x7, h.2.2⟩
theorem frRD_t {s : Nat} {a b c : q_W} (h : frRD s a b) (h' : frRD s b c) : frRD s a c := ⟨fun q x1 x2 x3 x4 x5 x6 x7 x8 x9 y1 y2 y3 => (h'.1 q x1 x2 x3 x4 x5 x6 x7 x8 x9 y1 y2 y3).trans (h.1 q x1 x2 x3 x4 x5 x6 x7 x8 x9 y1 y2 y3), fun k x1 x2 x3 x4 x5 x6 x7 => (h'.2.1 k x1 x2 x3 x4 x5 x6 x7).trans (h.2.1 k x1 x2 x3 x4 x5 x6 x7), fun i hi => ⟨(h'.2.2.1 i hi).1.trans (h.2.2.1 i hi).1, (h'.2.2.1 i hi).2.1.trans (h.2.2.1 i hi).2.1, (h'.2.2.1 i hi).2.2.trans (h.2.2.1 i hi).2.2⟩, fun i hi => (h'.2.2.2.1 i hi).trans (h.2.2.2.1 i hi), fun i hi => ⟨(h'.2.2.2.2.1 i hi).1.trans (h.2.2.2.2.1 i hi).1, (h'.2.2.2.2.1 i hi).2.1.trans (h.2.2.2.2.1 i hi).2.1, (h'.2.2.2.2.1 i hi).2.2.trans (h.2.2.2.2.1 i hi).2.2⟩, h'.2.2.2.2.2.1.trans h.2.2.2.2.2.1, fun q x y => (h'.2.2.2.2.2.2 q x y).trans (h.2.2.2.2.2.2 q x y)⟩
theorem frRD_0 (s : Nat) (v : q_W) (k : Nat) (x : Int32) (h : k = 17 ∨ k = 18) : frRD s v (q_sI v 0 k x) := ⟨fun q h0 _ _ _ _ _ _ _ _ _ _ _ => sI_cell _ _ _ _ _ h0, fun k' _ _ _ _ _ _ _ => sI_k _ _ _ _ _ (by omega), fun i _ => ⟨by rw [sI_cell _ _ _ _ _ (by decide)], by rw [sI_cell _ _ _ _ _ (by decide)], by rw [sI_cell _ _ _ _ _ (by decide)]⟩, fun i _ => by rw [sI_cell _ _ _ _ _ (by decide)], fun i _ => ⟨by rw [sI_cell _ _ _ _ _ (by decide)], by rw [sI_cell _ _ _ _ _ (by decide)], rfl⟩, rfl, fun _ _ _ => rfl⟩
/-- a program, as both hold it -/
def PGW (P s : Nat) (u v : q_W) : Prop := ∃ n pm fo fr pg ws cs, n ≤ 8 ∧ PG s pm fo fr pg n ws cs ∧ u.1 P 4 = nI n ∧ v.1 8 s = nI n ∧ u.1 P 3 = nI ws.length ∧ ws.length ≤ 1600 ∧ (∀ i, i < ws.length → u.1 (P + 1) i = ws.getD i 0) ∧ cs.length ≤ 1100 ∧ (∀ i, i < cs.length → v.1 12 (2000 * s + i) = (cs.getD i z3).1 ∧ v.1 13 (2000 * s + i) = (cs.getD i z3).2.1 ∧ v.1 14 (2000 * s + i) = (cs.getD i z3).2.2) ∧ ∀ i, i < n → u.1 (P + 2) i = nI (fo i) ∧ u.1 (P + 3) i = nI (pm i) ∧ v.1 10 (8 * s + i) = nI (pm i) ∧ v.1 11 (8 * s + i) = nI (2000 * s + fr i)
def RDO (P s : Nat) (u v : q_W) (cu rv : Option (Int32 × q_W)) : Prop := ∃ f p u' v', cu = some (nI f, u') ∧ rv = some (nI f, v') ∧ f ≤ 5 ∧ frF1 P u u' ∧ frRD s v v' ∧ (f ≠ 0 → u'.1 23 8 = p ∧ v'.1 0 17 = p ∧ v'.1 0 18 = v.1 0 18) ∧ (f = 0 → v'.1 0 17 = -1 ∧ v'.1 0 18 = nI s ∧ PGW P s u' v')
theorem RDO_t {P s : Nat} {u v u1 v1 : q_W} {cu rv : Option (Int32 × q_W)} (b1 : frF1 P u u1) (b2 : frPT s v v1) (h : RDO P s u1 v1 cu rv) : RDO P s u v cu rv := by
  obtain ⟨f, p, u', v', h1, h2, h3, h4, h5, h6, h7⟩ := h
  exact ⟨f, p, u', v', h1, h2, h3, frF1_t b1 h4, frRD_t (frRD_T b2) h5, fun c => ⟨(h6 c).1, (h6 c).2.1, by rw [(h6 c).2.2, b2.2.1 18 (by omega) (by omega) (by omega) (by omega) (by omega) (by omega) (by omega)]⟩, h7⟩
theorem frF_23 (P : Nat) (u : q_W) (k : Nat) (x : Int32) : frF1 P u (q_sI u 23 k x) := ⟨fun q h _ _ _ _ => sI_cell _ _ _ _ _ h, rfl, fun _ _ _ => rfl⟩
/-- a fault that was met -/
theorem rd_fault {P s f m : Nat} {p : Int32} {u v : q_W} (h : FC P f p u) (h' : FR s f p m v) (N M : Nat) (x : Int32) : RDO P s u v (q_it (N + 1) (fX5_readInto_h61 P) (fun _ _ => none) x u) (q_it (M + 1) fX11_read_h102 (fun _ => none) v) := by
  obtain ⟨u1, e1, a1, b1⟩ := fail_F h 1
  have n86 : fX5_readInto_n86 P u = some (nI f, u1) := by
    unfold fX5_readInto_n86 fX5_readInto_n98
    rw [h.2.2.2.2.2.2, if_neg (by decide), e1, q_b_some, a1.2.2.1, if_neg (nI_ne0 (by have := h.2.2.2.1; omega) (by have := h.2.2.2.2.1; omega))]
  have hc : q_it (N + 1) (fX5_readInto_h61 P) (fun _ _ => none) x u = some (nI f, u1) := by
    rw [q_itS, fX5_readInto_h61, h.2.2.2.2.2.2, if_neg (show ¬ (-1 : Int32) = 3 by decide), n86]
    by_cases c : 501 ≤ x
    · rw [if_pos c]
    · rw [if_neg c]
  have n0 : ¬ nI f = 0 := nI_ne0 (by have := h.2.2.2.1; omega) (by have := h.2.2.2.2.1; omega)
  have nl : ¬ nI f ≤ 0 := nI_nle (by have := h.2.2.2.1; omega) (by have := h.2.2.2.2.1; omega)
  have hr : q_it (M + 1) fX11_read_h102 (fun _ => none) v = some (nI f, q_sI v 0 17 p) := by
    rw [q_itS, fX11_read_h102, h'.2.2.2.1, if_neg n0]
    unfold fX11_read_n124 fX11_read_n154
    rw [h'.2.2.2.1, if_neg nl, h'.2.2.2.2.1, q_lt_eq, sI_k _ _ _ _ _ (show 13 ≠ 17 by decide), h'.2.2.2.1, if_neg nl]
  have := h.2.2.2.1
  have := h.2.2.2.2.1
  exact ⟨f, p, u1, _, hc, hr, by omega, frF1_1 b1, frRD_0 s v 17 p (by omega), fun _ => ⟨a1.2.2.2.2.2.1, sI_same _ _ _ _, sI_k _ _ _ _ _ (by decide)⟩, fun c => absurd c (by omega)⟩
theorem adN_pos : ∀ (ns : List (Nat × Int32)) (L : Nat × Int32), okNs ns → L.1 ≠ 0 → (adN ns L).1 ≠ 0 := by
  intro ns
  induction ns with
  | nil => intro L _ h; exact h
  | cons y ns ih =>
    intro L h _
    exact ih _ (fun z hz => h z (List.mem_cons_of_mem _ hz)) (noteL_ne (h y List.mem_cons_self).1)
theorem adN_same {ns : List (Nat × Int32)} (h : okNs ns) (hn : ns ≠ []) (x y : Int32) : adN ns (0, x) = adN ns (0, y) ∧ (adN ns (0, x)).1 ≠ 0 := by
  cases ns with
  | nil => exact absurd rfl hn
  | cons z ns =>
    have e : ∀ w : Int32, noteL z (0, w) = z := fun w => if_pos rfl
    refine ⟨?_, ?_⟩
    · rw [adN_cons, adN_cons, e, e]
    · rw [adN_cons, e]
      have := (h z List.mem_cons_self).1
      exact adN_pos ns z (fun w hw => h w (List.mem_cons_of_mem _ hw)) (by omega)
/-- the text ends where it may -/
theorem rd_end {P T s t : Nat} {x1 x2 : Int32} {ws : List Int32} {cs : List Tr} {pl : List (List Nat)} {pm fo fr : Nat → Nat} {pg : Nat → List AI} {ns : List (Nat × Int32)} {u v : q_W} (X : TX P T s t (adN ns (0, x1)) (adN ns (0, x2)) ws cs pl pm fo fr pg ns u v) (ho : okNs ns) (h3 : v.1 3 t = nI 0) (h26 : u.1 26 t = 0) (N M : Nat) (x : Int32) : RDO P s u v (q_it (N + 1) (fX5_readInto_h61 P) (fun _ _ => none) x u) (q_it (M + 1) fX11_read_h102 (fun _ => none) v) := by
  obtain ⟨y1, y2, y3, y4, y5, y6, y7, y8, y9, y10⟩ := X
  have hT := y1.1
  have hP := y3.1
  have hne := isP_ne hP
  have i0 : fX11_is 0 v = some (1, v) := isR1 (k := 0) y4 (by omega) h3
  obtain ⟨c1, c2, c3, c4, c5, c6, c7, c8, c9, c10, c11⟩ := y3
  obtain ⟨D1, D2, D3, D4, D5, D6, D7, D8⟩ := y2
  have hc : q_it (N + 1) (fX5_readInto_h61 P) (fun _ _ => none) x u = some (nI (adN ns (0, x1)).1, q_sI (q_sI u 23 7 (nI (adN ns (0, x1)).1)) 23 8 (u.1 23 10)) := by
    have n86 : fX5_readInto_n86 P u = some (nI (adN ns (0, x1)).1, q_sI (q_sI u 23 7 (nI (adN ns (0, x1)).1)) 23 8 (u.1 23 10)) := by
      unfold fX5_readInto_n86 fX5_readInto_n98
      rw [c4, h26, if_pos rfl, c6, if_pos rfl, c7, q_lt_eq, q_lt_eq, sI_k _ _ _ _ _ (show 7 ≠ 8 by decide), sI_same, sI_k _ _ _ _ _ (show 10 ≠ 7 by decide)]
    rw [q_itS, fX5_readInto_h61, c4, h26, if_neg (show ¬ (0 : Int32) = 3 by decide), n86]
    by_cases c : 501 ≤ x
    · rw [if_pos c]
    · rw [if_neg c]
  have hr0 : q_it (M + 1) fX11_read_h102 (fun _ => none) v = fX11_read_n124 v := by
    rw [q_itS, fX11_read_h102, y4.2.2.1, if_pos rfl, i0, q_b_some, if_neg i_10]
  have fu : frF1 P u (q_sI (q_sI u 23 7 (nI (adN ns (0, x1)).1)) 23 8 (u.1 23 10)) := frF1_t (frF_23 P u 7 _) (frF_23 P _ 8 _)
  by_cases hns : ns = []
  · subst hns
    have hr : fX11_read_n124 v = some (0, q_sI (q_sI v 0 17 (-1)) 0 18 (nI s)) := by
      have h15 : v.1 0 15 = 0 := y4.2.2.2.1
      unfold fX11_read_n124 fX11_read_n154
      rw [y4.2.2.1, if_pos (show (0 : Int32) ≤ 0 by decide), h15, if_pos (show (0 : Int32) ≤ 0 by decide), q_lt_eq, sI_k _ _ _ _ _ (show 13 ≠ 17 by decide), y4.2.2.1, if_pos (show (0 : Int32) ≤ 0 by decide), sI_k _ _ _ _ _ (show 15 ≠ 17 by decide), h15, if_pos (show (0 : Int32) ≤ 0 by decide), sI_k _ _ _ _ _ (show 19 ≠ 17 by decide), D7, q_lt_eq]
    refine ⟨0, 0, _, _, hc, hr0.trans hr, by omega, fu, frRD_t (frRD_0 s v 17 _ (by omega)) (frRD_0 s _ 18 _ (by omega)), fun c => absurd rfl c, fun _ => ⟨by rw [sI_k _ _ _ _ _ (by decide), sI_same], sI_same _ _ _ _, pl.length, pm, fo, fr, pg, ws, cs, D4, y10 rfl, ?_, ?_, ?_, by omega, fun i hi => ?_, by omega, fun i hi => ?_, fun i hi => ?_⟩⟩
    · rw [sI_cell _ _ _ _ P hne.1, sI_cell _ _ _ _ P hne.1, D5]
    · rw [sI_cell _ _ _ _ 8 (by decide), sI_cell _ _ _ _ 8 (by decide), D6]
    · rw [sI_cell _ _ _ _ P hne.1, sI_cell _ _ _ _ P hne.1, c10]
    · rw [sI_cell _ _ _ _ _ hne.2.1, sI_cell _ _ _ _ _ hne.2.1, c11 i hi]
    · rw [sI_cell _ _ _ _ 12 (by decide), sI_cell _ _ _ _ 12 (by decide), sI_cell _ _ _ _ 13 (by decide), sI_cell _ _ _ _ 13 (by decide), sI_cell _ _ _ _ 14 (by decide), sI_cell _ _ _ _ 14 (by decide)]
      exact y4.2.2.2.2.2.1.2 i hi
    · obtain ⟨_, _, _, z1, z2, _⟩ := D8 i hi
      obtain ⟨z3, z4⟩ := y9 i hi
      have n2 : P + 2 ≠ 23 ∧ P + 3 ≠ 23 := by rcases hP with e | e <;> omega
      rw [sI_cell _ _ _ _ _ n2.1, sI_cell _ _ _ _ _ n2.1, sI_cell _ _ _ _ _ n2.2, sI_cell _ _ _ _ _ n2.2, sI_cell _ _ _ _ 10 (by decide), sI_cell _ _ _ _ 10 (by decide), sI_cell _ _ _ _ 11 (by decide), sI_cell _ _ _ _ 11 (by decide)]
      exact ⟨z3, z1, z2, z4⟩
  · obtain ⟨e1, e2⟩ := adN_same ho hns x1 x2
    have h5 : (adN ns (0, x1)).1 ≤ 5 := adN_5 ns _ ho (by show 0 ≤ 5; omega)
    rw [← e1] at y4
    have h15 : v.1 0 15 = nI (adN ns (0, x1)).1 := y4.2.2.2.1
    have nl : ¬ nI (adN ns (0, x1)).1 ≤ 0 := nI_nle (by omega) (by omega)
    have hr : fX11_read_n124 v = some (nI (adN ns (0, x1)).1, q_sI v 0 17 (adN ns (0, x1)).2) := by
      unfold fX11_read_n124 fX11_read_n154
      rw [y4.2.2.1, if_pos (show (0 : Int32) ≤ 0 by decide), h15, if_neg nl, y4.2.2.2.2.1 e2, q_lt_eq, sI_k _ _ _ _ _ (show 13 ≠ 17 by decide), y4.2.2.1, if_pos (show (0 : Int32) ≤ 0 by decide), sI_k _ _ _ _ _ (show 15 ≠ 17 by decide), h15, if_neg nl]
    exact ⟨_, (adN ns (0, x1)).2, _, _, hc, hr0.trans hr, h5, fu, frRD_0 s v 17 _ (by omega), fun _ => ⟨by rw [sI_same, c9 e2], sI_same _ _ _ _, sI_k _ _ _ _ _ (by decide)⟩, fun c => absurd c e2⟩
theorem rd_lok {P T s : Nat} {x1 x2 : Int32} : ∀ (K c N M t : Nat) (ws : List Int32) (cs : List Tr) (pl : List (List Nat)) (pm fo fr : Nat → Nat) (pg : Nat → List AI) (ns : List (Nat × Int32)) (u v : q_W), T < t + K → TX P T s t (adN ns (0, x1)) (adN ns (0, x2)) ws cs pl pm fo fr pg ns u v → okNs ns → c ≤ t → 502 < N + t → 502 < M + t → RDO P s u v (q_it N (fX5_readInto_h61 P) (fun _ _ => none) (nI c) u) (q_it M fX11_read_h102 (fun _ => none) v) := by
  intro K
  induction K with
  | zero =>
    intro c N M t ws cs pl pm fo fr pg ns u v h1 X
    have := X.2.2.2.2.2.1
    omega
  | succ K ih =>
    intro c N M t ws cs pl pm fo fr pg ns u v h1 X ho hc hN hM
    have X0 := X
    obtain ⟨y1, y2, y3, y4, y5, y6, y7, y8, y9, y10⟩ := X
    have hT := y1.1
    have hP := y3.1
    obtain ⟨N, rfl⟩ : ∃ X, N = X + 1 := ⟨N - 1, by omega⟩
    obtain ⟨M, rfl⟩ : ∃ X, M = X + 1 := ⟨M - 1, by omega⟩
    obtain ⟨r, q1, q2, q3, q4, q5, q6, q7⟩ := tknT (T := T) ⟨y1, trivial⟩ y6
    clear q5 q6
    by_cases c0 : r = 0
    · subst c0
      exact rd_end X0 ho q2 q3 N M (nI c)
    · have i0 : fX11_is 0 v = some (0, v) := isR0 (k := 0) y4 (by omega) q2 q1 (by decide) c0
      have hrv : q_it (M + 1) fX11_read_h102 (fun _ => none) v = q_b (fX11_tellPattern v) fun _ w4 => q_it M fX11_read_h102 (fun _ => none) w4 := by
        rw [q_itS, fX11_read_h102, y4.2.2.1, if_pos rfl, i0, q_b_some, if_pos rfl]
      have n501 : ¬ (501 : Int32) ≤ nI c := by rw [show (501 : Int32) = nI 501 from rfl, nI_leI (by omega) (by omega)]; omega
      by_cases c20 : r = 20
      · subst c20
        have hcu : q_it (N + 1) (fX5_readInto_h61 P) (fun _ _ => none) (nI c) u = q_b (fX5_readPattern u) fun _ w2 => q_it N (fX5_readInto_h61 P) (fun _ _ => none) (nI (c + 1)) w2 := by
          rw [q_itS, fX5_readInto_h61, if_neg n501, y3.2.2.2.1, q3, if_pos (show km 20 = 3 from rfl)]
          unfold q_lt
          rw [nI_1]
        rw [hcu, hrv]
        obtain ⟨N, rfl⟩ : ∃ X, N = X + 1 := ⟨N - 1, by omega⟩
        obtain ⟨M, rfl⟩ : ∃ X, M = X + 1 := ⟨M - 1, by omega⟩
        rcases pat_ok X0 q2 with ⟨u', v', t', l, m, B, nb, w1, w2, w3, w4, w5, w6, w7⟩ | ⟨f, p, u', v', m, w1, w2, w3, w4, w5, w6⟩
        · rw [w1, q_b_some, w2, q_b_some]
          rw [← adN_app, ← adN_app] at w3
          exact RDO_t w6 w7 (ih (c + 1) (N + 1) (M + 1) t' _ _ _ _ _ _ _ _ u' v' (by omega) w3 (okNs_app ho w5) (by omega) (by omega) (by omega))
        · rw [w1, q_b_some, w4, q_b_some]
          exact RDO_t w3 w6 (rd_fault w2 w5 N M _)
      · -- what no pattern begins with
        obtain ⟨u1, e1, a1, b1⟩ := fail_st y3 1 (by omega)
        have e1 : fX5_fail 1 u = some ((), u1) := e1
        have k3 : ¬ km r = 3 := km_ne (b := 20) q1 (Or.inr (Or.inl (by omega))) c20
        have k0 : ¬ km r = 0 := km_ne (b := 0) q1 (Or.inr (Or.inr rfl)) c0
        have i20 : fX11_is 20 v = some (0, v) := isR0 y4 (by omega) q2 q1 20 (by decide) c20
        obtain ⟨v1, e2, a2, b2⟩ := must_no y4 (by omega) (k := nI 20) (by rw [q2]; have := rOK_35 q1; exact nI_ne (by omega) (by omega) c20) 40 (by show 0 ≤ 40; omega) (by omega) (by omega)
        have e2 : fX11_must 20 v = some ((), v1) := e2
        have hte : fX11_tellPattern v = some ((), v1) := by
          unfold fX11_tellPattern fX11_tellPattern_n28
          rw [i20, q_b_some, if_pos rfl, e2, q_b_some, q_lt_eq, must_F a2, q_b_some, a2.2.2.2.1, if_neg (by decide)]
        have hcu : q_it (N + 1) (fX5_readInto_h61 P) (fun _ _ => none) (nI c) u = some (nI 1, u1) := by
          rw [q_itS, fX5_readInto_h61, if_neg n501, y3.2.2.2.1, q3, if_neg k3]
          unfold fX5_readInto_n86 fX5_readInto_n98
          rw [y3.2.2.2.1, q3, if_neg k0, e1, q_b_some, a1.2.2.1, if_neg (by decide)]
        obtain ⟨M, rfl⟩ : ∃ X, M = X + 1 := ⟨M - 1, by omega⟩
        have hrv2 : q_it (M + 1) fX11_read_h102 (fun _ => none) v1 = some (nI 1, q_sI v1 0 17 (v.1 4 t)) := by
          rw [q_itS, fX11_read_h102, a2.2.2.2.1, if_neg (by decide)]
          unfold fX11_read_n124 fX11_read_n154
          rw [a2.2.2.2.1, if_neg (by decide), a2.2.2.2.2.1, q_lt_eq, sI_k _ _ _ _ _ (show 13 ≠ 17 by decide), a2.2.2.2.1, if_neg (by decide)]
        rw [hcu, hrv, hte, q_b_some, hrv2]
        exact ⟨1, v.1 4 t, u1, _, rfl, rfl, by omega, frF1_1 b1, frRD_t (frRD_T (frPT_1 b2)) (frRD_0 s v1 17 _ (by omega)), fun _ => ⟨by rw [a1.2.2.2.2.2.1, q4], sI_same _ _ _ _, by rw [sI_k _ _ _ _ _ (by decide), b2.2.1 18 (by omega) (by omega) (by omega)]⟩, fun c => absurd c (by omega)⟩
