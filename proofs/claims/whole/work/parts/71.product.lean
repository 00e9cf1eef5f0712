/-! products, both sides -/
theorem turn_stop {s t op : Nat} {L : Nat × Int32} {cs : List Tr} {W : List Nat} {v : q_W} (h : PR s t L cs W op v) (hs : W = [] ∨ ∃ U k, W = U ++ [k] ∧ k ≠ 1 ∧ k < 100) (K : Nat) : q_it (K + 1) fX11_turnsRound_h0 (fun _ => none) v = some ((), v) := by
  rcases hs with rfl | ⟨U, k, rfl, hk, hk2⟩
  · rw [q_itS, fX11_turnsRound_h0, h.2.2.2.2.2.2.1.1, if_pos (show nI ([] : List Nat).length ≤ 0 by decide)]
  · obtain ⟨w1, w2, w3⟩ := wt_pop h.2.2.2.2.2.2.1
    rw [q_itS, fX11_turnsRound_h0, w1, if_neg (nI_nle (by omega) (by omega)), nI_pred, q_lt_eq, if_pos (q_inb_nI (by omega) (by omega)), q_ix_nI (by omega), w3, if_neg (show ¬ nI k = 1 from nI_ne (b := 1) (by omega) (by decide) hk)]
theorem turn_pop {s t op : Nat} {L : Nat × Int32} {cs : List Tr} {W : List Nat} {v : q_W} (h : PR s t L cs (W ++ [1]) (op + 1) v) (hc : cs.length < 2000) (K : Nat) : ∃ v', q_it (K + 1) fX11_turnsRound_h0 (fun _ => none) v = q_it K fX11_turnsRound_h0 (fun _ => none) v' ∧ PR s t L (cs ++ [(7, 0, 0)]) W op v' ∧ frR1 s v v' := by
  obtain ⟨w1, w2, w3⟩ := wt_pop h.2.2.2.2.2.2.1
  have h1 : PR s t L cs W op (q_sI (q_sI v 0 38 (nI W.length)) 0 12 (nI op)) := by
    obtain ⟨a1, a2, a3, a4, a5, a6, a7, a8⟩ := h
    refine ⟨a1, by rw [sI_k _ _ _ _ _ (by decide), sI_k _ _ _ _ _ (by decide), a2], by rw [sI_k _ _ _ _ _ (by decide), sI_k _ _ _ _ _ (by decide), a3], by rw [sI_k _ _ _ _ _ (by decide), sI_k _ _ _ _ _ (by decide), a4], fun g => by rw [sI_k _ _ _ _ _ (by decide), sI_k _ _ _ _ _ (by decide), a5 g], ⟨by rw [sI_k _ _ _ _ _ (by decide), sI_k _ _ _ _ _ (by decide), a6.1], fun i hi => by rw [sI_cell _ _ _ _ 12 (by decide), sI_cell _ _ _ _ 13 (by decide), sI_cell _ _ _ _ 14 (by decide), sI_cell _ _ _ _ 12 (by decide), sI_cell _ _ _ _ 13 (by decide), sI_cell _ _ _ _ 14 (by decide)]; exact a6.2 i hi⟩, ⟨by rw [sI_k _ _ _ _ _ (by decide), sI_same], by omega, fun i hi => ?_⟩, sI_same _ _ _ _⟩
    rw [sI_cell _ _ _ _ _ (by decide), sI_cell _ _ _ _ _ (by decide), a7.2.2 i (by rw [List.length_append]; show i < W.length + 1; omega), snoc_lt hi]
  obtain ⟨v', e, a, b⟩ := emit_st h1 hc ((7, 0, 0) : Tr)
  have e : fX11_emit 7 0 0 (q_sI (q_sI v 0 38 (nI W.length)) 0 12 (nI op)) = some ((), v') := e
  refine ⟨v', ?_, a, frR1_t (frR1_0 s v 38 _ (by omega)) (frR1_t (frR1_0 s _ 12 _ (by omega)) b)⟩
  have e12 : (q_sI v 0 38 (nI W.length)).1 0 12 - 1 = nI op := by rw [sI_k _ _ _ _ _ (by decide), h.2.2.2.2.2.2.2, nI_pred]
  rw [q_itS, fX11_turnsRound_h0, w1, if_neg (nI_nle (by omega) (by omega)), nI_pred, q_lt_eq, if_pos (q_inb_nI (by omega) (by omega)), q_ix_nI (by omega), w3, if_pos (show nI 1 = 1 from rfl), q_lt_eq, q_lt_eq, e12, e, q_b_some]
theorem unit_F {P f : Nat} {p : Int32} {u : q_W} (h : FC P f p u) (rU rS : Int32 → q_W → Option (Unit × q_W)) (x : Int32) : ∃ u', fX5_readUnit rU rS x u = some ((), u') ∧ FC P f p u' ∧ frP1 P u u' := by
  obtain ⟨u', e, a, b⟩ := fail_F h 1
  unfold fX5_readUnit
  rw [h.2.2.2.2.2.2, if_neg (by decide), if_neg (by decide), if_neg (by decide), if_neg (by decide), e, q_b_some]
  exact ⟨u', rfl, a, b⟩
theorem prodL_F {P f : Nat} {p : Int32} {u : q_W} (h : FC P f p u) (rU : Int32 → q_W → Option (Unit × q_W)) (x c : Int32) (N : Nat) : q_it (N + 1) (fX5_readProduct_h7 rU) (fun _ _ _ => none) x c u = some ((), u) := by
  rw [q_itS, fX5_readProduct_h7, h.2.2.2.2.2.2]
  by_cases h1 : 501 ≤ c
  · rw [if_pos h1]
  · rw [if_neg h1, if_neg (by decide), if_neg (by decide), if_neg (by decide)]
theorem sumL_F {P f : Nat} {p : Int32} {u : q_W} (h : FC P f p u) (rP : Int32 → q_W → Option (Unit × q_W)) (x c : Int32) (N : Nat) : q_it (N + 1) (fX5_readSum_h7 rP) (fun _ _ _ => none) x c u = some ((), u) := by
  rw [q_itS, fX5_readSum_h7, h.2.2.2.2.2.2]
  by_cases h1 : 501 ≤ c
  · rw [if_pos h1]
  · rw [if_neg h1, if_neg (by decide), if_neg (by decide)]
theorem q_unit_S (n : Nat) : q_unit (n + 1) = fX5_readUnit (q_unit n) (fX5_readSum (fX5_readProduct (q_unit n))) := rfl
theorem prod_F {P f n : Nat} {p : Int32} {u : q_W} (h : FC P f p u) (x : Int32) : ∃ u', fX5_readProduct (q_unit (n + 1)) x u = some ((), u') ∧ FC P f p u' ∧ frP1 P u u' := by
  obtain ⟨u', e, a, b⟩ := unit_F h (q_unit n) (fX5_readSum (fX5_readProduct (q_unit n))) x
  unfold fX5_readProduct fX5_readProduct_l7
  rw [q_unit_S, e, q_b_some]
  exact ⟨u', prodL_F a _ _ _ 3999999999, a, b⟩
theorem sum_F {P f n : Nat} {p : Int32} {u : q_W} (h : FC P f p u) (x : Int32) : ∃ u', fX5_readSum (fX5_readProduct (q_unit (n + 1))) x u = some ((), u') ∧ FC P f p u' ∧ frP1 P u u' := by
  obtain ⟨u', e, a, b⟩ := prod_F (n := n) h x
  unfold fX5_readSum fX5_readSum_l7
  rw [e, q_b_some]
  exact ⟨u', sumL_F a _ _ _ 3999999999, a, b⟩
/-- a sign is met between units: the reference's step -/
theorem sign_st {s t d r : Nat} {L : Nat × Int32} {cs : List Tr} {W pd : List Nat} {v : q_W} (hR : PR s t L cs (W ++ pd) d v) (ht : t ≤ 500) (hc : cs.length + pd.length ≤ 1400) (hW : W.length + 1 ≤ 39) (h3 : v.1 3 t = nI r) (hr : isOp r) (x : Int32) (hx : (stOp r ∧ x = 1) ∨ (¬ stOp r ∧ x = 0)) (hs : stops W x) (hp : ∀ k, k ∈ pd → isOp k ∧ (stOp k ∨ x = 0)) (N M : Nat) (b o : Int32) : (t < 500 ∧ ∃ v', Z31 (N + 1) (M + 1) b o v = X20 N q_N b o v' ∧ PR s (t + 1) L (cs ++ trs (opIts pd)) (W ++ [r]) d v' ∧ frR1 s v v') ∨ (t = 500 ∧ ∃ v', Z31 (N + 1) (M + 1) b o v = some ((), v') ∧ FR s 2 (v.1 4 t) 40 v' ∧ frR1 s v v') := by
  have hrr : rOK r := by rcases hr with rfl | rfl | rfl | rfl | rfl <;> exact Or.inl (by omega)
  have eZ : Z31 (N + 1) (M + 1) b o v = fX11_expression_n288 (R9 (N + 1)) b o 1 x v := by
    have i7 : fX11_is 7 v = some (0, v) := by rw [show (7 : Int32) = nI 7 from rfl, isR hR ht h3 hrr 7 (by decide), if_neg (by rcases hr with rfl | rfl | rfl | rfl | rfl <;> decide)]
    have i8 : fX11_is 8 v = some (if r = 8 then 1 else 0, v) := isR hR ht h3 hrr 8 (by decide)
    have i9 : fX11_is 9 v = some (if r = 9 then 1 else 0, v) := isR hR ht h3 hrr 9 (by decide)
    have i10 : fX11_is 10 v = some (if r = 10 then 1 else 0, v) := isR hR ht h3 hrr 10 (by decide)
    have i15 : fX11_is 15 v = some (if r = 15 then 1 else 0, v) := isR hR ht h3 hrr 15 (by decide)
    have i16 : fX11_is 16 v = some (if r = 16 then 1 else 0, v) := isR hR ht h3 hrr 16 (by decide)
    have e228 : fX11_expression_n228 (R9 (N + 1)) b o v = fX11_expression_n288 (R9 (N + 1)) b o 1 x v := by
      unfold fX11_expression_n228 fX11_expression_n233 fX11_expression_n287
      rw [if_neg i_10, i8, q_b_some]
      by_cases c8 : r = 8
      · have : x = 0 := by
          rcases hx with ⟨c, _⟩ | ⟨_, c⟩
          · unfold stOp at c; omega
          · exact c
        rw [if_pos c8, if_neg i_10, this]
      · rw [if_neg c8, if_pos rfl, i9, q_b_some]
        by_cases c9 : r = 9
        · have : x = 0 := by
            rcases hx with ⟨c, _⟩ | ⟨_, c⟩
            · unfold stOp at c; omega
            · exact c
          rw [if_pos c9, if_neg i_10, this]
        · have : x = 1 := by
            rcases hx with ⟨_, c⟩ | ⟨c, _⟩
            · exact c
            · exact absurd (show stOp r by unfold isOp at hr; unfold stOp; omega) c
          rw [if_neg c9, if_pos rfl, this]
    rw [← e228]
    unfold Z31
    rw [q_itS, fX11_expression_h131, i7, q_b_some, if_pos rfl]
    unfold fX11_expression_n183
    rw [i8, q_b_some]
    by_cases c8 : r = 8
    · rw [if_pos c8, if_neg i_10]
    · rw [if_neg c8, if_pos rfl, i9, q_b_some]
      by_cases c9 : r = 9
      · rw [if_pos c9, if_neg i_10]
      · rw [if_neg c9, if_pos rfl, i10, q_b_some]
        by_cases c10 : r = 10
        · rw [if_pos c10, if_neg i_10]
        · rw [if_neg c10, if_pos rfl, i15, q_b_some]
          by_cases c15 : r = 15
          · rw [if_pos c15, if_neg i_10]
          · have c16 : r = 16 := by unfold isOp at hr; omega
            rw [if_neg c15, if_pos rfl, i16, q_b_some, if_pos c16, if_neg i_10]
  rw [eZ]
  obtain ⟨v1, e1, a1, b1⟩ := comeAll x hs hR (by omega) hp
  obtain ⟨a2, b2⟩ := push_wt a1 (by omega) r (Or.inl rfl) (fun _ => rfl) (w := v1)
  have hw38 : (q_sI v1 20 W.length (nI r)).1 0 38 = nI W.length := by rw [sI_cell _ _ _ _ _ (by decide), a1.2.2.2.2.2.2.1.1]
  have hk3 : v1.1 3 t = nI r := by rw [(frR4 b1).1]; exact h3
  unfold fX11_expression_n288
  rw [e1, q_b_some, a1.2.1, q_lt_eq, if_pos (q_inb_nI (by omega) (by omega)), a1.2.2.2.2.2.2.1.1, q_lt_eq, if_pos (q_inb_nI (by omega) (by omega)), q_lt_eq, q_lt_eq, q_ix_nI (show t < 2 ^ 31 by omega), q_ix_nI (show W.length < 2 ^ 31 by omega), hk3, hw38, nI_1]
  have hlen : (trs (opIts pd)).length = pd.length := by unfold trs opIts; rw [List.length_map, List.length_map, List.length_reverse]
  by_cases h5 : t = 500
  · right
    subst h5
    obtain ⟨v3, e3, a3, b3⟩ := next_room a2 40 (by rw [List.length_append]; show W.length + 1 ≤ 40; omega) (by omega) (by rw [List.length_append, hlen]; omega)
    have e9 : R9 (N + 1) b o 1 v3 = some ((), v3) := by
      unfold R9
      rw [q_itS, fX11_expression_h9, if_neg i_10, a3.2.2.2.1, if_neg (by decide)]
    rw [e3, q_b_some, e9]
    refine ⟨rfl, v3, rfl, ?_, frR1_t b1 (frR1_t b2 b3)⟩
    rw [(frR4 b2).2.1, (frR4 b1).2.1] at a3
    exact a3
  · left
    obtain ⟨v3, e3, a3, b3⟩ := next_st a2 (by omega)
    have e9 : R9 (N + 1) b o 1 v3 = X20 N q_N b o v3 := by
      unfold R9
      rw [q_itS, fX11_expression_h9, if_neg i_10, a3.2.2.1, if_pos rfl]
      rfl
    rw [e3, q_b_some, e9]
    exact ⟨by omega, v3, rfl, a3, frR1_t b1 (frR1_t b2 b3)⟩
theorem opIts_nil : opIts [] = [] := rfl
theorem opIts_one (k : Nat) : opIts [k] = [opIt k] := rfl
theorem opIts_len (pd : List Nat) : (wds (opIts pd)).length = pd.length ∧ (opIts pd).length = pd.length := by
  constructor
  · unfold opIts
    generalize hq : pd.reverse = q
    have : q.length = pd.length := by rw [← hq, List.length_reverse]
    rw [← this]
    clear hq this
    induction q with
    | nil => rfl
    | cons k q ih =>
      show (wds (opIt k :: q.map opIt)).length = q.length + 1
      have e : wds (opIt k :: q.map opIt) = (opIt k).1 ++ wds (q.map opIt) := rfl
      rw [e, List.length_append, opIt_len, ih]
      omega
  · unfold opIts; rw [List.length_map, List.length_reverse]
def stP (W : List Nat) : Prop := W = [] ∨ ∃ U k, W = U ++ [k] ∧ (k = 6 ∨ k = 8 ∨ k = 9)
theorem stP_1 {W : List Nat} (h : stP W) : stops W 1 := by
  rcases h with h | ⟨U, k, e, c⟩
  · exact Or.inl h
  · refine Or.inr ⟨U, k, e, ?_⟩
    rcases c with c | c | c
    · exact Or.inl c
    · exact Or.inr (Or.inr ⟨Or.inl c, rfl⟩)
    · exact Or.inr (Or.inr ⟨Or.inr c, rfl⟩)
def one (ps : List Nat) : Prop := ps = [] ∨ ∃ k, stOp k ∧ ps = [k]
def noStr (v : q_W) (t : Nat) : Prop := ¬ v.1 3 t = 10 ∧ ¬ v.1 3 t = 15 ∧ ¬ v.1 3 t = 16
theorem prod_lok {P T s n d : Nat} {nl : List (List Nat)} {sl : Nat → Nat} (hU : UL P T s nl sl (n + 1) d) (hd : d ≤ 6) (b : Int32) (o : Nat) (ho : o ≤ d) : ∀ K t ps c N9 M N L1 L2 ws cs W u v, T < t + K → EC T s nl sl u v → PC P t L1 (ws ++ wds (opIts ps)) u → PR s t L2 cs (W ++ ps) d v → L2.1 ≤ 5 → t ≤ T → ws.length + ps.length ≤ 3 * t + 30 → cs.length + ps.length ≤ 2 * t + 30 → W.length ≤ 3 * d + 2 → one ps → stP W → c ≤ t → 501 < N + c → 501 < N9 + t → q_N ≤ M + (7 - d) → (∃ ps', one ps' ∧ XOK P T s t d L1 L2 ws cs W nl sl u v ps' ps.length (bU d + 1) (1 + ps.length) N9 (fun _ N M w => Z31 N M b (nI o) w) (noStr v) (q_it N (fX5_readProduct_h7 (q_unit (n + 1))) (fun _ _ _ => none) (nI d) (nI c) u) (Z31 N9 M b (nI o) v)) ∨ XF P s u v (q_it N (fX5_readProduct_h7 (q_unit (n + 1))) (fun _ _ _ => none) (nI d) (nI c) u) (Z31 N9 M b (nI o) v) := by
  intro K
  induction K with
  | zero => intro t ps c N9 M N L1 L2 ws cs W u v h1 E hC hR hL ht; omega
  | succ K ih =>
    intro t ps c N9 M N L1 L2 ws cs W u v h1 E hC hR hL ht hw hc hW hone hst hct hN hN9 hM
    have hT := E.1.1
    have hNb : q_N = 4000000000 := rfl
    obtain ⟨N, rfl⟩ : ∃ X, N = X + 1 := ⟨N - 1, by omega⟩
    obtain ⟨N9, rfl⟩ : ∃ X, N9 = X + 1 := ⟨N9 - 1, by omega⟩
    obtain ⟨M, rfl⟩ : ∃ X, M = X + 1 := ⟨M - 1, by omega⟩
    obtain ⟨r, q1, q2, q3, q4, q5, q6, q7⟩ := tkn E ht
    clear q5 q6
    have hlo := opIts_len ps
    rw [q_itS, fX5_readProduct_h7, if_neg (by rw [show (501 : Int32) = nI 501 from rfl, nI_leI (by omega) (by omega)]; omega), hC.2.2.2.1, q3]
    by_cases hs : stOp r
    · have hop : isOp r := by unfold stOp at hs; unfold isOp; omega
      have ex : ∃ s0, (opIt r).1 = [s0] ∧ (if km r = 42 then fX5_readProduct_n41 (q_unit (n + 1)) (q_it N (fX5_readProduct_h7 (q_unit (n + 1))) (fun _ _ _ => none)) (nI d) (nI c) u else if km r = 47 then fX5_readProduct_n41 (q_unit (n + 1)) (q_it N (fX5_readProduct_h7 (q_unit (n + 1))) (fun _ _ _ => none)) (nI d) (nI c) u else if km r = 37 then fX5_readProduct_n41 (q_unit (n + 1)) (q_it N (fX5_readProduct_h7 (q_unit (n + 1))) (fun _ _ _ => none)) (nI d) (nI c) u else some ((), u)) = fX5_readProduct_n71 (q_unit (n + 1)) (q_it N (fX5_readProduct_h7 (q_unit (n + 1))) (fun _ _ _ => none)) (nI d) (nI c) s0 u := by
        unfold fX5_readProduct_n41
        rw [hC.2.2.2.1, q3]
        rcases hs with rfl | rfl | rfl
        · exact ⟨7, rfl, by rw [if_pos (show km 10 = 42 from rfl), if_pos (show km 10 = 42 from rfl)]⟩
        · exact ⟨8, rfl, by rw [if_neg (show ¬ km 15 = 42 by decide), if_pos (show km 15 = 47 from rfl), if_neg (show ¬ km 15 = 42 by decide), if_pos (show km 15 = 47 from rfl)]⟩
        · exact ⟨9, rfl, by rw [if_neg (show ¬ km 16 = 42 by decide), if_neg (show ¬ km 16 = 47 by decide), if_pos (show km 16 = 37 from rfl), if_neg (show ¬ km 16 = 42 by decide), if_neg (show ¬ km 16 = 47 by decide)]⟩
      obtain ⟨s0, hs0, ex⟩ := ex
      rw [ex]
      unfold fX5_readProduct_n71
      rw [hC.2.2.2.1]
      have hpl : ps.length ≤ 1 := by rcases hone with rfl | ⟨k, _, rfl⟩; exact Nat.zero_le 1; exact Nat.le_refl 1
      have hps : ∀ k, k ∈ ps → isOp k ∧ (stOp k ∨ (1 : Int32) = 0) := by
        intro k hk
        rcases hone with rfl | ⟨j, hj, rfl⟩
        · cases hk
        · rw [List.mem_singleton.mp hk]
          exact ⟨by unfold stOp at hj; unfold isOp; omega, Or.inl hj⟩
      rcases sign_st hR (by omega) (by omega) (by omega) q2 hop 1 (Or.inl ⟨hs, rfl⟩) (stP_1 hst) hps N9 M b (nI o) with ⟨h5, v1, e1, a1, b1⟩ | ⟨h5, v1, e1, a1, b1⟩
      · have hlt := q7 (by unfold stOp at hs; omega) (by unfold stOp at hs; omega) h5
        obtain ⟨u1, e2, a2, b2⟩ := take_st hC h5 (k := u.1 26 t) rfl
        have E1 := EC_fr hC.1 E b2 b1
        have hl0 : (trs (opIts ps)).length = ps.length := by unfold trs; rw [List.length_map]; exact hlo.2
        rcases hU N9 q_N o (t + 1) L1 L2 (ws ++ wds (opIts ps)) (cs ++ trs (opIts ps)) (W ++ [r]) u1 v1 b E1 a2 a1 hL (by omega) (by rw [List.length_append]; omega) (by rw [List.length_append]; omega) (by rw [List.length_append]; show W.length + 1 ≤ _; omega) (by omega) (by omega) ho with ok | bad
        · obtain ⟨u2, t2, es, ns, v2, K2, N2, M2, f1, f2, f3, f4, f5, f6, f7, f8, f9, f10, f11, f12, f13, f14, f15, f16, _⟩ := ok
          rw [opIts_nil, List.append_nil] at f2 f16
          rw [List.append_nil] at f8
          have f7 : X20 N9 q_N b (nI o) v1 = Y31k K2 N2 M2 b (nI o) v2 := f7
          obtain ⟨K2, rfl⟩ : ∃ X, K2 = X + 1 := ⟨K2 - 1, by omega⟩
          have eY : Y31k (K2 + 1) N2 M2 b (nI o) v2 = Z31 N2 M2 b (nI o) v2 := by
            unfold Y31k
            rw [turn_stop f8 (Or.inr ⟨W, r, rfl, by unfold stOp at hs; omega, by unfold stOp at hs; omega⟩), q_b_some]
          have f13' : (wds es).length + 0 ≤ 2 * (t2 - (t + 1)) + 0 := f13
          have f14' : es.length + 0 ≤ t2 - (t + 1) + 0 := f14
          obtain ⟨u3, e3, a3, b3⟩ := add_st f2 (by rw [List.length_append, List.length_append]; omega) s0
          rw [e2, q_b_some, f1, q_b_some, f2.2.1, if_pos (isP_c hC.1), e3, q_b_some, q_lt_eq, nI_1]
          have E3 := EC_fr hC.1 (EC_fr hC.1 E1 f3 f9) b3 (frR1_r s v2)
          have a3' : PC P t2 (adN ns L1) ((ws ++ wds (opIts ps ++ es)) ++ wds (opIts [r])) u3 := by
            rw [opIts_one, wds_one, hs0, wds_app, ← List.append_assoc]
            exact a3
          have f8' : PR s t2 (adN ns L2) ((cs ++ trs (opIts ps)) ++ trs es) (W ++ [r]) d v2 := f8
          have hL' := adN_5 ns L2 f6 hL
          have hlen3 : (ws ++ wds (opIts ps ++ es)).length = ws.length + (ps.length + (wds es).length) := by rw [List.length_append, wds_app, List.length_append, hlo.1]
          have hlen4 : ((cs ++ trs (opIts ps)) ++ trs es).length = cs.length + ps.length + es.length := by rw [List.length_append, List.length_append, hl0]; unfold trs; rw [List.length_map]
          have hI := ih t2 [r] (c + 1) N2 M2 N (adN ns L1) (adN ns L2) (ws ++ wds (opIts ps ++ es)) ((cs ++ trs (opIts ps)) ++ trs es) W u3 v2 (by omega) E3 a3' f8' hL' f5 (by rw [hlen3]; show _ + 1 ≤ _; omega) (by rw [hlen4]; show _ + 1 ≤ _; omega) hW (Or.inr ⟨r, hs, rfl⟩) hst (by omega) (by omega) (by omega) f11
          rw [e1, f7, eY]
          have fC : frP1 P u u3 := frP1_t b2 (frP1_t f3 b3)
          have fR : frR1 s v v2 := frR1_t b1 f9
          rcases hI with ⟨ps', hp', u4, t4, es4, ns4, v4, K4, N4, M4, g1, g2, g3, g4, g5, g6, g7, g8, g9, g10, g11, g12, g13, g14, g15, g16⟩ | ⟨f, p, u4, v4, m, g1, g2, g3, g4, g5, g6⟩
          · have g13' : (wds es4).length + ps'.length ≤ 2 * (t4 - t2) + 1 := g13
            have g14' : es4.length + ps'.length ≤ t4 - t2 + 1 := g14
            refine Or.inl ⟨ps', hp', u4, t4, opIts ps ++ es ++ es4, ns ++ ns4, v4, K4, N4, M4, g1, ?_, frP1_t fC g3, by omega, g5, okNs_app f6 g6, g7, ?_, frR1_t fR g9, by omega, g11, g12, ?_, ?_, fun hn nd x hx => ?_, fun h hh => ?_, ?_⟩
            · rw [adN_app]
              have : ws ++ wds (opIts ps ++ es ++ es4 ++ opIts ps') = ws ++ wds (opIts ps ++ es) ++ wds (es4 ++ opIts ps') := by simp only [wds_app, List.append_assoc]
              rw [this]; exact g2
            · rw [adN_app]
              have : cs ++ trs (opIts ps ++ es ++ es4) = cs ++ trs (opIts ps) ++ trs es ++ trs es4 := by simp only [trs_app, List.append_assoc]
              rw [this]; exact g8
            · rw [wds_app, wds_app, List.length_append, List.length_append, hlo.1]; omega
            · rw [List.length_append, List.length_append, hlo.2]; omega
            · have hn1 : ns = [] := List.append_eq_nil_iff.mp hn |>.1
              have hn2 : ns4 = [] := List.append_eq_nil_iff.mp hn |>.2
              rcases List.mem_append.mp hx with hx | hx
              · rcases List.mem_append.mp hx with hx | hx
                · unfold opIts at hx
                  obtain ⟨k, hk, rfl⟩ := List.mem_map.mp hx
                  exact opIt_gI _ _ (hps k (List.mem_reverse.mp hk)).1
                · exact f15 hn1 nd x hx
              · exact g15 hn2 nd x hx
            · have o1 : HG 40 (opIts ps) (h + 1 + ps.length) (h + 1) := HG_ops (by omega) ps (by omega)
              have o2 : HG 40 es (h + 1) (h + 2) := f16 (h + 1) (by omega)
              have o3 : HG 40 (es4 ++ opIts ps') (h + 2) (h + 1) := g16.1 h (by omega)
              rw [List.append_assoc, List.append_assoc, ← Nat.add_assoc]
              exact HG_app (HG_app o3 es _ o2) _ _ o1
            · have g16 := g16.2
              unfold noStr at *
              rw [(frR4 fR).1] at g16
              exact g16
          · exact Or.inr ⟨f, p, u4, v4, m, g1, g2, frP1_t fC g3, g4, g5, frR1_t fR g6⟩
        · obtain ⟨f, p, u2, v2, m, f1, f2, f3, f4, f5, f6⟩ := bad
          obtain ⟨u3, e3, a3, b3⟩ := add_F f2 s0
          obtain ⟨N, rfl⟩ : ∃ X, N = X + 1 := ⟨N - 1, by omega⟩
          rw [e2, q_b_some, f1, q_b_some, f2.2.1, if_pos (isP_c hC.1), e3, q_b_some, q_lt_eq, prodL_F a3, e1, f4]
          exact Or.inr ⟨f, p, u3, v2, m, rfl, a3, frP1_t b2 (frP1_t f3 b3), rfl, f5, frR1_t b1 f6⟩
      · subst h5
        obtain ⟨u1, e2, a2, b2⟩ := take_room hC (k := u.1 26 500) rfl
        obtain ⟨u2, e3, a3, b3⟩ := unit_F a2 (q_unit n) (fX5_readSum (fX5_readProduct (q_unit n))) (nI d)
        obtain ⟨u3, e4, a4, b4⟩ := add_F a3 s0
        obtain ⟨N, rfl⟩ : ∃ X, N = X + 1 := ⟨N - 1, by omega⟩
        rw [e2, q_b_some, q_unit_S, e3, q_b_some, a3.2.1, if_pos (isP_c hC.1), e4, q_b_some, q_lt_eq, prodL_F a4, e1]
        refine Or.inr ⟨2, _, u3, v1, 40, rfl, a4, frP1_t b2 (frP1_t b3 b4), rfl, ?_, b1⟩
        rw [← q4]; exact a1
    · have n10 : r ≠ 10 := fun c => hs (Or.inl c)
      have n15 : r ≠ 15 := fun c => hs (Or.inr (Or.inl c))
      have n16 : r ≠ 16 := fun c => hs (Or.inr (Or.inr c))
      have hr100 : r < 100 := by unfold rOK at q1; omega
      rw [if_neg (show ¬ km r = 42 from km_ne q1 (b := 10) (Or.inl (by omega)) n10), if_neg (show ¬ km r = 47 from km_ne q1 (b := 15) (Or.inl (by omega)) n15), if_neg (show ¬ km r = 37 from km_ne q1 (b := 16) (Or.inl (by omega)) n16)]
      refine Or.inl ⟨ps, hone, u, t, [], [], v, q_N, N9 + 1, M + 1, rfl, hC, frP1_r P u, Nat.le_refl _, ht, okNs_nil, rfl, ?_, frR1_r s v, by omega, hM, by omega, ?_, ?_, fun _ _ x hx => (by cases hx), fun h hh => ?_, ?_⟩
      · have : cs ++ trs [] = cs := List.append_nil cs
        rw [this]; exact hR
      · show 0 + ps.length ≤ _; omega
      · show 0 + ps.length ≤ _; omega
      · have hpl : ps.length ≤ 1 := by rcases hone with rfl | ⟨k, _, rfl⟩; exact Nat.zero_le 1; exact Nat.le_refl 1
        rw [List.nil_append, ← Nat.add_assoc]
        exact HG_ops (by omega) ps (by omega)
      · unfold noStr
        rw [q2]
        exact ⟨nI_ne (b := 10) (by omega) (by decide) n10, nI_ne (b := 15) (by omega) (by decide) n15, nI_ne (b := 16) (by omega) (by decide) n16⟩
