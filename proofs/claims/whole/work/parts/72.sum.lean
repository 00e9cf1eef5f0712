/-! a product, a sum, both sides -/
theorem stP_no {W : List Nat} (h : stP W) : W = [] ∨ ∃ U k, W = U ++ [k] ∧ k ≠ 1 ∧ k < 100 := by
  rcases h with h | ⟨U, k, e, c⟩
  · exact Or.inl h
  · exact Or.inr ⟨U, k, e, by omega, by omega⟩
theorem prodL_Fq {P f : Nat} {p : Int32} {u : q_W} (h : FC P f p u) (rU : Int32 → q_W → Option (Unit × q_W)) (x c : Int32) : q_it q_N (fX5_readProduct_h7 rU) (fun _ _ _ => none) x c u = some ((), u) := prodL_F h rU x c 3999999999
theorem sumL_Fq {P f : Nat} {p : Int32} {u : q_W} (h : FC P f p u) (rP : Int32 → q_W → Option (Unit × q_W)) (x c : Int32) : q_it q_N (fX5_readSum_h7 rP) (fun _ _ _ => none) x c u = some ((), u) := sumL_F h rP x c 3999999999
def PLs (P T s : Nat) (nl : List (List Nat)) (sl : Nat → Nat) (n d : Nat) : Prop := ∀ (N9 M o t : Nat) (L1 L2 : Nat × Int32) (ws : List Int32) (cs : List Tr) (W : List Nat) (u v : q_W) (b : Int32), EC T s nl sl u v → PC P t L1 ws u → PR s t L2 cs W d v → L2.1 ≤ 5 → t ≤ T → ws.length ≤ 3 * t + 30 → cs.length ≤ 2 * t + 30 → W.length ≤ 3 * d + 2 → stP W → 501 < N9 + t → 8 ≤ M + d → o ≤ d → (∃ ps, one ps ∧ XOK P T s t d L1 L2 ws cs W nl sl u v ps 0 (bU d + 1) 0 N9 (fun _ N M w => Z31 N M b (nI o) w) (fun t' => t < t' ∧ noStr v t') (fX5_readProduct (q_unit n) (nI d) u) (X20 N9 M b (nI o) v)) ∨ XF P s u v (fX5_readProduct (q_unit n) (nI d) u) (X20 N9 M b (nI o) v)
theorem trs_len (es : List It) : (trs es).length = es.length := by unfold trs; rw [List.length_map]
theorem prod_ok {P T s n d : Nat} {nl : List (List Nat)} {sl : Nat → Nat} (hU : UL P T s nl sl (n + 1) d) (hd : d ≤ 6) : PLs P T s nl sl (n + 1) d := by
  intro N9 M o t L1 L2 ws cs W u v b E hC hR hL ht hw hc hW hst hN9 hM ho
  have hT := E.1.1
  have hNb : q_N = 4000000000 := rfl
  unfold fX5_readProduct fX5_readProduct_l7
  rcases hU N9 M o t L1 L2 ws cs W u v b E hC hR hL ht hw hc (by omega) (by omega) hM ho with ok | bad
  · obtain ⟨u2, t2, es, ns, v2, K2, N2, M2, f1, f2, f3, f4, f5, f6, f7, f8, f9, f10, f11, f12, f13, f14, f15, f16⟩ := ok
    have k16 := f16.1
    have f16 : t < t2 := f16.2
    have f7 : X20 N9 M b (nI o) v = Y31k K2 N2 M2 b (nI o) v2 := f7
    obtain ⟨K2, rfl⟩ : ∃ X, K2 = X + 1 := ⟨K2 - 1, by omega⟩
    have f8' : PR s t2 (adN ns L2) (cs ++ trs es) W d v2 := by rw [List.append_nil] at f8; exact f8
    have eY : Y31k (K2 + 1) N2 M2 b (nI o) v2 = Z31 N2 M2 b (nI o) v2 := by
      unfold Y31k
      rw [turn_stop f8' (stP_no hst), q_b_some]
    have f13' : (wds es).length + 0 ≤ 2 * (t2 - t) + 0 := f13
    have f14' : es.length + 0 ≤ t2 - t + 0 := f14
    have f2' : PC P t2 (adN ns L1) ((ws ++ wds es) ++ wds (opIts [])) u2 := by
      rw [opIts_nil, List.append_nil] at f2
      rw [opIts_nil, wds_nil, List.append_nil]
      exact f2
    have hl1 : (ws ++ wds es).length = ws.length + (wds es).length := List.length_append
    have hl2 : (cs ++ trs es).length = cs.length + es.length := by rw [List.length_append, trs_len]
    rw [f1, q_b_some, f7, eY]
    rcases prod_lok hU hd b o ho (T + 1) t2 [] 0 N2 M2 q_N (adN ns L1) (adN ns L2) (ws ++ wds es) (cs ++ trs es) W u2 v2 (by omega) (EC_fr hC.1 E f3 f9) f2' (by rw [List.append_nil]; exact f8') (adN_5 ns L2 f6 hL) f5 (by rw [hl1]; show _ + 0 ≤ _; omega) (by rw [hl2]; show _ + 0 ≤ _; omega) hW (Or.inl rfl) hst (Nat.zero_le _) (by omega) (by omega) f11 with ⟨ps', hp', u4, t4, es4, ns4, v4, K4, N4, M4, g1, g2, g3, g4, g5, g6, g7, g8, g9, g10, g11, g12, g13, g14, g15, g16⟩ | ⟨f, p, u4, v4, m, g1, g2, g3, g4, g5, g6⟩
    · have g13' : (wds es4).length + ps'.length ≤ 2 * (t4 - t2) + 0 := g13
      have g14' : es4.length + ps'.length ≤ t4 - t2 + 0 := g14
      rw [nI_0] at g1
      refine Or.inl ⟨ps', hp', u4, t4, es ++ es4, ns ++ ns4, v4, K4, N4, M4, g1, ?_, frP1_t f3 g3, by omega, g5, okNs_app f6 g6, g7, ?_, frR1_t f9 g9, by omega, g11, g12, ?_, ?_, fun hn nd x hx => ?_, fun h hh => ?_, ?_⟩
      · rw [adN_app]
        have : ws ++ wds (es ++ es4 ++ opIts ps') = ws ++ wds es ++ wds (es4 ++ opIts ps') := by simp only [wds_app, List.append_assoc]
        rw [this]; exact g2
      · rw [adN_app]
        have : cs ++ trs (es ++ es4) = cs ++ trs es ++ trs es4 := by simp only [trs_app, List.append_assoc]
        rw [this]; exact g8
      · rw [wds_app, List.length_append]; omega
      · rw [List.length_append]; omega
      · have hn1 : ns = [] := List.append_eq_nil_iff.mp hn |>.1
        have hn2 : ns4 = [] := List.append_eq_nil_iff.mp hn |>.2
        rcases List.mem_append.mp hx with hx | hx
        · exact f15 hn1 nd x hx
        · exact g15 hn2 nd x hx
      · rw [opIts_nil, List.append_nil] at k16
        rw [List.append_assoc]
        exact HG_app (g16.1 h (by omega)) es _ (k16 h (by omega))
      · refine ⟨by omega, ?_⟩
        have g16 := g16.2
        unfold noStr at *
        rw [(frR4 f9).1] at g16
        exact g16
    · rw [nI_0] at g1
      exact Or.inr ⟨f, p, u4, v4, m, g1, g2, frP1_t f3 g3, g4, g5, frR1_t f9 g6⟩
  · obtain ⟨f, p, u2, v2, m, f1, f2, f3, f4, f5, f6⟩ := bad
    rw [f1, q_b_some, prodL_Fq f2, f4]
    exact Or.inr ⟨f, p, u2, v2, m, rfl, f2, f3, rfl, f5, f6⟩
def pdOK (pd : List Nat) : Prop := pd.length ≤ 2 ∧ ∀ k, k ∈ pd → isOp k
def noOp (v : q_W) (t : Nat) : Prop := ¬ v.1 3 t = 8 ∧ ¬ v.1 3 t = 9 ∧ noStr v t
def stS (W : List Nat) : Prop := W = [] ∨ ∃ U, W = U ++ [6]
theorem stS_0 {W : List Nat} (h : stS W) : stops W 0 := by
  rcases h with h | ⟨U, e⟩
  · exact Or.inl h
  · exact Or.inr ⟨U, 6, e, Or.inl rfl⟩
theorem stS_P {W : List Nat} (h : stS W) : stP W := by
  rcases h with h | ⟨U, e⟩
  · exact Or.inl h
  · exact Or.inr ⟨U, 6, e, Or.inl rfl⟩
theorem opIts_cons (r : Nat) (ps : List Nat) : opIts (r :: ps) = opIts ps ++ [opIt r] := by
  unfold opIts
  rw [List.reverse_cons, List.map_append]
  rfl
theorem sum_lok {P T s n d : Nat} {nl : List (List Nat)} {sl : Nat → Nat} (hP : PLs P T s nl sl (n + 1) d) (hd : d ≤ 6) (b : Int32) (o : Nat) (ho : o ≤ d) : ∀ K t pd c N9 M N L1 L2 ws cs W u v, T < t + K → EC T s nl sl u v → PC P t L1 (ws ++ wds (opIts pd)) u → PR s t L2 cs (W ++ pd) d v → L2.1 ≤ 5 → t ≤ T → ws.length + pd.length ≤ 3 * t + 30 → cs.length + pd.length ≤ 2 * t + 30 → W.length ≤ 3 * d + 1 → pdOK pd → noStr v t → stS W → c ≤ t → 501 < N + c → 501 < N9 + t → q_N ≤ M + (7 - d) → (∃ pd', pdOK pd' ∧ XOK P T s t d L1 L2 ws cs W nl sl u v pd' pd.length (bU d + 2) (1 + pd.length) N9 (fun _ N M w => Z31 N M b (nI o) w) (noOp v) (q_it N (fX5_readSum_h7 (fX5_readProduct (q_unit (n + 1)))) (fun _ _ _ => none) (nI d) (nI c) u) (Z31 N9 M b (nI o) v)) ∨ XF P s u v (q_it N (fX5_readSum_h7 (fX5_readProduct (q_unit (n + 1)))) (fun _ _ _ => none) (nI d) (nI c) u) (Z31 N9 M b (nI o) v) := by
  intro K
  induction K with
  | zero => intro t pd c N9 M N L1 L2 ws cs W u v h1 E hC hR hL ht; omega
  | succ K ih =>
    intro t pd c N9 M N L1 L2 ws cs W u v h1 E hC hR hL ht hw hc hW hpd hnos hst hct hN hN9 hM
    have hT := E.1.1
    have hNb : q_N = 4000000000 := rfl
    obtain ⟨N, rfl⟩ : ∃ X, N = X + 1 := ⟨N - 1, by omega⟩
    obtain ⟨N9, rfl⟩ : ∃ X, N9 = X + 1 := ⟨N9 - 1, by omega⟩
    obtain ⟨M, rfl⟩ : ∃ X, M = X + 1 := ⟨M - 1, by omega⟩
    obtain ⟨r, q1, q2, q3, q4, q5, q6, q7⟩ := tkn E ht
    clear q5 q6
    have hlo := opIts_len pd
    have hpl := hpd.1
    rw [q_itS, fX5_readSum_h7, if_neg (by rw [show (501 : Int32) = nI 501 from rfl, nI_leI (by omega) (by omega)]; omega), hC.2.2.2.1, q3]
    by_cases hs : r = 8 ∨ r = 9
    · have hop : isOp r := by unfold isOp; omega
      have ex : ∃ s0, (opIt r).1 = [s0] ∧ (if km r = 43 then fX5_readSum_n32 (fX5_readProduct (q_unit (n + 1))) (q_it N (fX5_readSum_h7 (fX5_readProduct (q_unit (n + 1)))) (fun _ _ _ => none)) (nI d) (nI c) u else if km r = 45 then fX5_readSum_n32 (fX5_readProduct (q_unit (n + 1))) (q_it N (fX5_readSum_h7 (fX5_readProduct (q_unit (n + 1)))) (fun _ _ _ => none)) (nI d) (nI c) u else some ((), u)) = fX5_readSum_n47 (fX5_readProduct (q_unit (n + 1))) (q_it N (fX5_readSum_h7 (fX5_readProduct (q_unit (n + 1)))) (fun _ _ _ => none)) (nI d) (nI c) s0 u := by
        unfold fX5_readSum_n32
        rw [hC.2.2.2.1, q3]
        rcases hs with rfl | rfl
        · exact ⟨5, rfl, by rw [if_pos (show km 8 = 43 from rfl), if_pos (show km 8 = 43 from rfl)]⟩
        · exact ⟨6, rfl, by rw [if_neg (show ¬ km 9 = 43 by decide), if_pos (show km 9 = 45 from rfl), if_neg (show ¬ km 9 = 43 by decide)]⟩
      obtain ⟨s0, hs0, ex⟩ := ex
      rw [ex]
      unfold fX5_readSum_n47
      rw [hC.2.2.2.1]
      have hps : ∀ k, k ∈ pd → isOp k ∧ (stOp k ∨ (0 : Int32) = 0) := fun k hk => ⟨hpd.2 k hk, Or.inr rfl⟩
      rcases sign_st hR (by omega) (by omega) (by omega) q2 hop 0 (Or.inr ⟨by unfold stOp; omega, rfl⟩) (stS_0 hst) hps N9 M b (nI o) with ⟨h5, v1, e1, a1, b1⟩ | ⟨h5, v1, e1, a1, b1⟩
      · have hlt := q7 (by omega) (by omega) h5
        obtain ⟨u1, e2, a2, b2⟩ := take_st hC h5 (k := u.1 26 t) rfl
        have E1 := EC_fr hC.1 E b2 b1
        have hl0 : (trs (opIts pd)).length = pd.length := by rw [trs_len]; exact hlo.2
        rcases hP N9 q_N o (t + 1) L1 L2 (ws ++ wds (opIts pd)) (cs ++ trs (opIts pd)) (W ++ [r]) u1 v1 b E1 a2 a1 hL (by omega) (by rw [List.length_append]; omega) (by rw [List.length_append]; omega) (by rw [List.length_append]; show W.length + 1 ≤ _; omega) (Or.inr ⟨W, r, rfl, by omega⟩) (by omega) (by omega) ho with ⟨ps, hone, ok⟩ | bad
        · obtain ⟨u2, t2, es, ns, v2, K2, N2, M2, f1, f2, f3, f4, f5, f6, f7, f8, f9, f10, f11, f12, f13, f14, f15, f16⟩ := ok
          have f7 : X20 N9 q_N b (nI o) v1 = Z31 N2 M2 b (nI o) v2 := f7
          have hpl2 : ps.length ≤ 1 := by rcases hone with rfl | ⟨k, _, rfl⟩; exact Nat.zero_le 1; exact Nat.le_refl 1
          have hlo2 := opIts_len ps
          have f13' : (wds es).length + ps.length ≤ 2 * (t2 - (t + 1)) + 0 := f13
          have f14' : es.length + ps.length ≤ t2 - (t + 1) + 0 := f14
          obtain ⟨u3, e3, a3, b3⟩ := add_st f2 (by rw [List.length_append, List.length_append, wds_app, List.length_append]; omega) s0
          rw [e2, q_b_some, f1, q_b_some, f2.2.1, if_pos (isP_c hC.1), e3, q_b_some, q_lt_eq, nI_1]
          have E3 := EC_fr hC.1 (EC_fr hC.1 E1 f3 f9) b3 (frR1_r s v2)
          have a3' : PC P t2 (adN ns L1) ((ws ++ wds (opIts pd ++ es)) ++ wds (opIts (r :: ps))) u3 := by
            have : (ws ++ wds (opIts pd ++ es)) ++ wds (opIts (r :: ps)) = ws ++ wds (opIts pd) ++ wds (es ++ opIts ps) ++ [s0] := by
              rw [opIts_cons]
              simp only [wds_app, List.append_assoc, wds_one, hs0]
            rw [this]; exact a3
          have f8' : PR s t2 (adN ns L2) ((cs ++ trs (opIts pd)) ++ trs es) (W ++ (r :: ps)) d v2 := by
            have : W ++ (r :: ps) = W ++ [r] ++ ps := by rw [List.append_assoc]; rfl
            rw [this]; exact f8
          have hL' := adN_5 ns L2 f6 hL
          have hlen3 : (ws ++ wds (opIts pd ++ es)).length = ws.length + (pd.length + (wds es).length) := by rw [List.length_append, wds_app, List.length_append, hlo.1]
          have hlen4 : ((cs ++ trs (opIts pd)) ++ trs es).length = cs.length + pd.length + es.length := by rw [List.length_append, List.length_append, hl0, trs_len]
          have fR : frR1 s v v2 := frR1_t b1 f9
          have hpd2 : pdOK (r :: ps) := ⟨by show ps.length + 1 ≤ 2; omega, fun k hk => by
            rcases List.mem_cons.mp hk with e | e
            · rw [e]; exact hop
            · rcases hone with rfl | ⟨j, hj, rfl⟩
              · cases e
              · rw [List.mem_singleton.mp e]; unfold stOp at hj; unfold isOp; omega⟩
          have hno2 : noStr v2 t2 := by
            unfold noStr at *
            rw [(frR4 f9).1]
            exact f16.2.2
          have hI := ih t2 (r :: ps) (c + 1) N2 M2 N (adN ns L1) (adN ns L2) (ws ++ wds (opIts pd ++ es)) ((cs ++ trs (opIts pd)) ++ trs es) W u3 v2 (by omega) E3 a3' f8' hL' f5 (by rw [hlen3]; show _ + (ps.length + 1) ≤ _; omega) (by rw [hlen4]; show _ + (ps.length + 1) ≤ _; omega) hW hpd2 hno2 hst (by omega) (by omega) (by omega) f11
          rw [e1, f7]
          have fC : frP1 P u u3 := frP1_t b2 (frP1_t f3 b3)
          rcases hI with ⟨pd', hp', u4, t4, es4, ns4, v4, K4, N4, M4, g1, g2, g3, g4, g5, g6, g7, g8, g9, g10, g11, g12, g13, g14, g15, g16⟩ | ⟨f, p, u4, v4, m, g1, g2, g3, g4, g5, g6⟩
          · have g13' : (wds es4).length + pd'.length ≤ 2 * (t4 - t2) + (ps.length + 1) := g13
            have g14' : es4.length + pd'.length ≤ t4 - t2 + (ps.length + 1) := g14
            refine Or.inl ⟨pd', hp', u4, t4, opIts pd ++ es ++ es4, ns ++ ns4, v4, K4, N4, M4, g1, ?_, frP1_t fC g3, by omega, g5, okNs_app f6 g6, g7, ?_, frR1_t fR g9, by omega, g11, g12, ?_, ?_, fun hn nd x hx => ?_, fun h hh => ?_, ?_⟩
            · rw [adN_app]
              have : ws ++ wds (opIts pd ++ es ++ es4 ++ opIts pd') = ws ++ wds (opIts pd ++ es) ++ wds (es4 ++ opIts pd') := by simp only [wds_app, List.append_assoc]
              rw [this]; exact g2
            · rw [adN_app]
              have : cs ++ trs (opIts pd ++ es ++ es4) = cs ++ trs (opIts pd) ++ trs es ++ trs es4 := by simp only [trs_app, List.append_assoc]
              rw [this]; exact g8
            · rw [wds_app, wds_app, List.length_append, List.length_append, hlo.1]; omega
            · rw [List.length_append, List.length_append, hlo.2]; omega
            · have hn1 : ns = [] := List.append_eq_nil_iff.mp hn |>.1
              have hn2 : ns4 = [] := List.append_eq_nil_iff.mp hn |>.2
              rcases List.mem_append.mp hx with hx | hx
              · rcases List.mem_append.mp hx with hx | hx
                · unfold opIts at hx
                  obtain ⟨k, hk, rfl⟩ := List.mem_map.mp hx
                  exact opIt_gI _ _ (hps k (List.mem_reverse.mp hk)).1
                · exact f15 hn1 nd x hx
              · exact g15 hn2 nd x hx
            · have o1 : HG 40 (opIts pd) (h + 1 + pd.length) (h + 1) := HG_ops (by omega) pd (by omega)
              obtain ⟨m, o2, o4⟩ := HG_split es (h + 1) (f16.1 (h + 1) (by omega))
              have o5 := HG_opsi ps o4
              have o3 : HG 40 (es4 ++ opIts pd') (h + (1 + (ps.length + 1))) (h + 1) := g16.1 h (by omega)
              rw [List.append_assoc, List.append_assoc, ← Nat.add_assoc]
              exact HG_app (HG_app o3 es _ (by rw [o5, show h + 1 + 0 = h + 1 from rfl, show h + 1 + 1 + ps.length = h + (1 + (ps.length + 1)) by omega] at o2; exact o2)) _ _ o1
            · have g16 := g16.2
              unfold noOp noStr at *
              rw [(frR4 fR).1] at g16
              exact g16
          · exact Or.inr ⟨f, p, u4, v4, m, g1, g2, frP1_t fC g3, g4, g5, frR1_t fR g6⟩
        · obtain ⟨f, p, u2, v2, m, f1, f2, f3, f4, f5, f6⟩ := bad
          obtain ⟨u3, e3, a3, b3⟩ := add_F f2 s0
          obtain ⟨N, rfl⟩ : ∃ X, N = X + 1 := ⟨N - 1, by omega⟩
          rw [e2, q_b_some, f1, q_b_some, f2.2.1, if_pos (isP_c hC.1), e3, q_b_some, q_lt_eq, sumL_F a3, e1, f4]
          exact Or.inr ⟨f, p, u3, v2, m, rfl, a3, frP1_t b2 (frP1_t f3 b3), rfl, f5, frR1_t b1 f6⟩
      · subst h5
        obtain ⟨u1, e2, a2, b2⟩ := take_room hC (k := u.1 26 500) rfl
        obtain ⟨u2, e3, a3, b3⟩ := prod_F (n := n) a2 (nI d)
        obtain ⟨u3, e4, a4, b4⟩ := add_F a3 s0
        obtain ⟨N, rfl⟩ : ∃ X, N = X + 1 := ⟨N - 1, by omega⟩
        rw [e2, q_b_some, e3, q_b_some, a3.2.1, if_pos (isP_c hC.1), e4, q_b_some, q_lt_eq, sumL_F a4, e1]
        refine Or.inr ⟨2, _, u3, v1, 40, rfl, a4, frP1_t b2 (frP1_t b3 b4), rfl, ?_, b1⟩
        rw [← q4]; exact a1
    · have n8 : r ≠ 8 := fun c => hs (Or.inl c)
      have n9 : r ≠ 9 := fun c => hs (Or.inr c)
      have hr100 : r < 100 := by unfold rOK at q1; omega
      rw [if_neg (show ¬ km r = 43 from km_ne q1 (b := 8) (Or.inl (by omega)) n8), if_neg (show ¬ km r = 45 from km_ne q1 (b := 9) (Or.inl (by omega)) n9)]
      refine Or.inl ⟨pd, hpd, u, t, [], [], v, q_N, N9 + 1, M + 1, rfl, hC, frP1_r P u, Nat.le_refl _, ht, okNs_nil, rfl, ?_, frR1_r s v, by omega, hM, by omega, ?_, ?_, fun _ _ x hx => (by cases hx), fun h hh => ?_, ?_⟩
      · have : cs ++ trs [] = cs := List.append_nil cs
        rw [this]; exact hR
      · show 0 + pd.length ≤ _; omega
      · show 0 + pd.length ≤ _; omega
      · rw [List.nil_append, ← Nat.add_assoc]
        exact HG_ops (by omega) pd (by omega)
      · refine ⟨?_, ?_, hnos⟩
        · rw [q2]; exact nI_ne (b := 8) (by omega) (by decide) n8
        · rw [q2]; exact nI_ne (b := 9) (by omega) (by decide) n9
def SLs (P T s : Nat) (nl : List (List Nat)) (sl : Nat → Nat) (n d : Nat) : Prop := ∀ (N9 M o t : Nat) (L1 L2 : Nat × Int32) (ws : List Int32) (cs : List Tr) (W : List Nat) (u v : q_W) (b : Int32), EC T s nl sl u v → PC P t L1 ws u → PR s t L2 cs W d v → L2.1 ≤ 5 → t ≤ T → ws.length ≤ 3 * t + 30 → cs.length ≤ 2 * t + 30 → W.length ≤ 3 * d + 1 → stS W → 501 < N9 + t → 8 ≤ M + d → o ≤ d → (∃ pd, pdOK pd ∧ XOK P T s t d L1 L2 ws cs W nl sl u v pd 0 (bU d + 2) 0 N9 (fun _ N M w => Z31 N M b (nI o) w) (fun t' => t < t' ∧ noOp v t') (fX5_readSum (fX5_readProduct (q_unit n)) (nI d) u) (X20 N9 M b (nI o) v)) ∨ XF P s u v (fX5_readSum (fX5_readProduct (q_unit n)) (nI d) u) (X20 N9 M b (nI o) v)
theorem sum_ok {P T s n d : Nat} {nl : List (List Nat)} {sl : Nat → Nat} (hP : PLs P T s nl sl (n + 1) d) (hd : d ≤ 6) : SLs P T s nl sl (n + 1) d := by
  intro N9 M o t L1 L2 ws cs W u v b E hC hR hL ht hw hc hW hst hN9 hM ho
  have hT := E.1.1
  have hNb : q_N = 4000000000 := rfl
  unfold fX5_readSum fX5_readSum_l7
  rcases hP N9 M o t L1 L2 ws cs W u v b E hC hR hL ht hw hc (by omega) (stS_P hst) (by omega) hM ho with ⟨ps, hone, ok⟩ | bad
  · obtain ⟨u2, t2, es, ns, v2, K2, N2, M2, f1, f2, f3, f4, f5, f6, f7, f8, f9, f10, f11, f12, f13, f14, f15, f16⟩ := ok
    have f7 : X20 N9 M b (nI o) v = Z31 N2 M2 b (nI o) v2 := f7
    have hpl2 : ps.length ≤ 1 := by rcases hone with rfl | ⟨k, _, rfl⟩; exact Nat.zero_le 1; exact Nat.le_refl 1
    have f13' : (wds es).length + ps.length ≤ 2 * (t2 - t) + 0 := f13
    have f14' : es.length + ps.length ≤ t2 - t + 0 := f14
    have f2' : PC P t2 (adN ns L1) ((ws ++ wds es) ++ wds (opIts ps)) u2 := by
      rw [wds_app, ← List.append_assoc] at f2
      exact f2
    have hl1 : (ws ++ wds es).length = ws.length + (wds es).length := List.length_append
    have hl2 : (cs ++ trs es).length = cs.length + es.length := by rw [List.length_append, trs_len]
    have hpd : pdOK ps := ⟨by omega, fun k hk => by
      rcases hone with rfl | ⟨j, hj, rfl⟩
      · cases hk
      · rw [List.mem_singleton.mp hk]; unfold stOp at hj; unfold isOp; omega⟩
    have hno : noStr v2 t2 := by unfold noStr at *; rw [(frR4 f9).1]; exact f16.2.2
    rw [f1, q_b_some, f7]
    rcases sum_lok hP hd b o ho (T + 1) t2 ps 0 N2 M2 q_N (adN ns L1) (adN ns L2) (ws ++ wds es) (cs ++ trs es) W u2 v2 (by omega) (EC_fr hC.1 E f3 f9) f2' f8 (adN_5 ns L2 f6 hL) f5 (by rw [hl1]; omega) (by rw [hl2]; omega) hW hpd hno hst (Nat.zero_le _) (by omega) (by omega) f11 with ⟨pd', hp', u4, t4, es4, ns4, v4, K4, N4, M4, g1, g2, g3, g4, g5, g6, g7, g8, g9, g10, g11, g12, g13, g14, g15, g16⟩ | ⟨f, p, u4, v4, m, g1, g2, g3, g4, g5, g6⟩
    · have g13' : (wds es4).length + pd'.length ≤ 2 * (t4 - t2) + ps.length := g13
      have g14' : es4.length + pd'.length ≤ t4 - t2 + ps.length := g14
      rw [nI_0] at g1
      refine Or.inl ⟨pd', hp', u4, t4, es ++ es4, ns ++ ns4, v4, K4, N4, M4, g1, ?_, frP1_t f3 g3, by omega, g5, okNs_app f6 g6, g7, ?_, frR1_t f9 g9, by omega, g11, g12, ?_, ?_, fun hn nd x hx => ?_, fun h hh => ?_, ?_⟩
      · rw [adN_app]
        have : ws ++ wds (es ++ es4 ++ opIts pd') = ws ++ wds es ++ wds (es4 ++ opIts pd') := by simp only [wds_app, List.append_assoc]
        rw [this]; exact g2
      · rw [adN_app]
        have : cs ++ trs (es ++ es4) = cs ++ trs es ++ trs es4 := by simp only [trs_app, List.append_assoc]
        rw [this]; exact g8
      · rw [wds_app, List.length_append]; omega
      · rw [List.length_append]; omega
      · have hn1 : ns = [] := List.append_eq_nil_iff.mp hn |>.1
        have hn2 : ns4 = [] := List.append_eq_nil_iff.mp hn |>.2
        rcases List.mem_append.mp hx with hx | hx
        · exact f15 hn1 nd x hx
        · exact g15 hn2 nd x hx
      · obtain ⟨m, o2, o4⟩ := HG_split es (h + 0) (f16.1 h (by omega))
        have o5 := HG_opsi ps o4
        have o3 : HG 40 (es4 ++ opIts pd') (h + (1 + ps.length)) (h + 1) := g16.1 h (by omega)
        rw [List.append_assoc]
        exact HG_app o3 es _ (by rw [o5, show h + 1 + ps.length = h + (1 + ps.length) by omega] at o2; exact o2)
      · refine ⟨by have := f16.2.1; omega, ?_⟩
        have g16 := g16.2
        unfold noOp noStr at *
        rw [(frR4 f9).1] at g16
        exact g16
    · rw [nI_0] at g1
      exact Or.inr ⟨f, p, u4, v4, m, g1, g2, frP1_t f3 g3, g4, g5, frR1_t f9 g6⟩
  · obtain ⟨f, p, u2, v2, m, f1, f2, f3, f4, f5, f6⟩ := bad
    rw [f1, q_b_some, sumL_Fq f2, f4]
    exact Or.inr ⟨f, p, u2, v2, m, rfl, f2, f3, rfl, f5, f6⟩
