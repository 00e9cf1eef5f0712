/-! a pattern's body -/
theorem PC_q {P t : Nat} {L : Nat × Int32} {ws : List Int32} {u : q_W} (h : PC P t L ws u) (q k : Nat) (x : Int32) (hq : q = P + 2 ∨ q = P + 3) : PC P t L ws (q_sI u q k x) := by
  obtain ⟨h1, h2, h3, h4, h5, h6, h7, h8, h9, h10, h11⟩ := h
  have n23 : (23 : Nat) ≠ q := by rcases h1 with e | e <;> omega
  have n26 : (26 : Nat) ≠ q := by rcases h1 with e | e <;> omega
  have n27 : (27 : Nat) ≠ q := by rcases h1 with e | e <;> omega
  exact ⟨h1, h2, by rw [sI_cell _ _ _ _ 23 n23, h3], by rw [sI_cell _ _ _ _ 23 n23, sI_cell _ _ _ _ 26 n26, h4], by rw [sI_cell _ _ _ _ 23 n23, sI_cell _ _ _ _ 27 n27, h5], by rw [sI_cell _ _ _ _ 23 n23, h6], by rw [sI_cell _ _ _ _ 23 n23, h7], h8, fun c => by rw [sI_cell _ _ _ _ 23 n23, h9 c], by rw [sI_cell _ _ _ _ P (by omega), h10], fun i hi => by rw [sI_cell _ _ _ _ (P + 1) (by omega), h11 i hi]⟩
theorem PC_P4 {P t : Nat} {L : Nat × Int32} {ws : List Int32} {u : q_W} (h : PC P t L ws u) (x : Int32) : PC P t L ws (q_sI u P 4 x) := by
  obtain ⟨h1, h2, h3, h4, h5, h6, h7, h8, h9, h10, h11⟩ := h
  have hne := isP_ne h1
  exact ⟨h1, h2, by rw [sI_cell _ _ _ _ 23 (by omega), h3], by rw [sI_cell _ _ _ _ 23 (by omega), sI_cell _ _ _ _ 26 (by omega), h4], by rw [sI_cell _ _ _ _ 23 (by omega), sI_cell _ _ _ _ 27 (by omega), h5], by rw [sI_cell _ _ _ _ 23 (by omega), h6], by rw [sI_cell _ _ _ _ 23 (by omega), h7], h8, fun c => by rw [sI_cell _ _ _ _ 23 (by omega), h9 c], by rw [sI_k _ _ _ _ _ (by decide), h10], fun i hi => by rw [sI_cell _ _ _ _ (P + 1) (by omega), h11 i hi]⟩
theorem frF_q (P : Nat) (u : q_W) (q k : Nat) (x : Int32) (hq : q = P ∨ q = P + 2 ∨ q = P + 3) : frF1 P u (q_sI u q k x) := ⟨fun q' _ _ _ _ _ => sI_cell _ _ _ _ _ (by omega), rfl, fun _ _ _ => rfl⟩
theorem frPT_q (s : Nat) (v : q_W) (q k : Nat) (x : Int32) (h : (q = 8 ∧ k = s) ∨ ((q = 10 ∨ q = 11) ∧ 8 * s ≤ k ∧ k < 8 * s + 8)) : frPT s v (q_sI v q k x) := by
  refine ⟨fun q' x0 x8 x10 x11 _ _ _ _ _ _ _ _ => sI_cell _ _ _ _ _ (by omega), fun k' _ _ _ _ _ _ _ => by rw [sI_cell _ _ _ _ 0 (by omega)], fun i _ => ⟨by rw [sI_cell _ _ _ _ 12 (by omega)], by rw [sI_cell _ _ _ _ 13 (by omega)], by rw [sI_cell _ _ _ _ 14 (by omega)]⟩, fun i hi => ?_, fun i hi => ⟨?_, ?_, rfl⟩, rfl, fun _ _ _ => rfl⟩
  · rcases h with ⟨rfl, rfl⟩ | ⟨h, _⟩
    · rw [sI_k _ _ _ _ _ hi]
    · rw [sI_cell _ _ _ _ 8 (by omega)]
  · rcases h with ⟨rfl, rfl⟩ | ⟨h | h, _, _⟩
    · rw [sI_cell _ _ _ _ 10 (by decide)]
    · subst h; rw [sI_k _ _ _ _ _ (by omega)]
    · rw [sI_cell _ _ _ _ 10 (by omega)]
  · rcases h with ⟨rfl, rfl⟩ | ⟨h | h, _, _⟩
    · rw [sI_cell _ _ _ _ 11 (by decide)]
    · rw [sI_cell _ _ _ _ 11 (by omega)]
    · subst h; rw [sI_k _ _ _ _ _ (by omega)]
theorem closeP_st {P n : Nat} (hP : isP P) {u : q_W} (h4 : u.1 P 4 = nI n) (hn : n < 8) : fX4_close P u = some ((), q_sI u P 4 (nI (n + 1))) := by
  unfold fX4_close
  rw [if_pos (isP_c hP), h4, if_neg (by rw [show (8 : Int32) = nI 8 from rfl, nI_leI (by omega) (by omega)]; omega), q_lt_eq, nI_1]
theorem openP_st {P n : Nat} (hP : isP P) {u : q_W} (h4 : u.1 P 4 = nI n) (hn : n < 8) (x : Int32) : fX4_open P x u = some ((), q_sI (q_sI u (P + 2) n (u.1 P 3)) (P + 3) n x) := by
  unfold fX4_open
  rw [if_pos (isP_c hP), h4, if_neg (nI_pos (by omega)), if_neg (by rw [show (8 : Int32) = nI 8 from rfl, nI_leI (by omega) (by omega)]; omega), q_lt_eq, if_pos (q_inb_nI hn (by omega)), q_lt_eq, q_lt_eq, isP_1 hP, isP_2 hP, sI_cell _ _ _ _ P (by omega), h4, if_pos (q_inb_nI hn (by omega)), q_lt_eq, q_ix_nI (by omega)]
def PBO (P T s t : Nat) (L1 L2 : Nat × Int32) (ws : List Int32) (cs : List Tr) (nl pl : List (List Nat)) (pm : Nat → Nat) (u v : q_W) (cu rv : Option (Unit × q_W)) : Prop :=
  ∃ u' v' t' B ns, cu = some ((), u') ∧ rv = some ((), v') ∧ PC P t' (adN ns L1) (ws ++ (wds (B.map Prod.fst) ++ [0])) u' ∧ PR s t' (adN ns L2) (cs ++ (trs (B.map Prod.fst) ++ [(18, 0, 0)])) [] 0 v' ∧ t < t' ∧ t' ≤ T ∧ okNs ns ∧ (wds (B.map Prod.fst)).length + 1 ≤ 3 * (t' - t) ∧ B.length + 1 ≤ 2 * (t' - t) ∧ u'.1 P 4 = nI (pl.length + 1) ∧ v'.1 8 s = nI (pl.length + 1) ∧ u'.1 (P + 2) pl.length = nI ws.length ∧ u'.1 (P + 3) pl.length = nI nl.length ∧ (∀ i, i ≠ pl.length → u'.1 (P + 2) i = u.1 (P + 2) i ∧ u'.1 (P + 3) i = u.1 (P + 3) i) ∧ v'.1 10 (8 * s + pl.length) = nI nl.length ∧ (∀ i, i ≠ 8 * s + pl.length → v'.1 10 i = v.1 10 i) ∧ v'.1 11 = v.1 11 ∧ u'.2.2 29 = u.2.2 29 ∧ v'.2.2 9 = v.2.2 9 ∧ toks T u' v' ∧ (ns = [] → ndp nl → GD B (0, none, nl.length, fun i => i) ws.length cs.length s pm pl.length ∧ ssA B (0, none, nl.length, fun i => i) 0 = (0, none, nl.length, fun i => i)) ∧ frF1 P u u' ∧ frPT s v v'
theorem pat_body {P T s t : Nat} {L1 L2 : Nat × Int32} {ws : List Int32} {cs : List Tr} {nl pl : List (List Nat)} {pm : Nat → Nat} {u v : q_W} (E : EN T s nl u v) (hn : nl.length ≤ 2) (D : DC P s pl pm u v) (hp : pl.length < 8) (hC : PC P t L1 ws u) (hR : PR s t L2 cs [] 0 v) (hL : L2.1 ≤ 5) (ht : t ≤ T) (hw : ws.length ≤ 3 * t + 20) (hc : cs.length ≤ 2 * t + 20) : PBO P T s t L1 L2 ws cs nl pl pm u v (fX5_readPattern_n92 u) (fX11_tellPattern_n177 (nI (8 * s + pl.length)) v) ∨ XQ P s u v (fX5_readPattern_n92 u) (fX11_tellPattern_n177 (nI (8 * s + pl.length)) v) := by
  have hT := E.1.1
  have hP := hC.1
  have hne := isP_ne hP
  have hs := hR.1
  obtain ⟨D1, D2, D3, D4, D5, D6, D7, D8⟩ := D
  have h23 := E.2.2.2.1
  have h28 := E.2.2.2.2.1
  have hlw : u.1 P 3 = nI ws.length := hC.2.2.2.2.2.2.2.2.2.1
  generalize hu1 : q_sI (q_sI u (P + 2) pl.length (u.1 P 3)) (P + 3) pl.length (u.1 23 3) = u1
  generalize hv1 : q_sI (q_sI (q_sI v 10 (8 * s + pl.length) (nI nl.length)) 0 30 1) 16 0 0 = v1
  have C1 : PC P t L1 ws u1 := by rw [← hu1]; exact PC_q (PC_q hC _ _ _ (Or.inl rfl)) _ _ _ (Or.inr rfl)
  have R1 : PR s t L2 cs [] 0 v1 := by
    rw [← hv1]
    refine PR_q (PR_set ?_ 30 _ (by omega)) 16 _ _ (by omega)
    obtain ⟨h1, h2, h3, h4, h5, h6, h7, h8⟩ := hR
    exact ⟨h1, by rw [sI_cell _ _ _ _ 0 (by decide), h2], by rw [sI_cell _ _ _ _ 0 (by decide), h3], by rw [sI_cell _ _ _ _ 0 (by decide), h4], fun g => by rw [sI_cell _ _ _ _ 0 (by decide), h5 g], ⟨by rw [sI_cell _ _ _ _ 0 (by decide), h6.1], fun j hj => by rw [sI_cell _ _ _ _ 12 (by decide), sI_cell _ _ _ _ 13 (by decide), sI_cell _ _ _ _ 14 (by decide)]; exact h6.2 j hj⟩, ⟨by rw [sI_cell _ _ _ _ 0 (by decide), h7.1], h7.2.1, fun j hj => by rw [sI_cell _ _ _ _ 20 (by decide), h7.2.2 j hj]⟩, by rw [sI_cell _ _ _ _ 0 (by decide), h8]⟩
  have fu : frF1 P u u1 := by rw [← hu1]; exact frF1_t (frF_q P u _ _ _ (Or.inr (Or.inl rfl))) (frF_q P _ _ _ _ (Or.inr (Or.inr rfl)))
  have fv : frPT s v v1 := by
    rw [← hv1]
    exact frPT_t (frPT_q s v 10 _ _ (Or.inr ⟨Or.inl rfl, by omega, by omega⟩)) (frPT_t (frPT_H (frH_0 s _ 30 _ (by omega))) (frPT_H (frH_q s _ 16 _ _ (by omega))))
  -- cells
  have u0 : ∀ q, q ≠ P + 2 → q ≠ P + 3 → u1.1 q = u.1 q := fun q a b => by rw [← hu1, sI_cell _ _ _ _ _ b, sI_cell _ _ _ _ _ a]
  have uL : u1.2 = u.2 := by rw [← hu1]; rfl
  have v0 : ∀ q, q ≠ 0 → q ≠ 10 → q ≠ 16 → v1.1 q = v.1 q := fun q a b c => by rw [← hv1, sI_cell _ _ _ _ _ c, sI_cell _ _ _ _ _ a, sI_cell _ _ _ _ _ b]
  have vL : v1.2 = v.2 := by rw [← hv1]; rfl
  have vk : ∀ k, k ≠ 30 → v1.1 0 k = v.1 0 k := fun k hk => by rw [← hv1, sI_cell _ _ _ _ 0 (by decide), sI_k _ _ _ _ _ hk, sI_cell _ _ _ _ 0 (by decide)]
  have v30 : v1.1 0 30 = nI (0 + 1) := by rw [← hv1, sI_cell _ _ _ _ 0 (by decide), sI_same]; rfl
  have v16 : v1.1 16 0 = 0 := by rw [← hv1, sI_same]
  have v10 : ∀ i, v1.1 10 i = if i = 8 * s + pl.length then nI nl.length else v.1 10 i := fun i => by rw [← hv1, sI_cell _ _ _ _ 10 (by decide), sI_cell _ _ _ _ 10 (by decide), sI_if]
  have up2 : ∀ i, u1.1 (P + 2) i = if i = pl.length then nI ws.length else u.1 (P + 2) i := fun i => by rw [← hu1, sI_cell _ _ _ _ _ (by omega), sI_if, hlw]
  have up3 : ∀ i, u1.1 (P + 3) i = if i = pl.length then nI nl.length else u.1 (P + 3) i := fun i => by rw [← hu1, sI_if, h23, sI_cell _ _ _ _ _ (by omega)]
  have n23 : (23 : Nat) ≠ P + 2 ∧ (23 : Nat) ≠ P + 3 ∧ (26 : Nat) ≠ P + 2 ∧ (26 : Nat) ≠ P + 3 ∧ (27 : Nat) ≠ P + 2 ∧ (27 : Nat) ≠ P + 3 := by rcases hP with e | e <;> omega
  have tk1 : toks T u1 v1 := by
    have := E.1
    unfold toks tokOK at *
    rw [u0 26 n23.2.2.1 n23.2.2.2.1, u0 27 n23.2.2.2.2.1 n23.2.2.2.2.2, uL, v0 3 (by decide) (by decide) (by decide), v0 4 (by decide) (by decide) (by decide), v0 5 (by decide) (by decide) (by decide), vL]
    exact this
  have X1 : CX P T s t 0 nl.length L1 L2 ws cs nl (fun i => i) pl pm u1 v1 := by
    refine ⟨⟨tk1, hs, E.2.2.1, by rw [u0 23 n23.1 n23.2.1, h23], by rw [vk 28 (by decide), h28], fun i hi => by rw [uL, vL]; exact E.2.2.2.2.2.1 i hi, by rw [vk 19 (by decide), D7], pl.length, nl.length, hp, by rw [v0 8 (by decide) (by decide) (by decide), D6], by rw [v10, if_pos rfl], hn, fun i hi => ⟨show i < 8 by omega, if_neg (by omega)⟩⟩, ⟨D1, D2, by rw [uL, D3], D4, by rw [u0 P (by omega) (by omega), D5], by rw [v0 8 (by decide) (by decide) (by decide), D6], by rw [vk 19 (by decide), D7], fun i hi => ?_⟩, C1, R1, v30, hL, ht, hw, hc, by omega, Nat.le_refl _, hp, by rw [v10, if_pos rfl], hn, fun i hi => show i < 0 + 2 by omega⟩
    rw [uL, vL, up3, if_neg (by omega), v10, if_neg (by omega)]
    exact D8 i hi
  have hcu : fX5_readPattern_n92 u = q_b (q_deedsT 0 u1) fun _ w5 => q_b (fX5_take 4 w5) fun _ w7 => if cC (w7.2.1 23 11) = 4 then q_b (fX4_add (w7.2.1 23 11) 0 w7) fun _ w10 => if cC (w10.2.1 23 11) = 4 then q_b (fX4_close (w10.2.1 23 11) w10) fun _ w13 => some ((), w13) else none else none := by
    unfold fX5_readPattern_n92
    rw [hC.2.1, if_pos (isP_c hP), openP_st hP D5 hp, q_b_some, hu1]
  have hrv : fX11_tellPattern_n177 (nI (8 * s + pl.length)) v = LQ q_N v1 := by
    unfold fX11_tellPattern_n177
    rw [if_pos (q_inb_nI (by omega) (by omega)), q_lt_eq, q_lt_eq, if_pos (show q_inb 0 8 from q_inb_nI (n := 0) (by omega) (by omega)), q_lt_eq, q_ix_nI (by omega), h28, show q_ix (0 : Int32) = 0 from q_ix_nI (n := 0) (by omega), hv1]
    rfl
  rw [hcu, hrv]
  have hNb : q_N = 4000000000 := rfl
  rcases deeds_ok (N := q_N) X1 (by omega) with ⟨u2, v2, t2, B, ns, N2, k1, k2, k3, k4, k5, k6, k7, k8, k9, k10, k11, k12, k13⟩ | ⟨f, p, u2, v2, m, k1, k2, k3, k4, k5, k6⟩
  · rw [k1, q_b_some, k2]
    obtain ⟨y1, y2, y3, y4, y5, y6, y7, y8, y9, y10, y11, y12, y13, y14, y15⟩ := k4
    obtain ⟨r, q1, q2, q3, q4, q5, q6, q7⟩ := tkn y1 y7
    clear q5 q6
    have hD : ¬ isD r := k13 r q1 (by rw [← k6.1 3 (by decide) (by decide) (by decide) (by decide) (by decide) (by decide) (by decide) (by decide) (by decide)]; exact q2)
    have c16 : v2.1 16 0 = 0 := by rw [(k7 0 (Nat.le_refl _)).1, v16]
    have hl5 : (ws ++ wds (B.map Prod.fst)).length = ws.length + (wds (B.map Prod.fst)).length := List.length_append
    have hl6 : (cs ++ trs (B.map Prod.fst)).length = cs.length + B.length := by rw [List.length_append, trs_len, List.length_map]
    obtain ⟨K, rfl⟩ : ∃ X, N2 = X + 2 := ⟨N2 - 2, by omega⟩
    have fE2 := frF1_t fu (frF_E k5)
    have fH2 := frPT_t fv (frPT_H k6)
    by_cases c21 : r = 21
    · subst c21
      rw [LQ_S y4 y5 (by omega), td_end y4 (by omega) q2]
      by_cases h5 : t2 = 500
      · subst h5
        obtain ⟨u3, e1, a1, b1⟩ := take_room y3 (k := km 21) q3
        have e1 : fX5_take 4 u2 = some ((), u3) := e1
        obtain ⟨u4, e2, a2, b2⟩ := add_F a1 0
        obtain ⟨u5, e3, a3, b3⟩ := close_F a2
        obtain ⟨v3, f1, a4, b4, z1, z2, z3⟩ := next_room0 y4 (by omega)
        obtain ⟨v4, m, f2, a5, b5⟩ := ends_F a4 z1 (by rw [z3 30 (by decide) (by decide), y5]) (by omega) (Or.inl (by rw [z2 16 (by decide)]; exact c16))
        rw [e1, q_b_some, a1.2.1, if_pos (isP_c hP), e2, q_b_some, a2.2.1, if_pos (isP_c hP), e3, q_b_some, f1, q_b_some, f2, q_b_some, q_b_some, LQ_F a5]
        rw [← q4] at a3
        exact Or.inr (XQ_t fE2 fH2 ⟨2, _, u5, v4, m, rfl, a3, frF1_t (frF1_1 (frP1_t b1 b2)) b3, rfl, a5, frPT_H (frH_t (frH_1 b4) b5)⟩)
      · have hlt := q7 (by decide) (by decide) (by omega)
        obtain ⟨u3, e1, a1, b1⟩ := take_st y3 (by omega) (k := km 21) q3
        have e1 : fX5_take 4 u2 = some ((), u3) := e1
        obtain ⟨u4, e2, a2, b2⟩ := add_st a1 (by omega) 0
        have p4 : u4.1 P 4 = nI pl.length := by rw [(frP1_t b1 b2).2.2.1 4 (by decide), y2.2.2.2.2.1]
        obtain ⟨v3, f1, a3, b3⟩ := next_st y4 (by omega)
        obtain ⟨v4, f2, a4, z1, b4⟩ := ends_0 (b := 0) a3 (by omega) (by omega) (by rw [b3.2.1 30 (by omega) (by omega) (by omega), y5]) (by rw [b3.1 16 (by decide) (by decide) (by decide) (by decide) (by decide)]; exact c16)
        have v48 : v4.1 8 s = nI pl.length := by rw [b4.1 8 (by decide) (by decide) (by decide) (by decide) (by decide) (by decide) (by decide), b3.1 8 (by decide) (by decide) (by decide) (by decide) (by decide), y2.2.2.2.2.2.1]
        have v419 : v4.1 0 19 = nI s := by rw [b4.2.1 19 (by omega) (by omega) (by omega) (by omega) (by omega) (by omega), b3.2.1 19 (by omega) (by omega) (by omega), y2.2.2.2.2.2.2.1]
        have hfin : LQ (K + 1) v4 = some ((), q_sI v4 8 s (nI (pl.length + 1))) := by
          unfold LQ
          rw [q_itS, fX11_tellPattern_h199, a4.2.2.1, if_pos rfl, z1, if_pos (show nI 0 ≤ 0 by decide)]
          unfold fX11_tellPattern_n220
          rw [a4.2.2.1, if_pos rfl, v419, q_lt_eq, if_pos (q_inb_nI hs (by omega)), if_pos (q_inb_nI hs (by omega)), q_lt_eq, q_ix_nI (by omega), v48, nI_1]
        rw [e1, q_b_some, a1.2.1, if_pos (isP_c hP), e2, q_b_some, a2.2.1, if_pos (isP_c hP), closeP_st hP p4 hp, q_b_some, f1, q_b_some, f2, q_b_some, q_b_some, hfin]
        have g34 := frH_t (frH_1 b3) (frH_D b4)
        have R5 : PR s (t2 + 1) (adN ns L2) (cs ++ trs (B.map Prod.fst) ++ [(18, 0, 0)]) [] 0 (q_sI v4 8 s (nI (pl.length + 1))) := by
          obtain ⟨h1, h2, h3, h4, h5', h6, h7, h8⟩ := a4
          exact ⟨h1, by rw [sI_cell _ _ _ _ 0 (by decide), h2], by rw [sI_cell _ _ _ _ 0 (by decide), h3], by rw [sI_cell _ _ _ _ 0 (by decide), h4], fun g => by rw [sI_cell _ _ _ _ 0 (by decide), h5' g], ⟨by rw [sI_cell _ _ _ _ 0 (by decide), h6.1], fun j hj => by rw [sI_cell _ _ _ _ 12 (by decide), sI_cell _ _ _ _ 13 (by decide), sI_cell _ _ _ _ 14 (by decide)]; exact h6.2 j hj⟩, ⟨by rw [sI_cell _ _ _ _ 0 (by decide), h7.1], h7.2.1, fun j hj => by rw [sI_cell _ _ _ _ 20 (by decide), h7.2.2 j hj]⟩, by rw [sI_cell _ _ _ _ 0 (by decide), h8]⟩
        have b12 := frP1_t b1 b2
        have ne2 : P + 2 ≠ 23 ∧ P + 2 ≠ P ∧ P + 2 ≠ P + 1 ∧ P + 3 ≠ 23 ∧ P + 3 ≠ P ∧ P + 3 ≠ P + 1 := by omega
        have g10 : ∀ i, v4.1 10 i = v1.1 10 i := fun i => by rw [g34.1 10 (by decide) (by decide) (by decide) (by decide) (by decide) (by decide) (by decide) (by decide) (by decide), k6.1 10 (by decide) (by decide) (by decide) (by decide) (by decide) (by decide) (by decide) (by decide) (by decide)]
        refine Or.inl ⟨_, _, t2 + 1, B, ns, rfl, rfl, ?_, ?_, by omega, by omega, k9, by omega, by omega, sI_same _ _ _ _, sI_same _ _ _ _, ?_, ?_, fun i hi => ⟨?_, ?_⟩, ?_, fun i hi => ?_, ?_, ?_, ?_, ?_, k12, frF1_t fE2 (frF1_t (frF1_1 b12) (frF_q P _ _ _ _ (Or.inl rfl))), frPT_t fH2 (frPT_t (frPT_H g34) (frPT_q s _ 8 _ _ (Or.inl ⟨rfl, rfl⟩)))⟩
        · rw [← List.append_assoc]; exact PC_P4 a2 _
        · rw [← List.append_assoc]; exact R5
        · rw [sI_cell _ _ _ _ _ (by omega), b12.1 _ ne2.1 ne2.2.1 ne2.2.2.1, k5.1 _ ne2.1 ne2.2.1 ne2.2.2.1, up2, if_pos rfl]
        · rw [sI_cell _ _ _ _ _ (by omega), b12.1 _ ne2.2.2.2.1 ne2.2.2.2.2.1 ne2.2.2.2.2.2, k5.1 _ ne2.2.2.2.1 ne2.2.2.2.2.1 ne2.2.2.2.2.2, up3, if_pos rfl]
        · rw [sI_cell _ _ _ _ _ (by omega), b12.1 _ ne2.1 ne2.2.1 ne2.2.2.1, k5.1 _ ne2.1 ne2.2.1 ne2.2.2.1, up2, if_neg hi]
        · rw [sI_cell _ _ _ _ _ (by omega), b12.1 _ ne2.2.2.2.1 ne2.2.2.2.2.1 ne2.2.2.2.2.2, k5.1 _ ne2.2.2.2.1 ne2.2.2.2.2.1 ne2.2.2.2.2.2, up3, if_neg hi]
        · rw [sI_cell _ _ _ _ 10 (by decide), g10, v10, if_pos rfl]
        · rw [sI_cell _ _ _ _ 10 (by decide), g10, v10, if_neg hi]
        · rw [sI_cell _ _ _ _ 11 (by decide), g34.1 11 (by decide) (by decide) (by decide) (by decide) (by decide) (by decide) (by decide) (by decide) (by decide), k6.1 11 (by decide) (by decide) (by decide) (by decide) (by decide) (by decide) (by decide) (by decide) (by decide), v0 11 (by decide) (by decide) (by decide)]
        · show u4.2.2 29 = _
          rw [b12.2.2.2, k5.2.2.2.2 29 (by decide), uL]
        · show v4.2.2 9 = _
          rw [g34.2.2.2.2 9 (by decide), k6.2.2.2.2 9 (by decide), vL]
        · have tkf := toks_H hP tk1 (frE_t k5 (frE_1 b12)) (frH_t k6 g34)
          unfold toks tokOK at *
          rw [sI_cell _ _ _ _ 26 (by omega), sI_cell _ _ _ _ 27 (by omega), sI_cell _ _ _ _ 3 (by decide), sI_cell _ _ _ _ 4 (by decide), sI_cell _ _ _ _ 5 (by decide)]
          exact tkf
    · obtain ⟨v3, f1, a3, b3⟩ := LQ_no (N := K) y4 (by omega) q2 q1 hD c21 y5 (by omega) (fun _ => by rw [c16]; decide) (by omega)
      obtain ⟨u3, e1, a1, b1⟩ := take_no y3 (k := 4) (by rw [q3]; exact km_ne (b := 21) q1 (Or.inr (Or.inl (by omega))) c21)
      obtain ⟨u4, e2, a2, b2⟩ := add_F a1 0
      obtain ⟨u5, e3, a4, b4⟩ := close_F a2
      rw [e1, q_b_some, a1.2.1, if_pos (isP_c hP), e2, q_b_some, a2.2.1, if_pos (isP_c hP), e3, q_b_some, f1]
      rw [← q4] at a4
      exact Or.inr (XQ_t fE2 fH2 ⟨1, _, u5, v3, 40, rfl, a4, frF1_t (frF1_1 (frP1_t b1 b2)) b4, rfl, a3, frPT_1 b3⟩)
  · obtain ⟨u3, e1, a1, b1⟩ := take_F k2 4
    obtain ⟨u4, e2, a2, b2⟩ := add_F a1 0
    obtain ⟨u5, e3, a3, b3⟩ := close_F a2
    rw [k1, q_b_some, e1, q_b_some, a1.2.1, if_pos (isP_c hP), e2, q_b_some, a2.2.1, if_pos (isP_c hP), e3, q_b_some, k4]
    exact Or.inr (XQ_t fu fv ⟨f, p, u5, v2, m, rfl, a3, frF1_t (frF_E k3) (frF1_t (frF1_1 (frP1_t b1 b2)) b3), rfl, k5, frPT_H k6⟩)
