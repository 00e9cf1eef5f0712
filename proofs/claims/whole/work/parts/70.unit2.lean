/-! one unit: a name; none; too deep -/
theorem fr26 {P : Nat} {u u' : q_W} (hP : isP P) (f : frP1 P u u') : u'.1 26 = u.1 26 ∧ u'.1 27 = u.1 27 := ⟨f.1 26 (by decide) (by rcases hP with e | e <;> omega) (by rcases hP with e | e <;> omega), f.1 27 (by decide) (by rcases hP with e | e <;> omega) (by rcases hP with e | e <;> omega)⟩
theorem frR4 {s : Nat} {v v' : q_W} (f : frR1 s v v') : v'.1 3 = v.1 3 ∧ v'.1 4 = v.1 4 ∧ v'.1 5 = v.1 5 := ⟨f.1 3 (by decide) (by decide) (by decide) (by decide) (by decide), f.1 4 (by decide) (by decide) (by decide) (by decide) (by decide), f.1 5 (by decide) (by decide) (by decide) (by decide) (by decide)⟩
theorem unit_name {P T s t d : Nat} {nl : List (List Nat)} {sl : Nat → Nat} {L1 L2 : Nat × Int32} {ws : List Int32} {cs : List Tr} {W : List Nat} {u v : q_W} (E : EC T s nl sl u v) (hC : PC P t L1 ws u) (hR : PR s t L2 cs W d v) (hL2 : L2.1 ≤ 5) (ht : t ≤ T) (hw : ws.length ≤ 3 * t + 30) (hc : cs.length ≤ 2 * t + 30) (hW : W.length ≤ 3 * d + 3) (hd : d ≤ 6) (N9 M o : Nat) (b : Int32) (rU rS : Int32 → q_W → Option (Unit × q_W)) (h2 : u.1 26 t = km 1) (h3 : v.1 3 t = nI 1) (hp : v.1 4 t = u.1 27 t) {l : List Nat} (hl : okL l) (hy1 : u.2.2 28 t = lN (q2 l)) (hy2 : v.2.2 6 t = lN (r2 l)) (hlt : t < 500 → t < T) : XOK P T s t d L1 L2 ws cs W nl sl u v [] 0 (bU d) 0 N9 (fun K N M w => Y31k K N M b (nI o) w) (fun t' => t < t') (fX5_readUnit rU rS (nI d) u) (X20 N9 (M + 1) b (nI o) v) ∨ XF P s u v (fX5_readUnit rU rS (nI d) u) (X20 N9 (M + 1) b (nI o) v) := by
  have hT := E.1.1
  have hr1 : rOK 1 := Or.inl (by omega)
  have i6 : fX11_is 6 v = some (0, v) := isR hR (by omega) h3 hr1 6 (by decide)
  have i9 : fX11_is 9 v = some (0, v) := isR hR (by omega) h3 hr1 9 (by decide)
  have i2 : fX11_is 2 v = some (0, v) := isR hR (by omega) h3 hr1 2 (by decide)
  have hsay : fX7_saysAt (nI t) u = some (lN (q2 l), u) := by
    unfold fX7_saysAt
    rw [if_neg (nI_pos (by omega)), if_neg (by rw [show (501 : Int32) = nI 501 from rfl, nI_leI (by omega) (by omega)]; omega), if_pos (q_inb_nI (by omega) (by omega)), q_ix_nI (by omega), hy1]
  have hreach := reachOf_ok E.2.2.1 E.2.2.2.1 (fun i hi => ⟨(E.2.2.2.2.2.1 i hi).1, (E.2.2.2.2.2.1 i hi).2.1⟩) hl
  -- the class's word
  have cu0 : ∃ u1, fX5_readUnit rU rS (nI d) u = q_b (fX5_take 1 u1) (fun r4 w5 => some ((), w5)) ∧ PC P t (match idF nl l nl.length 0 with | none => noteL (4, u.1 27 t) L1 | some _ => L1) (ws ++ [3, ixV (idF nl l nl.length 0)]) u1 ∧ frP1 P u u1 := by
    unfold fX5_readUnit fX5_readUnit_n73
    rw [hC.2.2.2.1, h2, if_neg (show ¬ km 1 = 2 by decide), if_pos (show km 1 = 1 from rfl), hC.2.2.1, hsay, q_b_some, hreach, q_b_some]
    rcases id_both nl l with ⟨g1, g2⟩ | ⟨i, j, g1, g2, g3, g4, g5⟩
    · obtain ⟨u1, e1, a1, b1⟩ := note_st hC (4, u.1 27 t) (by omega)
      have e1 : fX5_note 4 (u.1 27 t) u = some ((), u1) := e1
      obtain ⟨u2, e2, a2, b2⟩ := add2_st a1 (by omega) 3 (-1)
      rw [g1, if_neg (show ¬ 0 ≤ ixV none by decide), hC.2.2.2.2.1, e1, q_b_some, a1.2.1, if_pos (isP_c hC.1)]
      show ∃ u1, q_b (fX4_add_ P 3 (-1) _) _ = _ ∧ _
      rw [e2, q_b_some]
      exact ⟨u2, rfl, a2, frP1_t b1 b2⟩
    · obtain ⟨u2, e2, a2, b2⟩ := add2_st hC (by omega) 3 (nI i)
      have := E.2.2.1
      rw [g1, if_pos (show 0 ≤ ixV (some i) from nI_pos' (by omega)), hC.2.1, if_pos (isP_c hC.1)]
      show ∃ u1, q_b (fX4_add_ P 3 (nI i) _) _ = _ ∧ _
      rw [e2, q_b_some]
      exact ⟨u2, rfl, a2, b2⟩
  obtain ⟨u1, cu0, a1, b1⟩ := cu0
  obtain ⟨f26, f27⟩ := fr26 hC.1 b1
  have k1 : u1.1 26 t = 1 := by rw [f26, h2]; rfl
  unfold X20
  rw [cu0, q_itS, fX11_expression_h20, i6, q_b_some, if_pos rfl, i9, q_b_some, if_pos rfl]
  unfold fX11_unit
  rw [i2, q_b_some, if_pos rfl, hR.2.1, q_lt_eq]
  by_cases h5 : t = 500
  · subst h5
    obtain ⟨u2, e3, a3, b3⟩ := take_room a1 k1
    obtain ⟨v2, e4, a4, b4⟩ := must_room hR (k := 1) h3 40 (by omega) (by omega) (by omega)
    rw [e3, q_b_some, e4, q_b_some, a4.2.2.2.1, if_neg (by decide), q_b_some, a4.2.2.2.1, if_neg (by decide)]
    refine Or.inr ⟨2, _, u2, v2, 40, rfl, a3, frP1_t b1 b3, rfl, ?_, b4⟩
    have : u1.1 27 500 = v.1 4 500 := by rw [f27, hp]
    rw [this]; exact a4
  · have hlt' := hlt (by omega)
    obtain ⟨u2, e3, a3, b3⟩ := take_st a1 (by omega) k1
    obtain ⟨v1, e4, a4, b4⟩ := must_st hR (by omega) (k := 1) h3
    have E1 := EC_fr hC.1 E b1 b4
    obtain ⟨v2, e5, a5, b5⟩ := named_ok (tk := t) E1 a4 hL2 (by omega) hl (by omega) (by rw [b4.2.2.2]; exact hy2)
    rw [e3, q_b_some, e4, q_b_some, a4.2.2.1, if_pos rfl, e5, q_b_some, q_b_some, a5.2.2.1, if_pos (by decide)]
    rw [(frR4 b4).2.1, hp] at a5
    rcases id_both nl l with ⟨g1, g2⟩ | ⟨i, j, g1, g2, g3, g4, g5⟩
    · rw [g1] at a3
      rw [g2] at a5
      refine Or.inl ⟨u2, t + 1, [([3, -1], z3)], [(4, u.1 27 t)], v2, q_N, N9, q_N, rfl, a3, frP1_t b1 b3, by omega, by omega, ?_, rfl, ?_, frR1_t b4 b5, by omega, by omega, by omega, ?_, ?_, fun c => absurd c (by simp), fun h hh => HG_one rfl (by unfold bU at hh; omega), Nat.lt_succ_self t⟩
      · intro x hx
        rw [List.mem_singleton.mp hx]
        exact ⟨by show 1 ≤ 4; decide, by show 4 ≤ 5; decide⟩
      · rw [List.append_nil]; exact a5
      · show 2 + 0 ≤ _; omega
      · show 1 + 0 ≤ _; omega
    · rw [g1] at a3
      rw [g2] at a5
      refine Or.inl ⟨u2, t + 1, [([3, nI i], 1, nI (sl j), 0)], [], v2, q_N, N9, q_N, rfl, a3, frP1_t b1 b3, by omega, by omega, okNs_nil, rfl, ?_, frR1_t b4 b5, by omega, by omega, by omega, ?_, ?_, fun _ nd x hx => ?_, fun h hh => HG_one rfl (by unfold bU at hh; omega), Nat.lt_succ_self t⟩
      · rw [List.append_nil]; exact a5
      · show 2 + 0 ≤ _; omega
      · show 1 + 0 ≤ _; omega
      · rw [List.mem_singleton.mp hx, g5 nd]
        exact Or.inr (Or.inl ⟨j, g4, rfl⟩)
theorem unit_no {P T s t d : Nat} {nl : List (List Nat)} {sl : Nat → Nat} {L1 L2 : Nat × Int32} {ws : List Int32} {cs : List Tr} {W : List Nat} {u v : q_W} (E : EC T s nl sl u v) (hC : PC P t L1 ws u) (hR : PR s t L2 cs W d v) (ht : t ≤ T) (hc : cs.length ≤ 2 * t + 30) (hW : W.length ≤ 3 * d + 3) (hd : d ≤ 6) (N9 M : Nat) (o : Int32) (b : Int32) (rU rS : Int32 → q_W → Option (Unit × q_W)) {r : Nat} (hr : rOK r) (h2 : u.1 26 t = km r) (h3 : v.1 3 t = nI r) (hp : v.1 4 t = u.1 27 t) (n1 : r ≠ 1) (n2 : r ≠ 2) (n6 : r ≠ 6) (n9 : r ≠ 9) : XF P s u v (fX5_readUnit rU rS (nI d) u) (X20 N9 (M + 1) b o v) := by
  have hT := E.1.1
  have i6 : fX11_is 6 v = some (0, v) := by rw [show (6 : Int32) = nI 6 from rfl, isR hR (by omega) h3 hr 6 (by decide), if_neg n6]
  have i9 : fX11_is 9 v = some (0, v) := by rw [show (9 : Int32) = nI 9 from rfl, isR hR (by omega) h3 hr 9 (by decide), if_neg n9]
  have i2 : fX11_is 2 v = some (0, v) := by rw [show (2 : Int32) = nI 2 from rfl, isR hR (by omega) h3 hr 2 (by decide), if_neg n2]
  obtain ⟨u1, e1, a1, b1⟩ := fail_st hC 1 (by omega)
  have e1 : fX5_fail 1 u = some ((), u1) := e1
  obtain ⟨v1, e2, a2, b2⟩ := must_no hR (by omega) (k := 1) (by rw [h3]; exact nI_ne (b := 1) (by unfold rOK at hr; omega) (by decide) n1) 40 (by omega) (by omega) (by omega)
  have cu : fX5_readUnit rU rS (nI d) u = some ((), u1) := by
    unfold fX5_readUnit
    rw [hC.2.2.2.1, h2, if_neg (show ¬ km r = 2 from km_ne hr (b := 2) (Or.inl (by omega)) n2), if_neg (show ¬ km r = 1 from km_ne hr (b := 1) (Or.inl (by omega)) n1), if_neg (show ¬ km r = 45 from km_ne hr (b := 9) (Or.inl (by omega)) n9), if_neg (show ¬ km r = 40 from km_ne hr (b := 6) (Or.inl (by omega)) n6), e1, q_b_some]
  have rv : X20 N9 (M + 1) b o v = some ((), v1) := by
    unfold X20 
    rw [q_itS, fX11_expression_h20, i6, q_b_some, if_pos rfl, i9, q_b_some, if_pos rfl]
    unfold fX11_unit
    rw [i2, q_b_some, if_pos rfl, q_lt_eq, e2, q_b_some, a2.2.2.2.1, if_neg (by decide), q_b_some, a2.2.2.2.1, if_neg (by decide)]
  refine ⟨1, _, u1, v1, 40, cu, a1, b1, rv, ?_, b2⟩
  rw [← hp]; exact a2
/-- a sign ahead of a unit: the reference's step -/
theorem pre_st {P T s t d : Nat} {nl : List (List Nat)} {sl : Nat → Nat} {L1 L2 : Nat × Int32} {ws : List Int32} {cs : List Tr} {W : List Nat} {u v : q_W} (E : EC T s nl sl u v) (hC : PC P t L1 ws u) (hR : PR s t L2 cs W d v) (ht : t ≤ T) (hc : cs.length ≤ 2 * t + 30) (hW : W.length ≤ 3 * d + 3) (hd : d ≤ 6) (N9 M : Nat) (o : Nat) (b : Int32) {r : Nat} (hr : r = 6 ∨ r = 9) (h3 : v.1 3 t = nI r) : (d < 6 ∧ t < 500 ∧ ∃ v', X20 N9 (M + 1 + 1) b (nI o) v = X20 N9 (M + 1) b (nI (o + (if r = 6 then 1 else 0))) v' ∧ PR s (t + 1) L2 cs (W ++ [if r = 6 then 6 else 1]) (d + 1) v' ∧ frR1 s v v') ∨ ((d = 6 ∨ t = 500) ∧ ∃ v', X20 N9 (M + 1 + 1) b (nI o) v = some ((), v') ∧ FR s 2 (v.1 4 t) 40 v' ∧ frR1 s v v') := by
  have hT := E.1.1
  have hrr : rOK r := by rcases hr with rfl | rfl <;> exact Or.inl (by omega)
  have h20 : X20 N9 (M + 1 + 1) b (nI o) v = fX11_expression_n38 (R9 N9) (q_it (M + 1) (fX11_expression_h20 (R9 N9)) (fun _ _ _ => none)) b (nI o) v := by
    unfold X20
    rw [q_itS, fX11_expression_h20, show (6 : Int32) = nI 6 from rfl, isR hR (by omega) h3 hrr 6 (by decide), q_b_some]
    rcases hr with rfl | rfl
    · rw [if_pos rfl, if_neg i_10]
    · rw [show (if (9 : Nat) = 6 then (1 : Int32) else 0) = 0 from rfl, if_pos (show (0 : Int32) = 0 from rfl), show (9 : Int32) = nI 9 from rfl, isR hR (by omega) h3 hrr 9 (by decide), q_b_some, if_pos rfl, if_neg i_10]
  rw [h20]
  unfold fX11_expression_n38
  rw [hR.2.2.2.2.2.2.2]
  by_cases hd6 : d = 6
  · right
    refine ⟨Or.inl hd6, ?_⟩
    obtain ⟨v1, e1, a1, b1⟩ := failR_st hR (by omega) 2 (by omega) 40 (by omega) (by omega) (by omega)
    have e1 : fX11_fail 2 v = some ((), v1) := e1
    have hn : v1.1 0 38 = nI W.length := by
      have : v1 = q_sI (q_sI v 0 13 2) 0 14 ((q_sI v 0 13 2).1 4 t) := by
        unfold fX11_fail at e1
        rw [hR.2.2.1, if_pos (by decide), q_lt_eq, q_lt_eq, sI_k _ _ _ _ _ (show 11 ≠ 13 by decide), hR.2.1, if_pos (q_inb_nI (by omega) (by omega)), q_lt_eq, q_ix_nI (by omega)] at e1
        exact (congrArg Prod.snd (Option.some.inj e1)).symm
      rw [this, sI_k _ _ _ _ _ (by decide), sI_k _ _ _ _ _ (by decide), hR.2.2.2.2.2.2.1.1]
    obtain ⟨v2, e2, a2, b2⟩ := pre_F (N := N9) (M := M) a1 hn (by omega) b (nI o)
    rw [hd6, if_pos (show nI 6 = 6 from rfl), e1, q_b_some, e2]
    exact ⟨v2, rfl, a2, frR1_t b1 b2⟩
  · rw [if_neg (show ¬ nI d = 6 from nI_ne (b := 6) (by omega) (by decide) hd6)]
    unfold fX11_expression_n52
    rw [hR.2.2.2.2.2.2.2, nI_1, q_lt_eq]
    have hR1 : PR s t L2 cs W (d + 1) (q_sI v 0 12 (nI (d + 1))) := by
      obtain ⟨a1, a2, a3, a4, a5, a6, a7, a8⟩ := hR
      exact ⟨a1, by rw [sI_k _ _ _ _ _ (by decide), a2], by rw [sI_k _ _ _ _ _ (by decide), a3], by rw [sI_k _ _ _ _ _ (by decide), a4], fun g => by rw [sI_k _ _ _ _ _ (by decide), a5 g], ⟨by rw [sI_k _ _ _ _ _ (by decide), a6.1], fun i hi => by rw [sI_cell _ _ _ _ 12 (by decide), sI_cell _ _ _ _ 13 (by decide), sI_cell _ _ _ _ 14 (by decide)]; exact a6.2 i hi⟩, ⟨by rw [sI_k _ _ _ _ _ (by decide), a7.1], a7.2.1, fun i hi => by rw [sI_cell _ _ _ _ 20 (by decide)]; exact a7.2.2 i hi⟩, sI_same _ _ _ _⟩
    have f1 := frR1_0 s v 12 (nI (d + 1)) (by omega)
    have h3' : (q_sI v 0 12 (nI (d + 1))).1 3 t = nI r := by rw [sI_cell _ _ _ _ _ (by decide)]; exact h3
    have key : fX11_expression_n52 (R9 N9) (q_it (M + 1) (fX11_expression_h20 (R9 N9)) (fun _ _ _ => none)) b (nI o) v = fX11_expression_n97 (R9 N9) (q_it (M + 1) (fX11_expression_h20 (R9 N9)) (fun _ _ _ => none)) b (nI (o + (if r = 6 then 1 else 0))) (nI (if r = 6 then 6 else 1)) (nI W.length) (q_sI v 0 12 (nI (d + 1))) := by
      unfold fX11_expression_n52
      rw [hR.2.2.2.2.2.2.2, nI_1, q_lt_eq, show (6 : Int32) = nI 6 from rfl, isR hR1 (by omega) h3' hrr 6 (by decide), q_b_some]
      unfold fX11_expression_n74
      rw [show (6 : Int32) = nI 6 from rfl, isR hR1 (by omega) h3' hrr 6 (by decide), q_b_some]
      rcases hr with rfl | rfl
      · rw [if_pos rfl, if_neg i_10, q_lt_eq, q_b_some, if_neg i_10, nI_1, sI_k _ _ _ _ _ (show 38 ≠ 12 by decide), hR.2.2.2.2.2.2.1.1]
        rfl
      · rw [show (if (9 : Nat) = 6 then (1 : Int32) else 0) = 0 from rfl, if_pos (show (0 : Int32) = 0 from rfl), if_pos (show (0 : Int32) = 0 from rfl), sI_k _ _ _ _ _ (show 38 ≠ 12 by decide), hR.2.2.2.2.2.2.1.1]
        rfl
    have key2 := key
    unfold fX11_expression_n52 at key2
    rw [hR.2.2.2.2.2.2.2, nI_1, q_lt_eq] at key2
    rw [key2]
    unfold fX11_expression_n97
    obtain ⟨hR2, f2⟩ := push_wt hR1 (by omega) (if r = 6 then 6 else 1) (Or.inl rfl) (fun _ => rfl) (w := q_sI v 0 12 (nI (d + 1)))
    have e38 : (q_sI (q_sI v 0 12 (nI (d + 1))) 20 W.length (nI (if r = 6 then 6 else 1))).1 0 38 = nI W.length := by rw [sI_cell _ _ _ _ _ (by decide), sI_k _ _ _ _ _ (by decide), hR.2.2.2.2.2.2.1.1]
    rw [if_pos (q_inb_nI (by omega) (by omega)), q_lt_eq, q_lt_eq, q_ix_nI (by omega), e38, nI_1]
    by_cases h5 : t = 500
    · right
      refine ⟨Or.inr h5, ?_⟩
      subst h5
      obtain ⟨v3, e3, a3, b3⟩ := next_room hR2 40 (by rw [List.length_append]; show W.length + 1 ≤ 40; omega) (by omega) (by omega)
      rw [e3, q_b_some]
      refine ⟨v3, h20_F a3 b _, ?_, frR1_t f1 (frR1_t f2 b3)⟩
      have : (q_sI (q_sI (q_sI v 0 12 (nI (d + 1))) 20 W.length (nI (if r = 6 then 6 else 1))) 0 38 (nI (W.length + 1))).1 4 500 = v.1 4 500 := by
        rw [(frR4 f2).2.1, (frR4 f1).2.1]
      rw [this] at a3
      exact a3
    · left
      obtain ⟨v3, e3, a3, b3⟩ := next_st hR2 (by omega)
      rw [e3, q_b_some]
      exact ⟨by omega, by omega, v3, rfl, a3, frR1_t f1 (frR1_t f2 b3)⟩
