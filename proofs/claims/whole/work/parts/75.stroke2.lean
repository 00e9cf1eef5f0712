/-! a stroke -/
def mny (k : Nat) : Nat := [4, 3, 5, 2].getD k 0
def SOK (P T s t k : Nat) (L1 L2 : Nat × Int32) (ws : List Int32) (cs : List Tr) (nl : List (List Nat)) (sl : Nat → Nat) (u v : q_W) (cu rv : Option (Unit × q_W)) : Prop :=
  ∃ u' v' t' ax wa es ns, cu = some ((), u') ∧ rv = some ((), v') ∧ PC P t' (adN ns L1) (ws ++ (wa ++ wds es ++ [21, nI k])) u' ∧ PR s t' (adN ns L2) (cs ++ (trs es ++ [(9, nI k, nI ax)])) [] 0 v' ∧ frP1 P u u' ∧ frR1 s v v' ∧ t < t' ∧ t' ≤ T ∧ okNs ns ∧ wa.length + (wds es).length + 2 ≤ 2 * (t' - t) ∧ es.length + 1 ≤ t' - t ∧ (ns = [] → ndp nl → ∀ x, x ∈ es → gI nl.length sl x) ∧ HX es (mny k) ∧ ((k = 0 ∧ ax = 0 ∧ wa = []) ∨ (1 ≤ k ∧ ax < 2 ∧ wa = [2, nI ax]))
theorem n48_ok (k ax : Nat) (v : q_W) (hk : k ≤ 3) : fX11_tellStroke_n48 (nI k) (nI ax) v = q_it q_N fX11_tellStroke_h80 (fun _ _ _ _ _ => none) (nI k) (nI ax) (nI (mny k)) (nI 0) v := by
  unfold fX11_tellStroke_n48 fX11_tellStroke_n75 fX11_tellStroke_l80
  obtain rfl | rfl | rfl | rfl : k = 0 ∨ k = 1 ∨ k = 2 ∨ k = 3 := by omega
  · rw [if_pos (by decide)]; rfl
  · rw [if_neg (by decide), if_pos (by decide)]; rfl
  · rw [if_neg (by decide), if_neg (by decide), if_pos (by decide)]; rfl
  · rw [if_neg (by decide), if_neg (by decide), if_neg (by decide)]; rfl
theorem mny_ok {k : Nat} (hk : 1 ≤ k ∧ k ≤ 3) : nums k = 1 + mny k ∧ mny k ≤ 5 := by
  obtain rfl | rfl | rfl : k = 1 ∨ k = 2 ∨ k = 3 := by omega
  · decide
  · decide
  · decide
theorem stroke_ok {P T s k t : Nat} {L1 L2 : Nat × Int32} {ws : List Int32} {cs : List Tr} {nl : List (List Nat)} {sl : Nat → Nat} {u v : q_W} (hk : k ≤ 3) (a : Int32) (E : EC T s nl sl u v) (hC : PC P t L1 ws u) (hR : PR s t L2 cs [] 0 v) (hL : L2.1 ≤ 5) (ht : t ≤ T) (hw : ws.length ≤ 3 * t + 20) (hc : cs.length ≤ 2 * t + 20) : SOK P T s t k L1 L2 ws cs nl sl u v (fX5_readStroke (nI k) u) (fX11_tellStroke (nI k) a v) ∨ XF P s u v (fX5_readStroke (nI k) u) (fX11_tellStroke (nI k) a v) := by
  have hT := E.1.1
  have h8 : 8 < q_N := Nat.le_of_ble_eq_true rfl
  rcases Nat.eq_zero_or_pos k with rfl | hk1
  · unfold fX5_readStroke fX11_tellStroke fX5_readStroke_n50 fX5_readStroke_l52
    rw [if_pos (show nI 0 = 0 from rfl), if_pos (show nI 0 ≤ 0 by decide), show (0 : Int32) = nI 0 from rfl, n48_ok 0 0 v (by omega)]
    rcases args_ok (k := 0) (c := 0) (many := mny 0) (ax := 0) (by omega) (by decide) (by omega) (mny 0) q_N q_N 0 t L1 L2 ws cs u v (Nat.zero_add _) (Nat.lt_of_le_of_lt (show mny 0 ≤ 8 by decide) h8) (Nat.lt_of_le_of_lt (show mny 0 ≤ 8 by decide) h8) E hC hR hL ht hw hc with ⟨u3, v3, t3, es, ns, g1, g2, g3, g4, g5, g6, g7, g8, g9, g10, g11, g12, g13⟩ | g
    · refine Or.inl ⟨u3, v3, t3, 0, [], es, ns, g1, g2, ?_, ?_, g5, g6, g7, g8, g9, ?_, g11, g12, g13, Or.inl ⟨rfl, rfl, rfl⟩⟩
      · rw [List.nil_append, ← List.append_assoc]; exact g3
      · rw [← List.append_assoc]; exact g4
      · rw [List.length_nil, Nat.zero_add]; exact g10
    · exact Or.inr g
  · obtain ⟨m1, m2⟩ := mny_ok ⟨hk1, hk⟩
    obtain ⟨r, q1, q2, q3, q4, q5, q6, q7⟩ := tkn E ht
    clear q5 q6
    -- behind the side
    have go : ∀ ax (u1 v1 : q_W), ax < 2 → EC T s nl sl u1 v1 → PC P (t + 1) L1 (ws ++ [2, nI ax]) u1 → PR s (t + 1) L2 cs [] 0 v1 → frP1 P u u1 → frR1 s v v1 → t + 1 ≤ T → SOK P T s t k L1 L2 ws cs nl sl u v (fX5_readStroke_n50 (nI k) 1 u1) (fX11_tellStroke_n48 (nI k) (nI ax) v1) ∨ XF P s u v (fX5_readStroke_n50 (nI k) 1 u1) (fX11_tellStroke_n48 (nI k) (nI ax) v1) := by
      intro ax u1 v1 hax E1 a1 a2 b1 b2 h1
      unfold fX5_readStroke_n50 fX5_readStroke_l52
      rw [n48_ok k ax v1 hk, show (1 : Int32) = nI 1 from rfl]
      rcases args_ok (k := k) (c := 1) (many := mny k) (ax := ax) hk m1 hax (mny k) q_N q_N 0 (t + 1) L1 L2 (ws ++ [2, nI ax]) cs u1 v1 (Nat.zero_add _) (Nat.lt_of_le_of_lt (show mny k ≤ 8 by omega) h8) (Nat.lt_of_le_of_lt (show mny k ≤ 8 by omega) h8) E1 a1 a2 hL h1 (by rw [List.length_append, show [2, nI ax].length = 2 from rfl]; omega) (by omega) with ⟨u3, v3, t3, es, ns, g1, g2, g3, g4, g5, g6, g7, g8, g9, g10, g11, g12, g13⟩ | ⟨f, p, u3, v3, m, g1, g2, g3, g4, g5, g6⟩
      · refine Or.inl ⟨u3, v3, t3, ax, [2, nI ax], es, ns, g1, g2, ?_, ?_, frP1_t b1 g5, frR1_t b2 g6, by omega, g8, g9, ?_, by omega, g12, g13, Or.inr ⟨hk1, hax, rfl⟩⟩
        · rw [← List.append_assoc, ← List.append_assoc]; exact g3
        · rw [← List.append_assoc]; exact g4
        · rw [show [2, nI ax].length = 2 from rfl]; omega
      · exact Or.inr ⟨f, p, u3, v3, m, g1, g2, frP1_t b1 g3, g4, g5, frR1_t b2 g6⟩
    have goF : ∀ f m p ax (u1 v1 : q_W), FC P f p u1 → FR s f p m v1 → frP1 P u u1 → frR1 s v v1 → XF P s u v (fX5_readStroke_n50 (nI k) 1 u1) (fX11_tellStroke_n48 (nI k) (nI ax) v1) := by
      intro f m p ax u1 v1 a1 a2 b1 b2
      unfold fX5_readStroke_n50 fX5_readStroke_l52
      rw [n48_ok k ax v1 hk, show (1 : Int32) = nI 1 from rfl]
      obtain ⟨u3, g1, g2, g3, g4⟩ := args_F (ax := ax) (s := s) hk m1 (mny k) q_N q_N 0 u1 v1 (Nat.zero_add _) (Nat.lt_of_le_of_lt (show mny k ≤ 8 by omega) h8) (Nat.lt_of_le_of_lt (show mny k ≤ 8 by omega) h8) a1 a2
      exact ⟨f, p, u3, v1, m, g1, g3, frP1_t b1 g4, g2, a2, b2⟩
    have fin : ∀ ax (u1 : q_W), ax < 2 → r = 33 + ax → PC P t L1 (ws ++ [2, nI ax]) u1 → frP1 P u u1 → SOK P T s t k L1 L2 ws cs nl sl u v (fX5_readStroke_n45 (nI k) (km r) u1) (fX11_tellStroke_n43 (nI k) (nI ax) v) ∨ XF P s u v (fX5_readStroke_n45 (nI k) (km r) u1) (fX11_tellStroke_n43 (nI k) (nI ax) v) := by
      intro ax u1 hax hr a1 b1
      have hne := isP_ne hC.1
      have t6 : u1.1 26 t = km r := by rw [b1.1 26 (by decide) (fun e => hne.2.2.1 e.symm) (fun e => hne.2.2.2.2.1 e.symm), q3]
      have t7 : u1.1 27 t = v.1 4 t := by rw [b1.1 27 (by decide) (fun e => hne.2.2.2.1 e.symm) (fun e => hne.2.2.2.2.2.1 e.symm), q4]
      unfold fX5_readStroke_n45 fX11_tellStroke_n43
      by_cases h5 : t = 500
      · subst h5
        obtain ⟨u2, e2, a2, b2⟩ := take_room a1 (k := km r) t6
        obtain ⟨v2, e3, a3, b3⟩ := next_room hR 40 (by show 0 ≤ 40; omega) (by omega) (by omega)
        rw [e2, q_b_some, e3, q_b_some]
        exact Or.inr (goF 2 40 _ ax u2 v2 a2 (by rw [t7]; exact a3) (frP1_t b1 b2) b3)
      · obtain ⟨u2, e2, a2, b2⟩ := take_st a1 (by omega) (k := km r) t6
        obtain ⟨v2, e3, a3, b3⟩ := next_st hR (by omega)
        rw [e2, q_b_some, e3, q_b_some]
        exact go ax u2 v2 hax (EC_fr hC.1 E (frP1_t b1 b2) b3) a2 a3 (frP1_t b1 b2) b3 (q7 (by omega) (by omega) (by omega))
    have hk0 : ¬ nI k ≤ 0 := nI_nle (by omega) (by omega)
    have hk00 : ¬ nI k = 0 := nI_ne0 (by omega) (by omega)
    unfold fX5_readStroke fX11_tellStroke
    rw [if_neg hk00, hC.2.1, if_pos (isP_c hC.1), hC.2.2.2.1, q3, if_neg hk0, show (33 : Int32) = nI 33 from rfl, isR hR (by omega) q2 q1 33 (by decide), q_b_some]
    have hwl : ws.length + 1 < 2000 := by omega
    have hne := isP_ne hC.1
    by_cases r4 : r = 34
    · subst r4
      obtain ⟨u1, e1, a1, b1⟩ := add2_st hC hwl 2 1
      have t5 : u1.1 23 5 = 15 := by rw [a1.2.2.2.1, b1.1 26 (by decide) (fun e => hne.2.2.1 e.symm) (fun e => hne.2.2.2.2.1 e.symm), q3]; rfl
      unfold fX5_readStroke_n25 fX11_tellStroke_n29
      rw [if_pos (show km 34 = 15 from rfl), e1, q_b_some, if_pos t5, if_neg (show ¬ 34 = 33 by decide), if_pos rfl, show (34 : Int32) = nI 34 from rfl, isR1 hR (by omega) q2, q_b_some, if_neg i_10, isR1 hR (by omega) q2, q_b_some, if_neg i_10]
      exact fin 1 u1 (by omega) rfl a1 b1
    · obtain ⟨u1, e1, a1, b1⟩ := add2_st hC hwl 2 0
      have n15 : ¬ km r = 15 := km_ne (b := 34) q1 (Or.inr (Or.inl (by omega))) r4
      have t5 : ¬ u1.1 23 5 = 15 := by rw [a1.2.2.2.1, b1.1 26 (by decide) (fun e => hne.2.2.1 e.symm) (fun e => hne.2.2.2.2.1 e.symm), q3]; exact n15
      unfold fX5_readStroke_n25 fX11_tellStroke_n29
      rw [if_neg n15, e1, q_b_some, if_neg t5]
      by_cases r3 : r = 33
      · subst r3
        rw [if_pos rfl, if_neg i_10, show (34 : Int32) = nI 34 from rfl, isR0 hR (by omega) q2 q1 34 (by decide) (by decide), q_b_some, if_pos rfl]
        exact fin 0 u1 (by omega) rfl a1 b1
      · rw [if_neg r3, if_pos rfl, show (34 : Int32) = nI 34 from rfl, isR0 hR (by omega) q2 q1 34 (by decide) r4, q_b_some, if_pos rfl]
        obtain ⟨v1, e2, a2, b2⟩ := failR_st hR (by omega) 1 (by omega) 40 (by show 0 ≤ 40; omega) (by omega) (by omega)
        obtain ⟨v2, e3, a3, b3⟩ := next_F a2
        have e2 : fX11_fail 1 v = some ((), v1) := e2
        have n14 : ¬ u1.1 26 t = 14 := by rw [b1.1 26 (by decide) (fun e => hne.2.2.1 e.symm) (fun e => hne.2.2.2.2.1 e.symm), q3]; exact km_ne (b := 33) q1 (Or.inr (Or.inl (by omega))) r3
        obtain ⟨u2, e4, a4, b4⟩ := take_no a1 (k := 14) n14
        have t7 : u1.1 27 t = v.1 4 t := by rw [b1.1 27 (by decide) (fun e => hne.2.2.2.1 e.symm) (fun e => hne.2.2.2.2.2.1 e.symm), q4]
        unfold fX5_readStroke_n45 fX11_tellStroke_n43
        rw [e2, q_b_some, is_F a2, q_b_some, if_pos rfl, e3, q_b_some, e4, q_b_some]
        exact Or.inr (goF 1 40 _ 0 u2 v2 a4 (by rw [t7]; exact a3) (frP1_t b1 b4) (frR1_t b2 b3))
