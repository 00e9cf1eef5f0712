/-! a pattern's parameters and body -/
def PAO (P T s t : Nat) (L1 L2 : Nat × Int32) (ws : List Int32) (cs : List Tr) (pl : List (List Nat)) (pm : Nat → Nat) (u v : q_W) (cu rv : Option (Unit × q_W)) : Prop :=
  ∃ m u' v' t' B ns, m ≤ 2 ∧ cu = some ((), u') ∧ rv = some ((), v') ∧ PC P t' (adN ns L1) (ws ++ (wds (B.map Prod.fst) ++ [0])) u' ∧ PR s t' (adN ns L2) (cs ++ (trs (B.map Prod.fst) ++ [(18, 0, 0)])) [] 0 v' ∧ t < t' ∧ t' ≤ T ∧ okNs ns ∧ (wds (B.map Prod.fst)).length + 1 ≤ 3 * (t' - t) ∧ B.length + 1 ≤ 2 * (t' - t) ∧ u'.1 P 4 = nI (pl.length + 1) ∧ v'.1 8 s = nI (pl.length + 1) ∧ u'.1 (P + 2) pl.length = nI ws.length ∧ u'.1 (P + 3) pl.length = nI m ∧ (∀ i, i ≠ pl.length → u'.1 (P + 2) i = u.1 (P + 2) i ∧ u'.1 (P + 3) i = u.1 (P + 3) i) ∧ v'.1 10 (8 * s + pl.length) = nI m ∧ (∀ i, i ≠ 8 * s + pl.length → v'.1 10 i = v.1 10 i) ∧ v'.1 11 = v.1 11 ∧ u'.2.2 29 = u.2.2 29 ∧ v'.2.2 9 = v.2.2 9 ∧ toks T u' v' ∧ (ns = [] → GD B (0, none, m, fun i => i) ws.length cs.length s pm pl.length ∧ ssA B (0, none, m, fun i => i) 0 = (0, none, m, fun i => i)) ∧ frF1 P u u' ∧ frPT s v v'
theorem PAO_of {P T s t t1 : Nat} {L1 L2 : Nat × Int32} {ws : List Int32} {cs : List Tr} {nl pl : List (List Nat)} {pm : Nat → Nat} {u v u1 v1 : q_W} {cu rv : Option (Unit × q_W)} {na : List (Nat × Int32)} (hn : nl.length ≤ 2) (b1 : frE P u u1) (b2 : frH s v v1) (ht : t ≤ t1) (ho : okNs na) (hd : na = [] → ndp nl) (h : PBO P T s t1 (adN na L1) (adN na L2) ws cs nl pl pm u1 v1 cu rv ∨ XQ P s u1 v1 cu rv) : PAO P T s t L1 L2 ws cs pl pm u v cu rv ∨ XQ P s u v cu rv := by
  rcases h with ⟨u', v', t', B, ns, k1, k2, k3, k4, k5, k6, k7, k8, k9, k10, k11, k12, k13, k14, k15, k16, k17, k18, k19, k20, k21, k22, k23⟩ | bad
  · have hP := k3.1
    have e2 : u1.1 (P + 2) = u.1 (P + 2) := b1.1 _ (by rcases hP with e | e <;> omega) (by omega) (by omega)
    have e3 : u1.1 (P + 3) = u.1 (P + 3) := b1.1 _ (by rcases hP with e | e <;> omega) (by omega) (by omega)
    have e10 : v1.1 10 = v.1 10 := b2.1 10 (by decide) (by decide) (by decide) (by decide) (by decide) (by decide) (by decide) (by decide) (by decide)
    have e11 : v1.1 11 = v.1 11 := b2.1 11 (by decide) (by decide) (by decide) (by decide) (by decide) (by decide) (by decide) (by decide) (by decide)
    refine Or.inl ⟨nl.length, u', v', t', B, na ++ ns, hn, k1, k2, by rw [adN_app]; exact k3, by rw [adN_app]; exact k4, by omega, k6, okNs_app ho k7, by omega, by omega, k10, k11, k12, k13, fun i hi => ?_, k15, fun i hi => ?_, ?_, ?_, ?_, k20, fun c => ?_, frF1_t (frF_E b1) k22, frPT_t (frPT_H b2) k23⟩
    · obtain ⟨x, y⟩ := k14 i hi
      rw [x, y, e2, e3]
      exact ⟨rfl, rfl⟩
    · rw [k16 i hi, e10]
    · rw [k17, e11]
    · rw [k18, b1.2.2.2.2 29 (by decide)]
    · rw [k19, b2.2.2.2.2 9 (by decide)]
    · obtain ⟨c1, c2⟩ := List.append_eq_nil_iff.mp c
      exact k21 c2 (hd c1)
  · exact Or.inr (XQ_t (frF_E b1) (frPT_H b2) bad)
/-- behind the parameters -/
theorem par_close {P T s t : Nat} {L1 L2 : Nat × Int32} {ws : List Int32} {cs : List Tr} {nl pl : List (List Nat)} {pm : Nat → Nat} {u v u0 v0 : q_W} {t0 : Nat} {L01 L02 : Nat × Int32} {na : List (Nat × Int32)} (E : EN T s nl u v) (hn : nl.length ≤ 2) (D : DC P s pl pm u v) (hp : pl.length < 8) (hC : PC P t L1 ws u) (hR : PR s t L2 cs [] 0 v) (hL : L2.1 ≤ 5) (ht : t ≤ T) (hw : ws.length ≤ 3 * t + 10) (hc : cs.length ≤ 2 * t + 10) (b1 : frE P u0 u) (b2 : frH s v0 v) (h0 : t0 ≤ t) (ho : okNs na) (hd : na = [] → ndp nl) (e1 : L1 = adN na L01) (e2 : L2 = adN na L02) : PAO P T s t0 L01 L02 ws cs pl pm u0 v0 (fX5_readPattern_n86 u) (fX11_tellPattern_n171 (nI (8 * s + pl.length)) v) ∨ XQ P s u0 v0 (fX5_readPattern_n86 u) (fX11_tellPattern_n171 (nI (8 * s + pl.length)) v) := by
  have hT := E.1.1
  have hP := hC.1
  unfold fX5_readPattern_n86 fX11_tellPattern_n171
  rw [show (41 : Int32) = km 7 from rfl, show (7 : Int32) = nI 7 from rfl]
  rcases tok_bothN E hC hR ht (by omega) (r := 7) (Or.inl (by omega)) (by decide) (by decide) with ⟨hlt, _, u1, v1, g1, g2, a1, a2, c1, c2⟩ | ⟨f, p, u1, v1, m, g1, a1, c1, g2, a2, c2⟩
  · rw [g1, q_b_some, g2, q_b_some]
    have B := pat_body (EN_fr hP E c1 c2) hn (DC_fr D c1 c2) hp a1 a2 hL (show t + 1 ≤ T by omega) (by omega) (by omega)
    rw [e1, e2] at B
    exact PAO_of hn (frE_t b1 (frE_1 c1)) (frH_t b2 (frH_1 c2)) (by omega) ho hd B
  · obtain ⟨u2, w1, w2, w3⟩ := n92_F a1
    obtain ⟨v2, w4, w5, w6⟩ := n177p_F a2 hp
    rw [g1, q_b_some, w1, g2, q_b_some, w4]
    exact Or.inr (XQ_t (frF_E (frE_t b1 (frE_1 c1))) (frPT_H (frH_t b2 (frH_1 c2))) ⟨f, p, u2, v2, m, rfl, w2, w3, rfl, w5, w6⟩)
theorem ndp_0 : ndp [] := fun i j hi => absurd hi (Nat.not_lt_zero i)
theorem ndp_1 (l : List Nat) : ndp [l] := fun i j hi hj _ => by
  have hi : i < 1 := hi
  have hj : j < 1 := hj
  omega
theorem pat_rest {P T s t : Nat} {L1 L2 : Nat × Int32} {ws : List Int32} {cs : List Tr} {pl : List (List Nat)} {pm : Nat → Nat} {u v : q_W} (E : EN T s [] u v) (D : DC P s pl pm u v) (hp : pl.length < 8) (hC : PC P t L1 ws u) (hR : PR s t L2 cs [] 0 v) (hL : L2.1 ≤ 5) (ht : t ≤ T) (hw : ws.length ≤ 3 * t + 10) (hc : cs.length ≤ 2 * t + 10) : PAO P T s t L1 L2 ws cs pl pm u v (if (u.1 23 5) = 40 then q_b (fX5_take 40 u) fun _ w14 => q_b (fX5_readReach w14) fun _ w16 => if (w16.1 23 5) = 44 then q_b (fX5_take 44 w16) fun _ w18 => q_b (fX5_readReach w18) fun _ w20 => fX5_readPattern_n86 w20 else fX5_readPattern_n86 w16 else fX5_readPattern_n92 u) (pRest (nI (8 * s + pl.length)) v) ∨ XQ P s u v (if (u.1 23 5) = 40 then q_b (fX5_take 40 u) fun _ w14 => q_b (fX5_readReach w14) fun _ w16 => if (w16.1 23 5) = 44 then q_b (fX5_take 44 w16) fun _ w18 => q_b (fX5_readReach w18) fun _ w20 => fX5_readPattern_n86 w20 else fX5_readPattern_n86 w16 else fX5_readPattern_n92 u) (pRest (nI (8 * s + pl.length)) v) := by
  have hT := E.1.1
  have hP := hC.1
  obtain ⟨r, q1, q2, q3, q4, q5, q6, q7⟩ := tknN E ht
  clear q5 q6
  unfold pRest
  rw [hC.2.2.2.1, q3]
  -- faults behind a parameter
  have flt : ∀ f p m (u1 v1 : q_W), FC P f p u1 → FR s f p m v1 → frF1 P u u1 → frPT s v v1 → XQ P s u v (if (u1.1 23 5) = 44 then q_b (fX5_take 44 u1) fun _ w18 => q_b (fX5_readReach w18) fun _ w20 => fX5_readPattern_n86 w20 else fX5_readPattern_n86 u1) (q_b (fX11_is 5 v1) fun r10 w11 => if r10 = 0 then fX11_tellPattern_n171 (nI (8 * s + pl.length)) w11 else q_b (fX11_next w11) fun _ w13 => q_b (fX11_tellParameter w13) fun _ w15 => fX11_tellPattern_n171 (nI (8 * s + pl.length)) w15) := by
    intro f p m u1 v1 a1 a2 b1 b2
    obtain ⟨u2, w1, w2, w3⟩ := n86_F a1
    obtain ⟨v2, w4, w5, w6⟩ := n171_F a2 hp
    rw [a1.2.2.2.2.2.2, if_neg (by decide), w1, is_F a2, q_b_some, if_pos rfl, w4]
    exact XQ_t b1 b2 ⟨f, p, u2, v2, m, rfl, w2, w3, rfl, w5, w6⟩
  by_cases c6 : r = 6
  · subst c6
    rw [if_pos (show km 6 = 40 from rfl), show (6 : Int32) = nI 6 from rfl, isR1 hR (by omega) q2, q_b_some, if_neg i_10, show (40 : Int32) = km 6 from rfl]
    rcases step_bothN E hC hR ht (by omega) q2 q1 (by decide) (by decide) with ⟨hlt, u1, v1, g1, g2, a1, a2, b1, b2⟩ | ⟨f, p, u1, v1, m, g1, a1, b1, g2, a2, b2⟩
    · rw [g1, q_b_some, g2, q_b_some]
      rcases par_both (EN_fr hP E b1 b2) (by decide) a1 a2 hL (show t + 1 ≤ T by omega) (by omega) with ⟨l1, p1, u2, v2, hl1, e1, e2, a3, a4, E2, b3, b4, hlt2⟩ | ⟨f, p, u2, v2, m, e1, a3, b3, e2, a4, b4⟩
      · rw [e1, q_b_some, e2, q_b_some]
        have E2 : EN T s [l1] u2 v2 := E2
        have f2 := frE_t (frE_1 b1) b3
        have f3 := frH_t (frH_1 b2) b4
        have D2 := DC_H D f2 f3
        obtain ⟨r2, y1, y2, y3, y4, y5, y6, y7⟩ := tknN E2 (show t + 1 + 1 ≤ T by omega)
        clear y5 y6
        rw [a3.2.2.2.1, y3]
        have a3 : PC P (t + 1 + 1) L1 ws u2 := a3
        have a4 : PR s (t + 1 + 1) L2 cs [] 0 v2 := a4
        by_cases c5 : r2 = 5
        · subst c5
          rw [if_pos (show km 5 = 44 from rfl), show (5 : Int32) = nI 5 from rfl, isR1 a4 (by omega) y2, q_b_some, if_neg i_10, show (44 : Int32) = km 5 from rfl]
          rcases step_bothN E2 a3 a4 (by omega) (by omega) y2 y1 (by decide) (by decide) with ⟨hlt3, u3, v3, g3, g4, a5, a6, b5, b6⟩ | ⟨f, p, u3, v3, m, g3, a5, b5, g4, a6, b6⟩
          · rw [g3, q_b_some, g4, q_b_some]
            rcases par_both (EN_fr hP E2 b5 b6) (by show 1 < 8; omega) a5 a6 hL (show t + 1 + 1 + 1 ≤ T by omega) (by omega) with ⟨l2, p2, u4, v4, hl2, e3, e4, a7, a8, E4, b7, b8, hlt4⟩ | ⟨f, p, u4, v4, m, e3, a7, b7, e4, a8, b8⟩
            · rw [e3, q_b_some, e4, q_b_some]
              have f4 := frE_t f2 (frE_t (frE_1 b5) b7)
              have f5 := frH_t f3 (frH_t (frH_1 b6) b8)
              refine par_close (t0 := t) (na := ntI (idF [l1] l2 [l1].length 0) p2) E4 (by show 2 ≤ 2; omega) (DC_H D f4 f5) hp a7 a8 (adI_5 hL) (show t + 1 + 1 + 1 + 1 ≤ T by omega) (by omega) (by omega) f4 f5 (by omega) (ntI_ok _ _) (fun c => ?_) (adI_nt _ _ _) (adI_nt _ _ _)
              refine ndp_snoc (ndp_1 l1) (fun i hi => ?_)
              have hno : idF [l1] l2 [l1].length 0 = none := by
                cases hid : idF [l1] l2 [l1].length 0 with
                | none => rfl
                | some j => rw [hid] at c; cases c
              exact idF_none _ _ hno i (Nat.zero_le _) (by omega)
            · obtain ⟨u5, w1, w2, w3⟩ := n86_F a7
              obtain ⟨v5, w4, w5, w6⟩ := n171_F a8 hp
              rw [e3, q_b_some, w1, e4, q_b_some, w4]
              exact Or.inr (XQ_t (frF_E (frE_t f2 (frE_t (frE_1 b5) b7))) (frPT_H (frH_t f3 (frH_t (frH_1 b6) b8))) ⟨f, p, u5, v5, m, rfl, w2, w3, rfl, w5, w6⟩)
          · obtain ⟨u4, z1, z2, z3⟩ := readReach_F a5
            obtain ⟨u5, w1, w2, w3⟩ := n86_F z2
            obtain ⟨v5, w4, w5, w6⟩ := n171_F a6 hp
            rw [g3, q_b_some, z1, q_b_some, w1, g4, q_b_some, par_F a6, q_b_some, w4]
            exact Or.inr (XQ_t (frF_E (frE_t f2 (frE_t (frE_1 b5) z3))) (frPT_H (frH_t f3 (frH_1 b6))) ⟨f, p, u5, v5, m, rfl, w2, w3, rfl, w5, w6⟩)
        · rw [if_neg (show ¬ km r2 = 44 from km_ne (b := 5) y1 (Or.inl (by omega)) c5), show (5 : Int32) = nI 5 from rfl, isR0 a4 (by omega) y2 y1 5 (by decide) c5, q_b_some, if_pos rfl]
          exact par_close (t0 := t) (na := []) E2 (by show 1 ≤ 2; omega) D2 hp a3 a4 hL (show t + 1 + 1 ≤ T by omega) (by omega) (by omega) f2 f3 (by omega) okNs_nil (fun _ => ndp_1 l1) rfl rfl
      · rw [e1, q_b_some, e2, q_b_some]
        exact Or.inr (flt f p m u2 v2 a3 a4 (frF_E (frE_t (frE_1 b1) b3)) (frPT_H (frH_t (frH_1 b2) b4)))
    · obtain ⟨u2, z1, z2, z3⟩ := readReach_F a1
      rw [g1, q_b_some, z1, q_b_some, g2, q_b_some, par_F a2, q_b_some]
      exact Or.inr (flt f p m u2 v1 z2 a2 (frF_E (frE_t (frE_1 b1) z3)) (frPT_1 b2))
  · rw [if_neg (show ¬ km r = 40 from km_ne (b := 6) q1 (Or.inl (by omega)) c6), show (6 : Int32) = nI 6 from rfl, isR0 hR (by omega) q2 q1 6 (by decide) c6, q_b_some, if_pos rfl]
    exact PAO_of (na := []) (nl := []) (by decide) (frE_r P u) (frH_r s v) (Nat.le_refl _) okNs_nil (fun _ => ndp_0) (pat_body E (by decide) D hp hC hR hL ht (by omega) (by omega))
