/-! made, off -/
/-- what a question about sheets and patterns leaves alone -/
def frM (u u' : q_W) : Prop := (∀ c, c ≠ 7 → ¬ (9 ≤ c ∧ c ≤ 21) → ¬ (31 ≤ c ∧ c ≤ 42) → u'.1 c = u.1 c) ∧ (∀ c k, c ≠ 31 → ¬ (c = 12 ∧ k = 1) → u'.2.1 c k = u.2.1 c k) ∧ u'.2.2 = u.2.2
def frN (v v' : q_W) : Prop := (∀ c, ¬ (c = 0 ∨ (21 ≤ c ∧ c ≤ 26) ∨ (29 ≤ c ∧ c ≤ 36)) → v'.1 c = v.1 c) ∧ (∀ k, ¬ (k = 39 ∨ k = 40 ∨ k = 41 ∨ k = 44 ∨ k = 48 ∨ k = 55 ∨ k = 56 ∨ k = 60 ∨ k = 61 ∨ k = 62 ∨ k = 64 ∨ k = 65 ∨ k = 68 ∨ k = 69 ∨ k = 70) → v'.1 0 k = v.1 0 k) ∧ v'.2 = v.2
theorem frM_t {a b c : q_W} (h : frM a b) (h' : frM b c) : frM a c := ⟨fun q x y z => (h'.1 q x y z).trans (h.1 q x y z), fun q k x y => (h'.2.1 q k x y).trans (h.2.1 q k x y), h'.2.2.trans h.2.2⟩
theorem frN_t {a b c : q_W} (h : frN a b) (h' : frN b c) : frN a c := ⟨fun q x => (h'.1 q x).trans (h.1 q x), fun k x => (h'.2.1 k x).trans (h.2.1 k x), h'.2.2.trans h.2.2⟩
theorem frM_X {u u' : q_W} (h : frX u u') : frM u u' := ⟨fun c a b d => h.1 c a (by omega) (by omega) (by omega), fun c k _ b => h.2.1 c k b, h.2.2⟩
theorem frM_S {u u' : q_W} (h : frZc u u') : frM u u' := ⟨fun c a b d => h.1 c (by omega) (by omega), fun c k a b => h.2.2.1 c k a b, h.2.2.2⟩
theorem frN_Y {v v' : q_W} (h : frY v v') : frN v v' := ⟨fun c a => h.1 c (by omega) (by omega), fun k a => h.2.1 k (by omega) (by omega) (by omega) (by omega) (by omega) (by omega) (by omega) (by omega), h.2.2⟩
theorem frN_V {v v' : q_W} (h : frV v v') : frN v v' := ⟨fun c a => h.1 c (by omega), fun k a => h.2.1 k (by omega), h.2.2.1⟩
theorem frM_r (u : q_W) : frM u u := ⟨fun _ _ _ _ => rfl, fun _ _ _ _ => rfl, rfl⟩
theorem frN_r (v : q_W) : frN v v := ⟨fun _ _ => rfl, fun _ _ => rfl, rfl⟩
theorem ch_S {k : Nat} {u u' : q_W} (f : frZc u u') (h : I_ch k u) : I_ch k u' := ⟨chOK_fr (Or.inl rfl) h.1 (f.1 14 (by decide) (by decide)) (f.1 15 (by decide) (by decide)) (f.1 5 (by decide) (by decide)) (f.1 6 (by decide) (by decide)), chOK_fr (Or.inr rfl) h.2 (f.1 18 (by decide) (by decide)) (f.1 19 (by decide) (by decide)) (f.1 5 (by decide) (by decide)) (f.1 6 (by decide) (by decide))⟩
theorem row_S {u u' v v' : q_W} (f : frZc u u') (g : frV v v') (h : I_row u v) : I_row u' v' := by
  unfold I_row at *
  rw [f.2.1 9 (by decide) (by decide), f.1 42 (by decide) (by decide), g.2.1 70 (by decide), g.1 35 (by decide)]
  exact h
theorem row_X {u u' v v' : q_W} (f : frX u u') (g : frY v v') (h : I_row u v) : I_row u' v' := by
  unfold I_row at *
  rw [f.1 37 (by decide) (by decide) (by decide) (by decide), f.1 42 (by decide) (by decide) (by decide) (by decide), g.2.1 70 (by decide) (by decide) (by decide) (by decide) (by decide) (by decide) (by decide) (by decide), g.1 35 (by decide) (by decide)]
  exact h
/-- the search can begin -/
theorem SB_take {u v u1 v1 : q_W} {t sh : Nat} (hp : I_prog u v) (f : frX u u1) (g : frG v v1) (h6 : u1.1 14 6 = nI sh) (h60 : v1.1 0 60 = nI sh) (h56 : v1.1 0 56 = nI t) (ht : t ≤ 9) (hc : ∀ i, i < 256 → u1.1 15 i = v1.1 32 i) : ∃ P s n pm fo fr pg ws cs, u1.2.1 0 7 = P ∧ SB P s n t sh pm fo fr pg ws cs u1 v1 := by
  obtain ⟨s, hs, p7, p8, p18, n, pm, fo, fr, pg, ws, cs, hO⟩ := hp
  have iP : isP (43 + 4 * s) := by unfold isP; omega
  have hO : PGO (43 + 4 * s) s n pm fo fr pg ws cs u v := hO
  refine ⟨43 + 4 * s, s, n, pm, fo, fr, pg, ws, cs, by rw [f.2.1 0 7 (by decide), p7], iP, hs, by rw [g.2.1 18 (by decide) (by decide) (by decide) (by decide) (by decide), p18], PGO_keep hO (fun q x y => f.1 q (by omega) (by omega) (by omega) (by omega)) (fun q x y => g.1 q (by omega) (by omega) (by omega) (by omega) (by omega)), h6, h60, h56, ht, hc⟩
theorem imin9 (s : Nat) (hs : s < 2 ^ 31) : q_imin (nI s) 9 = nI (min s 9) := by
  unfold q_imin
  by_cases c : 9 < s
  · rw [if_pos (by rw [show (9 : Int32) = nI 9 from rfl, nI_ltI (by omega) (by omega)]; exact c), show min s 9 = 9 by omega]; rfl
  · rw [if_neg (by rw [show (9 : Int32) = nI 9 from rfl, nI_ltI (by omega) (by omega)]; exact c), show min s 9 = s by omega]
/-- the search for the nearest, whole -/
theorem seek_both {P s n t sh : Nat} {pm fo fr : Nat → Nat} {pg : Nat → List AI} {ws : List Int32} {cs : List Tr} {u v : q_W} (h : SB P s n t sh pm fo fr pg ws cs u v) {x2 : Int32} (h2 : q_imin x2 9 = nI t) (a b : Int32) : ∃ x3 u' v', fX3_seekBest P x2 u = some ((if u'.1 37 10 = -1 then 0 else 1), u') ∧ fX11_bestOf a b v = some (x3, v') ∧ frZc u u' ∧ frV v v' ∧ BST x3 u' v' := by
  have hqN : 8 < q_N := Nat.le_of_ble_eq_true rfl
  have f1 : frZc u (q_sI (q_sI u 37 10 (-1)) 37 11 257) := frZc_t (frZc_I (Or.inr (by decide))) (frZc_I (Or.inr (by decide)))
  have f2 : frV v (q_sI v 0 69 (-2)) := frV_I (by decide)
  have n8 := h.2.2.2.1.1
  obtain ⟨x, u', v', e1, e2, g1, g2, hB⟩ := best_out h2 n q_N q_N 0 (-2) _ _ (by omega) (by omega) (by omega) (SB_keep h f1 f2) (Or.inl ⟨rfl, by rw [sI_same]; rfl, by rw [sI_k _ _ _ _ _ (by decide), sI_same]⟩)
  rw [nI_0] at e1 e2
  refine ⟨x, u', v', ?_, ?_, frZc_t f1 g1, frV_t f2 g2, hB⟩
  · unfold fX3_seekBest fX3_seekBest_l14
    rw [if_pos (isP_c h.1), q_lt_eq, q_lt_eq, e1]
  · unfold fX11_bestOf fX11_bestOf_l12
    rw [q_lt_eq, e2]
theorem sim_made {u v : q_W} {k : Nat} (hl : I_log k u v) (hv : I_val k u) (hb : I_bnd k u) (hc : I_ch k u) (hp : I_prog u v) (hr : I_row u v) (a b : Int32) : ∃ r u' v', fX10_made a b u = some (r, u') ∧ fX11_made a b v = some (r, v') ∧ frM u u' ∧ I_ch k u' ∧ frN v v' ∧ I_row u' v' := by
  unfold fX10_made fX11_made
  rcases take14s hl hv hb hc a b with ⟨u1, v1, n, s, e, e', f, c', f', a1, a2, rfl, rfl, a5, ⟨a6, a7⟩, cc⟩ | ⟨u', v', e, e', f, c', f'⟩
  · have hk := hl.1
    have hcl := cntL_le u n n 0
    obtain ⟨P, s0, m, pm, fo, fr, pg, ws, cs, hP, hS⟩ := SB_take hp f f' a6 a7 a5 (by omega) (fun i hi => (cc i hi).1.trans (cc i hi).2.symm)
    obtain ⟨x, u2, v2, g1, g2, g3, g4, hB⟩ := seek_both hS (imin9 s (by omega)) (nI s) (nI n)
    rw [e, q_b_some, if_neg i_10, e', q_b_some, if_neg i_10, hP, if_pos (isP_c hS.1), g1, q_b_some, g2, q_b_some]
    refine ⟨x, u2, v2, ?_, rfl, frM_t (frM_X f) (frM_S g3), ch_S g3 c', frN_t (frN_Y (frY_G f')) (frN_V g4), row_S g3 g4 (row_X f (frY_G f') hr)⟩
    rcases hB with ⟨b1, b2, b3⟩ | ⟨b, m0, b1, b2, b3, b4, b5, b6⟩
    · rw [if_pos b3, if_pos rfl, b1]
    · unfold fX3_bestMade
      rw [if_neg (show ¬ u2.1 37 10 = -1 by rw [b4]; exact nI_nm1 (by omega)), if_neg i_10, q_b_some, b4, b3]
  · rw [e, q_b_some, if_pos rfl, e', q_b_some, if_pos rfl]
    exact ⟨_, _, _, rfl, rfl, frM_X f, c', frN_Y (frY_G f'), row_X f (frY_G f') hr⟩
theorem sim_off {u v : q_W} {k : Nat} (hl : I_log k u v) (hv : I_val k u) (hb : I_bnd k u) (hc : I_ch k u) (hp : I_prog u v) (hr : I_row u v) (a b : Int32) : ∃ r u' v', fX10_off a b u = some (r, u') ∧ fX11_off a b v = some (r, v') ∧ frM u u' ∧ I_ch k u' ∧ frN v v' ∧ I_row u' v' := by
  unfold fX10_off fX11_off
  rcases take14s hl hv hb hc a b with ⟨u1, v1, n, s, e, e', f, c', f', a1, a2, rfl, rfl, a5, ⟨a6, a7⟩, cc⟩ | ⟨u', v', e, e', f, c', f'⟩
  · have hk := hl.1
    have hcl := cntL_le u n n 0
    obtain ⟨P, s0, m, pm, fo, fr, pg, ws, cs, hP, hS⟩ := SB_take hp f f' a6 a7 a5 (by omega) (fun i hi => (cc i hi).1.trans (cc i hi).2.symm)
    obtain ⟨x, u2, v2, g1, g2, g3, g4, hB⟩ := seek_both hS (imin9 s (by omega)) (nI s) (nI n)
    rw [e, q_b_some, if_neg i_10, e', q_b_some, if_neg i_10, hP, if_pos (isP_c hS.1), g1, q_b_some, g2, q_b_some]
    have fin : ∀ r, (if (if u2.1 37 10 = -1 then (0 : Int32) else 1) = 0 then some ((-2 : Int32), u2) else q_b (fX3_bestOff u2) fun r6 w7 => some (r6, w7)) = some (r, u2) → (if x = -2 then some ((-2 : Int32), v2) else some (v2.1 0 69, v2)) = some (r, v2) → ∃ r u' v', (if (if u2.1 37 10 = -1 then (0 : Int32) else 1) = 0 then some ((-2 : Int32), u2) else q_b (fX3_bestOff u2) fun r6 w7 => some (r6, w7)) = some (r, u') ∧ (if x = -2 then some ((-2 : Int32), v2) else some (v2.1 0 69, v2)) = some (r, v') ∧ frM u u' ∧ I_ch k u' ∧ frN v v' ∧ I_row u' v' := fun r y z => ⟨r, u2, v2, y, z, frM_t (frM_X f) (frM_S g3), ch_S g3 c', frN_t (frN_Y (frY_G f')) (frN_V g4), row_S g3 g4 (row_X f (frY_G f') hr)⟩
    rcases hB with ⟨b1, b2, b3⟩ | ⟨b, m0, b1, b2, b3, b4, b5, b6⟩
    · exact fin (-2) (by rw [if_pos b3, if_pos rfl]) (by rw [if_pos b1])
    · refine fin (nI b) ?_ ?_
      · unfold fX3_bestOff
        rw [if_neg (show ¬ u2.1 37 10 = -1 by rw [b4]; exact nI_nm1 (by omega)), if_neg i_10, q_b_some, b5]
      · rw [if_neg (by rw [b3]; exact nI_nm2 (by omega)), b6]
  · rw [e, q_b_some, if_pos rfl, e', q_b_some, if_pos rfl]
    exact ⟨_, _, _, rfl, rfl, frM_X f, c', frN_Y (frY_G f'), row_X f (frY_G f') hr⟩
