/-! ===== the two functions agree ===== -/
def INV (u v : q_W) : Prop := ∃ n k, I_tape n u v ∧ I_log k u v ∧ I_val k u ∧ I_bnd k u ∧ I_misc u v ∧ I_row u v ∧ I_ch k u ∧ wordsC u ∧ keysR v ∧ I_prog u v
theorem tape_keep {n : Nat} {u v u' v' : q_W} (h : I_tape n u v) (a1 : u'.1 1 = u.1 1) (a2 : u'.1 2 = u.1 2) (b0 : v'.1 0 2 = v.1 0 2) (b1 : v'.1 1 = v.1 1) : I_tape n u' v' := by
  unfold I_tape at *
  rw [a1, a2, b0, b1]
  exact h
theorem log_keep {k : Nat} {u v u' v' : q_W} (h : I_log k u v) (a4 : u'.1 4 = u.1 4) (a5 : u'.1 5 = u.1 5) (a6 : u'.1 6 = u.1 6) (b0 : v'.1 0 50 = v.1 0 50) (b27 : v'.1 27 = v.1 27) (b28 : v'.1 28 = v.1 28) : I_log k u' v' := by
  unfold I_log at *
  rw [a4, a5, a6, b0, b27, b28]
  exact h
theorem val_keep {k : Nat} {u u' : q_W} (h : I_val k u) (a5 : u'.1 5 = u.1 5) (a6 : u'.1 6 = u.1 6) : I_val k u' := by
  unfold I_val at *
  rw [a5, a6]
  exact h
theorem bnd_keep {k : Nat} {u u' : q_W} (h : I_bnd k u) (a5 : u'.1 5 = u.1 5) (a6 : u'.1 6 = u.1 6) : I_bnd k u' := by
  unfold I_bnd at *
  rw [kd_eq a5, nm_eq a6]
  exact h
theorem row_keep {u v u' v' : q_W} (h : I_row u v) (a : u'.1 37 9 = u.1 37 9) (a2 : u'.1 42 = u.1 42) (b : v'.1 0 70 = v.1 0 70) (b2 : v'.1 35 = v.1 35) : I_row u' v' := by
  unfold I_row at *
  rw [a, a2, b, b2]
  exact h
theorem prog_keep {u v u' v' : q_W} (h : I_prog u v) (a7 : u'.2.1 0 7 = u.2.1 0 7) (a8 : u'.2.1 0 8 = u.2.1 0 8) (b : v'.1 0 18 = v.1 0 18) (a : ∀ q, 43 ≤ q → q ≤ 50 → u'.1 q = u.1 q) (b' : ∀ q, 8 ≤ q → q ≤ 14 → v'.1 q = v.1 q) : I_prog u' v' := by
  obtain ⟨s, hs, p7, p8, p18, pw⟩ := h
  exact ⟨s, hs, by rw [a7, p7], by rw [a8, p8], by rw [b, p18], PGW_keep pw hs (a _ (by omega) (by omega)) (a _ (by omega) (by omega)) (a _ (by omega) (by omega)) (a _ (by omega) (by omega)) (by rw [b' 8 (by decide) (by decide)]) (fun i _ _ => by rw [b' 12 (by decide) (by decide), b' 13 (by decide) (by decide), b' 14 (by decide) (by decide)]; exact ⟨rfl, rfl, rfl⟩) (fun i _ _ => by rw [b' 10 (by decide) (by decide), b' 11 (by decide) (by decide)]; exact ⟨rfl, rfl⟩)⟩
/-- after a question -/
theorem inv_M {n k : Nat} {u v u' v' : q_W} (t : I_tape n u v) (l : I_log k u v) (vl : I_val k u) (b : I_bnd k u) (m : I_misc u v) (w : wordsC u) (ky : keysR v) (p : I_prog u v) (f : frM u u') (g : frN v v') (c : I_ch k u') (r : I_row u' v') : INV u' v' := by
  have a : ∀ q, (q = 0 ∨ q = 1 ∨ q = 2 ∨ q = 4 ∨ q = 5 ∨ q = 6 ∨ (43 ≤ q ∧ q ≤ 50)) → u'.1 q = u.1 q := fun q x => f.1 q (by omega) (by omega) (by omega)
  have d : ∀ q, ¬ (q = 0 ∨ (21 ≤ q ∧ q ≤ 26) ∨ (29 ≤ q ∧ q ≤ 36)) → v'.1 q = v.1 q := g.1
  refine ⟨n, k, tape_keep t (a 1 (by decide)) (a 2 (by decide)) (g.2.1 2 (by decide)) (d 1 (by decide)), log_keep l (a 4 (by decide)) (a 5 (by decide)) (a 6 (by decide)) (g.2.1 50 (by decide)) (d 27 (by decide)) (d 28 (by decide)), val_keep vl (a 5 (by decide)) (a 6 (by decide)), bnd_keep b (a 5 (by decide)) (a 6 (by decide)), ?_, r, c, fun i hi => by rw [f.2.2]; exact w i hi, fun i hi => by rw [g.2.2]; exact ky i hi, prog_keep p (f.2.1 0 7 (by decide) (by decide)) (f.2.1 0 8 (by decide) (by decide)) (g.2.1 18 (by decide)) (fun q x y => a q (by omega)) (fun q x y => d q (by omega))⟩
  unfold I_misc at *
  rw [a 0 (by decide), g.2.1 17 (by decide), g.2.1 53 (by decide), g.2.1 54 (by decide)]
  exact m
theorem frY_W {v v' : q_W} (h : frW v v') : frY v v' := ⟨fun c a b => h.1 c a (by omega) (by omega) (by omega), fun k a b c d e _ _ _ => h.2.1 k a b c d e, h.2.2⟩
theorem inv_X {n k : Nat} {u v u' v' : q_W} (t : I_tape n u v) (l : I_log k u v) (vl : I_val k u) (b : I_bnd k u) (m : I_misc u v) (r : I_row u v) (w : wordsC u) (ky : keysR v) (p : I_prog u v) (f : frX u u') (c : I_ch k u') (g : frY v v') : INV u' v' :=
  inv_M t l vl b m w ky p (frM_X f) (frN_Y g) c (row_X f g r)
/-- after a tell -/
theorem inv_T {n k : Nat} {u v u' v' : q_W} (t : I_tape n u v) (m : I_misc u v) (r : I_row u v) (c : I_ch k u) (w : wordsC u) (ky : keysR v) (p : I_prog u v) (h : TLD k u v u' v') : INV u' v' := by
  obtain ⟨k', hk, l', vl', b', f, g⟩ := h
  have a : ∀ q, q ≠ 4 → q ≠ 5 → q ≠ 6 → q ≠ 22 → u'.1 q = u.1 q := f.2.1
  have d : ∀ q, q ≠ 0 → q ≠ 26 → q ≠ 27 → q ≠ 28 → v'.1 q = v.1 q := g.2.1
  refine ⟨n, k', tape_keep t (a 1 (by decide) (by decide) (by decide) (by decide)) (a 2 (by decide) (by decide) (by decide) (by decide)) (g.2.2 2 (by decide)) (d 1 (by decide) (by decide) (by decide) (by decide)), l', vl', b', ?_, row_keep r (by rw [a 37 (by decide) (by decide) (by decide) (by decide)]) (a 42 (by decide) (by decide) (by decide) (by decide)) (g.2.2 70 (by decide)) (d 35 (by decide) (by decide) (by decide) (by decide)), ch_grow c hk (fun q hq => a q (by omega) (by omega) (by omega) (by omega)) f.2.2.1 f.2.2.2, fun i hi => by rw [f.1]; exact w i hi, fun i hi => by rw [g.1]; exact ky i hi, prog_keep p (by rw [f.1]) (by rw [f.1]) (g.2.2 18 (by decide)) (fun q x y => a q (by omega) (by omega) (by omega) (by omega)) (fun q x y => d q (by omega) (by omega) (by omega) (by omega))⟩
  unfold I_misc at *
  rw [a 0 (by decide) (by decide) (by decide) (by decide), g.2.2 17 (by decide), g.2.2 53 (by decide), g.2.2 54 (by decide)]
  exact m
/-- after a byte or a back -/
theorem inv_K {n n' k : Nat} {u v u' v' : q_W} (t : I_tape n' u' v') (l : I_log k u v) (vl : I_val k u) (b : I_bnd k u) (m : I_misc u v) (r : I_row u v) (c : I_ch k u) (w : wordsC u) (ky : keysR v) (p : I_prog u v) (f : kpC u u') (g : kpR v v') : INV u' v' := by
  have a : ∀ q, q ≠ 1 → q ≠ 2 → u'.1 q = u.1 q := fun q x y => funext fun k => f.1 q k (fun e => x e.1) y
  have d : ∀ q, q ≠ 0 → q ≠ 1 → v'.1 q = v.1 q := fun q x y => funext fun k => g.1 q k (fun e => x e.1) y
  have d0 : ∀ k, k ≠ 2 → v'.1 0 k = v.1 0 k := fun k x => g.1 0 k (fun e => x e.2) (by decide)
  refine ⟨n', k, t, log_keep l (a 4 (by decide) (by decide)) (a 5 (by decide) (by decide)) (a 6 (by decide) (by decide)) (d0 50 (by decide)) (d 27 (by decide) (by decide)) (d 28 (by decide) (by decide)), val_keep vl (a 5 (by decide) (by decide)) (a 6 (by decide) (by decide)), bnd_keep b (a 5 (by decide) (by decide)) (a 6 (by decide) (by decide)), ?_, row_keep r (by rw [a 37 (by decide) (by decide)]) (a 42 (by decide) (by decide)) (d0 70 (by decide)) (d 35 (by decide) (by decide)), ch_grow c (Nat.le_refl k) (fun q hq => a q (by omega) (by omega)) (fun i _ => by rw [a 5 (by decide) (by decide)]) (fun i _ => by rw [a 6 (by decide) (by decide)]), fun i hi => by rw [f.2]; exact w i hi, fun i hi => by rw [g.2]; exact ky i hi, prog_keep p (by rw [f.2]) (by rw [f.2]) (d0 18 (by decide)) (fun q x y => a q (by omega) (by omega)) (fun q x y => d q (by omega) (by omega))⟩
  unfold I_misc at *
  rw [a 0 (by decide) (by decide), d0 17 (by decide), d0 53 (by decide), d0 54 (by decide)]
  exact m
theorem heads_of {u v : q_W} (p : I_prog u v) : ∃ P s n, I_heads P s n u v := by
  obtain ⟨s, hs, p7, p8, p18, n, pm, fo, fr, pg, ws, cs, n8, hG, q4, v8, q3, wl, wa, cl, ca, pa⟩ := p
  refine ⟨43 + 4 * s, s, n, ?_, hs, p18, n8, q4, v8, fun i hi => ?_⟩
  · have : s = 0 ∨ s = 1 := by omega
    rcases this with rfl | rfl
    · exact Or.inl ⟨rfl, p7⟩
    · exact Or.inr ⟨rfl, p7⟩
  · have e : fC (43 + 4 * s) 2 = 43 + 4 * s + 3 := by
      have : s = 0 ∨ s = 1 := by omega
      rcases this with rfl | rfl <;> rfl
    rw [e, (pa i hi).2.1, (pa i hi).2.2.1]
theorem inv_0 : INV wC0 wR0 := by
  refine ⟨0, 0, ⟨by omega, rfl, rfl, fun i hi => absurd hi (Nat.not_lt_zero i)⟩, ⟨by omega, rfl, rfl, rfl, fun i hi => absurd hi (Nat.not_lt_zero i)⟩, fun i hi => absurd hi (Nat.not_lt_zero i), fun i hi => absurd hi (Nat.not_lt_zero i), ⟨rfl, rfl, rfl⟩, ⟨0, by omega, rfl, rfl, fun i hi => absurd hi (Nat.not_lt_zero i)⟩, ⟨Or.inl rfl, Or.inl rfl⟩, wordsC_0, keysR_0, 0, by omega, rfl, rfl, rfl, 0, fun _ => 0, fun _ => 0, fun _ => 0, fun _ => [], [], [], by omega, fun i hi => absurd hi (Nat.not_lt_zero i), rfl, rfl, rfl, by decide, fun i hi => absurd hi (Nat.not_lt_zero i), by decide, fun i hi => absurd hi (Nat.not_lt_zero i), fun i hi => absurd hi (Nat.not_lt_zero i)⟩
theorem same7_X {u u' : q_W} (h : same7 u u') : frX u u' := ⟨fun c a _ _ _ => h.1 c a, fun c k _ => by rw [h.2], by rw [h.2]⟩
theorem ag_read : q_sim_read INV := by
  rintro u v ⟨n, k, t, l, vl, b, m, r, c, w, ky, p⟩
  obtain ⟨x, u', v', e1, e2, t', w', ky', p', m12, f, g⟩ := sim_read t w ky p
  have a : ∀ q, q ≠ 0 → q ≠ 1 → q ≠ 23 → q ≠ 24 → q ≠ 26 → q ≠ 27 → ¬ (43 ≤ q ∧ q ≤ 50) → u'.1 q = u.1 q := f.1
  have a' : ∀ q, (q = 4 ∨ q = 5 ∨ q = 6 ∨ q = 14 ∨ q = 15 ∨ q = 18 ∨ q = 19 ∨ q = 37 ∨ q = 42) → u'.1 q = u.1 q := fun q hq => a q (by omega) (by omega) (by omega) (by omega) (by omega) (by omega) (by omega)
  have d : ∀ q, (q = 27 ∨ q = 28 ∨ q = 35) → v'.1 q = v.1 q := fun q hq => g.1 q (by omega) (by omega) (by omega) (by omega) (by omega) (by omega) (by omega) (by omega)
  have d0 : ∀ j, (j = 50 ∨ j = 53 ∨ j = 54 ∨ j = 70) → v'.1 0 j = v.1 0 j := fun j hj => g.2.1 j (by omega) (by omega) (by omega) (by omega) (by omega) (by omega) (by omega) (by omega) (by omega)
  refine ⟨x, u', v', e1, e2, 0, k, t', log_keep l (a' 4 (by decide)) (a' 5 (by decide)) (a' 6 (by decide)) (d0 50 (by decide)) (d 27 (by decide)) (d 28 (by decide)), val_keep vl (a' 5 (by decide)) (a' 6 (by decide)), bnd_keep b (a' 5 (by decide)) (a' 6 (by decide)), ⟨m12, ?_, ?_⟩, row_keep r (by rw [a' 37 (by decide)]) (a' 42 (by decide)) (d0 70 (by decide)) (d 35 (by decide)), ch_grow c (Nat.le_refl k) (fun q hq => a' q (by omega)) (fun i _ => by rw [a' 5 (by decide)]) (fun i _ => by rw [a' 6 (by decide)]), w', ky', p'⟩
  · rw [f.2.1 13 (by decide), d0 53 (by decide)]
    exact m.2.1
  · rw [f.2.1 14 (by decide), d0 54 (by decide)]
    exact m.2.2
theorem ag_run : q_sim_run INV := by
  rintro a1 a2 a3 u v ⟨n, k, t, l, vl, b, m, r, c, w, ky, p⟩
  obtain ⟨x, u', v', k', e1, e2, l', vl', b', hk, m', f, g⟩ := sim_run l vl b p m.2 a1 a2 a3
  have a : ∀ q, (q = 1 ∨ q = 2 ∨ q = 14 ∨ q = 15 ∨ q = 18 ∨ q = 19 ∨ q = 37 ∨ q = 42 ∨ (43 ≤ q ∧ q ≤ 50)) → u'.1 q = u.1 q := fun q hq => f.1 q (by omega) (by omega) (by omega) (by omega) (by omega) (by omega) (by omega) (by omega) (by omega)
  have d : ∀ q, q ≠ 0 → ¬ (21 ≤ q ∧ q ≤ 28) → v'.1 q = v.1 q := g.1
  have d0 : ∀ j, (j = 2 ∨ j = 17 ∨ j = 18 ∨ j = 70) → v'.1 0 j = v.1 0 j := fun j hj => g.2.1 j (by omega) (by omega) (by omega) (by omega) (by omega) (by omega) (by omega) (by omega)
  refine ⟨x, u', v', e1, e2, n, k', tape_keep t (a 1 (by decide)) (a 2 (by decide)) (d0 2 (by decide)) (d 1 (by decide) (by decide)), l', vl', b', ⟨?_, m'⟩, row_keep r (by rw [a 37 (by decide)]) (a 42 (by decide)) (d0 70 (by decide)) (d 35 (by decide) (by decide)), ch_grow c hk (fun q hq => a q (by omega)) f.2.2.2.2.1 f.2.2.2.2.2, fun i hi => by rw [f.2.2.2.1]; exact w i hi, fun i hi => by rw [g.2.2]; exact ky i hi, prog_keep p (f.2.2.1 0 7 (by decide)) (f.2.2.1 0 8 (by decide)) (d0 18 (by decide)) (fun q x y => a q (by omega)) (fun q x y => d q (by omega) (by omega))⟩
  rw [f.2.1 12 (by decide) (by decide), d0 17 (by decide)]
  exact m.1
theorem ag_count : q_sim_count INV := by
  rintro a u v ⟨n, k, t, l, vl, b, m, r, c, w, ky, p⟩
  have h : INV u v := ⟨n, k, t, l, vl, b, m, r, c, w, ky, p⟩
  by_cases c0 : a = 0
  · subst c0
    obtain ⟨s, hs, p7, p8, p18, n', pm, fo, fr, pg, ws, cs, n8, hG, q4, v8, _⟩ := p
    have iP : isP (43 + 4 * s) := by unfold isP; omega
    refine ⟨nI n', u, v, ?_, ?_, h⟩
    · unfold fX10_count fX4_size
      rw [if_pos rfl, p7, if_pos (isP_c iP), if_pos (isP_c iP), q_b_some, q4]
    · unfold fX11_count
      rw [if_pos rfl, p18, q_lt_eq, if_pos (q_inb_nI (by omega) (by omega)), q_ix_nI (by omega), v8]
  · by_cases c1 : a = 1
    · subst c1
      refine ⟨nI k, u, v, ?_, ?_, h⟩
      · unfold fX10_count fX2_size fX6_size
        rw [if_neg c0, if_pos rfl, if_pos (by decide), q_b_some, q_b_some, l.2.1]
      · unfold fX11_count
        rw [if_neg c0, if_pos rfl, l.2.2.2.1]
    · by_cases c2 : a = 2
      · subst c2
        obtain ⟨x, u', v', e1, e2, f, g⟩ := sim_count2 l vl b
        exact ⟨x, u', v', e1, e2, inv_X t l vl b m r w ky p (frX_B f) (ch_B f c) (frY_W g)⟩
      · by_cases c3 : a = 3
        · subst c3
          refine ⟨nI n, u, v, ?_, ?_, h⟩
          · unfold fX10_count fX9_size
            rw [if_neg c0, if_neg c1, if_neg c2, if_pos rfl, q_b_some, t.2.1]
          · unfold fX11_count
            rw [if_neg c0, if_neg c1, if_neg c2, if_pos rfl, t.2.2.1]
        · refine ⟨-1, u, v, ?_, ?_, h⟩
          · unfold fX10_count
            rw [if_neg c0, if_neg c1, if_neg c2, if_neg c3]
          · unfold fX11_count
            rw [if_neg c0, if_neg c1, if_neg c2, if_neg c3]
theorem q_agree : ∃ I : q_W → q_W → Prop, I wC0 wR0 ∧ q_Sim I := by
  refine ⟨INV, inv_0, ?_, ?_, ag_read, ?_, ?_, ?_, ?_, ?_, ?_, ?_, ag_run, ?_, ?_, ?_, ?_, ?_, ?_, ?_, ?_, ?_, ?_, ?_, ?_, ?_, ?_, ?_, ?_, ?_, ?_, ?_, ?_, ?_, ?_, ag_count⟩
  · rintro a1 a2 a3 a4 a5 u v ⟨n, k, t, l, vl, b, m, r, c, w, ky, p⟩
    obtain ⟨x, u', v', n', e1, e2, t', f, g⟩ := sim_feed a1 a2 a3 a4 a5 t
    exact ⟨x, u', v', e1, e2, inv_K (n := n) t' l vl b m r c w ky p f g⟩
  · rintro a1 u v ⟨n, k, t, l, vl, b, m, r, c, w, ky, p⟩
    obtain ⟨x, u', v', n', e1, e2, t', f, g⟩ := sim_back a1 t
    exact ⟨x, u', v', e1, e2, inv_K (n := n) t' l vl b m r c w ky p f g⟩
  · rintro u v ⟨n, k, t, l, vl, b, m, r, c, w, ky, p⟩
    refine ⟨v.1 0 17, u, v, ?_, rfl, n, k, t, l, vl, b, m, r, c, w, ky, p⟩
    unfold fX10_place
    rw [m.1]
  · rintro a1 a2 a3 a4 u v ⟨n, k, t, l, vl, b, m, r, c, w, ky, p⟩
    obtain ⟨x, u', v', e1, e2, h⟩ := sim_dropS l vl b a1 a2 a3 a4
    exact ⟨x, u', v', e1, e2, inv_T t m r c w ky p h⟩
  · rintro a1 a2 a3 a4 u v ⟨n, k, t, l, vl, b, m, r, c, w, ky, p⟩
    obtain ⟨x, u', v', e1, e2, h⟩ := sim_lineS l vl b a1 a2 a3 a4
    exact ⟨x, u', v', e1, e2, inv_T t m r c w ky p h⟩
  · rintro a1 a2 a3 a4 a5 a6 u v ⟨n, k, t, l, vl, b, m, r, c, w, ky, p⟩
    obtain ⟨x, u', v', e1, e2, h⟩ := sim_combS l vl b a1 a2 a3 a4 a5 a6
    exact ⟨x, u', v', e1, e2, inv_T t m r c w ky p h⟩
  · rintro a1 a2 a3 u v ⟨n, k, t, l, vl, b, m, r, c, w, ky, p⟩
    obtain ⟨x, u', v', e1, e2, h⟩ := sim_waveS l vl b a1 a2 a3
    exact ⟨x, u', v', e1, e2, inv_T t m r c w ky p h⟩
  · rintro a1 u v ⟨n, k, t, l, vl, b, m, r, c, w, ky, p⟩
    obtain ⟨x, u', v', e1, e2, h⟩ := sim_layS l vl b a1
    exact ⟨x, u', v', e1, e2, inv_T t m r c w ky p h⟩
  · rintro a1 u v ⟨n, k, t, l, vl, b, m, r, c, w, ky, p⟩
    obtain ⟨x, u', v', e1, e2, h⟩ := sim_strikeS l vl b a1
    exact ⟨x, u', v', e1, e2, inv_T t m r c w ky p h⟩
  · rintro u v ⟨n, k, t, l, vl, b, m, r, c, w, ky, p⟩
    obtain ⟨x, e1, e2⟩ := sim_broke m
    exact ⟨x, u, v, e1, e2, n, k, t, l, vl, b, m, r, c, w, ky, p⟩
  · rintro u v ⟨n, k, t, l, vl, b, m, r, c, w, ky, p⟩
    obtain ⟨x, e1, e2⟩ := sim_where m
    exact ⟨x, u, v, e1, e2, n, k, t, l, vl, b, m, r, c, w, ky, p⟩
  · rintro a u v ⟨n, k, t, l, vl, b, m, r, c, w, ky, p⟩
    obtain ⟨P, s, n', hh⟩ := heads_of p
    obtain ⟨x, e1, e2⟩ := sim_parameters hh a
    exact ⟨x, u, v, e1, e2, n, k, t, l, vl, b, m, r, c, w, ky, p⟩
  · rintro a u v ⟨n, k, t, l, vl, b, m, r, c, w, ky, p⟩
    obtain ⟨x, e1, e2⟩ := sim_kind l a
    exact ⟨x, u, v, e1, e2, n, k, t, l, vl, b, m, r, c, w, ky, p⟩
  · rintro a a2 u v ⟨n, k, t, l, vl, b, m, r, c, w, ky, p⟩
    obtain ⟨x, e1, e2⟩ := sim_number l a a2
    exact ⟨x, u, v, e1, e2, n, k, t, l, vl, b, m, r, c, w, ky, p⟩
  · rintro a a2 u v ⟨n, k, t, l, vl, b, m, r, c, w, ky, p⟩
    obtain ⟨x, u', e1, e2, f⟩ := sim_struck l vl a a2
    exact ⟨x, u', v, e1, e2, inv_X t l vl b m r w ky p (same7_X f) (ch_B (frB_7 f) c) (frY_r v)⟩
  · rintro a1 a2 a3 u v ⟨n, k, t, l, vl, b, m, r, c, w, ky, p⟩
    obtain ⟨x, u', v', e1, e2, f, g⟩ := sim_colour l vl b a1 a2 a3
    exact ⟨x, u', v', e1, e2, inv_X t l vl b m r w ky p (frX_B f) (ch_B f c) (frY_W g)⟩
  · rintro a1 a2 a3 a4 u v ⟨n, k, t, l, vl, b, m, r, c, w, ky, p⟩
    obtain ⟨x, u', v', e1, e2, f, g⟩ := sim_from l vl b a1 a2 a3 a4
    exact ⟨x, u', v', e1, e2, inv_X t l vl b m r w ky p (frX_B f) (ch_B f c) (frY_W g)⟩
  · rintro a1 a2 a3 a4 u v ⟨n, k, t, l, vl, b, m, r, c, w, ky, p⟩
    obtain ⟨x, u', v', e1, e2, f, g⟩ := sim_to l vl b a1 a2 a3 a4
    exact ⟨x, u', v', e1, e2, inv_X t l vl b m r w ky p (frX_B f) (ch_B f c) (frY_W g)⟩
  · rintro a1 a2 a3 u v ⟨n, k, t, l, vl, b, m, r, c, w, ky, p⟩
    obtain ⟨x, u', v', e1, e2, f, g⟩ := sim_home l vl b a1 a2 a3
    exact ⟨x, u', v', e1, e2, inv_X t l vl b m r w ky p (frX_B f) (ch_B f c) (frY_W g)⟩
  · rintro a u v ⟨n, k, t, l, vl, b, m, r, c, w, ky, p⟩
    obtain ⟨x, u', e1, e2, f⟩ := sim_sheets l vl a
    exact ⟨x, u', v, e1, e2, inv_X t l vl b m r w ky p (same7_X f) (ch_B (frB_7 f) c) (frY_r v)⟩
  · rintro a1 a2 a3 a4 u v ⟨n, k, t, l, vl, b, m, r, c, w, ky, p⟩
    obtain ⟨x, u', v', e1, e2, f, c', g⟩ := sim_cell l vl b c a1 a2 a3 a4
    exact ⟨x, u', v', e1, e2, inv_X t l vl b m r w ky p f c' g⟩
  · rintro a1 a2 a3 u v ⟨n, k, t, l, vl, b, m, r, c, w, ky, p⟩
    obtain ⟨x, u', v', e1, e2, f, c', g⟩ := sim_area l vl b c a1 a2 a3
    exact ⟨x, u', v', e1, e2, inv_X t l vl b m r w ky p f c' g⟩
  · rintro a1 a2 u v ⟨n, k, t, l, vl, b, m, r, c, w, ky, p⟩
    obtain ⟨x, u', v', e1, e2, f, c', g⟩ := sim_pieces l vl b c a1 a2
    exact ⟨x, u', v', e1, e2, inv_X t l vl b m r w ky p f c' g⟩
  · rintro a1 a2 u v ⟨n, k, t, l, vl, b, m, r, c, w, ky, p⟩
    obtain ⟨x, u', v', e1, e2, f, c', g⟩ := sim_largest l vl b c a1 a2
    exact ⟨x, u', v', e1, e2, inv_X t l vl b m r w ky p f c' g⟩
  · rintro a1 a2 a3 a4 u v ⟨n, k, t, l, vl, b, m, r, c, w, ky, p⟩
    obtain ⟨x, u', v', e1, e2, f, c', g⟩ := sim_edge l vl b c a1 a2 a3 a4
    exact ⟨x, u', v', e1, e2, inv_X t l vl b m r w ky p f c' g⟩
  · rintro a1 a2 a3 u v ⟨n, k, t, l, vl, b, m, r, c, w, ky, p⟩
    obtain ⟨x, u', v', e1, e2, f, c', g⟩ := sim_match l vl b c a1 a2 a3
    exact ⟨x, u', v', e1, e2, inv_X t l vl b m r w ky p f c' g⟩
  · rintro a1 a2 a3 u v ⟨n, k, t, l, vl, b, m, r, c, w, ky, p⟩
    obtain ⟨x, u', v', e1, e2, f, c', g⟩ := sim_unlike l vl b c a1 a2 a3
    exact ⟨x, u', v', e1, e2, inv_X t l vl b m r w ky p f c' g⟩
  · rintro a1 a2 u v ⟨n, k, t, l, vl, b, m, r, c, w, ky, p⟩
    obtain ⟨x, u', v', e1, e2, f, c', g, r'⟩ := sim_made l vl b c p r a1 a2
    exact ⟨x, u', v', e1, e2, inv_M t l vl b m w ky p f g c' r'⟩
  · rintro a1 a2 u v ⟨n, k, t, l, vl, b, m, r, c, w, ky, p⟩
    obtain ⟨x, u', v', e1, e2, f, c', g, r'⟩ := sim_off l vl b c p r a1 a2
    exact ⟨x, u', v', e1, e2, inv_M t l vl b m w ky p f g c' r'⟩
  · rintro a1 a2 a3 u v ⟨n, k, t, l, vl, b, m, r, c, w, ky, p⟩
    obtain ⟨x, u', v', e1, e2, f, c', g, r'⟩ := sim_row l vl b c p r a1 a2 a3
    exact ⟨x, u', v', e1, e2, inv_M t l vl b m w ky p f g c' r'⟩
  · rintro a u v ⟨n, k, t, l, vl, b, m, r, c, w, ky, p⟩
    obtain ⟨x, e1, e2⟩ := sim_rowed r a
    exact ⟨x, u, v, e1, e2, n, k, t, l, vl, b, m, r, c, w, ky, p⟩
