/-! telling once more: what it leaves as it was -/
def tlC (k : Nat) (u u' : q_W) : Prop := u'.2 = u.2 ∧ (∀ q, q ≠ 4 → q ≠ 5 → q ≠ 6 → q ≠ 22 → u'.1 q = u.1 q) ∧ (∀ i, i < k → u'.1 5 i = u.1 5 i) ∧ ∀ i, i < 6 * k → u'.1 6 i = u.1 6 i
def tlR (v v' : q_W) : Prop := v'.2 = v.2 ∧ (∀ q, q ≠ 0 → q ≠ 26 → q ≠ 27 → q ≠ 28 → v'.1 q = v.1 q) ∧ ∀ i, i ≠ 50 → v'.1 0 i = v.1 0 i
theorem tlC_22 {k : Nat} {u u' : q_W} (s : same22 u u') : tlC k u u' := ⟨s.2, fun q _ _ _ a => s.1 q a, fun i _ => by rw [s.1 5 (by decide)], fun i _ => by rw [s.1 6 (by decide)]⟩
theorem tlC_a {k : Nat} {c : Int32} {u w u' : q_W} (s : same22 u w) (a : addedC 22 k c w u') : tlC k u u' := ⟨a.1.trans s.2, fun q x y z t => (a.2.1 q x y z).trans (s.1 q t), fun i hi => by rw [a.2.2.2.2.2.1 i (by omega), s.1 5 (by decide)], fun i hi => by rw [a.2.2.2.2.2.2.2 i hi, s.1 6 (by decide)]⟩
theorem tlR_26 {v v' : q_W} (s : same26 v v') : tlR v v' := ⟨s.2, fun q _ a _ _ => s.1 q a, fun i _ => by rw [s.1 0 (by decide)]⟩
theorem tlR_a {k : Nat} {c : Int32} {v w v' : q_W} (s : same26 v w) (a : addedR k c w v') : tlR v v' := ⟨a.1.trans s.2, fun q x y z t => (a.2.1 q x z t).trans (s.1 q y), fun i hi => by rw [a.2.2.2.1 i hi, s.1 0 (by decide)]⟩
theorem tlR_r (v : q_W) : tlR v v := ⟨rfl, fun _ _ _ _ _ => rfl, fun _ _ => rfl⟩
theorem bnd_22 {u u' : q_W} {k : Nat} (s : same22 u u') (h : I_bnd k u) : I_bnd k u' := by
  unfold I_bnd at *
  rw [kd_eq (s.1 5 (by decide)), nm_eq (s.1 6 (by decide))]
  exact h
theorem bnd_addS {k c : Nat} {u u' : q_W} (hk : k < 120) (hc : c ≤ 5) (hl : ∀ i, i < k → ∃ c, c ≤ 5 ∧ u.1 5 i = nI c) (hb : I_bnd k u) (a : addedC 22 k (nI c) u u') (hf : c ≤ 4 → fitsB (fun i => u.1 22 i) c 0 = true) : I_bnd (k + 1) u' := by
  obtain ⟨a1, a2, a3, a4, a5, a6, a7, a8⟩ := a
  have n6 : ∀ c, c ≤ 4 → nums c ≤ 6 := by
    intro c hc
    have : c = 0 ∨ c = 1 ∨ c = 2 ∨ c = 3 ∨ c = 4 := by omega
    rcases this with rfl | rfl | rfl | rfl | rfl <;> decide
  intro i hi h4
  by_cases e : i = k
  · subst e
    have ek : kd u' i = c := by
      unfold kd
      rw [a5, q_ix_nI (by omega)]
    rw [ek] at h4 ⊢
    rw [← hf h4]
    have := n6 c h4
    exact fitsB_congr fun j hj => a7 j (by omega)
  · have ek : kd u' i = kd u i := by
      unfold kd
      rw [a6 i e]
    rw [ek] at h4 ⊢
    rw [← hb i (by omega) h4]
    have := n6 _ h4
    exact fitsB_congr fun j hj => a8 _ (by omega)
/-- what a tell gives -/
def TLD (k : Nat) (u v u1 v1 : q_W) : Prop := ∃ k', k ≤ k' ∧ I_log k' u1 v1 ∧ I_val k' u1 ∧ I_bnd k' u1 ∧ tlC k u u1 ∧ tlR v v1
theorem log_kds {k : Nat} {u v : q_W} (h : I_log k u v) : ∀ i, i < k → ∃ c, c ≤ 5 ∧ u.1 5 i = nI c := fun i hi => by
  obtain ⟨c, h1, h2, _⟩ := h.2.2.2.2 i hi
  exact ⟨c, h1, h2⟩
theorem tell_bothS (c : Nat) (hc : c ≤ 3) {u v : q_W} {k : Nat} (h : I_log k u v) (hv : I_val k u) (hb : I_bnd k u) (a1 a2 a3 a4 a5 a6 : Int32) : ∃ w r u1 v1, fX10_put a1 a2 a3 a4 a5 a6 u = some (22, w) ∧ fX2_tell (nI c) 22 w = some (r, u1) ∧ fX11_stroke (nI c) a1 a2 a3 a4 a5 a6 v = some (r, v1) ∧ TLD k u v u1 v1 := by
  have hk := h.1
  obtain ⟨w, e, s, f⟩ := put6_ok a1 a2 a3 a4 a5 a6 u
  have hl := I_log_22 s h
  obtain ⟨v', s', f', ht'⟩ := put26_ok a1 a2 a3 a4 a5 a6 c hc k hk v h.2.2.2.1
  have ht := tell_ok c (by omega) k w hk hl.2.1 hl.2.2.1
  have hl' := I_log_26 s' hl
  have hn : nums c ≤ 6 := nums6 hc
  have ef : fitsB (w.1 22) c 0 = fitsB (v'.1 26) c 0 := fitsB_congr (fun i hi => by rw [f i (by omega), f' i (by omega)])
  rw [ef] at ht
  refine ⟨w, ?_⟩
  rcases ht with ⟨t1, t2⟩ | ⟨t1, t2, w', t3, t4⟩ <;> rcases ht' with ⟨r1, r2⟩ | ⟨r1, r2, v2, r3, r4⟩
  · exact ⟨_, _, _, e, t1, r1, k, Nat.le_refl k, hl', I_val_22 s k hv, bnd_22 s hb, tlC_22 s, tlR_26 s'⟩
  · exfalso
    rcases t2 with x | x
    · omega
    · rw [x] at r2; exact absurd r2 (by decide)
  · exfalso
    rcases r2 with x | x
    · omega
    · rw [x] at t2; exact absurd t2 (by decide)
  · refine ⟨_, _, _, e, t3, r3, k + 1, by omega, log_add hl' t1 c (by omega) t4 r4 (fun j hj => ?_), val_add t1 (by omega) (I_val_22 s k hv) t4 (fun e => absurd e (by omega)), bnd_addS t1 (by omega) (log_kds hl) (bnd_22 s hb) t4 (fun _ => by rw [← t2, ← ef]), tlC_a s t4, tlR_a s' r4⟩
    rw [f j (by omega), f' j (by omega)]
theorem sim_dropS {u v : q_W} {k : Nat} (h : I_log k u v) (hv : I_val k u) (hb : I_bnd k u) (a1 a2 a3 a4 : Int32) : ∃ r u1 v1, fX10_drop a1 a2 a3 a4 u = some (r, u1) ∧ fX11_drop a1 a2 a3 a4 v = some (r, v1) ∧ TLD k u v u1 v1 := by
  obtain ⟨w, r, u1, v1, e1, e2, e3, e4⟩ := tell_bothS 0 (by omega) h hv hb a1 a2 a3 a4 0 0
  rw [nI_0] at e2 e3
  unfold fX10_drop fX11_drop
  rw [e1, q_b_some, if_pos (by decide), e2, e3, q_b_some, q_b_some]
  exact ⟨_, _, _, rfl, rfl, e4⟩
theorem sim_lineS {u v : q_W} {k : Nat} (h : I_log k u v) (hv : I_val k u) (hb : I_bnd k u) (a1 a2 a3 a4 : Int32) : ∃ r u1 v1, fX10_line a1 a2 a3 a4 u = some (r, u1) ∧ fX11_line a1 a2 a3 a4 v = some (r, v1) ∧ TLD k u v u1 v1 := by
  obtain ⟨w, r, u1, v1, e1, e2, e3, e4⟩ := tell_bothS 1 (by omega) h hv hb a1 a2 a3 a4 0 0
  unfold fX10_line fX11_line
  rw [show (1 : Int32) = nI 1 from rfl, e1, q_b_some, if_pos (by decide), e2, e3, q_b_some, q_b_some]
  exact ⟨_, _, _, rfl, rfl, e4⟩
theorem sim_combS {u v : q_W} {k : Nat} (h : I_log k u v) (hv : I_val k u) (hb : I_bnd k u) (a1 a2 a3 a4 a5 a6 : Int32) : ∃ r u1 v1, fX10_comb a1 a2 a3 a4 a5 a6 u = some (r, u1) ∧ fX11_comb a1 a2 a3 a4 a5 a6 v = some (r, v1) ∧ TLD k u v u1 v1 := by
  obtain ⟨w, r, u1, v1, e1, e2, e3, e4⟩ := tell_bothS 2 (by omega) h hv hb a1 a2 a3 a4 a5 a6
  unfold fX10_comb fX11_comb
  rw [show (2 : Int32) = nI 2 from rfl, e1, q_b_some, if_pos (by decide), e2, e3, q_b_some, q_b_some]
  exact ⟨_, _, _, rfl, rfl, e4⟩
theorem sim_waveS {u v : q_W} {k : Nat} (h : I_log k u v) (hv : I_val k u) (hb : I_bnd k u) (a1 a2 a3 : Int32) : ∃ r u1 v1, fX10_wave a1 a2 a3 u = some (r, u1) ∧ fX11_wave a1 a2 a3 v = some (r, v1) ∧ TLD k u v u1 v1 := by
  obtain ⟨w, r, u1, v1, e1, e2, e3, e4⟩ := tell_bothS 3 (by omega) h hv hb a1 a2 a3 0 0 0
  unfold fX10_wave fX11_wave
  rw [show (3 : Int32) = nI 3 from rfl, e1, q_b_some, if_pos (by decide), e2, e3, q_b_some, q_b_some]
  exact ⟨_, _, _, rfl, rfl, e4⟩
theorem sim_layS {u v : q_W} {k : Nat} (h : I_log k u v) (hv : I_val k u) (hb : I_bnd k u) (a : Int32) : ∃ r u1 v1, fX10_lay a u = some (r, u1) ∧ fX11_lay a v = some (r, v1) ∧ TLD k u v u1 v1 := by
  have hk := h.1
  unfold fX10_lay fX11_lay
  obtain ⟨w, e, s, f⟩ := put6_ok a 0 0 0 0 0 u
  have hl := I_log_22 s h
  rw [e, q_b_some, if_pos (by decide), h.2.2.2.1]
  have hf : fitsB (w.1 22) 4 0 = chk a 0 63 := by
    have e0 : w.1 22 0 = a := f 0 (by decide)
    show (chk (w.1 22 0) 0 63 && true) = _
    rw [e0, Bool.and_true]
  have ht := tell_ok 4 (by decide) k w hk hl.2.1 hl.2.2.1
  have kept : TLD k u v w v := ⟨k, Nat.le_refl k, hl, I_val_22 s k hv, bnd_22 s hb, tlC_22 s, tlR_r v⟩
  rw [show (4 : Int32) = nI 4 from rfl] at *
  rcases ht with ⟨t1, t2⟩ | ⟨t1, t2, w', t3, t4⟩
  · rw [hf] at t2
    rw [t1, q_b_some]
    by_cases h12 : nI k = 120
    · rw [if_pos h12]
      exact ⟨_, _, _, rfl, rfl, kept⟩
    · rw [if_neg h12]
      have t2' : chk a 0 63 = false := by
        rcases t2 with x | x
        · rw [x] at h12; exact absurd rfl h12
        · exact x
      rw [in_ok, t2', q_b_some, if_pos (show b01 false = 0 from rfl)]
      exact ⟨_, _, _, rfl, rfl, kept⟩
  · have t2' := t2
    rw [hf] at t2
    rw [t3, q_b_some, if_neg (by rw [show (120 : Int32) = nI 120 from rfl, nI_eq (by omega) (by omega)]; omega), in_ok, t2, q_b_some, if_neg (by decide), if_pos (by decide), q_lt_eq]
    obtain ⟨v', e', ad⟩ := logs_ok k (nI 4) (q_sI v 26 0 a) t1 (by rw [sI_cell _ _ _ _ _ (by decide)]; exact h.2.2.2.1)
    have s26 : same26 v (q_sI v 26 0 a) := ⟨fun q hq => sI_cell _ _ _ _ _ hq, rfl⟩
    have hl' : I_log k w (q_sI v 26 0 a) := I_log_26 s26 hl
    rw [show q_ix 0 = 0 from rfl, e', q_b_some]
    refine ⟨_, _, _, rfl, rfl, k + 1, by omega, log_add hl' t1 4 (by decide) t4 ad (fun j hj => ?_), val_add t1 (by omega) (I_val_22 s k hv) t4 (fun e => absurd e (by omega)), bnd_addS t1 (by omega) (log_kds hl) (bnd_22 s hb) t4 (fun _ => t2'), tlC_a s t4, tlR_a s26 ad⟩
    have : j = 0 := by have : nums 4 = 1 := rfl; omega
    subst this
    rw [f 0 (by decide), sI_same]
    rfl
theorem sim_strikeS {u v : q_W} {k : Nat} (h : I_log k u v) (hv : I_val k u) (hb : I_bnd k u) (a : Int32) : ∃ r u1 v1, fX10_strike a u = some (r, u1) ∧ fX11_strike a v = some (r, v1) ∧ TLD k u v u1 v1 := by
  have hk := h.1
  unfold fX10_strike fX11_strike
  obtain ⟨w, e, s, f⟩ := put6_ok a 0 0 0 0 0 u
  have hl := I_log_22 s h
  have f0 : w.1 22 0 = a := f 0 (by decide)
  have kept : TLD k u v w v := ⟨k, Nat.le_refl k, hl, I_val_22 s k hv, bnd_22 s hb, tlC_22 s, tlR_r v⟩
  rw [e, q_b_some, if_pos (by decide), h.2.2.2.1]
  unfold fX2_tellStrike
  rw [if_pos (by decide), if_neg (by decide), if_pos (by decide), show q_ix 0 = 0 from rfl, f0]
  unfold fX2_tellStrike_n12
  rw [has_ok w k hk hl.2.1, q_b_some]
  by_cases hi : q_inb a k
  · obtain ⟨m, hm, rfl⟩ := (q_inb_iff (by omega)).mp hi
    rw [if_pos hi, if_neg i_10, kindOf_ok w k m hk hl.2.1 hm, q_b_some, log_kind hl hm, if_neg (nI_pos (by omega)), if_neg (show ¬ nI k ≤ nI m by rw [nI_leI (by omega) (by omega)]; omega), if_pos (show q_inb (nI m) 120 from q_inb_nI (by omega) (by omega)), q_ix_nI (by omega)]
    by_cases h5 : v.1 27 m = 5
    · rw [if_pos h5, if_pos h5]
      refine ⟨-1, w, v, rfl, ?_, kept⟩
      by_cases h12 : nI k = 120
      · rw [if_pos h12]
      · rw [if_neg h12]
    · rw [if_neg h5, if_neg h5, if_pos (show q_inb 0 6 by decide), q_lt_eq]
      unfold fX2_tellStrike_n38
      rw [if_neg i_10, show (5 : Int32) = nI 5 from rfl]
      rcases add_ok 22 rfl rfl (by decide) (by decide) k (nI 5) w hk hl.2.1 hl.2.2.1 with ⟨t1, t2⟩ | ⟨t1, w', t2, t3⟩
      · rw [t2, q_b_some, t1, if_pos (show nI 120 = 120 from rfl)]
        exact ⟨_, _, _, rfl, rfl, t1 ▸ kept⟩
      · rw [t2, q_b_some, if_neg (by rw [show (120 : Int32) = nI 120 from rfl, nI_eq (by omega) (by omega)]; omega)]
        obtain ⟨v', e', ad⟩ := logs_ok k (nI 5) (q_sI v 26 0 (nI m)) t1 (by rw [sI_cell _ _ _ _ _ (by decide)]; exact h.2.2.2.1)
        have s26 : same26 v (q_sI v 26 0 (nI m)) := ⟨fun q hq => sI_cell _ _ _ _ _ hq, rfl⟩
        have hl' : I_log k w (q_sI v 26 0 (nI m)) := I_log_26 s26 hl
        rw [e', q_b_some]
        refine ⟨_, _, _, rfl, rfl, k + 1, by omega, log_add hl' t1 5 (by decide) t3 ad (fun j hj => ?_), val_add t1 (by omega) (I_val_22 s k hv) t3 (fun _ => ⟨m, hm, f0⟩), bnd_addS t1 (by omega) (log_kds hl) (bnd_22 s hb) t3 (fun e => absurd e (by omega)), tlC_a s t3, tlR_a s26 ad⟩
        have : j = 0 := by have : nums 5 = 1 := rfl; omega
        subst this
        rw [f0, sI_same]
  · rw [if_neg hi, if_pos rfl]
    refine ⟨-1, w, v, rfl, ?_, kept⟩
    by_cases h12 : nI k = 120
    · rw [if_pos h12]
    · rw [if_neg h12]
      by_cases h0 : a < 0
      · rw [if_pos h0]
      · rw [if_neg h0]
        obtain ⟨m, hm, rfl⟩ := nI_of h0
        rw [if_pos]
        rw [nI_leI (by omega) hm]
        apply Nat.le_of_not_lt
        intro x
        exact hi (q_inb_nI x (by omega))
