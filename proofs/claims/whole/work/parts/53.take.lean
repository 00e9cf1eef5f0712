/-! a sheet is taken: both have its cells -/
/-- the shift of sheet s as known by n -/
noncomputable def shO (u : q_W) (n s : Nat) : Nat := q_ix (nm u ((scan u n s n 0 0 []).1.getD 0) 0)
/-- the cells of sheet s as known by n -/
noncomputable def shtS (u : q_W) (n s : Nat) : Nat → Int32 := cellS (scan u n s n 0 0 []).2.length (min s 9) (KL u (scan u n s n 0 0 []).2) (ZL u (scan u n s n 0 0 []).2) (shO u n s)
theorem known_eq {u u' : q_W} (h5 : u'.1 5 = u.1 5) (h6 : u'.1 6 = u.1 6) (n : Nat) : ∀ i, i < n → outB u' n i = outB u n i ∧ kd u' i = kd u i := fun i _ => ⟨outB_eq h5 h6 n i, by rw [kd_eq h5]⟩
theorem cntL_eq {u u' : q_W} (h5 : u'.1 5 = u.1 5) (h6 : u'.1 6 = u.1 6) (n : Nat) : cntL u' n n 0 = cntL u n n 0 := cntL_cong (known_eq h5 h6 n) n 0 (by omega)
theorem shO_eq {u u' : q_W} (h5 : u'.1 5 = u.1 5) (h6 : u'.1 6 = u.1 6) (n s : Nat) : shO u' n s = shO u n s := by
  unfold shO
  have e1 : scan u' n s n 0 0 [] = scan u n s n 0 0 [] := scan_cong (known_eq h5 h6 n) n 0 0 [] (by omega)
  rw [e1, nm_eq h6]
theorem shtS_eq {u u' : q_W} (h5 : u'.1 5 = u.1 5) (h6 : u'.1 6 = u.1 6) (n s : Nat) : shtS u' n s = shtS u n s := by
  unfold shtS
  have e1 : scan u' n s n 0 0 [] = scan u n s n 0 0 [] := scan_cong (known_eq h5 h6 n) n 0 0 [] (by omega)
  have e2 : KL u' = KL u := by funext l i; unfold KL; rw [kd_eq h5]
  have e3 : ZL u' = ZL u := by funext l i j; unfold ZL; rw [nm_eq h6]
  rw [e1, e2, e3, shO_eq h5 h6]
theorem scan_some (u : q_W) (n T : Nat) : ∀ d j p l, p ≤ T → T < p + cntL u n d j → ∃ i, (scan u n T d j p l).1 = some i := by
  intro d
  induction d with
  | zero => intro j p l h1 h2; unfold cntL at h2; omega
  | succ d ih =>
    intro j p l h1 h2
    unfold cntL at h2
    unfold scan
    by_cases c1 : (outB u n j || kd u j == 5) = true
    · rw [if_pos c1]
      rw [if_neg (fun c => by rw [c1] at c; exact absurd c.1 (by decide))] at h2
      exact ih (j + 1) p l h1 (by omega)
    · rw [if_neg c1]
      have c1' : (outB u n j || kd u j == 5) = false := by
        cases h : (outB u n j || kd u j == 5) with
        | true => exact absurd h c1
        | false => rfl
      by_cases c2 : kd u j = 4
      · rw [if_pos c2]
        rw [if_pos ⟨c1', c2⟩] at h2
        by_cases c3 : p = T
        · rw [if_pos c3]; exact ⟨j, rfl⟩
        · rw [if_neg c3]
          exact ih (j + 1) (p + 1) l (by omega) (by omega)
      · rw [if_neg c2]
        rw [if_neg (fun c => c2 c.2)] at h2
        exact ih (j + 1) p _ h1 (by omega)
/-- the class's held sheet -/
def chOK (q k : Nat) (u : q_W) : Prop := u.1 q 7 = -1 ∨ ∃ n s, n ≤ k ∧ s < cntL u n n 0 ∧ u.1 q 7 = nI s ∧ u.1 q 8 = nI n ∧ u.1 q 6 = nI (shO u n s) ∧ ∀ i, i < 256 → u.1 (q + 1) i = shtS u n s i
/-- what taking sheet q leaves alone -/
def frT (q : Nat) (w w' : q_W) : Prop := (∀ c, c ≠ 7 → c ≠ 12 → c ≠ 13 → c ≠ q → c ≠ q + 1 → w'.1 c = w.1 c) ∧ (∀ c k, ¬ (c = 12 ∧ k = 1) → w'.2.1 c k = w.2.1 c k) ∧ w'.2.2 = w.2.2
theorem frT_r (q : Nat) (w : q_W) : frT q w w := ⟨fun _ _ _ _ _ _ => rfl, fun _ _ _ => rfl, rfl⟩
theorem frT_B {q : Nat} {w w' : q_W} (h : frB w w') : frT q w w' := ⟨fun c a b d _ _ => h.1 c a b d, h.2.1, h.2.2⟩
theorem frT_t {q : Nat} {a b c : q_W} (h : frT q a b) (h' : frT q b c) : frT q a c := ⟨fun q x y z a b => (h'.1 q x y z a b).trans (h.1 q x y z a b), fun q k x => (h'.2.1 q k x).trans (h.2.1 q k x), h'.2.2.trans h.2.2⟩
theorem chOK_fr {q k : Nat} {u u' : q_W} (hq : isQ q) (h : chOK q k u) (e1 : u'.1 q = u.1 q) (e2 : u'.1 (q + 1) = u.1 (q + 1)) (h5 : u'.1 5 = u.1 5) (h6 : u'.1 6 = u.1 6) : chOK q k u' := by
  unfold chOK at *
  rw [e1, e2]
  rcases h with h | ⟨n, s, a1, a2, a3, a4, a6, a5⟩
  · exact Or.inl h
  · refine Or.inr ⟨n, s, a1, by rw [cntL_eq h5 h6]; exact a2, a3, a4, by rw [shO_eq h5 h6]; exact a6, fun i hi => by rw [shtS_eq h5 h6]; exact a5 i hi⟩
/-- what taking a sheet leaves alone: reference -/
def frG (w w' : q_W) : Prop := (∀ c, c ≠ 0 → c ≠ 29 → c ≠ 30 → c ≠ 31 → c ≠ 32 → w'.1 c = w.1 c) ∧ (∀ k, k ≠ 55 → k ≠ 56 → k ≠ 60 → k ≠ 61 → k ≠ 62 → w'.1 0 k = w.1 0 k) ∧ w'.2 = w.2
theorem frG_r (w : q_W) : frG w w := ⟨fun _ _ _ _ _ _ => rfl, fun _ _ _ _ _ _ => rfl, rfl⟩
theorem frG_t {a b c : q_W} (h : frG a b) (h' : frG b c) : frG a c := ⟨fun q x y z a b => (h'.1 q x y z a b).trans (h.1 q x y z a b), fun k x y z a b => (h'.2.1 k x y z a b).trans (h.2.1 k x y z a b), h'.2.2.trans h.2.2⟩
theorem frG_F {w w' : q_W} (h : frF w w') : frG w w' := ⟨fun c a b d e _ => h.1 c a b d e, fun k a b c _ _ => h.2.1 k a b c, h.2.2⟩
theorem frG_K {w w' : q_W} (h : frK w w') : frG w w' := ⟨fun c a _ _ _ b => h.1 c a b, fun k _ _ _ a b => h.2.1 k a b, h.2.2⟩
theorem frG_log {u v v' : q_W} {k : Nat} (f : frG v v') (h : I_log k u v) : I_log k u v' := by
  unfold I_log at *
  rw [f.2.1 50 (by decide) (by decide) (by decide) (by decide) (by decide), f.1 27 (by decide) (by decide) (by decide) (by decide) (by decide), f.1 28 (by decide) (by decide) (by decide) (by decide) (by decide)]
  exact h
theorem frT_log {q : Nat} (hq : isQ q) {u u' v : q_W} {k : Nat} (f : frT q u u') (h : I_log k u v) : I_log k u' v := by
  have h0 : q = 14 ∨ q = 18 := hq
  unfold I_log at *
  rw [f.1 4 (by decide) (by decide) (by decide) (by omega) (by omega), f.1 5 (by decide) (by decide) (by decide) (by omega) (by omega), f.1 6 (by decide) (by decide) (by decide) (by omega) (by omega)]
  exact h
theorem holds_ok {q : Nat} (hq : isQ q) (a b : Int32) (w : q_W) : fX8_holds q a b w = some (if w.1 q 7 = a ∧ w.1 q 8 = b then 1 else 0, w) := by
  unfold fX8_holds
  rw [if_pos (isQ_c hq)]
  by_cases h1 : w.1 q 7 = a
  · rw [if_pos h1]
    by_cases h2 : w.1 q 8 = b
    · rw [if_pos h2, if_pos ⟨h1, h2⟩]
    · rw [if_neg h2, if_neg (fun c => h2 c.2)]
  · rw [if_neg h1, if_neg (fun c => h1 c.1)]
/-- the sheet that is there, on the class's side -/
theorem takeC {q : Nat} (hq : isQ q) {u v : q_W} {k n s : Nat} (hl : I_log k u v) (hv : I_val k u) (hb : I_bnd k u) (hc : chOK q k u) (hn : n ≤ k) (hs : s < cntL u n n 0) : ∃ w, fX10_takeSheet q (nI s) (nI n) u = some (1, w) ∧ frT q u w ∧ w.1 q 7 = nI s ∧ w.1 q 8 = nI n ∧ w.1 q 6 = nI (shO u n s) ∧ ∀ i, i < 256 → w.1 (q + 1) i = shtS u n s i := by
  have hk := hl.1
  have h0 : q = 14 ∨ q = 18 := hq
  have hcl := cntL_le u n n 0
  obtain ⟨w1, e1, s1⟩ := laysC hl hv hn
  have h51 : w1.1 5 = u.1 5 := s1.1 5 (by decide)
  have h61 : w1.1 6 = u.1 6 := s1.1 6 (by decide)
  have hc1 : chOK q k w1 := chOK_fr hq hc (s1.1 q (by omega)) (s1.1 (q + 1) (by omega)) h51 h61
  unfold fX10_takeSheet
  rw [if_pos (isQ_c hq), knows_ok u k hk hl.2.1, q_b_some, if_pos (show q_inb (nI n) (k + 1) from q_inb_nI (by omega) (by omega)), if_neg i_10, if_neg (nI_pos (by omega)), e1, q_b_some, if_pos (by rw [nI_ltI (by omega) (by omega)]; exact hs), holds_ok hq, q_b_some]
  by_cases hh : w1.1 q 7 = nI s ∧ w1.1 q 8 = nI n
  · rw [if_pos hh, if_neg i_10]
    refine ⟨w1, rfl, frT_B (frB_7 s1), hh.1, hh.2, ?_⟩
    rcases hc1 with c | ⟨n', s', a1, a2, a3, a4, a6, a5⟩
    · rw [c] at hh
      exfalso
      have := nI_pos (show s < 2 ^ 31 by omega)
      rw [← hh.1] at this
      exact this (by decide)
    · have hcl' := cntL_le w1 n' n' 0
      rw [a3, a4, nI_eq (by omega) (by omega), nI_eq (by omega) (by omega)] at hh
      rw [hh.1, hh.2] at a6
      refine ⟨by rw [a6, shO_eq h51 h61], fun i hi => ?_⟩
      rw [a5 i hi, hh.1, hh.2, shtS_eq h51 h61]
  · rw [if_neg hh, if_pos rfl]
    have hl1 := I_log_same s1 hl
    have hv1 := I_val_same s1 k hv
    obtain ⟨w2, e2, b2, f2⟩ := pickC hl1 hv1 hn s (by omega)
    have es : scan w1 n s n 0 0 [] = scan u n s n 0 0 [] := scan_cong (known_eq h51 h61 n) n 0 0 [] (by omega)
    have eK : KL w1 = KL u := by funext l i; unfold KL; rw [kd_eq h51]
    have eZ : ZL w1 = ZL u := by funext l i j; unfold ZL; rw [nm_eq h61]
    rw [es, eK, eZ] at b2
    rw [es] at e2
    obtain ⟨i, hi⟩ := scan_some u n s n 0 0 [] (by omega) (by omega)
    obtain ⟨s2, s3⟩ := scan_len u n s n 0 0 [] (Nat.zero_le _) (fun x hx => by cases hx)
    obtain ⟨hin, hi4⟩ := s3 i hi
    obtain ⟨k1, k2, k3, k4⟩ := kd_ok hl (show i < k by omega)
    have hfit := hb i (by omega) (by omega)
    rw [hi4] at hfit
    obtain ⟨sh, _, hsh, esh⟩ := chk_nI (lo := 0) (hi := 63) (fits_all hfit 0 (by decide)) (by decide) (by decide)
    have h52 : w2.1 5 = u.1 5 := (f2.1 5 (by decide) (by decide) (by decide)).trans h51
    have h62 : w2.1 6 = u.1 6 := (f2.1 6 (by decide) (by decide) (by decide)).trans h61
    have h42 : w2.1 4 2 = nI k := by rw [f2.1 4 (by decide) (by decide) (by decide), s1.1 4 (by decide)]; exact hl.2.1
    have hnum : fX6_numberOf 4 (nI i) 0 w2 = some (nI sh, w2) := by
      rw [show (0 : Int32) = nI 0 from rfl, numberOf_ok w2 k i 0 hk h42 (by omega) (by omega), h62]
      show some (nm u i 0, w2) = _
      rw [esh]
    have V := BV_scan hl hb hn s (min s 9) (by omega)
    obtain ⟨w3, e3, a1, a2, a3, a4, a5⟩ := fillC hq V sh w2 b2
    rw [hi] at e2
    rw [e2, q_b_some]
    unfold fX2_facts
    rw [q_b_some, if_pos (show cC 4 = 6 from rfl)]
    show ∃ w, (q_b (fX6_numberOf 4 (nI i) 0 w2) _) = _ ∧ _
    rw [hnum, q_b_some, e3, q_b_some]
    unfold fX8_keepAs
    rw [if_pos (isQ_c hq), q_lt_eq, q_lt_eq, q_b_some]
    refine ⟨_, rfl, frT_t (frT_B (frB_t (frB_7 s1) f2)) ⟨fun c b1 b2 b3 b4 b5 => by rw [sI_cell _ _ _ _ _ b4, sI_cell _ _ _ _ _ b4, a1 c b2 b4 b5], fun c k x => by rw [sI_r, sI_r, a3], by rw [sI_r, sI_r, a3]⟩, ?_, sI_same _ _ _ _, ?_, fun j hj => ?_⟩
    · rw [sI_k _ _ _ _ _ (by decide), sI_same]
    · rw [sI_k _ _ _ _ _ (by decide), sI_k _ _ _ _ _ (by decide), a4]
      unfold shO
      rw [hi]
      show _ = nI (q_ix (nm u i 0))
      rw [esh, q_ixn (by omega)]
    · rw [sI_cell _ _ _ _ _ (by omega), sI_cell _ _ _ _ _ (by omega), a5 j hj]
      unfold shtS shO
      rw [hi]
      show _ = cellS _ _ _ _ (q_ix (nm u i 0)) j
      rw [esh, q_ixn (by omega)]
/-- and on the reference's -/
theorem takeR {u v : q_W} {k n s : Nat} (hl : I_log k u v) (hv : I_val k u) (hb : I_bnd k u) (hn : n ≤ k) (hs : s < cntL u n n 0) (to : Nat) (hto : to < 2) : ∃ w, fX11_isSheet (nI s) (nI n) (nI to) v = some (1, w) ∧ frG v w ∧ (∀ i, i < 256 → w.1 32 (256 * to + i) = shtS u n s i) ∧ (∀ x, (x < 256 * to ∨ 256 * to + 256 ≤ x) → w.1 32 x = v.1 32 x) ∧ w.1 0 56 = nI (min s 9) ∧ w.1 0 60 = nI (shO u n s) := by
  have hk := hl.1
  have hcl := cntL_le u n n 0
  unfold fX11_isSheet fX11_floats fX11_floats_l10
  rw [known_R1 hl hn, q_b_some, if_neg i_10, if_neg (nI_pos (by omega)), q_lt_eq]
  obtain ⟨r, w, e, f, x⟩ := floats_lok hl hv hn s (by omega) (nI s) n q_N 0 0 [] [] (q_sI v 0 55 0) (by omega) (Nat.lt_of_le_of_lt (show n ≤ 120 by omega) (Nat.le_of_ble_eq_true rfl)) (by omega) (by omega) (by show 0 ≤ 0; omega) (fun _ => rfl) (fun _ => rfl) (frF_0 v 55 0 (Or.inl rfl)) ⟨sI_same _ _ _ _, fun i hi => absurd hi (Nat.not_lt_zero i)⟩ (Or.inl rfl)
  rw [nI_0] at e
  have hx : ¬ nI s = -1 := by
    intro c
    have := nI_pos (show s < 2 ^ 31 by omega)
    rw [c] at this
    exact this (by decide)
  rcases x with ⟨_, a, _⟩ | ⟨h, hr, h1, h2⟩
  · exfalso; omega
  · rcases h with ⟨a, _⟩ | ⟨_, _, i, hi, h60⟩
    · exact absurd a hx
    · obtain ⟨s2, s3⟩ := scan_len u n s n 0 0 [] (Nat.zero_le _) (fun x hx => by cases hx)
      obtain ⟨hin, hi4⟩ := s3 i hi
      have hfit := hb i (by omega) (by omega)
      rw [hi4] at hfit
      obtain ⟨sh, _, hsh, esh⟩ := chk_nI (lo := 0) (hi := 63) (fits_all hfit 0 (by decide)) (by decide) (by decide)
      have esh : nm u i 0 = nI sh := esh
      have V := BV_scan hl hb hn s (min s 9) (by omega)
      obtain ⟨w', e', f', c1, c2⟩ := laysR V sh to hto w (BR_FL h2 h1) (by rw [h60, esh])
      rw [hr] at e
      rw [e, q_b_some, if_neg i_10, e', q_b_some]
      refine ⟨w', rfl, frG_t (frG_F f) (frG_K f'), fun j hj => ?_, fun x hx => ?_, ?_, ?_⟩
      · rw [c1 j hj]
        unfold shtS shO
        rw [hi]
        show _ = cellS _ _ _ _ (q_ix (nm u i 0)) j
        rw [esh, q_ixn (by omega)]
      · rw [c2 x hx, f.1 32 (by decide) (by decide) (by decide) (by decide)]
      · rw [f'.2.1 56 (by decide) (by decide)]; exact h1
      · rw [f'.2.1 60 (by decide) (by decide), h60]
        unfold shO
        rw [hi]
        show _ = nI (q_ix (nm u i 0))
        rw [esh, q_ixn (by omega)]
/-- there is no such sheet -/
theorem takeNo {q : Nat} (hq : isQ q) {u v : q_W} {k : Nat} (hl : I_log k u v) (hv : I_val k u) (a b to : Int32) (h : ¬ ∃ n s, n ≤ k ∧ s < cntL u n n 0 ∧ a = nI s ∧ b = nI n) : ∃ w w', fX10_takeSheet q a b u = some (0, w) ∧ fX11_isSheet a b to v = some (0, w') ∧ frB u w ∧ frG v w' := by
  have hk := hl.1
  unfold fX10_takeSheet fX11_isSheet
  rw [if_pos (isQ_c hq), knows_ok u k hk hl.2.1, q_b_some]
  by_cases hi : q_inb b (k + 1)
  · obtain ⟨n, hn, rfl⟩ := (q_inb_iff (by omega)).mp hi
    have hcl := cntL_le u n n 0
    rw [if_pos hi, if_neg i_10, known_R1 hl (show n ≤ k by omega), q_b_some, if_neg i_10]
    by_cases h0 : a < 0
    · rw [if_pos h0, if_pos h0]
      exact ⟨_, _, rfl, rfl, frB_r _, frG_r _⟩
    · obtain ⟨s, hs, rfl⟩ := nI_of h0
      have hsc : ¬ s < cntL u n n 0 := fun c => h ⟨n, s, by omega, c, rfl, rfl⟩
      obtain ⟨w1, e1, s1⟩ := laysC hl hv (show n ≤ k by omega)
      rw [if_neg h0, if_neg h0, e1, q_b_some, if_neg (by rw [nI_ltI (by omega) (by omega)]; exact hsc)]
      unfold fX11_floats fX11_floats_l10
      rw [q_lt_eq]
      obtain ⟨r, w, e, f, x⟩ := floats_lok hl hv (show n ≤ k by omega) s hs (nI s) n q_N 0 0 [] [] (q_sI v 0 55 0) (by omega) (Nat.lt_of_le_of_lt (show n ≤ 120 by omega) (Nat.le_of_ble_eq_true rfl)) (by omega) (by omega) (by show 0 ≤ 0; omega) (fun _ => rfl) (fun _ => rfl) (frF_0 v 55 0 (Or.inl rfl)) ⟨sI_same _ _ _ _, fun i hi => absurd hi (Nat.not_lt_zero i)⟩ (Or.inl rfl)
      rw [nI_0] at e
      have hx : ¬ nI s = -1 := by
        intro c
        rw [c] at h0
        exact h0 (by decide)
      rcases x with ⟨_, _, hr, _⟩ | ⟨c, _⟩
      · rw [hr] at e
        rw [e, q_b_some, if_pos rfl]
        exact ⟨_, _, rfl, rfl, frB_7 s1, frG_F f⟩
      · exfalso
        rcases c with ⟨c, _⟩ | ⟨_, c, _⟩
        · exact hx c
        · omega
  · rw [if_neg hi, if_pos rfl, known_R hl hi, q_b_some, if_pos rfl]
    exact ⟨_, _, rfl, rfl, frB_r _, frG_r _⟩
