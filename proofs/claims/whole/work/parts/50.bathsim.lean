/-! colour, from, to, home -/
theorem laysC_lok {u v : q_W} {k n : Nat} (hl : I_log k u v) (hn : n ≤ k) : ∀ d N j c w, j + d = n → d < N → w.1 4 = u.1 4 → w.1 5 = u.1 5 → (∀ i, i < 120 → w.1 7 i = b01 (outB u n i)) → q_it N fX2_laysKnown_h9 (fun _ _ _ _ => none) (nI n) (nI c) (nI j) w = some (nI (c + cntL u n d j), w) := by
  have hk := hl.1
  intro d
  induction d with
  | zero =>
    intro N j c w h hN h4 h5 h7
    obtain ⟨N, rfl⟩ : ∃ M, N = M + 1 := ⟨N - 1, by omega⟩
    rw [q_itS, fX2_laysKnown_h9, if_pos (by rw [nI_leI (by omega) (by omega)]; omega)]
    rfl
  | succ d ih =>
    intro N j c w h hN h4 h5 h7
    obtain ⟨N, rfl⟩ : ∃ M, N = M + 1 := ⟨N - 1, by omega⟩
    obtain ⟨k1, k2, k3, k4⟩ := kd_ok hl (show j < k by omega)
    have hkd : fX6_kindOf 4 (nI j) w = some (nI (kd u j), w) := by rw [kindOf_ok w k j hk (by rw [h4]; exact hl.2.1) (by omega), h5, k1]
    rw [q_itS, fX2_laysKnown_h9, if_neg (by rw [nI_leI (by omega) (by omega)]; omega), if_neg (by rw [show (120 : Int32) = nI 120 from rfl, nI_leI (by omega) (by omega)]; omega), if_pos (q_inb_nI (by omega) (by omega)), q_ix_nI (by omega), h7 j (by omega), hkd, q_b_some]
    unfold fX2_laysKnown_n44 cntL
    rw [q_lt_eq, q_lt_eq, q_lt_eq, nI_1, nI_1]
    have i1 := ih N (j + 1) c w (by omega) (by omega) h4 h5 h7
    have i2 := ih N (j + 1) (c + 1) w (by omega) (by omega) h4 h5 h7
    cases ho : outB u n j with
    | true =>
      rw [if_neg b01_t, i1, Bool.true_or, if_neg (fun c => absurd c.1 (by decide)), Nat.zero_add]
    | false =>
      rw [if_pos b01_f, Bool.false_or]
      by_cases c4 : kd u j = 4
      · rw [c4, if_pos (show nI 4 = 4 from rfl), i2, if_pos ⟨by decide, rfl⟩, Nat.add_assoc]
      · rw [if_neg (show ¬ nI (kd u j) = 4 by rw [show (4 : Int32) = nI 4 from rfl, nI_eq (by omega) (by omega)]; exact c4), i1, if_neg (fun c => c4 c.2), Nat.zero_add]
theorem laysC {u v : q_W} {k n : Nat} (hl : I_log k u v) (hv : I_val k u) (hn : n ≤ k) : ∃ w, fX2_laysKnown (nI n) u = some (nI (cntL u n n 0), w) ∧ same7 u w := by
  have hk := hl.1
  unfold fX2_laysKnown fX2_laysKnown_l9
  obtain ⟨u1, e1, s1, f1⟩ := findOut_b n k u hn hk hl.2.1 hv
  have := laysC_lok hl hn n q_N 0 0 u1 (by omega) (Nat.lt_of_le_of_lt (show n ≤ 120 by omega) (Nat.le_of_ble_eq_true rfl)) (s1.1 4 (by decide)) (s1.1 5 (by decide)) f1
  rw [nI_0, Nat.zero_add] at this
  rw [e1, q_b_some, this]
  exact ⟨u1, rfl, s1⟩
/-- all that is known of a fact stays the same where the log does -/
theorem scan_cong {u u' : q_W} {n T : Nat} (h : ∀ i, i < n → outB u' n i = outB u n i ∧ kd u' i = kd u i) : ∀ d j p l, j + d = n → scan u' n T d j p l = scan u n T d j p l := by
  intro d
  induction d with
  | zero => intro j p l _; rfl
  | succ d ih =>
    intro j p l hj
    obtain ⟨h1, h2⟩ := h j (by omega)
    unfold scan
    rw [h1, h2, ih (j + 1) p l (by omega), ih (j + 1) (p + 1) l (by omega), ih (j + 1) p _ (by omega)]
theorem cntL_cong {u u' : q_W} {n : Nat} (h : ∀ i, i < n → outB u' n i = outB u n i ∧ kd u' i = kd u i) : ∀ d j, j + d = n → cntL u' n d j = cntL u n d j := by
  intro d
  induction d with
  | zero => intro j _; rfl
  | succ d ih =>
    intro j hj
    obtain ⟨h1, h2⟩ := h j (by omega)
    unfold cntL
    rw [h1, h2, ih (j + 1) (by omega)]
theorem outB_eq {u u' : q_W} (h5 : u'.1 5 = u.1 5) (h6 : u'.1 6 = u.1 6) (n i : Nat) : outB u' n i = outB u n i := by
  have : strkd u' i 0 n ↔ strkd u i 0 n := by unfold strkd; rw [h5, h6]
  by_cases c : strkd u i 0 n
  · rw [outB_t c, outB_t (this.mpr c)]
  · rw [outB_f c, outB_f (fun x => c (this.mp x))]
theorem kd_eq {u u' : q_W} (h5 : u'.1 5 = u.1 5) : kd u' = kd u := by funext i; unfold kd; rw [h5]
theorem nm_eq {u u' : q_W} (h6 : u'.1 6 = u.1 6) : nm u' = nm u := by funext i j; unfold nm; rw [h6]
theorem BR_FL {u w : q_W} {l : List Nat} {t : Nat} (h : FL u l w) (ht : w.1 0 56 = nI t) : BR l.length t (KL u l) (ZL u l) w := ⟨h.1, ht, fun i hi => ⟨(h.2 i hi).2.1, (h.2 i hi).2.2⟩⟩
/-- the strokes of the bath as known by n -/
noncomputable def bthL (u : q_W) (n : Nat) : List Nat := (scan u n (cntL u n n 0) n 0 0 []).2
noncomputable def bthT (u : q_W) (n : Nat) : Nat := min (cntL u n n 0) 9
theorem bathC {u v : q_W} {k n : Nat} (hl : I_log k u v) (hv : I_val k u) (hn : n ≤ k) : ∃ r w1 w2, fX2_laysKnown (nI n) u = some (nI (cntL u n n 0), w1) ∧ fX2_pickStrokes (nI n) (nI (cntL u n n 0)) w1 = some (r, w2) ∧ BC 4 (bthL u n).length (bthT u n) (gL (bthL u n)) (KL u (bthL u n)) (ZL u (bthL u n)) w2 ∧ frB u w2 := by
  have hk := hl.1
  have hc := cntL_le u n n 0
  obtain ⟨w1, e1, s1⟩ := laysC hl hv hn
  have hl1 := I_log_same s1 hl
  have hv1 := I_val_same s1 k hv
  obtain ⟨w2, e2, b2, f2⟩ := pickC hl1 hv1 hn (cntL u n n 0) (by omega)
  have es : scan w1 n (cntL u n n 0) n 0 0 [] = scan u n (cntL u n n 0) n 0 0 [] := scan_cong (fun i _ => ⟨outB_eq (s1.1 5 (by decide)) (s1.1 6 (by decide)) n i, by rw [kd_eq (s1.1 5 (by decide))]⟩) n 0 0 [] (by omega)
  rw [es] at b2
  have eK : KL w1 = KL u := by funext l i; unfold KL; rw [kd_eq (s1.1 5 (by decide))]
  have eZ : ZL w1 = ZL u := by funext l i j; unfold ZL; rw [nm_eq (s1.1 6 (by decide))]
  rw [eK, eZ] at b2
  exact ⟨_, w1, w2, e1, e2, b2, frB_t (frB_7 s1) f2⟩
theorem bathR {u v : q_W} {k n : Nat} (hl : I_log k u v) (hv : I_val k u) (hn : n ≤ k) : ∃ w, fX11_floats (nI n) (-1) v = some (1, w) ∧ FL u (bthL u n) w ∧ w.1 0 56 = nI (bthT u n) ∧ frF v w := by
  have hk := hl.1
  have hc := cntL_le u n n 0
  unfold fX11_floats fX11_floats_l10
  rw [q_lt_eq]
  obtain ⟨r, w, e, f, x⟩ := floats_lok hl hv hn (cntL u n n 0) (by omega) (-1) n q_N 0 0 [] [] (q_sI v 0 55 0) (by omega) (Nat.lt_of_le_of_lt (show n ≤ 120 by omega) (Nat.le_of_ble_eq_true rfl)) (by omega) (by omega) (by show 0 ≤ 0; omega) (fun _ => rfl) (fun _ => rfl) (frF_0 v 55 0 (Or.inl rfl)) ⟨sI_same _ _ _ _, fun i hi => absurd hi (Nat.not_lt_zero i)⟩ (Or.inr ⟨rfl, by omega⟩)
  rw [nI_0] at e
  have hx : ¬ (-1 : Int32) = nI (cntL u n n 0) := by
    intro c
    have := nI_pos (show cntL u n n 0 < 2 ^ 31 by omega)
    rw [← c] at this
    exact this (by decide)
  rcases x with ⟨a, _⟩ | ⟨_, hr, h1, h2⟩
  · exact absurd a hx
  · rw [hr] at e
    exact ⟨w, e, h2, h1, f⟩
theorem bathV {u v : q_W} {k n : Nat} (hl : I_log k u v) (hb : I_bnd k u) (hn : n ≤ k) : BV (bthL u n).length (bthT u n) (KL u (bthL u n)) (ZL u (bthL u n)) := BV_scan hl hb hn _ _ (by unfold bthT; omega)
theorem floatBathC {u v : q_W} {k : Nat} (hl : I_log k u v) (hv : I_val k u) (x y a : Int32) : (∃ n, n ≤ k ∧ a = nI n ∧ ptB x y = true ∧ ∃ w, fX10_floatBath x y a u = some (1, w) ∧ BC 4 (bthL u n).length (bthT u n) (gL (bthL u n)) (KL u (bthL u n)) (ZL u (bthL u n)) w ∧ frB u w) ∨ ((ptB x y = false ∨ ¬ q_inb a (k + 1)) ∧ fX10_floatBath x y a u = some (0, u)) := by
  have hk := hl.1
  unfold fX10_floatBath
  rw [isPointC, q_b_some, knows_ok u k hk hl.2.1, q_b_some]
  cases hp : ptB x y with
  | false =>
    rw [if_pos b01_f]
    exact Or.inr ⟨Or.inl rfl, rfl⟩
  | true =>
    rw [if_neg b01_t]
    by_cases hi : q_inb a (k + 1)
    · obtain ⟨n, hn, rfl⟩ := (q_inb_iff (by omega)).mp hi
      obtain ⟨r, w1, w2, e1, e2, e3, e4⟩ := bathC hl hv (show n ≤ k by omega)
      rw [if_pos hi, if_neg i_10, e1, q_b_some, e2, q_b_some]
      exact Or.inl ⟨n, by omega, rfl, rfl, w2, rfl, e3, e4⟩
    · rw [if_neg hi, if_pos rfl]
      exact Or.inr ⟨Or.inr hi, rfl⟩
/-- what the walks of the reference leave alone -/
def frW (w w' : q_W) : Prop := (∀ q, q ≠ 0 → q ≠ 29 → q ≠ 30 → q ≠ 31 → w'.1 q = w.1 q) ∧ (∀ k, k ≠ 55 → k ≠ 56 → k ≠ 60 → k ≠ 61 → k ≠ 62 → w'.1 0 k = w.1 0 k) ∧ w'.2 = w.2
theorem frW_r (w : q_W) : frW w w := ⟨fun _ _ _ _ _ => rfl, fun _ _ _ _ _ _ => rfl, rfl⟩
theorem frW_t {a b c : q_W} (h : frW a b) (h' : frW b c) : frW a c := ⟨fun q x y z z' => (h'.1 q x y z z').trans (h.1 q x y z z'), fun k x y z a b => (h'.2.1 k x y z a b).trans (h.2.1 k x y z a b), h'.2.2.trans h.2.2⟩
theorem frW_F {w w' : q_W} (h : frF w w') : frW w w' := ⟨h.1, fun k x y z _ _ => h.2.1 k x y z, h.2.2⟩
theorem frW_at (w : q_W) (x y : Int32) : frW w (atR w x y) := ⟨fun q h _ _ _ => atR_o _ _ _ _ h, fun k _ _ _ a b => atR_k _ _ _ _ a b, rfl⟩
theorem known_R {u v : q_W} {k : Nat} (hl : I_log k u v) {a : Int32} (h : ¬ q_inb a (k + 1)) : fX11_isKnown a v = some (0, v) := by rw [isKnown_ok v k hl.1 hl.2.2.2.1, if_neg h]
theorem known_R1 {u v : q_W} {k n : Nat} (hl : I_log k u v) (h : n ≤ k) : fX11_isKnown (nI n) v = some (1, v) := by
  have := hl.1
  rw [isKnown_ok v k hl.1 hl.2.2.2.1, if_pos (q_inb_nI (by omega) (by omega))]
theorem sim_colour {u v : q_W} {k : Nat} (hl : I_log k u v) (hv : I_val k u) (hb : I_bnd k u) (x y a : Int32) : ∃ r u' v', fX10_colour x y a u = some (r, u') ∧ fX11_colour x y a v = some (r, v') ∧ frB u u' ∧ frW v v' := by
  unfold fX10_colour fX11_colour
  rw [isPointR, q_b_some]
  rcases floatBathC hl hv x y a with ⟨n, hn, rfl, hp, w, e, B, f⟩ | ⟨h, e⟩
  · obtain ⟨w', e', F', t', f'⟩ := bathR hl hv hn
    have V := bathV hl hb hn
    rw [e, q_b_some, if_neg i_10, hp, if_neg b01_t, known_R1 hl hn, q_b_some, if_neg i_10, e', q_b_some, if_neg i_10, colC B V, colR (BR_FL F' t') V, q_b_some, q_b_some]
    exact ⟨_, _, _, rfl, rfl, frB_t f (frB_at _ _ _), frW_t (frW_F f') (frW_at _ _ _)⟩
  · rw [e, q_b_some, if_pos rfl]
    rcases h with h | h
    · rw [h, if_pos b01_f]
      exact ⟨_, _, _, rfl, rfl, frB_r _, frW_r _⟩
    · rw [known_R hl h, q_b_some, if_pos rfl]
      refine ⟨_, _, _, rfl, ?_, frB_r _, frW_r _⟩
      by_cases c : b01 (ptB x y) = 0
      · rw [if_pos c]
      · rw [if_neg c]
