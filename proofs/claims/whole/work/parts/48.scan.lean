/-! the log as both see it; what is picked as known by n -/
def kd (u : q_W) (i : Nat) : Nat := q_ix (u.1 5 i)
def nm (u : q_W) (i j : Nat) : Int32 := u.1 6 (6 * i + j)
theorem kd_ok {u v : q_W} {k : Nat} (h : I_log k u v) {i : Nat} (hi : i < k) : u.1 5 i = nI (kd u i) ∧ kd u i ≤ 5 ∧ v.1 27 i = nI (kd u i) ∧ ∀ j, j < nums (kd u i) → v.1 28 (6 * i + j) = nm u i j := by
  obtain ⟨c, hc, e1, e2, e3⟩ := h.2.2.2.2 i hi
  have : kd u i = c := by unfold kd; rw [e1, q_ixn (by omega)]
  rw [this]
  exact ⟨e1, hc, e2, fun j hj => (e3 j hj).symm⟩
noncomputable def outB (u : q_W) (n i : Nat) : Bool := @decide (strkd u i 0 n) (Classical.propDecidable _)
theorem outB_t {u : q_W} {n i : Nat} (h : strkd u i 0 n) : outB u n i = true := by
  unfold outB
  exact @decide_eq_true _ (Classical.propDecidable _) h
theorem outB_f {u : q_W} {n i : Nat} (h : ¬ strkd u i 0 n) : outB u n i = false := by
  unfold outB
  exact @decide_eq_false _ (Classical.propDecidable _) h
theorem findOut_b (n k : Nat) (u : q_W) (hn : n ≤ k) (hk : k ≤ 120) (h : u.1 4 2 = nI k) (hv : I_val k u) : ∃ u', fX2_findOut (nI n) u = some ((), u') ∧ same7 u u' ∧ ∀ i, i < 120 → u'.1 7 i = b01 (outB u n i) := by
  obtain ⟨u', e, s, f⟩ := findOut_ok n k u hn hk h hv
  refine ⟨u', e, s, fun i hi => ?_⟩
  rcases f i hi with ⟨f1, f2⟩ | ⟨f1, f2⟩
  · rw [f2, outB_t f1]; rfl
  · rw [f2, outB_f f1]; rfl
theorem struckR {u v : q_W} {k : Nat} (h : I_log k u v) (hv : I_val k u) {n t : Nat} (hn : n ≤ k) (ht : t < n) : fX11_isStruck (nI t) (nI n) v = some (b01 (outB u n t), v) := by
  have hk := h.1
  obtain ⟨r, e, f⟩ := isStruck_ok n t (by omega) ht v
  have q := strk_eq h hv t n (by omega) hn
  rw [e]
  rcases f with ⟨f1, f2⟩ | ⟨f1, f2⟩
  · rw [f2, outB_t (q.mpr f1)]; rfl
  · rw [f2, outB_f (fun x => f1 (q.mp x))]; rfl
/-- from fact j on, p lays passed: the lay that took the strokes l -/
noncomputable def scan (u : q_W) (n T : Nat) (d j p : Nat) (l : List Nat) : Option Nat × List Nat := match d with
  | 0 => (none, l)
  | d + 1 => if outB u n j || kd u j == 5 then scan u n T d (j + 1) p l
    else if kd u j = 4 then (if p = T then (some j, l) else scan u n T d (j + 1) (p + 1) l)
    else scan u n T d (j + 1) p (if p = T then l ++ [j] else l)
noncomputable def cntL (u : q_W) (n : Nat) (d j : Nat) : Nat := match d with
  | 0 => 0
  | d + 1 => (if (outB u n j || kd u j == 5) = false ∧ kd u j = 4 then 1 else 0) + cntL u n d (j + 1)
theorem snoc_lt {l : List Nat} {x i : Nat} (h : i < l.length) : (l ++ [x]).getD i 0 = l.getD i 0 := by
  rw [List.getD_eq_getElem?_getD, List.getD_eq_getElem?_getD, List.getElem?_append_left h]
theorem snoc_eq {l : List Nat} {x : Nat} : (l ++ [x]).getD l.length 0 = x := by
  rw [List.getD_eq_getElem?_getD, List.getElem?_append_right (Nat.le_refl _), Nat.sub_self]
  rfl
theorem cntL_le (u : q_W) (n : Nat) : ∀ d j, cntL u n d j ≤ d := by
  intro d
  induction d with
  | zero => intro j; exact Nat.le_refl _
  | succ d ih =>
    intro j
    have := ih (j + 1)
    unfold cntL
    by_cases h : (outB u n j || kd u j == 5) = false ∧ kd u j = 4
    · rw [if_pos h]; omega
    · rw [if_neg h]; omega
def layV (o : Option Nat) : Int32 := match o with
  | none => -1
  | some j => nI j
def PK (l : List Nat) (w : q_W) : Prop := w.1 12 2 = nI l.length ∧ ∀ i, i < l.length → w.1 13 i = nI (l.getD i 0)
def frP (w w' : q_W) : Prop := (∀ q, q ≠ 12 → q ≠ 13 → w'.1 q = w.1 q) ∧ (∀ k, k ≠ 2 → w'.1 12 k = w.1 12 k) ∧ w'.2 = w.2
theorem frP_r (w : q_W) : frP w w := ⟨fun _ _ _ => rfl, fun _ _ => rfl, rfl⟩
theorem frP_t {a b c : q_W} (h : frP a b) (h' : frP b c) : frP a c := ⟨fun q x y => (h'.1 q x y).trans (h.1 q x y), fun k x => (h'.2.1 k x).trans (h.2.1 k x), h'.2.2.trans h.2.2⟩
theorem pick_ok (x : Nat) (l : List Nat) (w : q_W) (h : PK l w) (hl : l.length < 120) : ∃ w', fX0_pick (nI x) w = some ((), w') ∧ PK (l ++ [x]) w' ∧ frP w w' := by
  unfold fX0_pick
  rw [h.1, if_neg (nI_pos (by omega)), show (120 : Int32) = nI 120 from rfl, if_neg (by rw [nI_leI (by omega) (by omega)]; omega), q_lt_eq, if_pos (q_inb_nI (by omega) (by omega)), q_lt_eq, q_lt_eq, q_ix_nI (by omega), sI_cell _ _ _ _ 12 (by decide), h.1, nI_1]
  refine ⟨_, rfl, ⟨?_, fun i hi => ?_⟩, fun q h1 h2 => ?_, fun k hk => ?_, rfl⟩
  · rw [sI_same, List.length_append]; rfl
  · rw [List.length_append, show [x].length = 1 from rfl] at hi
    rw [sI_cell _ _ _ _ 13 (by decide)]
    by_cases e : i = l.length
    · subst e; rw [sI_same, snoc_eq]
    · rw [sI_k _ _ _ _ _ e, snoc_lt (by omega), h.2 i (by omega)]
  · rw [sI_cell _ _ _ _ _ h1, sI_cell _ _ _ _ _ h2]
  · rw [sI_k _ _ _ _ _ hk, sI_cell _ _ _ _ _ (by decide)]
theorem scan_len (u : q_W) (n T : Nat) : ∀ d j p l, l.length ≤ j → (∀ x, x ∈ l → x < j ∧ kd u x ≠ 4 ∧ kd u x ≠ 5) → ((scan u n T d j p l).2.length ≤ j + d ∧ ∀ x, x ∈ (scan u n T d j p l).2 → x < j + d ∧ kd u x ≠ 4 ∧ kd u x ≠ 5) ∧ ∀ i, (scan u n T d j p l).1 = some i → i < j + d ∧ kd u i = 4 := by
  intro d
  induction d with
  | zero => intro j p l h1 h2; exact ⟨⟨h1, h2⟩, fun i h => by cases h⟩
  | succ d ih =>
    intro j p l h1 h2
    have h2' : ∀ x, x ∈ l → x < j + 1 ∧ kd u x ≠ 4 ∧ kd u x ≠ 5 := fun x hx => by have := h2 x hx; exact ⟨by omega, this.2⟩
    have e : j + (d + 1) = j + 1 + d := by omega
    unfold scan
    rw [e]
    by_cases c1 : (outB u n j || kd u j == 5) = true
    · rw [if_pos c1]
      exact ih (j + 1) p l (by omega) h2'
    · rw [if_neg c1]
      by_cases c2 : kd u j = 4
      · rw [if_pos c2]
        by_cases c3 : p = T
        · rw [if_pos c3]
          refine ⟨⟨by show l.length ≤ _; omega, fun x hx => ?_⟩, fun i hi => ?_⟩
          · have := h2 x hx; exact ⟨by omega, this.2⟩
          · have : j = i := Option.some.inj hi
            subst this; exact ⟨by omega, c2⟩
        · rw [if_neg c3]
          exact ih (j + 1) (p + 1) l (by omega) h2'
      · rw [if_neg c2]
        by_cases c3 : p = T
        · rw [if_pos c3]
          refine ih (j + 1) p (l ++ [j]) (by rw [List.length_append]; show l.length + 1 ≤ _; omega) (fun x hx => ?_)
          rw [List.mem_append, List.mem_singleton] at hx
          rcases hx with hx | rfl
          · exact h2' x hx
          · refine ⟨by omega, c2, fun h5 => c1 ?_⟩
            rw [h5]
            simp
        · rw [if_neg c3]
          exact ih (j + 1) p l (by omega) h2'
theorem pickC_lok {u v : q_W} {k n : Nat} (hl : I_log k u v) (hn : n ≤ k) (T : Nat) (hT : T < 2 ^ 31) : ∀ d N j p l w, j + d = n → d < N → p ≤ j → l.length ≤ j → w.1 4 = u.1 4 → w.1 5 = u.1 5 → (∀ i, i < 120 → w.1 7 i = b01 (outB u n i)) → PK l w → ∃ w', q_it N fX2_pickStrokes_h20 (fun _ _ _ _ _ => none) (nI n) (nI T) (nI p) (nI j) w = some (layV (scan u n T d j p l).1, w') ∧ PK (scan u n T d j p l).2 w' ∧ frP w w' := by
  have hk := hl.1
  intro d
  induction d with
  | zero =>
    intro N j p l w h1 h2 h3 h4 h5 h6 h7 h8
    obtain ⟨N, rfl⟩ : ∃ M, N = M + 1 := ⟨N - 1, by omega⟩
    rw [q_itS, fX2_pickStrokes_h20, if_pos (by rw [nI_leI (by omega) (by omega)]; omega)]
    exact ⟨w, rfl, h8, frP_r w⟩
  | succ d ih =>
    intro N j p l w h1 h2 h3 h4 h5 h6 h7 h8
    obtain ⟨N, rfl⟩ : ∃ M, N = M + 1 := ⟨N - 1, by omega⟩
    obtain ⟨k1, k2, k3, k4⟩ := kd_ok hl (show j < k by omega)
    have hw4 : w.1 4 2 = nI k := by rw [h5]; exact hl.2.1
    have hkd : fX6_kindOf 4 (nI j) w = some (nI (kd u j), w) := by rw [kindOf_ok w k j hk hw4 (by omega), h6, k1]
    rw [q_itS, fX2_pickStrokes_h20, if_neg (by rw [nI_leI (by omega) (by omega)]; omega), if_neg (by rw [show (120 : Int32) = nI 120 from rfl, nI_leI (by omega) (by omega)]; omega), if_pos (q_inb_nI (by omega) (by omega)), q_ix_nI (by omega), h7 j (by omega), hkd, q_b_some]
    unfold fX2_pickStrokes_n98
    rw [q_lt_eq, q_lt_eq, q_lt_eq, nI_1, nI_1]
    unfold scan
    have go := fun p' l' w' (hp : p' ≤ j + 1) (hl' : l'.length ≤ j + 1) (e4 : w'.1 4 = w.1 4) (e5 : w'.1 5 = w.1 5) (e7 : w'.1 7 = w.1 7) (hP : PK l' w') => ih N (j + 1) p' l' w' (by omega) (by omega) hp hl' (e4.trans h5) (e5.trans h6) (fun i hi => by rw [e7]; exact h7 i hi) hP
    cases ho : outB u n j with
    | true =>
      rw [if_neg b01_t, Bool.true_or, if_pos rfl]
      exact go p l w (by omega) (by omega) rfl rfl rfl h8
    | false =>
      rw [if_pos b01_f, Bool.false_or]
      by_cases c5 : kd u j = 5
      · rw [c5, if_neg (show ¬ nI 5 = 4 by decide), if_pos (show (5 == 5) = true from rfl)]
        obtain ⟨w', e, x, y⟩ := go p l w (by omega) (by omega) rfl rfl rfl h8
        by_cases cT : p = T
        · subst cT
          rw [if_pos rfl]
          unfold fX6_isStroke
          rw [if_pos (by decide), hkd, c5, q_b_some, if_neg (by decide), if_pos (by decide), q_b_some, if_pos rfl, q_lt_eq]
          exact ⟨w', e, x, y⟩
        · rw [if_neg (by rw [nI_eq (by omega) hT]; exact cT)]
          exact ⟨w', e, x, y⟩
      · rw [if_neg (show ¬ (kd u j == 5) = true by simp [c5])]
        by_cases c4 : kd u j = 4
        · rw [c4, if_pos (show nI 4 = 4 from rfl), if_pos rfl]
          by_cases cT : p = T
          · subst cT
            rw [if_pos rfl, if_pos rfl]
            exact ⟨w, rfl, h8, frP_r w⟩
          · rw [if_neg (by rw [nI_eq (by omega) hT]; exact cT), if_neg cT]
            exact go (p + 1) l w (by omega) (by omega) rfl rfl rfl h8
        · rw [if_neg c4, if_neg (show ¬ nI (kd u j) = 4 by rw [show (4 : Int32) = nI 4 from rfl, nI_eq (by omega) (by omega)]; exact c4)]
          by_cases cT : p = T
          · subst cT
            rw [if_pos rfl, if_pos rfl]
            unfold fX6_isStroke
            rw [if_pos (by decide), hkd, q_b_some, if_neg (nI_pos (by omega)), if_neg (by rw [show (3 : Int32) = nI 3 from rfl, nI_ltI (by omega) (by omega)]; omega), q_b_some, if_neg i_10]
            obtain ⟨w1, e1, p1, f1⟩ := pick_ok j l w h8 (by omega)
            rw [e1, q_b_some, q_lt_eq]
            obtain ⟨w', e, x, y⟩ := go p (l ++ [j]) w1 (by omega) (by rw [List.length_append]; show l.length + 1 ≤ _; omega) (f1.1 4 (by decide) (by decide)) (f1.1 5 (by decide) (by decide)) (f1.1 7 (by decide) (by decide)) p1
            exact ⟨w', e, x, frP_t f1 y⟩
          · rw [if_neg (by rw [nI_eq (by omega) hT]; exact cT), if_neg cT]
            exact go p l w (by omega) (by omega) rfl rfl rfl h8
