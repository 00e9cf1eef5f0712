/-! the search: how far two pictures are alike -/
theorem pickAll_lok {b K : Nat} (hb : b + K < 2 ^ 31) (hK : K ≤ 120) : ∀ d N j (w : q_W), j + d = K → d < N → w.1 12 2 = nI j → ∃ w', q_it N fX3_pickAll_h2 (fun _ _ _ _ => none) (nI b) (nI K) (nI j) w = some ((), w') ∧ w'.1 12 2 = nI K ∧ (∀ i, w'.1 13 i = if j ≤ i ∧ i < K then nI (b + i) else w.1 13 i) ∧ (∀ c, c ≠ 12 → c ≠ 13 → w'.1 c = w.1 c) ∧ (∀ c, c ≠ 2 → w'.1 12 c = w.1 12 c) ∧ w'.2 = w.2 := by
  intro d
  induction d with
  | zero =>
    intro N j w hj hN h2
    obtain ⟨N, rfl⟩ : ∃ a, N = a + 1 := ⟨N - 1, by omega⟩
    refine ⟨w, ?_, by rw [h2, show j = K by omega], fun i => by rw [if_neg (by omega)], fun _ _ _ => rfl, fun _ _ => rfl, rfl⟩
    rw [q_itS, fX3_pickAll_h2, if_pos (by rw [nI_leI (by omega) (by omega)]; omega)]
  | succ d ih =>
    intro N j w hj hN h2
    obtain ⟨N, rfl⟩ : ∃ a, N = a + 1 := ⟨N - 1, by omega⟩
    obtain ⟨w', e1, e2, e3, e4, e5, e6⟩ := ih N (j + 1) (q_sI (q_sI w 13 j (nI (b + j))) 12 2 (nI (j + 1))) (by omega) (by omega) (sI_same _ _ _ _)
    refine ⟨w', ?_, e2, fun i => ?_, fun c x y => ?_, fun c x => ?_, e6⟩
    · rw [q_itS, fX3_pickAll_h2, if_neg (by rw [nI_leI (by omega) (by omega)]; omega), nI_add]
      unfold fX0_pick
      rw [h2, if_neg (nI_pos (by omega)), if_neg (by rw [show (120 : Int32) = nI 120 from rfl, nI_leI (by omega) (by omega)]; omega), q_lt_eq, if_pos (q_inb_nI (by omega) (by omega)), q_ix_nI (by omega), q_lt_eq, q_lt_eq, sI_cell _ _ _ _ 12 (by decide), h2, nI_1, q_b_some, q_lt_eq, e1]
    · rw [e3, sI_cell _ _ _ _ 13 (by decide), sI_if]
      by_cases c1 : j + 1 ≤ i ∧ i < K
      · rw [if_pos c1, if_pos (by omega)]
      · rw [if_neg c1]
        by_cases c2 : i = j
        · rw [if_pos c2, if_pos (by omega), c2]
        · rw [if_neg c2, if_neg (by omega)]
    · rw [e4 c x y, sI_cell _ _ _ _ _ x, sI_cell _ _ _ _ _ y]
    · rw [e5 c x, sI_k _ _ _ _ _ x, sI_cell _ _ _ _ 12 (by decide)]
/-- in how many of the places from j on two pictures differ -/
def cntU (f g : Nat → Int32) (d j : Nat) : Nat := match d with
  | 0 => 0
  | d + 1 => (if f j = g j then 0 else 1) + cntU f g d (j + 1)
theorem cntU_le (f g : Nat → Int32) : ∀ d j, cntU f g d j ≤ d := by
  intro d
  induction d with
  | zero => intro j; exact Nat.le_refl _
  | succ d ih =>
    intro j
    have := ih (j + 1)
    show (if f j = g j then 0 else 1) + cntU f g d (j + 1) ≤ d + 1
    by_cases c : f j = g j
    · rw [if_pos c]; omega
    · rw [if_neg c]; omega
theorem cntU_cong {f g f' g' : Nat → Int32} : ∀ d j, (∀ i, j ≤ i → i < j + d → f i = f' i ∧ g i = g' i) → cntU f g d j = cntU f' g' d j := by
  intro d
  induction d with
  | zero => intro j _; rfl
  | succ d ih =>
    intro j h
    show (if f j = g j then 0 else 1) + cntU f g d (j + 1) = (if f' j = g' j then 0 else 1) + cntU f' g' d (j + 1)
    obtain ⟨h1, h2⟩ := h j (Nat.le_refl j) (by omega)
    rw [h1, h2, ih (j + 1) (fun i a b => h i (by omega) (by omega))]
/-- the reference counts -/
theorem unlikes_lok : ∀ d N c j (w : q_W), j + d = 256 → d < N → c ≤ j → q_it N fX11_unlikes_h4 (fun _ _ _ => none) (nI c) (nI j) w = some (nI (c + cntU (fun i => w.1 32 i) (fun i => w.1 32 (256 + i)) d j), w) := by
  intro d
  induction d with
  | zero =>
    intro N c j w hj hN hc
    obtain ⟨N, rfl⟩ : ∃ a, N = a + 1 := ⟨N - 1, by omega⟩
    rw [q_itS, fX11_unlikes_h4, if_pos (by rw [show (256 : Int32) = nI 256 from rfl, nI_leI (by omega) (by omega)]; omega)]
    rfl
  | succ d ih =>
    intro N c j w hj hN hc
    obtain ⟨N, rfl⟩ : ∃ a, N = a + 1 := ⟨N - 1, by omega⟩
    have e : (256 : Int32) + nI j = nI (256 + j) := by rw [show (256 : Int32) = nI 256 from rfl, nI_add]
    rw [q_itS, fX11_unlikes_h4, if_neg (by rw [show (256 : Int32) = nI 256 from rfl, nI_leI (by omega) (by omega)]; omega), if_pos (q_inb_nI (by omega) (by omega)), e, q_lt_eq, if_pos (q_inb_nI (by omega) (by omega)), q_ix_nI (by omega), q_ix_nI (by omega)]
    have n33 : ∀ x, fX11_unlikes_n33 (q_it N fX11_unlikes_h4 (fun _ _ _ => none)) x (nI j) w = q_it N fX11_unlikes_h4 (fun _ _ _ => none) x (nI (j + 1)) w := by
      intro x
      unfold fX11_unlikes_n33
      rw [q_lt_eq, nI_1]
    by_cases h : w.1 32 j = w.1 32 (256 + j)
    · rw [if_pos h, n33, ih N c (j + 1) w (by omega) (by omega) (by omega)]
      show _ = some (nI (c + ((if w.1 32 j = w.1 32 (256 + j) then 0 else 1) + _)), w)
      rw [if_pos h, Nat.zero_add]
    · rw [if_neg h, q_lt_eq, nI_1, n33, ih N (c + 1) (j + 1) w (by omega) (by omega) (by omega)]
      show _ = some (nI (c + ((if w.1 32 j = w.1 32 (256 + j) then 0 else 1) + _)), w)
      rw [if_neg h, Nat.add_assoc]
/-- the class counts up to a bound -/
theorem upTo_lok {q0 : Nat} (hq : isQ q0) {q m t sh : Nat} {g K : Nat → Nat} {Z : Nat → Nat → Int32} (V : BV m t K Z) {B : Nat} (hB : B < 2 ^ 31) : ∀ d N c j w, j + d = 256 → d < N → c ≤ B → c ≤ j → BC q m t g K Z w → w.1 q0 6 = nI sh → ∃ w', q_it N (fX8_unlikeUpTo_h5 q0) (fun _ _ _ _ => none) (nI B) (nI c) (nI j) w = some (nI (min B (c + cntU (cellS m t K Z sh) (fun i => w.1 (q0 + 1) i) d j)), w') ∧ (∀ e, e ≠ 12 → w'.1 e = w.1 e) ∧ w'.2 = w.2 := by
  have hq12 : q0 ≠ 12 ∧ q0 + 1 ≠ 12 := by rcases hq with rfl | rfl <;> decide
  intro d
  induction d with
  | zero =>
    intro N c j w hj hN hc hcj H h6
    obtain ⟨N, rfl⟩ : ∃ a, N = a + 1 := ⟨N - 1, by omega⟩
    refine ⟨w, ?_, fun _ _ => rfl, rfl⟩
    rw [q_itS, fX8_unlikeUpTo_h5, if_pos (by rw [show (256 : Int32) = nI 256 from rfl, nI_leI (by omega) (by omega)]; omega)]
    show _ = some (nI (min B (c + 0)), w)
    rw [show min B (c + 0) = c by omega]
  | succ d ih =>
    intro N c j w hj hN hc hcj H h6
    obtain ⟨N, rfl⟩ : ∃ a, N = a + 1 := ⟨N - 1, by omega⟩
    by_cases cB : B ≤ c
    · refine ⟨w, ?_, fun _ _ => rfl, rfl⟩
      rw [q_itS, fX8_unlikeUpTo_h5, if_neg (by rw [show (256 : Int32) = nI 256 from rfl, nI_leI (by omega) (by omega)]; omega), if_pos (by rw [nI_leI (by omega) (by omega)]; exact cB)]
      generalize cntU (cellS m t K Z sh) (fun i => w.1 (q0 + 1) i) (d + 1) j = z
      rw [show min B (c + z) = c by omega]
    · have hc' := colC H V (nI (64 * (j / 16) + 32)) (nI (64 * (j % 16) + 32 + (if j / 16 % 2 = 1 then sh else 0)))
      have e0 : fC q0 0 = q0 + 1 := isQ_0 hq
      generalize hat : atC w (endS m t K Z (nI (64 * (j / 16) + 32)) (nI (64 * (j % 16) + 32 + (if j / 16 % 2 = 1 then sh else 0)))).1 (endS m t K Z (nI (64 * (j / 16) + 32)) (nI (64 * (j % 16) + 32 + (if j / 16 % 2 = 1 then sh else 0)))).2 = w1 at hc'
      have H1 : BC q m t g K Z w1 := by rw [← hat]; exact BC_at H _ _
      have c1 : ∀ e, e ≠ 12 → w1.1 e = w.1 e := fun e he => by
        rw [← hat]
        unfold atC
        rw [sI_cell _ _ _ _ _ he, sI_cell _ _ _ _ _ he]
      have c2 : w1.2 = w.2 := by rw [← hat]; rfl
      have n47 : ∀ x, fX8_unlikeUpTo_n47 q0 (q_it N (fX8_unlikeUpTo_h5 q0) (fun _ _ _ _ => none)) (nI B) x (nI j) w1 = q_it N (fX8_unlikeUpTo_h5 q0) (fun _ _ _ _ => none) (nI B) x (nI (j + 1)) w1 := by
        intro x
        unfold fX8_unlikeUpTo_n47
        rw [q_lt_eq, nI_1]
      have hst : q_it (N + 1) (fX8_unlikeUpTo_h5 q0) (fun _ _ _ _ => none) (nI B) (nI c) (nI j) w = (if cellS m t K Z sh j = w.1 (q0 + 1) j then q_it N (fX8_unlikeUpTo_h5 q0) (fun _ _ _ _ => none) (nI B) (nI c) (nI (j + 1)) w1 else q_it N (fX8_unlikeUpTo_h5 q0) (fun _ _ _ _ => none) (nI B) (nI (c + 1)) (nI (j + 1)) w1) := by
        rw [q_itS, fX8_unlikeUpTo_h5, if_neg (by rw [show (256 : Int32) = nI 256 from rfl, nI_leI (by omega) (by omega)]; omega), if_neg (by rw [nI_leI (by omega) (by omega)]; exact cB), pX_ok hq (by omega), q_b_some, pY_ok hq (by omega) w h6, q_b_some, hc', q_b_some, if_pos (q_inb_nI (by omega) (by omega)), e0, q_ix_nI (by omega), c1 (q0 + 1) hq12.2]
        show (if cellS m t K Z sh j = w.1 (q0 + 1) j then _ else _) = _
        by_cases h : cellS m t K Z sh j = w.1 (q0 + 1) j
        · rw [if_pos h, if_pos h, n47]
        · rw [if_neg h, if_neg h, q_lt_eq, nI_1, n47]
      have hsame : (fun i => w1.1 (q0 + 1) i) = fun i => w.1 (q0 + 1) i := by rw [c1 (q0 + 1) hq12.2]
      rw [hst]
      by_cases h : cellS m t K Z sh j = w.1 (q0 + 1) j
      · rw [if_pos h]
        obtain ⟨w', i1, i2, i3⟩ := ih N c (j + 1) w1 (by omega) (by omega) hc (by omega) H1 (by rw [c1 q0 hq12.1, h6])
        refine ⟨w', ?_, fun e he => by rw [i2 e he, c1 e he], by rw [i3, c2]⟩
        rw [i1, hsame]
        show _ = some (nI (min B (c + ((if cellS m t K Z sh j = w.1 (q0 + 1) j then 0 else 1) + _))), w')
        rw [if_pos h, Nat.zero_add]
      · rw [if_neg h]
        obtain ⟨w', i1, i2, i3⟩ := ih N (c + 1) (j + 1) w1 (by omega) (by omega) (by omega) (by omega) H1 (by rw [c1 q0 hq12.1, h6])
        refine ⟨w', ?_, fun e he => by rw [i2 e he, c1 e he], by rw [i3, c2]⟩
        rw [i1, hsame]
        show _ = some (nI (min B (c + ((if cellS m t K Z sh j = w.1 (q0 + 1) j then 0 else 1) + _))), w')
        rw [if_neg h, Nat.add_assoc]
