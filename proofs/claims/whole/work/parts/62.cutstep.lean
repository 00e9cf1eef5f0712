/-! the reference cuts one token -/
theorem signR {n : Nat} {B : Nat → Nat} {w : q_W} (T : TXR n B w) {i t : Nat} (hi : i < n) (ht : t < 503) (h : w.1 0 10 = nI t) : ∃ w', fX11_sign (nI i) (nI (B i)) (bR n B (i + 1)) w = some (if sgT (B i) (decide (i + 1 < n ∧ B (i + 1) = 61)) then 2 else 1, w') ∧ tkF w w' t (nI (sgR (B i) (decide (i + 1 < n ∧ B (i + 1) = 61)))) (nI i) 0 0 := by
  have hB : ∀ i, i < n → B i < 256 := fun i hi => (T.2.2 i hi).2
  have hb := hB i hi
  obtain ⟨w', e, f⟩ := signR_n (nI i) (B i) hb (decide (i + 1 < n ∧ B (i + 1) = 61)) t w ht h
  refine ⟨w', ?_, f⟩
  rw [← e]
  unfold fX11_sign
  by_cases hx : i + 1 < n ∧ B (i + 1) = 61
  · have hbc : bR n B (i + 1) = 61 := by unfold bR; rw [if_pos hx.1, hx.2]; rfl
    rw [if_pos hbc, decide_eq_true hx]
    by_cases c1 : B i = 61
    · rw [if_pos (show nI (B i) = 61 by rw [c1]; rfl), c1]; rfl
    · rw [if_neg (show ¬ nI (B i) = 61 from nI_ne (b := 61) (by omega) (by omega) c1)]
      by_cases c2 : B i = 33
      · rw [if_pos (show nI (B i) = 33 by rw [c2]; rfl), c2]; rfl
      · rw [if_neg (show ¬ nI (B i) = 33 from nI_ne (b := 33) (by omega) (by omega) c2)]
        by_cases c3 : B i = 60
        · rw [if_pos (show nI (B i) = 60 by rw [c3]; rfl), c3]; rfl
        · rw [if_neg (show ¬ nI (B i) = 60 from nI_ne (b := 60) (by omega) (by omega) c3)]
          have : sgT (B i) true = false := by unfold sgT; simp [c1, c2, c3]
          rw [this, if_neg (by decide)]
  · have hbc : ¬ bR n B (i + 1) = 61 := by
      unfold bR
      by_cases c : i + 1 < n
      · rw [if_pos c]
        exact nI_ne (b := 61) (by have := hB _ c; omega) (by omega) (fun e => hx ⟨c, e⟩)
      · rw [if_neg c]; decide
    rw [if_neg hbc, decide_eq_false hx]
    have : sgT (B i) false = false := rfl
    rw [this, if_neg (by decide)]
theorem blank_no {n : Nat} {B : Nat → Nat} {i : Nat} (hi : i < n) (h : blP n B i = false) : B i ≠ 9 ∧ B i ≠ 10 ∧ B i ≠ 13 ∧ B i ≠ 32 := by
  unfold blP at h
  rw [decide_eq_false_iff_not] at h
  refine ⟨fun c => h ⟨hi, by omega⟩, fun c => h ⟨hi, by omega⟩, fun c => h ⟨hi, by omega⟩, fun c => h ⟨hi, by omega⟩⟩
theorem cutR_bl {n : Nat} {B : Nat → Nat} {w : q_W} (T : TXR n B w) (rec7 : Int32 → q_W → Option (Unit × q_W)) {i t : Nat} (hi : i < n) (ht : t ≤ 500) (h : w.1 0 10 = nI t) (hb : blP n B i = true) : fX11_cut_h7 rec7 (nI i) w = rec7 (nI (i + 1)) w := by
  have hn := T.2.1
  have hB : B i < 256 := (T.2.2 i hi).2
  have hbb : B i = 9 ∨ B i = 10 ∨ B i = 13 ∨ B i = 32 := by
    unfold blP at hb
    rw [decide_eq_true_iff] at hb
    exact hb.2
  have er : bR n B i = nI (B i) := by unfold bR; rw [if_pos hi]
  rw [fX11_cut_h7, h, if_neg (by rw [show (500 : Int32) = nI 500 from rfl, nI_ltI (by omega) (by omega)]; omega), atR_ok T (by omega), q_b_some, T.1, if_pos (by rw [nI_ltI (by omega) (by omega)]; exact hi), er]
  unfold fX11_cut_n67 fX11_cut_n304
  rw [q_lt_eq, nI_1]
  rcases hbb with e | e | e | e
  · rw [e, if_pos (show nI 9 = 9 from rfl)]
  · rw [e, if_neg (show ¬ nI 10 = 9 by decide), if_pos (show nI 10 = 10 from rfl)]
  · rw [e, if_neg (show ¬ nI 13 = 9 by decide), if_neg (show ¬ nI 13 = 10 by decide), if_pos (show nI 13 = 13 from rfl)]
  · rw [e, if_neg (show ¬ nI 32 = 9 by decide), if_neg (show ¬ nI 32 = 10 by decide), if_neg (show ¬ nI 32 = 13 by decide), if_pos (show nI 32 = 32 from rfl)]
theorem cutR_end {n : Nat} {B : Nat → Nat} {w : q_W} (T : TXR n B w) (rec7 : Int32 → q_W → Option (Unit × q_W)) {t : Nat} (ht : t ≤ 500) (h : w.1 0 10 = nI t) : ∃ w', fX11_cut_h7 rec7 (nI n) w = some ((), w') ∧ tkF w w' t 0 (nI n) 0 0 := by
  have hn := T.2.1
  obtain ⟨w', e, f⟩ := tokenR w t 0 (nI n) 0 0 (by omega) h
  refine ⟨w', ?_, f⟩
  rw [fX11_cut_h7, h, if_neg (by rw [show (500 : Int32) = nI 500 from rfl, nI_ltI (by omega) (by omega)]; omega), atR_ok T (by omega), q_b_some, T.1, if_neg (by rw [nI_ltI (by omega) (by omega)]; omega), e, q_b_some]
theorem cutR_st {n : Nat} {B : Nat → Nat} {w : q_W} (T : TXR n B w) (hk : keysR w) (rec7 : Int32 → q_W → Option (Unit × q_W)) {i t : Nat} (hi : i < n) (ht : t ≤ 500) (h : w.1 0 10 = nI t) (hb : blP n B i = false) : ∃ r e x s w', tokP n B i r e x s ∧ fX11_cut_h7 rec7 (nI i) w = rec7 (nI e) w' ∧ tkF w w' t (nI r) (nI i) x s ∧ i < e ∧ e ≤ n := by
  have hn := T.2.1
  have hB : ∀ i, i < n → B i < 256 := fun i hi => (T.2.2 i hi).2
  have hbi := hB i hi
  obtain ⟨n1, n2, n3, n4⟩ := blank_no hi hb
  have er : bR n B i = nI (B i) := by unfold bR; rw [if_pos hi]
  have eL := letR hB i w
  have eD := digR hB i w
  rw [er] at eL eD
  rw [fX11_cut_h7, h, if_neg (by rw [show (500 : Int32) = nI 500 from rfl, nI_ltI (by omega) (by omega)]; omega), atR_ok T (by omega), q_b_some, T.1, if_pos (by rw [nI_ltI (by omega) (by omega)]; exact hi), er, if_neg (show ¬ nI (B i) = 9 from nI_ne (b := 9) (by omega) (by omega) n1), if_neg (show ¬ nI (B i) = 10 from nI_ne (b := 10) (by omega) (by omega) n2), if_neg (show ¬ nI (B i) = 13 from nI_ne (b := 13) (by omega) (by omega) n3), if_neg (show ¬ nI (B i) = 32 from nI_ne (b := 32) (by omega) (by omega) n4), eL, q_b_some]
  cases hl : leP n B i with
  | true =>
    have hal (k : Nat) (hk : n ≤ k) : alP n B k = false := by unfold alP; rw [leP_n n B k hk, dgP_n n B k hk]; rfl
    obtain ⟨j, hjn, hr⟩ := run_ex hal n i (by omega) (by omega)
    have hij : i < j := by
      apply Nat.lt_of_not_le
      intro c
      have : j = i := by have := hr.1; omega
      rw [this] at hr
      have h2 := hr.2.2
      unfold alP at h2
      rw [hl] at h2
      rw [Bool.true_or] at h2
      exact absurd h2 (by decide)
    rw [if_neg b01_t]
    unfold fX11_cut_l85
    have e1 := nameR_lok T rec7 i j (by omega) hr.2.2 hr.2.1 (j - i) q_N 0 (by omega) (Nat.lt_of_le_of_lt (show j - i ≤ 2000 by omega) (Nat.le_of_ble_eq_true rfl))
    rw [nI_0] at e1
    have e00 : lN (r2 (nL B i (min 0 8))) = 0 := rfl
    rw [e00] at e1
    rw [e1]
    unfold fX11_cut_n148
    have fin (r0 : Nat) (s : Int64) (hp : tokP n B i r0 j 0 s) : ∃ r e x s' w', tokP n B i r e x s' ∧ fX11_cut_n192 rec7 (nI i) (nI (j - i)) s (nI r0) w = rec7 (nI e) w' ∧ tkF w w' t (nI r) (nI i) x s' ∧ i < e ∧ e ≤ n := by
      obtain ⟨w', e, f⟩ := tokenR w t (nI r0) (nI i) 0 s (by omega) h
      refine ⟨r0, j, 0, s, w', hp, ?_, f, hij, hjn⟩
      unfold fX11_cut_n192 fX11_cut_n304
      rw [e, q_b_some, nI_add, q_lt_eq, show i + (j - i) = j by omega]
    by_cases h8 : j - i ≤ 8
    · have hlen : (nL B i (j - i)).length = j - i := nL_len B i (j - i)
      have hol : okL (nL B i (j - i)) := ⟨by omega, nL_mem _ (fun k a b => (alP_ok (hr.2.1 k a (by omega))).2)⟩
      have hp : tokP n B i (wLast (nL B i (j - i)) 15 0 1) j 0 (lN (r2 (nL B i (j - i)))) := Or.inl ⟨hl, hr, fun _ => ⟨rfl, rfl⟩, fun c => by omega⟩
      rw [if_pos h8, show min (j - i) 8 = j - i by omega]
      by_cases h7 : 7 < j - i
      · have hw : wLast (nL B i (j - i)) 15 0 1 = 1 := by
          rcases (words_eq (nL B i (j - i))).2 with ⟨_, _, c⟩ | c
          · omega
          · exact c
        rw [if_pos (by rw [show (7 : Int32) = nI 7 from rfl, nI_ltI (by omega) (by omega)]; exact h7)]
        have := fin _ _ hp
        rw [hw] at this
        exact this
      · rw [if_neg (by rw [show (7 : Int32) = nI 7 from rfl, nI_ltI (by omega) (by omega)]; exact h7)]
        unfold fX11_cut_l159
        have e2 := keyR_lok hk hol rec7 (nI i) (nI (j - i)) 15 q_N 0 1 rfl (Nat.le_of_ble_eq_true rfl)
        rw [nI_0] at e2
        rw [show (1 : Int32) = nI 1 from rfl, e2]
        exact fin _ _ hp
    · rw [if_neg h8, if_pos (by rw [show (7 : Int32) = nI 7 from rfl, nI_ltI (by omega) (by omega)]; omega)]
      exact fin 3 _ (Or.inl ⟨hl, hr, fun c => absurd c h8, fun _ => rfl⟩)
  | false =>
    rw [if_pos b01_f, eD, q_b_some]
    cases hd : dgP n B i with
    | true =>
      obtain ⟨j, hjn, hr⟩ := run_ex (dgP_n n B) n i (by omega) (by omega)
      have hij : i < j := by
        apply Nat.lt_of_not_le
        intro c
        have : j = i := by have := hr.1; omega
        rw [this] at hr
        rw [hr.2.2] at hd
        exact absurd hd (by decide)
      rw [if_neg b01_t]
      unfold fX11_cut_l221
      have e1 := intR_lok T rec7 i j (by omega) hr.2.2 hr.2.1 (j - i) q_N 0 (by omega) (Nat.lt_of_le_of_lt (show j - i ≤ 2000 by omega) (Nat.le_of_ble_eq_true rfl))
      rw [nI_0] at e1
      have e00 : nI (v2 (nL B i (min 0 4))) = 0 := rfl
      rw [e00] at e1
      rw [e1]
      have fin (r0 : Nat) (x : Int32) (hp : tokP n B i r0 j x 0) : ∃ r e x' s' w', tokP n B i r e x' s' ∧ fX11_cut_n274 rec7 (nI i) (nI (j - i)) x (nI r0) w = rec7 (nI e) w' ∧ tkF w w' t (nI r) (nI i) x' s' ∧ i < e ∧ e ≤ n := by
        obtain ⟨w', e, f⟩ := tokenR w t (nI r0) (nI i) x 0 (by omega) h
        refine ⟨r0, j, x, 0, w', hp, ?_, f, hij, hjn⟩
        unfold fX11_cut_n274 fX11_cut_n304
        rw [e, q_b_some, nI_add, q_lt_eq, show i + (j - i) = j by omega]
      by_cases h4 : j - i ≤ 4
      · rw [if_pos h4, show min (j - i) 4 = j - i by omega]
        exact fin 2 _ (Or.inr (Or.inl ⟨hl, hd, hr, fun _ => ⟨rfl, rfl⟩, fun c => by omega⟩))
      · rw [if_neg h4]
        exact fin 3 _ (Or.inr (Or.inl ⟨hl, hd, hr, fun c => absurd c h4, fun _ => rfl⟩))
    | false =>
      rw [if_pos b01_f, nI_1, atR_ok T (by omega), q_b_some]
      obtain ⟨w', e, f⟩ := signR T hi (by omega) h
      rw [e, q_b_some, q_lt_eq]
      unfold fX11_cut_n304
      refine ⟨_, _, 0, 0, w', Or.inr (Or.inr ⟨hl, hd, rfl, rfl⟩), ?_, f, by omega, ?_⟩
      · cases hs : sgT (B i) (decide (i + 1 < n ∧ B (i + 1) = 61)) with
        | true => rw [if_pos rfl, if_pos rfl, show (2 : Int32) = nI 2 from rfl, nI_add]
        | false => rw [if_neg (by decide), if_neg (by decide), nI_1]
      · cases hs : sgT (B i) (decide (i + 1 < n ∧ B (i + 1) = 61)) with
        | true =>
          rw [if_pos rfl]
          unfold sgT at hs
          rw [Bool.and_eq_true, decide_eq_true_iff] at hs
          omega
        | false => rw [if_neg (by decide)]; omega
