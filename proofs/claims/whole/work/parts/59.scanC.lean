/-! the class's scanner -/
def stC (w : q_W) (x : Int32) (s : Int64) : q_W := q_sL (q_sI w 24 4 x) 24 5 s
theorem stC_x (w : q_W) (x : Int32) (s : Int64) : (stC w x s).1 24 4 = x := rfl
theorem stC_s (w : q_W) (x : Int32) (s : Int64) : (stC w x s).2.2 24 5 = s := rfl
theorem stC_o (w : q_W) (x : Int32) (s : Int64) (q k : Nat) (h : ¬ (q = 24 ∧ k = 4)) : (stC w x s).1 q k = w.1 q k := sI_oth w 24 4 x q k h
theorem stC_c (w : q_W) (x : Int32) (s : Int64) (q : Nat) (h : q ≠ 24) : (stC w x s).1 q = w.1 q := sI_cell w 24 4 x q h
theorem stC_r (w : q_W) (x : Int32) (s : Int64) : (stC w x s).2.1 = w.2.1 := rfl
theorem stC_l (w : q_W) (x : Int32) (s : Int64) (q k : Nat) (h : ¬ (q = 24 ∧ k = 5)) : (stC w x s).2.2 q k = w.2.2 q k := by
  unfold stC q_sL
  show (if q = 24 ∧ k = 5 then s else w.2.2 q k) = _
  rw [if_neg h]
theorem stC_wx (w : q_W) (x : Int32) (s : Int64) (x' : Int32) : q_sI (stC w x s) 24 4 x' = stC w x' s := by
  unfold stC q_sI q_sL
  refine Prod.ext (funext fun a => funext fun b => ?_) rfl
  by_cases h1 : a = 24 ∧ b = 4
  · simp [h1]
  · simp [h1]
theorem stC_ws (w : q_W) (x : Int32) (s : Int64) (s' : Int64) : q_sL (stC w x s) 24 5 s' = stC w x s' := by
  unfold stC q_sI q_sL
  refine Prod.ext rfl (Prod.ext rfl (funext fun a => funext fun b => ?_))
  by_cases h1 : a = 24 ∧ b = 5
  · simp [h1]
  · simp [h1]
theorem TXC_st {n : Nat} {B : Nat → Nat} {w : q_W} (h : TXC n B w) (x : Int32) (s : Int64) : TXC n B (stC w x s) := by
  unfold TXC at *
  rw [stC_c _ _ _ 1 (by decide), stC_c _ _ _ 2 (by decide)]
  exact h
theorem skip_lok {n : Nat} {B : Nat → Nat} {w : q_W} (T : TXC n B w) (s : Int64) (j : Nat) (hj : j ≤ 2000) (he : blP n B j = false) : ∀ d N c i, i + d = j → d < N → c ≤ i → (∀ k, i ≤ k → k < j → blP n B k = true) → q_it N fX7_skipBlanks_h2 (fun _ _ => none) (nI c) (stC w (nI i) s) = some ((), stC w (nI j) s) := by
  have hB : ∀ i, i < n → B i < 256 := fun i hi => (T.2.2 i hi).2
  intro d
  induction d with
  | zero =>
    intro N c i h hN hc hr
    obtain ⟨N, rfl⟩ : ∃ M, N = M + 1 := ⟨N - 1, by omega⟩
    have e : i = j := by omega
    subst e
    rw [q_itS, fX7_skipBlanks_h2, if_neg (by rw [show (2000 : Int32) = nI 2000 from rfl, nI_ltI (by omega) (by omega)]; omega), stC_x, byteAt_ok (TXC_st T _ _) (by omega), q_b_some, blkC hB, q_b_some, he, if_pos b01_f]
  | succ d ih =>
    intro N c i h hN hc hr
    obtain ⟨N, rfl⟩ : ∃ M, N = M + 1 := ⟨N - 1, by omega⟩
    rw [q_itS, fX7_skipBlanks_h2, if_neg (by rw [show (2000 : Int32) = nI 2000 from rfl, nI_ltI (by omega) (by omega)]; omega), stC_x, byteAt_ok (TXC_st T _ _) (by omega), q_b_some, blkC hB, q_b_some, hr i (by omega) (by omega), if_neg b01_t, q_lt_eq, stC_x, stC_wx, q_lt_eq, nI_1, nI_1]
    exact ih N (c + 1) (i + 1) (by omega) (by omega) (by omega) (fun k a b => hr k (by omega) b)
theorem skipC {n : Nat} {B : Nat → Nat} {w : q_W} (T : TXC n B w) (s : Int64) {i j : Nat} (hj : j ≤ 2000) (hr : run (blP n B) i j) : fX7_skipBlanks (stC w (nI i) s) = some ((), stC w (nI j) s) := by
  unfold fX7_skipBlanks fX7_skipBlanks_l2
  have := skip_lok T s j hj hr.2.2 (j - i) q_N 0 i (by have := hr.1; omega) (Nat.lt_of_le_of_lt (show j - i ≤ 2000 by omega) (Nat.le_of_ble_eq_true rfl)) (by omega) hr.2.1
  rw [nI_0] at this
  exact this
def alP (n : Nat) (B : Nat → Nat) (i : Nat) : Bool := leP n B i || dgP n B i
theorem alP_ok {n : Nat} {B : Nat → Nat} {i : Nat} (h : alP n B i = true) : i < n ∧ okB (B i) := by
  unfold alP leP dgP at h
  rw [Bool.or_eq_true, decide_eq_true_iff, decide_eq_true_iff] at h
  unfold okB
  omega
theorem dgP_ok {n : Nat} {B : Nat → Nat} {i : Nat} (h : dgP n B i = true) : i < n ∧ 48 ≤ B i ∧ B i ≤ 57 := by
  unfold dgP at h
  rw [decide_eq_true_iff] at h
  exact h
/-- the words that are no names, last byte first: as the class has them -/
def WC (k : Nat) : List Nat := match k with
  | 0 => [110, 114, 101, 116, 116, 97, 112]
  | 1 => [100, 110, 101]
  | 2 => [112, 111, 114, 100]
  | 3 => [101, 110, 105, 108]
  | 4 => [98, 109, 111, 99]
  | 5 => [101, 118, 97, 119]
  | 6 => [114, 111, 102]
  | 7 => [111, 116]
  | 8 => [102, 105]
  | 9 => [101, 115, 108, 101]
  | 10 => [111, 100]
  | 11 => [120]
  | 12 => [121]
  | 13 => [114, 111]
  | _ => [100, 110, 97]
def okBb (b : Nat) : Bool := (decide (48 ≤ b) && decide (b ≤ 57)) || (decide (97 ≤ b) && decide (b ≤ 122))
theorem okBb_ok {b : Nat} (h : okBb b = true) : okB b := by
  unfold okBb at h
  unfold okB
  simp only [Bool.or_eq_true, Bool.and_eq_true, decide_eq_true_iff] at h
  exact h
theorem okL_of {l : List Nat} (h1 : l.length ≤ 8) (h2 : l.all okBb = true) : okL l := ⟨h1, fun b hb => okBb_ok (List.all_eq_true.mp h2 b hb)⟩
theorem WC_ok (k : Nat) (hk : k < 15) : okL (WC k) := by
  have : k = 0 ∨ k = 1 ∨ k = 2 ∨ k = 3 ∨ k = 4 ∨ k = 5 ∨ k = 6 ∨ k = 7 ∨ k = 8 ∨ k = 9 ∨ k = 10 ∨ k = 11 ∨ k = 12 ∨ k = 13 ∨ k = 14 := by omega
  rcases this with rfl | rfl | rfl | rfl | rfl | rfl | rfl | rfl | rfl | rfl | rfl | rfl | rfl | rfl | rfl <;> exact okL_of (by decide) (by decide)
/-- the class's words stand -/
def wordsC (w : q_W) : Prop := ∀ k, k < 15 → w.2.2 25 k = lN (q2 (WC k))
/-- which word it is, from k on -/
def wIx (W : Nat → List Nat) (l : List Nat) (d k : Nat) : Option Nat := match d with
  | 0 => none
  | d + 1 => if W k = l then some k else wIx W l d (k + 1)
def wKC (o : Option Nat) : Nat := match o with
  | none => 1
  | some k => 3 + k
theorem word_lok {w : q_W} (hw : wordsC w) {l : List Nat} (hl : okL l) : ∀ d N k, k + d = 15 → d < N → q_it N fX7_wordOrName_h2 (fun _ _ _ => none) (lN (q2 l)) (nI k) w = some (nI (wKC (wIx WC l d k)), w) := by
  intro d
  induction d with
  | zero =>
    intro N k h hN
    obtain ⟨N, rfl⟩ : ∃ M, N = M + 1 := ⟨N - 1, by omega⟩
    rw [q_itS, fX7_wordOrName_h2, if_pos (by rw [show (15 : Int32) = nI 15 from rfl, nI_leI (by omega) (by omega)]; omega)]
    rfl
  | succ d ih =>
    intro N k h hN
    obtain ⟨N, rfl⟩ : ∃ M, N = M + 1 := ⟨N - 1, by omega⟩
    rw [q_itS, fX7_wordOrName_h2, if_neg (by rw [show (15 : Int32) = nI 15 from rfl, nI_leI (by omega) (by omega)]; omega), if_pos (q_inb_nI (by omega) (by omega)), q_ix_nI (by omega), hw k (by omega)]
    unfold wIx
    by_cases e : WC k = l
    · rw [if_pos ((lg_cmp_eq _ _).mpr (by rw [e])), if_pos e, show (3 : Int32) = nI 3 from rfl, nI_add]
      rfl
    · rw [if_neg (fun c => e ((name_eqC (WC_ok k (by omega)) hl).mp ((lg_cmp_eq _ _).mp c))), if_neg e, q_lt_eq, nI_1]
      exact ih N (k + 1) (by omega) (by omega)
theorem scanName_lok {n : Nat} {B : Nat → Nat} {w : q_W} (T : TXC n B w) (i j : Nat) (hj : j ≤ 2000) (he : alP n B j = false) (hr : ∀ k, i ≤ k → k < j → alP n B k = true) : ∀ d N m s, i + m + d = j → d < N → (m ≤ 8 → s = lN (q2 (nL B i m))) → ∃ s', q_it N fX7_scanName_h7 (fun _ _ _ => none) (nI i) (nI m) (stC w (nI (i + m)) s) = fX7_scanName_n79 (nI i) (stC w (nI j) s') ∧ (j - i ≤ 8 → s' = lN (q2 (nL B i (j - i)))) := by
  have hB : ∀ i, i < n → B i < 256 := fun i hi => (T.2.2 i hi).2
  intro d
  induction d with
  | zero =>
    intro N m s h hN hs
    obtain ⟨N, rfl⟩ : ∃ M, N = M + 1 := ⟨N - 1, by omega⟩
    have e : i + m = j := by omega
    have he' := he
    unfold alP at he'
    rw [Bool.or_eq_false_iff] at he'
    rw [q_itS, fX7_scanName_h7, if_neg (by rw [show (2000 : Int32) = nI 2000 from rfl, nI_ltI (by omega) (by omega)]; omega), stC_x, byteAt_ok (TXC_st T _ _) (by omega), q_b_some, letC hB, q_b_some, e, he'.1, if_pos b01_f, stC_x, byteAt_ok (TXC_st T _ _) (by omega), q_b_some, digC hB, q_b_some, he'.2, if_pos b01_f]
    exact ⟨s, rfl, fun c => by rw [show j - i = m by omega]; exact hs (by omega)⟩
  | succ d ih =>
    intro N m s h hN hs
    obtain ⟨N, rfl⟩ : ∃ M, N = M + 1 := ⟨N - 1, by omega⟩
    obtain ⟨hin, hok⟩ := alP_ok (hr (i + m) (by omega) (by omega))
    have hb := hB _ hin
    have goal : ∃ s', fX7_scanName_n42 (q_it N fX7_scanName_h7 (fun _ _ _ => none)) (nI i) (nI m) (stC w (nI (i + m)) s) = fX7_scanName_n79 (nI i) (stC w (nI j) s') ∧ (j - i ≤ 8 → s' = lN (q2 (nL B i (j - i)))) := by
      unfold fX7_scanName_n42
      rw [stC_x, byteAt_ok (TXC_st T _ _) (by omega), q_b_some, stC_s, stC_ws, q_lt_eq, stC_x, stC_wx, q_lt_eq, q_lt_eq, nI_1, nI_1]
      refine ih N (m + 1) _ (by omega) (by omega) (fun c => ?_)
      have hml : ∀ b, b ∈ nL B i m → okB b := nL_mem m (fun k a b => (alP_ok (hr k a (by omega))).2)
      have hq := q2_lt _ hml
      rw [nL_len] at hq
      have hp : 256 ^ m ≤ 256 ^ 7 := Nat.pow_le_pow_right (by decide) (by omega)
      rw [hs (by omega)]
      unfold bC
      rw [if_pos hin, shl8or (by omega) hb]
      rfl
    rw [q_itS, fX7_scanName_h7, if_neg (by rw [show (2000 : Int32) = nI 2000 from rfl, nI_ltI (by omega) (by omega)]; omega), stC_x, byteAt_ok (TXC_st T _ _) (by omega), q_b_some, letC hB, q_b_some]
    cases hl : leP n B (i + m) with
    | true =>
      rw [if_neg b01_t]
      exact goal
    | false =>
      have hd : dgP n B (i + m) = true := by
        have := hr (i + m) (by omega) (by omega)
        unfold alP at this
        rw [hl, Bool.false_or] at this
        exact this
      rw [if_pos b01_f, stC_x, byteAt_ok (TXC_st T _ _) (by omega), q_b_some, digC hB, q_b_some, hd, if_neg b01_t]
      exact goal
theorem scanNameC {n : Nat} {B : Nat → Nat} {w : q_W} (T : TXC n B w) (hw : wordsC w) {i j : Nat} (hj : j ≤ 2000) (hr : run (alP n B) i j) : ∃ s', fX7_scanName (stC w (nI i) 0) = some (if j - i ≤ 8 then nI (wKC (wIx WC (nL B i (j - i)) 15 0)) else -1, stC w (nI j) s') ∧ (j - i ≤ 8 → s' = lN (q2 (nL B i (j - i)))) := by
  have hij := hr.1
  unfold fX7_scanName fX7_scanName_l7
  rw [q_lt_eq, stC_x]
  obtain ⟨s', e, hs⟩ := scanName_lok T i j hj hr.2.2 hr.2.1 (j - i) q_N 0 0 (by omega) (Nat.lt_of_le_of_lt (show j - i ≤ 2000 by omega) (Nat.le_of_ble_eq_true rfl)) (fun _ => rfl)
  rw [nI_0, Nat.add_zero] at e
  rw [e]
  unfold fX7_scanName_n79
  rw [stC_x, pk_sub hij, show (8 : Int32) = nI 8 from rfl]
  refine ⟨s', ?_, hs⟩
  by_cases h8 : j - i ≤ 8
  · have hl : okL (nL B i (j - i)) := ⟨by rw [nL_len]; exact h8, nL_mem _ (fun k a b => (alP_ok (hr.2.1 k a (by omega))).2)⟩
    rw [if_pos (by rw [nI_leI (by omega) (by omega)]; exact h8), if_pos h8, stC_s, hs h8]
    unfold fX7_wordOrName fX7_wordOrName_l2
    have := word_lok (w := stC w (nI j) (lN (q2 (nL B i (j - i))))) (fun k hk => by rw [stC_l _ _ _ _ _ (by omega)]; exact hw k hk) hl 15 q_N 0 rfl (Nat.le_of_ble_eq_true rfl)
    rw [nI_0] at this
    rw [this, q_b_some]
  · rw [if_neg (by rw [nI_leI (by omega) (by omega)]; exact h8), if_neg h8]
theorem v2_lt : ∀ l : List Nat, (∀ b, b ∈ l → 48 ≤ b ∧ b ≤ 57) → v2 l < 10 ^ l.length := by
  intro l
  induction l with
  | nil => intro _; decide
  | cons b l ih =>
    intro h
    have h1 := ih (fun x hx => h x (List.mem_cons_of_mem _ hx))
    have h2 := h b List.mem_cons_self
    show 10 * v2 l + b - 48 < 10 ^ (l.length + 1)
    rw [Nat.pow_succ]
    omega
theorem scanInt_lok {n : Nat} {B : Nat → Nat} {w : q_W} (T : TXC n B w) (i j : Nat) (hj : j ≤ 2000) (he : dgP n B j = false) (hr : ∀ k, i ≤ k → k < j → dgP n B k = true) : ∀ d N m s, i + m + d = j → d < N → (m ≤ 4 → s = lN (v2 (nL B i m))) → ∃ s', q_it N fX7_scanInt_h7 (fun _ _ _ => none) (nI i) (nI m) (stC w (nI (i + m)) s) = fX7_scanInt_n70 (nI i) (stC w (nI j) s') ∧ (j - i ≤ 4 → s' = lN (v2 (nL B i (j - i)))) := by
  have hB : ∀ i, i < n → B i < 256 := fun i hi => (T.2.2 i hi).2
  intro d
  induction d with
  | zero =>
    intro N m s h hN hs
    obtain ⟨N, rfl⟩ : ∃ M, N = M + 1 := ⟨N - 1, by omega⟩
    have e : i + m = j := by omega
    rw [q_itS, fX7_scanInt_h7, if_neg (by rw [show (2000 : Int32) = nI 2000 from rfl, nI_ltI (by omega) (by omega)]; omega), stC_x, byteAt_ok (TXC_st T _ _) (by omega), q_b_some, digC hB, q_b_some, e, he, if_pos b01_f]
    exact ⟨s, rfl, fun c => by rw [show j - i = m by omega]; exact hs (by omega)⟩
  | succ d ih =>
    intro N m s h hN hs
    obtain ⟨N, rfl⟩ : ∃ M, N = M + 1 := ⟨N - 1, by omega⟩
    obtain ⟨hin, h48, h57⟩ := dgP_ok (hr (i + m) (by omega) (by omega))
    rw [q_itS, fX7_scanInt_h7, if_neg (by rw [show (2000 : Int32) = nI 2000 from rfl, nI_ltI (by omega) (by omega)]; omega), stC_x, byteAt_ok (TXC_st T _ _) (by omega), q_b_some, digC hB, q_b_some, hr (i + m) (by omega) (by omega), if_neg b01_t, stC_x, byteAt_ok (TXC_st T _ _) (by omega), q_b_some, stC_s, stC_ws, q_lt_eq, stC_x, stC_wx, q_lt_eq, q_lt_eq, nI_1, nI_1]
    refine ih N (m + 1) _ (by omega) (by omega) (fun c => ?_)
    rw [hs (by omega)]
    unfold bC
    rw [if_pos hin, nI_l (by omega), show (10 : Int64) = lN 10 from rfl, lN_mul, lN_add, show (48 : Int64) = lN 48 from rfl, lN_sub (by omega), Nat.mul_comm]
    rfl
theorem scanIntC {n : Nat} {B : Nat → Nat} {w : q_W} (T : TXC n B w) {i j : Nat} (hj : j ≤ 2000) (hr : run (dgP n B) i j) : ∃ s', fX7_scanInt (stC w (nI i) 0) = some (if j - i ≤ 4 then 2 else -1, stC w (nI j) s') ∧ (j - i ≤ 4 → s' = lN (v2 (nL B i (j - i)))) := by
  have hij := hr.1
  unfold fX7_scanInt fX7_scanInt_l7
  rw [q_lt_eq, stC_x]
  obtain ⟨s', e, hs⟩ := scanInt_lok T i j hj hr.2.2 hr.2.1 (j - i) q_N 0 0 (by omega) (Nat.lt_of_le_of_lt (show j - i ≤ 2000 by omega) (Nat.le_of_ble_eq_true rfl)) (fun _ => rfl)
  rw [nI_0, Nat.add_zero] at e
  rw [e]
  unfold fX7_scanInt_n70
  rw [stC_x, pk_sub hij, show (4 : Int32) = nI 4 from rfl]
  refine ⟨s', ?_, hs⟩
  by_cases h8 : j - i ≤ 4
  · rw [if_pos (by rw [nI_leI (by omega) (by omega)]; exact h8), if_pos h8]
  · rw [if_neg (by rw [nI_leI (by omega) (by omega)]; exact h8), if_neg h8]
