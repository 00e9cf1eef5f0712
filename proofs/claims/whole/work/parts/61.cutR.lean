/-! the reference's cutting -/
def WR (k : Nat) : List Nat := WC (if k = 11 then 13 else if k = 12 then 14 else if k = 13 then 11 else if k = 14 then 12 else k)
theorem WR_ok (k : Nat) (hk : k < 15) : okL (WR k) := by
  unfold WR
  by_cases h1 : k = 11
  · rw [if_pos h1]; exact WC_ok _ (by decide)
  · rw [if_neg h1]
    by_cases h2 : k = 12
    · rw [if_pos h2]; exact WC_ok _ (by decide)
    · rw [if_neg h2]
      by_cases h3 : k = 13
      · rw [if_pos h3]; exact WC_ok _ (by decide)
      · rw [if_neg h3]
        by_cases h4 : k = 14
        · rw [if_pos h4]; exact WC_ok _ (by decide)
        · rw [if_neg h4]; exact WC_ok _ hk
def wLast (l : List Nat) (d k r : Nat) : Nat := match d with
  | 0 => r
  | d + 1 => wLast l d (k + 1) (if WR k = l then 20 + k else r)
theorem wLast_no {l : List Nat} : ∀ d k r, (∀ j, k ≤ j → j < k + d → WR j ≠ l) → wLast l d k r = r := by
  intro d
  induction d with
  | zero => intro k r _; rfl
  | succ d ih =>
    intro k r h
    unfold wLast
    rw [if_neg (h k (by omega) (by omega))]
    exact ih (k + 1) r (fun j a b => h j (by omega) (by omega))
theorem wIx_no {l : List Nat} : ∀ d k, (∀ j, k ≤ j → j < k + d → WC j ≠ l) → wIx WC l d k = none := by
  intro d
  induction d with
  | zero => intro k _; rfl
  | succ d ih =>
    intro k h
    unfold wIx
    rw [if_neg (h k (by omega) (by omega))]
    exact ih (k + 1) (fun j a b => h j (by omega) (by omega))
theorem words_is : ∀ k, k < 15 → km (wLast (WC k) 15 0 1) = nI (wKC (wIx WC (WC k) 15 0)) ∧ 20 ≤ wLast (WC k) 15 0 1 ∧ wLast (WC k) 15 0 1 ≤ 34 ∧ (WC k).length ≤ 7 := by decide +kernel
/-- both know the words alike -/
theorem words_eq (l : List Nat) : km (wLast l 15 0 1) = nI (wKC (wIx WC l 15 0)) ∧ ((20 ≤ wLast l 15 0 1 ∧ wLast l 15 0 1 ≤ 34 ∧ l.length ≤ 7) ∨ wLast l 15 0 1 = 1) := by
  by_cases h : ∃ k, k < 15 ∧ WC k = l
  · obtain ⟨k, hk, rfl⟩ := h
    obtain ⟨a, b, c, d⟩ := words_is k hk
    exact ⟨a, Or.inl ⟨b, c, d⟩⟩
  · have h1 : ∀ j, 0 ≤ j → j < 0 + 15 → WC j ≠ l := fun j _ hj e => h ⟨j, by omega, e⟩
    have h2 : ∀ j, 0 ≤ j → j < 0 + 15 → WR j ≠ l := fun j _ hj e => by
      unfold WR at e
      exact h ⟨_, by repeat (first | omega | split), e⟩
    rw [wLast_no 15 0 1 h2, wIx_no 15 0 h1]
    exact ⟨rfl, Or.inr rfl⟩
def keysR (w : q_W) : Prop := ∀ k, k < 15 → w.2.2 7 k = lN (r2 (WR k))
/-- a token came -/
def tkF (w w' : q_W) (t : Nat) (k p x : Int32) (s : Int64) : Prop := w'.1 0 10 = nI (t + 1) ∧ (∀ j, j ≠ 10 → w'.1 0 j = w.1 0 j) ∧ (∀ q, q ≠ 0 → q ≠ 3 → q ≠ 4 → q ≠ 5 → w'.1 q = w.1 q) ∧ (∀ j, w'.1 3 j = if j = t then k else w.1 3 j) ∧ (∀ j, w'.1 4 j = if j = t then p else w.1 4 j) ∧ (∀ j, w'.1 5 j = if j = t then x else w.1 5 j) ∧ w'.2.1 = w.2.1 ∧ ∀ q j, w'.2.2 q j = if q = 6 ∧ j = t then s else w.2.2 q j
theorem sI_if (w : q_W) (q k : Nat) (v : Int32) (j : Nat) : (q_sI w q k v).1 q j = if j = k then v else w.1 q j := by
  by_cases h : j = k
  · subst h; rw [sI_same, if_pos rfl]
  · rw [sI_k _ _ _ _ _ h, if_neg h]
theorem tokenR (w : q_W) (t : Nat) (k p x : Int32) (s : Int64) (ht : t < 503) (h : w.1 0 10 = nI t) : ∃ w', fX11_token k p x s w = some ((), w') ∧ tkF w w' t k p x s := by
  have ib : q_inb (nI t) 503 := q_inb_nI ht (by omega)
  unfold fX11_token
  rw [h, q_lt_eq, if_pos ib, q_ix_nI (by omega), q_lt_eq, q_lt_eq, sI_cell _ _ _ _ 0 (by decide), h, if_pos ib, q_ix_nI (by omega), q_lt_eq, q_lt_eq, sI_cell _ _ _ _ 0 (by decide), sI_cell _ _ _ _ 0 (by decide), h, if_pos ib, q_ix_nI (by omega), q_lt_eq, q_lt_eq, sI_cell _ _ _ _ 0 (by decide), sI_cell _ _ _ _ 0 (by decide), sI_cell _ _ _ _ 0 (by decide), h, if_pos ib, q_ix_nI (by omega), q_lt_eq, q_lt_eq]
  have e0 : (q_sL (q_sI (q_sI (q_sI w 3 t k) 4 t p) 5 t x) 6 t s).1 0 10 = nI t := by
    show (q_sI (q_sI (q_sI w 3 t k) 4 t p) 5 t x).1 0 10 = _
    rw [sI_cell _ _ _ _ 0 (by decide), sI_cell _ _ _ _ 0 (by decide), sI_cell _ _ _ _ 0 (by decide), h]
  rw [e0, nI_1]
  refine ⟨_, rfl, sI_same _ _ _ _, fun j hj => ?_, fun q h0 h3 h4 h5 => ?_, fun j => ?_, fun j => ?_, fun j => ?_, rfl, fun q j => rfl⟩
  · rw [sI_k _ _ _ _ _ hj]
    show (q_sI (q_sI (q_sI w 3 t k) 4 t p) 5 t x).1 0 j = _
    rw [sI_cell _ _ _ _ 0 (by decide), sI_cell _ _ _ _ 0 (by decide), sI_cell _ _ _ _ 0 (by decide)]
  · rw [sI_cell _ _ _ _ _ h0]
    show (q_sI (q_sI (q_sI w 3 t k) 4 t p) 5 t x).1 q = _
    rw [sI_cell _ _ _ _ _ h5, sI_cell _ _ _ _ _ h4, sI_cell _ _ _ _ _ h3]
  · rw [sI_cell _ _ _ _ 3 (by decide)]
    show (q_sI (q_sI (q_sI w 3 t k) 4 t p) 5 t x).1 3 j = _
    rw [sI_cell _ _ _ _ 3 (by decide), sI_cell _ _ _ _ 3 (by decide), sI_if]
  · rw [sI_cell _ _ _ _ 4 (by decide)]
    show (q_sI (q_sI (q_sI w 3 t k) 4 t p) 5 t x).1 4 j = _
    rw [sI_cell _ _ _ _ 4 (by decide), sI_if, sI_cell _ _ _ _ 4 (by decide)]
  · rw [sI_cell _ _ _ _ 5 (by decide)]
    show (q_sI (q_sI (q_sI w 3 t k) 4 t p) 5 t x).1 5 j = _
    rw [sI_if, sI_cell _ _ _ _ 5 (by decide), sI_cell _ _ _ _ 5 (by decide)]
/-- the token at i, as the reference has it -/
def tokP (n : Nat) (B : Nat → Nat) (i r e : Nat) (x : Int32) (s : Int64) : Prop :=
  (leP n B i = true ∧ run (alP n B) i e ∧ (e - i ≤ 8 → s = lN (r2 (nL B i (e - i))) ∧ r = wLast (nL B i (e - i)) 15 0 1) ∧ (8 < e - i → r = 3)) ∨
  (leP n B i = false ∧ dgP n B i = true ∧ run (dgP n B) i e ∧ (e - i ≤ 4 → r = 2 ∧ x = nI (v2 (nL B i (e - i)))) ∧ (4 < e - i → r = 3)) ∨
  (leP n B i = false ∧ dgP n B i = false ∧ r = sgR (B i) (decide (i + 1 < n ∧ B (i + 1) = 61)) ∧ e = i + 1 + (if sgT (B i) (decide (i + 1 < n ∧ B (i + 1) = 61)) then 1 else 0))
theorem moreR {q b : Nat} (hb : okB b) (w : q_W) : fX11_more (lN q) (nI b) w = some (lN (37 * q + dgt b), w) := by
  have hb' := hb
  unfold okB at hb'
  unfold fX11_more dgt
  rw [if_neg (nI_ne0 (by omega) (by omega)), show (57 : Int32) = nI 57 from rfl]
  by_cases h : b ≤ 57
  · rw [if_neg (by rw [nI_ltI (by omega) (by omega)]; omega), if_pos h, show (48 : Int32) = nI 48 from rfl, pk_sub (by omega), show (27 : Int32) = nI 27 from rfl, nI_add, nI_l (by omega), show (37 : Int64) = lN 37 from rfl, lN_mul, lN_add]
  · rw [if_pos (by rw [nI_ltI (by omega) (by omega)]; omega), if_neg h, show (97 : Int32) = nI 97 from rfl, pk_sub (by omega), nI_1, nI_l (by omega), show (37 : Int64) = lN 37 from rfl, lN_mul, lN_add]
theorem nameR_lok {n : Nat} {B : Nat → Nat} {w : q_W} (T : TXR n B w) (rec7 : Int32 → q_W → Option (Unit × q_W)) (i j : Nat) (hj : j ≤ 2000) (he : alP n B j = false) (hr : ∀ k, i ≤ k → k < j → alP n B k = true) : ∀ d N m, i + m + d = j → d < N → q_it N (fX11_cut_h85 rec7) (fun _ _ _ _ => none) (nI i) (nI m) (lN (r2 (nL B i (min m 8)))) w = fX11_cut_n148 rec7 (nI i) (nI (j - i)) (lN (r2 (nL B i (min (j - i) 8)))) (if j - i ≤ 8 then 1 else 3) w := by
  have hB : ∀ i, i < n → B i < 256 := fun i hi => (T.2.2 i hi).2
  intro d
  induction d with
  | zero =>
    intro N m h hN
    obtain ⟨N, rfl⟩ : ∃ M, N = M + 1 := ⟨N - 1, by omega⟩
    have e : i + m = j := by omega
    have he' := he
    unfold alP at he'
    rw [Bool.or_eq_false_iff] at he'
    rw [q_itS, fX11_cut_h85, nI_add, atR_ok T (by omega), q_b_some, letR hB, q_b_some, e, he'.1, if_pos b01_f, atR_ok T (by omega), q_b_some, digR hB, q_b_some, he'.2, if_pos b01_f, show j - i = m by omega]
    by_cases h8 : m ≤ 8
    · rw [if_pos (by rw [show (8 : Int32) = nI 8 from rfl, nI_leI (by omega) (by omega)]; exact h8), if_pos h8]
    · rw [if_neg (by rw [show (8 : Int32) = nI 8 from rfl, nI_leI (by omega) (by omega)]; exact h8), if_neg h8]
  | succ d ih =>
    intro N m h hN
    obtain ⟨N, rfl⟩ : ∃ M, N = M + 1 := ⟨N - 1, by omega⟩
    obtain ⟨hin, hok⟩ := alP_ok (hr (i + m) (by omega) (by omega))
    have goal : fX11_cut_n111 rec7 (q_it N (fX11_cut_h85 rec7) (fun _ _ _ _ => none)) (nI i) (nI m) (lN (r2 (nL B i (min m 8)))) w = fX11_cut_n148 rec7 (nI i) (nI (j - i)) (lN (r2 (nL B i (min (j - i) 8)))) (if j - i ≤ 8 then 1 else 3) w := by
      have i1 := ih N (m + 1) (by omega) (by omega)
      unfold fX11_cut_n111 fX11_cut_n131
      by_cases h8 : 8 ≤ m
      · rw [if_pos (by rw [show (8 : Int32) = nI 8 from rfl, nI_leI (by omega) (by omega)]; exact h8), q_lt_eq, nI_1]
        rw [show min (m + 1) 8 = min m 8 by omega] at i1
        exact i1
      · rw [if_neg (by rw [show (8 : Int32) = nI 8 from rfl, nI_leI (by omega) (by omega)]; exact h8), nI_add, atR_ok T (by omega), q_b_some]
        unfold bR
        rw [if_pos hin, moreR hok, q_b_some, q_lt_eq, nI_1]
        rw [show min (m + 1) 8 = m + 1 by omega] at i1
        rw [show min m 8 = m by omega]
        exact i1
    rw [q_itS, fX11_cut_h85, nI_add, atR_ok T (by omega), q_b_some, letR hB, q_b_some]
    cases hl : leP n B (i + m) with
    | true =>
      rw [if_neg b01_t]
      exact goal
    | false =>
      have hd : dgP n B (i + m) = true := by
        have := hr (i + m) (by omega) (by omega)
        unfold alP at this
        rw [hl, Bool.false_or] at this
        exact this
      rw [if_pos b01_f, atR_ok T (by omega), q_b_some, digR hB, q_b_some, hd, if_neg b01_t]
      exact goal
theorem keyR_lok {w : q_W} (hw : keysR w) {l : List Nat} (hl : okL l) (rec7 : Int32 → q_W → Option (Unit × q_W)) (x1 x3 : Int32) : ∀ d N k r, k + d = 15 → d < N → q_it N (fX11_cut_h159 rec7) (fun _ _ _ _ _ _ => none) x1 x3 (lN (r2 l)) (nI r) (nI k) w = fX11_cut_n192 rec7 x1 x3 (lN (r2 l)) (nI (wLast l d k r)) w := by
  intro d
  induction d with
  | zero =>
    intro N k r h hN
    obtain ⟨N, rfl⟩ : ∃ M, N = M + 1 := ⟨N - 1, by omega⟩
    rw [q_itS, fX11_cut_h159, if_pos (by rw [show (15 : Int32) = nI 15 from rfl, nI_leI (by omega) (by omega)]; omega)]
    rfl
  | succ d ih =>
    intro N k r h hN
    obtain ⟨N, rfl⟩ : ∃ M, N = M + 1 := ⟨N - 1, by omega⟩
    rw [q_itS, fX11_cut_h159, if_neg (by rw [show (15 : Int32) = nI 15 from rfl, nI_leI (by omega) (by omega)]; omega), if_pos (q_inb_nI (by omega) (by omega)), q_ix_nI (by omega), hw k (by omega)]
    unfold wLast fX11_cut_n186
    by_cases e : WR k = l
    · rw [if_pos ((lg_cmp_eq _ _).mpr (by rw [e])), if_pos e, q_lt_eq, q_lt_eq, nI_1, show (20 : Int32) = nI 20 from rfl, nI_add]
      exact ih N (k + 1) _ (by omega) (by omega)
    · rw [if_neg (fun c => e ((name_eqR (WR_ok k (by omega)) hl).mp ((lg_cmp_eq _ _).mp c))), if_neg e, q_lt_eq, nI_1]
      exact ih N (k + 1) r (by omega) (by omega)
theorem intR_lok {n : Nat} {B : Nat → Nat} {w : q_W} (T : TXR n B w) (rec7 : Int32 → q_W → Option (Unit × q_W)) (i j : Nat) (hj : j ≤ 2000) (he : dgP n B j = false) (hr : ∀ k, i ≤ k → k < j → dgP n B k = true) : ∀ d N m, i + m + d = j → d < N → q_it N (fX11_cut_h221 rec7) (fun _ _ _ _ => none) (nI i) (nI m) (nI (v2 (nL B i (min m 4)))) w = fX11_cut_n274 rec7 (nI i) (nI (j - i)) (nI (v2 (nL B i (min (j - i) 4)))) (if j - i ≤ 4 then 2 else 3) w := by
  have hB : ∀ i, i < n → B i < 256 := fun i hi => (T.2.2 i hi).2
  intro d
  induction d with
  | zero =>
    intro N m h hN
    obtain ⟨N, rfl⟩ : ∃ M, N = M + 1 := ⟨N - 1, by omega⟩
    have e : i + m = j := by omega
    rw [q_itS, fX11_cut_h221, nI_add, atR_ok T (by omega), q_b_some, digR hB, q_b_some, e, he, if_pos b01_f, show j - i = m by omega]
    by_cases h8 : m ≤ 4
    · rw [if_pos (by rw [show (4 : Int32) = nI 4 from rfl, nI_leI (by omega) (by omega)]; exact h8), if_pos h8]
    · rw [if_neg (by rw [show (4 : Int32) = nI 4 from rfl, nI_leI (by omega) (by omega)]; exact h8), if_neg h8]
  | succ d ih =>
    intro N m h hN
    obtain ⟨N, rfl⟩ : ∃ M, N = M + 1 := ⟨N - 1, by omega⟩
    obtain ⟨hin, h48, h57⟩ := dgP_ok (hr (i + m) (by omega) (by omega))
    have i1 := ih N (m + 1) (by omega) (by omega)
    rw [q_itS, fX11_cut_h221, nI_add, atR_ok T (by omega), q_b_some, digR hB, q_b_some, hr (i + m) (by omega) (by omega), if_neg b01_t]
    unfold fX11_cut_n257
    by_cases h8 : 4 ≤ m
    · rw [if_pos (by rw [show (4 : Int32) = nI 4 from rfl, nI_leI (by omega) (by omega)]; exact h8), q_lt_eq, nI_1]
      rw [show min (m + 1) 4 = min m 4 by omega] at i1
      exact i1
    · rw [if_neg (by rw [show (4 : Int32) = nI 4 from rfl, nI_leI (by omega) (by omega)]; exact h8), atR_ok T (by omega), q_b_some]
      unfold bR
      rw [if_pos hin, q_lt_eq, q_lt_eq, nI_1, show (10 : Int32) = nI 10 from rfl, pk_mul, nI_add, show (48 : Int32) = nI 48 from rfl, pk_sub (by omega)]
      rw [show min (m + 1) 4 = m + 1 by omega] at i1
      rw [show min m 4 = m by omega]
      exact i1
theorem signR_n (x1 : Int32) (c : Nat) (hc : c < 256) (nx : Bool) (t : Nat) (w : q_W) (ht : t < 503) (h : w.1 0 10 = nI t) : ∃ w', fX11_sign_n44 x1 (nI c) (if sgT c nx then (if c = 61 then 11 else if c = 33 then 12 else 14) else 0) w = some (if sgT c nx then 2 else 1, w') ∧ tkF w w' t (nI (sgR c nx)) x1 0 0 := by
  unfold fX11_sign_n44
  cases hs : sgT c nx with
  | true =>
    have hc3 : c = 61 ∨ c = 33 ∨ c = 60 := by
      unfold sgT at hs
      simp only [Bool.and_eq_true, Bool.or_eq_true, beq_iff_eq] at hs
      omega
    rcases hc3 with rfl | rfl | rfl
    · obtain ⟨w', e, f⟩ := tokenR w t 11 x1 0 0 ht h
      refine ⟨w', ?_, by unfold sgR; rw [hs]; exact f⟩
      rw [if_pos rfl, if_pos rfl, if_neg (by decide), if_pos rfl]
      unfold fX11_sign_n199
      rw [e, q_b_some, if_neg (by decide)]
    · obtain ⟨w', e, f⟩ := tokenR w t 12 x1 0 0 ht h
      refine ⟨w', ?_, by unfold sgR; rw [hs]; exact f⟩
      rw [if_pos rfl, if_neg (by decide), if_pos rfl, if_neg (by decide), if_pos rfl]
      unfold fX11_sign_n199
      rw [e, q_b_some, if_neg (by decide)]
    · obtain ⟨w', e, f⟩ := tokenR w t 14 x1 0 0 ht h
      refine ⟨w', ?_, by unfold sgR; rw [hs]; exact f⟩
      rw [if_pos rfl, if_neg (by decide), if_neg (by decide), if_neg (by decide), if_pos rfl]
      unfold fX11_sign_n199
      rw [e, q_b_some, if_neg (by decide)]
  | false =>
    have key : ∀ k : Int32, k = nI (sgR c nx) → ∃ w', fX11_sign_n199 x1 0 k w = some (1, w') ∧ tkF w w' t (nI (sgR c nx)) x1 0 0 := by
      rintro k rfl
      obtain ⟨w', e, f⟩ := tokenR w t (nI (sgR c nx)) x1 0 0 ht h
      refine ⟨w', ?_, f⟩
      unfold fX11_sign_n199
      rw [e, q_b_some, if_pos (by decide)]
    have e1 : (if false = true then (2 : Int32) else 1) = 1 := rfl
    have e0 : (if false = true then (if c = 61 then (11 : Int32) else if c = 33 then 12 else 14) else 0) = 0 := rfl
    rw [e1, e0, if_pos (show (0 : Int32) ≤ 0 by decide)]
    have st (m : Nat) (hm : m < 2 ^ 31) (k : Int32) (X : Option (Int32 × q_W)) (hk : c = m → k = nI (sgR c nx)) (hX : c ≠ m → ∃ w', X = some (1, w') ∧ tkF w w' t (nI (sgR c nx)) x1 0 0) : ∃ w', (if nI c = nI m then fX11_sign_n199 x1 0 k w else X) = some (1, w') ∧ tkF w w' t (nI (sgR c nx)) x1 0 0 := by
      by_cases hcm : c = m
      · rw [if_pos (by rw [hcm])]
        exact key k (hk hcm)
      · rw [if_neg (nI_ne (by omega) hm hcm)]
        exact hX hcm
    have val (m v : Nat) (hcm : c = m) (hv : sgT m nx = false → sgR m nx = v) : nI v = nI (sgR c nx) := by
      subst hcm
      rw [hv hs]
    refine st 59 (by decide) 4 _ (fun e => val 59 4 e (fun q => by unfold sgR; rw [q]; rfl)) (fun n1 => ?_)
    refine st 40 (by decide) 6 _ (fun e => val 40 6 e (fun q => by unfold sgR; rw [q]; rfl)) (fun n2 => ?_)
    refine st 41 (by decide) 7 _ (fun e => val 41 7 e (fun q => by unfold sgR; rw [q]; rfl)) (fun n3 => ?_)
    refine st 43 (by decide) 8 _ (fun e => val 43 8 e (fun q => by unfold sgR; rw [q]; rfl)) (fun n4 => ?_)
    refine st 45 (by decide) 9 _ (fun e => val 45 9 e (fun q => by unfold sgR; rw [q]; rfl)) (fun n5 => ?_)
    refine st 42 (by decide) 10 _ (fun e => val 42 10 e (fun q => by unfold sgR; rw [q]; rfl)) (fun n6 => ?_)
    refine st 60 (by decide) 13 _ (fun e => val 60 13 e (fun q => by unfold sgR; rw [q]; rfl)) (fun n7 => ?_)
    refine st 44 (by decide) 5 _ (fun e => val 44 5 e (fun q => by unfold sgR; rw [q]; rfl)) (fun n8 => ?_)
    refine st 47 (by decide) 15 _ (fun e => val 47 15 e (fun q => by unfold sgR; rw [q]; rfl)) (fun n9 => ?_)
    refine st 37 (by decide) 16 _ (fun e => val 37 16 e (fun q => by unfold sgR; rw [q]; rfl)) (fun n10 => ?_)
    refine st 61 (by decide) 17 _ (fun e => val 61 17 e (fun q => by unfold sgR; rw [q]; rfl)) (fun n11 => ?_)
    refine key 3 ?_
    have : sgR c nx = 3 := by
      unfold sgR
      rw [hs, if_neg (by decide), if_neg n1, if_neg n2, if_neg n3, if_neg n4, if_neg n5, if_neg n6, if_neg n7, if_neg n8, if_neg n9, if_neg n10, if_neg n11]
    rw [this]
    rfl
