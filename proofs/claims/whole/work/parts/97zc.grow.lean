/-! held sheets while the log grows -/
theorem bkw_cong {t k : Nat} {z z' : Nat → Int32} (h : ∀ j, j < 6 → z j = z' j) (x y : Int32) : bkw t k z x y = bkw t k z' x y := by
  have h0 := h 0 (by omega)
  have h1 := h 1 (by omega)
  have h2 := h 2 (by omega)
  have h3 := h 3 (by omega)
  have h4 := h 4 (by omega)
  have h5 := h 5 (by omega)
  have hc : ∀ o n, combS z o n = combS z' o n := by
    intro o n
    induction n with
    | zero => rfl
    | succ n ih =>
      show combS z o n + tooth (dst o (z 1 + nI n * z 2)) (q_ix (z 5)) (z 4) = combS z' o n + tooth (dst o (z' 1 + nI n * z' 2)) (q_ix (z' 5)) (z' 4)
      rw [ih, h1, h2, h4, h5]
  unfold bkw bk0 drg waveS dD rR
  simp only [h0, h1, h2, h3, hc]
theorem org_cong {t m : Nat} {K K' : Nat → Nat} {Z Z' : Nat → Nat → Int32} (h : ∀ i, i < m → K i = K' i ∧ ∀ j, j < 6 → Z i j = Z' i j) : ∀ i, i ≤ m → ∀ x y, org t K Z i x y = org t K' Z' i x y := by
  intro i
  induction i with
  | zero => intro _ x y; rfl
  | succ i ih =>
    intro hi x y
    obtain ⟨h1, h2⟩ := h i (by omega)
    unfold org
    rw [h1, bkw_cong h2]
    cases bkw t (K' i) (Z' i) x y with
    | none => rfl
    | some p =>
      show (if ptB p.1 p.2 then org t K Z i p.1 p.2 else _) = if ptB p.1 p.2 then org t K' Z' i p.1 p.2 else _
      rw [ih (by omega)]
theorem org_top {t : Nat} {K : Nat → Nat} {Z : Nat → Nat → Int32} : ∀ i x y, (org t K Z i x y).1 ≤ i + 1 := by
  intro i
  induction i with
  | zero => intro x y; exact Nat.zero_le _
  | succ i ih =>
    intro x y
    unfold org
    cases bkw t (K i) (Z i) x y with
    | none => exact Nat.le_refl _
    | some p =>
      show (if ptB p.1 p.2 then org t K Z i p.1 p.2 else (1, p.1, p.2)).1 ≤ _
      by_cases c : ptB p.1 p.2 = true
      · rw [if_pos c]
        have := ih p.1 p.2
        omega
      · rw [if_neg c]
        show 1 ≤ _
        omega
theorem cellS_cong {t m : Nat} {K K' : Nat → Nat} {Z Z' : Nat → Nat → Int32} (h : ∀ i, i < m → K i = K' i ∧ ∀ j, j < 6 → Z i j = Z' i j) (sh at_ : Nat) : cellS m t K Z sh at_ = cellS m t K' Z' sh at_ := by
  unfold cellS colS
  simp only [org_cong h m (Nat.le_refl m)]
  generalize nI (64 * (at_ / 16) + 32) = x
  generalize nI (64 * (at_ % 16) + 32 + if at_ / 16 % 2 = 1 then sh else 0) = y
  by_cases c1 : ptB x y = true
  · rw [if_pos c1, if_pos c1]
    by_cases c2 : (org t K' Z' m x y).1 < 2
    · rw [if_pos c2, if_pos c2]
    · rw [if_neg c2, if_neg c2]
      have := org_top (t := t) (K := K') (Z := Z') m x y
      exact (h _ (by omega)).2 3 (by omega)
  · rw [if_neg c1, if_neg c1]
theorem known_grow {k : Nat} {u u' : q_W} (h5 : ∀ i, i < k → u'.1 5 i = u.1 5 i) (h6 : ∀ i, i < 6 * k → u'.1 6 i = u.1 6 i) {n : Nat} (hn : n ≤ k) : ∀ i, i < n → outB u' n i = outB u n i ∧ kd u' i = kd u i := by
  intro i hi
  refine ⟨?_, by unfold kd; rw [h5 i (by omega)]⟩
  have : strkd u' i 0 n ↔ strkd u i 0 n := by
    unfold strkd
    constructor
    · rintro ⟨m, a, b, c, d⟩
      rw [h5 m (by omega)] at c
      rw [h6 (6 * m) (by omega)] at d
      exact ⟨m, a, b, c, d⟩
    · rintro ⟨m, a, b, c, d⟩
      rw [← h5 m (by omega)] at c
      rw [← h6 (6 * m) (by omega)] at d
      exact ⟨m, a, b, c, d⟩
  by_cases c : strkd u i 0 n
  · rw [outB_t c, outB_t (this.mpr c)]
  · rw [outB_f c, outB_f (fun x => c (this.mp x))]
theorem cntL_grow {k : Nat} {u u' : q_W} (h5 : ∀ i, i < k → u'.1 5 i = u.1 5 i) (h6 : ∀ i, i < 6 * k → u'.1 6 i = u.1 6 i) {n : Nat} (hn : n ≤ k) : cntL u' n n 0 = cntL u n n 0 := cntL_cong (known_grow h5 h6 hn) n 0 (by omega)
theorem shO_grow {k : Nat} {u u' : q_W} (h5 : ∀ i, i < k → u'.1 5 i = u.1 5 i) (h6 : ∀ i, i < 6 * k → u'.1 6 i = u.1 6 i) {n s : Nat} (hn : n ≤ k) (hs : s < cntL u n n 0) : shO u' n s = shO u n s := by
  have e1 : scan u' n s n 0 0 [] = scan u n s n 0 0 [] := scan_cong (known_grow h5 h6 hn) n 0 0 [] (by omega)
  obtain ⟨a, ha⟩ := scan_some u n s n 0 0 [] (Nat.zero_le _) (by omega)
  have han := (scan_len u n s n 0 0 [] (Nat.le_refl 0) (fun x hx => by cases hx)).2 a ha
  unfold shO
  rw [e1, ha]
  have e4 : nm u' ((some a).getD 0) 0 = nm u ((some a).getD 0) 0 := by
    show u'.1 6 (6 * a + 0) = u.1 6 (6 * a + 0)
    exact h6 _ (by omega)
  rw [e4]
theorem shtS_grow {k : Nat} {u u' : q_W} (h5 : ∀ i, i < k → u'.1 5 i = u.1 5 i) (h6 : ∀ i, i < 6 * k → u'.1 6 i = u.1 6 i) {n s : Nat} (hn : n ≤ k) (hs : s < cntL u n n 0) (i : Nat) : shtS u' n s i = shtS u n s i := by
  have e1 : scan u' n s n 0 0 [] = scan u n s n 0 0 [] := scan_cong (known_grow h5 h6 hn) n 0 0 [] (by omega)
  obtain ⟨⟨_, hl⟩, _⟩ := scan_len u n s n 0 0 [] (Nat.le_refl 0) (fun x hx => by cases hx)
  obtain ⟨a, ha⟩ := scan_some u n s n 0 0 [] (Nat.zero_le _) (by omega)
  have han := (scan_len u n s n 0 0 [] (Nat.le_refl 0) (fun x hx => by cases hx)).2 a ha
  have hg : ∀ i, gL (scan u n s n 0 0 []).2 i < n := by
    intro i
    unfold gL
    by_cases c : i < (scan u n s n 0 0 []).2.length
    · have : (scan u n s n 0 0 []).2.getD i 0 ∈ (scan u n s n 0 0 []).2 := by
        rw [List.getD_eq_getElem?_getD, List.getElem?_eq_getElem c]
        exact List.getElem_mem c
      have := (hl _ this).1
      omega
    · rw [List.getD_eq_getElem?_getD, List.getElem?_eq_none (by omega)]
      show 0 < n
      omega
  unfold shtS
  rw [shO_grow h5 h6 hn hs, e1]
  refine cellS_cong (fun i _ => ⟨?_, fun j hj => ?_⟩) _ _
  · have := hg i
    unfold KL kd
    rw [h5 _ (by omega)]
  · have := hg i
    unfold ZL nm
    exact h6 _ (by omega)
theorem chOK_grow {q k k' : Nat} {u u' : q_W} (h : chOK q k u) (hk : k ≤ k') (e1 : u'.1 q = u.1 q) (e2 : u'.1 (q + 1) = u.1 (q + 1)) (h5 : ∀ i, i < k → u'.1 5 i = u.1 5 i) (h6 : ∀ i, i < 6 * k → u'.1 6 i = u.1 6 i) : chOK q k' u' := by
  unfold chOK at *
  rw [e1, e2]
  rcases h with h | ⟨n, s, a1, a2, a3, a4, a6, a5⟩
  · exact Or.inl h
  · exact Or.inr ⟨n, s, by omega, by rw [cntL_grow h5 h6 a1]; exact a2, a3, a4, by rw [shO_grow h5 h6 a1 a2]; exact a6, fun i hi => by rw [shtS_grow h5 h6 a1 a2]; exact a5 i hi⟩
theorem ch_grow {k k' : Nat} {u u' : q_W} (h : I_ch k u) (hk : k ≤ k') (e : ∀ q, q = 14 ∨ q = 15 ∨ q = 18 ∨ q = 19 → u'.1 q = u.1 q) (h5 : ∀ i, i < k → u'.1 5 i = u.1 5 i) (h6 : ∀ i, i < 6 * k → u'.1 6 i = u.1 6 i) : I_ch k' u' :=
  ⟨chOK_grow h.1 hk (e 14 (by decide)) (e 15 (by decide)) h5 h6, chOK_grow h.2 hk (e 18 (by decide)) (e 19 (by decide)) h5 h6⟩
