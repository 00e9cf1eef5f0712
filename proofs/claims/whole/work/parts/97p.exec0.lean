/-! the executor: words, piles, what both hold -/
theorem wds_at : ∀ (L : List It) (i k : Nat), i < L.length → k < (L.getD i ([], z3)).1.length → (wds L).getD ((wds (L.take i)).length + k) 0 = (L.getD i ([], z3)).1.getD k 0 := by
  intro L
  induction L with
  | nil => intro i k hi; exact absurd hi (Nat.not_lt_zero i)
  | cons x L ih =>
    intro i k hi hk
    cases i with
    | zero =>
      have hk : k < x.1.length := hk
      show (x.1 ++ wds L).getD (0 + k) 0 = x.1.getD k 0
      rw [Nat.zero_add, List.getD_eq_getElem?_getD, List.getElem?_append_left hk, ← List.getD_eq_getElem?_getD]
    | succ i =>
      have hi : i < L.length := by simp at hi; omega
      have hk : k < (L.getD i ([], z3)).1.length := hk
      show (x.1 ++ wds L).getD ((x.1 ++ wds (L.take i)).length + k) 0 = (L.getD i ([], z3)).1.getD k 0
      rw [List.length_append, List.getD_eq_getElem?_getD, List.getElem?_append_right (by omega), ← List.getD_eq_getElem?_getD, show x.1.length + (wds (L.take i)).length + k - x.1.length = (wds (L.take i)).length + k by omega]
      exact ih i k hi hk
theorem wds_take : ∀ (L : List It) (i : Nat), i < L.length → (wds (L.take (i + 1))).length = (wds (L.take i)).length + (L.getD i ([], z3)).1.length := by
  intro L
  induction L with
  | nil => intro i hi; exact absurd hi (Nat.not_lt_zero i)
  | cons x L ih =>
    intro i hi
    cases i with
    | zero =>
      show (x.1 ++ wds (L.take 0)).length = 0 + x.1.length
      rw [List.length_append]
      show x.1.length + 0 = _
      omega
    | succ i =>
      have hi : i < L.length := by simp at hi; omega
      show (x.1 ++ wds (L.take (i + 1))).length = (x.1 ++ wds (L.take i)).length + (L.getD i ([], z3)).1.length
      rw [List.length_append, List.length_append, ih i hi]
      omega
theorem wds_mono : ∀ (L : List It) (i j : Nat), i ≤ j → (wds (L.take i)).length ≤ (wds (L.take j)).length := by
  intro L
  induction L with
  | nil => intro i j _; rw [List.take_nil, List.take_nil]; exact Nat.le_refl _
  | cons x L ih =>
    intro i j hij
    cases i with
    | zero => show 0 ≤ _; omega
    | succ i =>
      cases j with
      | zero => omega
      | succ j =>
        show (x.1 ++ wds (L.take i)).length ≤ (x.1 ++ wds (L.take j)).length
        rw [List.length_append, List.length_append]
        have := ih i j (by omega)
        omega
theorem wo_s {W : List AI} {i : Nat} (h : i < W.length) : wo W (i + 1) = wo W i + (itA W i).1.length := wds_take (W.map Prod.fst) i (by rw [List.length_map]; exact h)
theorem wo_mono {W : List AI} {i j : Nat} (h : i ≤ j) : wo W i ≤ wo W j := wds_mono _ i j h
theorem wo_le {W : List AI} {i : Nat} (h : i ≤ W.length) : wo W i ≤ (wds (W.map Prod.fst)).length := by
  rw [← wo_len W]
  exact wo_mono h
/-- what a run never changes -/
def XE (W0 : q_W × q_W) (P s n : Nat) (pm fo fr : Nat → Nat) (ws : List Int32) (cs : List Tr) (u v : q_W) : Prop := isP P ∧ s < 2 ∧ u.2.1 31 5 = P ∧ (u.2.1 31 6 = 9 ∧ (∀ q, ¬ (31 ≤ q ∧ q ≤ 36) → q ≠ 9 → q ≠ 10 → q ≠ 11 → u.1 q = W0.1.1 q) ∧ u.2 = W0.1.2 ∧ (∀ q, q ≠ 0 → ¬ (21 ≤ q ∧ q ≤ 26) → v.1 q = W0.2.1 q) ∧ (∀ k, k ≠ 39 → k ≠ 40 → k ≠ 41 → k ≠ 44 → k ≠ 48 → v.1 0 k = W0.2.1 0 k) ∧ v.2 = W0.2.2) ∧ v.1 0 18 = nI s ∧ n ≤ 8 ∧ u.1 P 4 = nI n ∧ u.1 P 3 = nI ws.length ∧ ws.length ≤ 1600 ∧ (∀ i, i < ws.length → u.1 (P + 1) i = ws.getD i 0) ∧ cs.length ≤ 1100 ∧ (∀ i, i < cs.length → v.1 12 (2000 * s + i) = (cs.getD i z3).1 ∧ v.1 13 (2000 * s + i) = (cs.getD i z3).2.1 ∧ v.1 14 (2000 * s + i) = (cs.getD i z3).2.2) ∧ ∀ i, i < n → u.1 (P + 2) i = nI (fo i) ∧ u.1 (P + 3) i = nI (pm i) ∧ v.1 10 (8 * s + i) = nI (pm i) ∧ v.1 11 (8 * s + i) = nI (2000 * s + fr i)
theorem XE_keep {W0 : q_W × q_W} {P s n : Nat} {pm fo fr : Nat → Nat} {ws : List Int32} {cs : List Tr} {u v u' v' : q_W} (h : XE W0 P s n pm fo fr ws cs u v) (a : ∀ q, ¬ (31 ≤ q ∧ q ≤ 36) → q ≠ 9 → q ≠ 10 → q ≠ 11 → u'.1 q = u.1 q) (b : u'.2 = u.2) (c : ∀ q, q ≠ 0 → ¬ (21 ≤ q ∧ q ≤ 26) → v'.1 q = v.1 q) (d : (∀ k, k ≠ 39 → k ≠ 40 → k ≠ 41 → k ≠ 44 → k ≠ 48 → v'.1 0 k = v.1 0 k) ∧ v'.2 = v.2) : XE W0 P s n pm fo fr ws cs u' v' := by
  obtain ⟨h1, h2, h3, h4, h5, h6, h7, h8, h9, h10, h11, h12, h13⟩ := h
  have g : ∀ q, q = P ∨ q = P + 1 ∨ q = P + 2 ∨ q = P + 3 → u'.1 q = u.1 q := fun q hq => by
    rcases h1 with e | e <;> exact a q (by omega) (by omega) (by omega) (by omega)
  refine ⟨h1, h2, by rw [b, h3], ⟨by rw [b, h4.1], fun q x y z t => by rw [a q x y z t, h4.2.1 q x y z t], by rw [b, h4.2.2.1], fun q x y => by rw [c q x y, h4.2.2.2.1 q x y], fun k x y z t r => by rw [d.1 k x y z t r, h4.2.2.2.2.1 k x y z t r], by rw [d.2, h4.2.2.2.2.2]⟩, by rw [d.1 18 (by decide) (by decide) (by decide) (by decide) (by decide), h5], h6, by rw [g P (by omega), h7], by rw [g P (by omega), h8], h9, fun i hi => by rw [g (P + 1) (by omega), h10 i hi], h11, fun i hi => ?_, fun i hi => ?_⟩
  · rw [c 12 (by decide) (by omega), c 13 (by decide) (by omega), c 14 (by decide) (by omega)]
    exact h12 i hi
  · rw [g (P + 2) (by omega), g (P + 3) (by omega), c 10 (by decide) (by omega), c 11 (by decide) (by omega)]
    exact h13 i hi
/-- the class's words -/
theorem nextW {W0 : q_W × q_W} {P s n : Nat} {pm fo fr : Nat → Nat} {ws : List Int32} {cs : List Tr} {u v : q_W} (h : XE W0 P s n pm fo fr ws cs u v) {a : Nat} (ha : u.1 31 7 = nI a) (hl : a < ws.length) : fX1_nextWord u = some (ws.getD a 0, q_sI u 31 7 (nI (a + 1))) := by
  obtain ⟨h1, h2, h3, h4, h5, h6, h7, h8, h9, h10, _⟩ := h
  unfold fX1_nextWord fX4_wordAt
  rw [h3, if_pos (isP_c h1), if_pos (isP_c h1), ha, if_neg (nI_pos (by omega)), h8, if_neg (by rw [nI_leI (by omega) (by omega)]; omega), if_neg (by rw [show (2000 : Int32) = nI 2000 from rfl, nI_leI (by omega) (by omega)]; omega), if_pos (q_inb_nI (by omega) (by omega)), q_b_some, ha, nI_1, q_lt_eq, isP_0 h1, q_ix_nI (by omega), h10 a hl]
theorem XE_7 {W0 : q_W × q_W} {P s n : Nat} {pm fo fr : Nat → Nat} {ws : List Int32} {cs : List Tr} {u v : q_W} (h : XE W0 P s n pm fo fr ws cs u v) (k : Nat) (x : Int32) : XE W0 P s n pm fo fr ws cs (q_sI u 31 k x) v :=
  XE_keep h (fun q a _ _ _ => sI_cell _ _ _ _ _ (by omega)) rfl (fun _ _ _ => rfl) ⟨fun _ _ _ _ _ _ => rfl, rfl⟩
theorem push_c {u : q_W} {t : Nat} (h : u.1 31 8 = nI t) (ht : t < 64) (x : Int32) : fX1_push x u = some ((), q_sI (q_sI u 32 t x) 31 8 (nI (t + 1))) := by
  unfold fX1_push
  rw [h, if_neg (nI_pos (by omega)), if_neg (by rw [show (64 : Int32) = nI 64 from rfl, nI_leI (by omega) (by omega)]; omega), q_lt_eq, if_pos (q_inb_nI ht (by omega)), q_lt_eq, q_lt_eq, q_ix_nI (by omega), sI_cell _ _ _ _ 31 (by decide), h, nI_1]
theorem pop_c {u : q_W} {t : Nat} (h : u.1 31 8 = nI (t + 1)) (ht : t < 64) : fX1_pop u = some (u.1 32 t, q_sI u 31 8 (nI t)) := by
  unfold fX1_pop
  rw [h, if_neg (nI_nle (by omega) (by omega)), if_pos (by rw [show (64 : Int32) = nI 64 from rfl, nI_leI (by omega) (by omega)]; omega), nI_s1, q_lt_eq, sI_same, q_lt_eq, if_pos (q_inb_nI ht (by omega)), q_ix_nI (by omega), sI_cell _ _ _ _ 32 (by decide)]
/-- names, values, piles -/
def okS (m : Nat) (σ : SS) : Prop := σ.2.2.1 ≤ 8 ∧ m ≤ σ.2.2.1 ∧ m ≤ 2 ∧ (∀ j, j < σ.2.2.1 → σ.2.2.2 j < 8) ∧ (∀ j, j < m → σ.2.2.2 j = j) ∧ ∀ i j, i < j → j < σ.2.2.1 → σ.2.2.2 i < σ.2.2.2 j
def VLS (m d : Nat) (σ : SS) (u v : q_W) : Prop := ∀ j, j < σ.2.2.1 → u.1 33 (8 * d + j) = v.1 23 (16 * d + σ.2.2.2 j) ∧ (m ≤ j → u.1 34 (8 * d + j) = v.1 23 (16 * d + 8 + σ.2.2.2 j) ∧ u.1 33 (8 * d + j) ≤ u.1 34 (8 * d + j))
def ofs (a : Option Nat) : Nat := if a = some 0 ∨ a = some 1 then 1 else 0
def SKS (σ : SS) (u v : q_W) : Prop := σ.1 ≤ 40 ∧ u.1 31 8 = nI (ofs σ.2.1 + σ.1) ∧ v.1 0 48 = nI σ.1 ∧ (∀ j, j < σ.1 → u.1 32 (ofs σ.2.1 + j) = v.1 25 j) ∧ (∀ a, a < 2 → σ.2.1 = some a → u.1 32 0 = nI a) ∧ (σ.2.1 = some 7 → v.1 25 0 = 0 ∨ v.1 25 0 = 1)
theorem ofs_le (a : Option Nat) : ofs a ≤ 1 := by
  unfold ofs
  by_cases h : a = some 0 ∨ a = some 1
  · rw [if_pos h]; exact Nat.le_refl 1
  · rw [if_neg h]; exact Nat.zero_le 1
theorem ofs_none : ofs none = 0 := rfl
theorem ofs_7 : ofs (some 7) = 0 := rfl
theorem ofs_8 : ofs (some 8) = 0 := rfl
/-- rows -/
def RWS (W0 : q_W × q_W) (b0 M0 rC rR k : Nat) (u v : q_W) : Prop := b0 + rC ≤ 480 ∧ rR ≤ 120 ∧ rR ≤ M0 + rC ∧ k ≤ rC ∧ M0 + k ≤ rR ∧ u.1 9 2 = nI (b0 + k) ∧ u.1 9 3 = nI (b0 + rC) ∧ v.1 0 40 = nI (M0 + k) ∧ v.1 0 41 = nI rR ∧ ((∀ j, j < b0 → u.1 10 j = W0.1.1 10 j) ∧ (∀ j, j < 6 * b0 → u.1 11 j = W0.1.1 11 j) ∧ (∀ j, j < M0 → v.1 21 j = W0.2.1 21 j) ∧ ∀ j, j < 6 * M0 → v.1 22 j = W0.2.1 22 j) ∧ ∀ j, j < k → ∃ c, c ≤ 3 ∧ u.1 10 (b0 + j) = nI c ∧ v.1 21 (M0 + j) = nI c ∧ (∀ i, i < nums c → u.1 11 (6 * (b0 + j) + i) = v.1 22 (6 * (M0 + j) + i)) ∧ fitsB (fun i => u.1 11 (6 * (b0 + j) + i)) c 0 = true
def pgE (pg : Nat → List AI) (pm : Nat → Nat) (p i : Nat) : SS := ssA (pg p) (pS (pm p)) i
/-- the callers -/
def FRS (s n : Nat) (pm fo fr : Nat → Nat) (pg : Nat → List AI) (u v : q_W) (p : Nat) (fs : List (Nat × Nat)) : Prop := match fs with
  | [] => True
  | x :: fs => p < x.1 ∧ x.1 < n ∧ 1 ≤ x.2 ∧ x.2 ≤ (pg x.1).length ∧ u.1 35 fs.length = nI (fo x.1 + wo (pg x.1) x.2) ∧ v.1 24 fs.length = nI (2000 * s + (fr x.1 + (x.2 - 1))) ∧ (pgE pg pm x.1 x.2).1 = 0 ∧ (pgE pg pm x.1 x.2).2.1 = none ∧ okS (pm x.1) (pgE pg pm x.1 x.2) ∧ VLS (pm x.1) fs.length (pgE pg pm x.1 x.2) u v ∧ FRS s n pm fo fr pg u v x.1 fs
theorem FRS_len {s n : Nat} {pm fo fr : Nat → Nat} {pg : Nat → List AI} {u v : q_W} : ∀ (fs : List (Nat × Nat)) (p : Nat), p < n → FRS s n pm fo fr pg u v p fs → p + fs.length < n := by
  intro fs
  induction fs with
  | nil => intro p hp _; exact hp
  | cons x fs ih =>
    intro p hp h
    have := ih x.1 h.2.1 h.2.2.2.2.2.2.2.2.2.2
    show p + (fs.length + 1) < n
    have := h.1
    omega
theorem VLS_keep {m d : Nat} {σ : SS} {u v u' v' : q_W} (h : VLS m d σ u v) (ho : okS m σ) (a : ∀ j, j < 8 → u'.1 33 (8 * d + j) = u.1 33 (8 * d + j) ∧ u'.1 34 (8 * d + j) = u.1 34 (8 * d + j)) (b : ∀ j, j < 16 → v'.1 23 (16 * d + j) = v.1 23 (16 * d + j)) : VLS m d σ u' v' := by
  intro j hj
  obtain ⟨h1, h2⟩ := h j hj
  have hs := ho.2.2.2.1 j hj
  have := ho.1
  obtain ⟨a1, a2⟩ := a j (by omega)
  have b1 := b (σ.2.2.2 j) (by omega)
  have b2 := b (8 + σ.2.2.2 j) (by omega)
  rw [← Nat.add_assoc] at b2
  rw [a1, a2, b1, b2]
  exact ⟨h1, h2⟩
theorem FRS_keep {s n : Nat} {pm fo fr : Nat → Nat} {pg : Nat → List AI} {u v u' v' : q_W} : ∀ (fs : List (Nat × Nat)) (p : Nat), FRS s n pm fo fr pg u v p fs → (∀ k, k < fs.length → u'.1 35 k = u.1 35 k ∧ v'.1 24 k = v.1 24 k) → (∀ j, j < 8 * fs.length → u'.1 33 j = u.1 33 j ∧ u'.1 34 j = u.1 34 j) → (∀ j, j < 16 * fs.length → v'.1 23 j = v.1 23 j) → FRS s n pm fo fr pg u' v' p fs := by
  intro fs
  induction fs with
  | nil => intro p _ _ _ _; trivial
  | cons x fs ih =>
    intro p h a b c
    have hl : (x :: fs).length = fs.length + 1 := rfl
    rw [hl] at a b c
    obtain ⟨h1, h2, h3, h4, h5, h6, h7, h8, h9, h10, h11⟩ := h
    obtain ⟨a1, a2⟩ := a fs.length (by omega)
    exact ⟨h1, h2, h3, h4, by rw [a1, h5], by rw [a2, h6], h7, h8, h9, VLS_keep h10 h9 (fun j hj => b _ (by omega)) (fun j hj => c _ (by omega)), ih x.1 h11 (fun k hk => a k (by omega)) (fun j hj => b j (by omega)) (fun j hj => c j (by omega))⟩
/-- the state of both runs -/
def XS (W0 : q_W × q_W) (P s n : Nat) (pm fo fr : Nat → Nat) (pg : Nat → List AI) (ws : List Int32) (cs : List Tr) (b0 D0 M0 rC rR : Nat) (fs : List (Nat × Nat)) (p i D k : Nat) (u v : q_W) : Prop :=
  XE W0 P s n pm fo fr ws cs u v ∧ p < n ∧ i ≤ (pg p).length ∧ u.1 31 7 = nI (fo p + wo (pg p) i) ∧ u.1 31 9 = nI fs.length ∧ u.1 31 10 = nI D ∧ v.1 0 39 = nI (D0 + D) ∧ D0 + D ≤ 2000 ∧ u.1 31 12 = 0 ∧ u.1 31 13 = 0 ∧ ((pgE pg pm p i).2.1 ≠ none → u.1 31 11 = v.1 0 44) ∧ okS (pm p) (pgE pg pm p i) ∧ VLS (pm p) fs.length (pgE pg pm p i) u v ∧ SKS (pgE pg pm p i) u v ∧ RWS W0 b0 M0 rC rR k u v ∧ FRS s n pm fo fr pg u v p fs
/-- some steps of the class -/
def STC (j : Nat) (u u' : q_W) : Prop := match j with
  | 0 => u = u'
  | j + 1 => u.1 31 13 = 0 ∧ ∃ u1, fX1_step u = some ((), u1) ∧ STC j u1 u'
theorem STC_t {u1 u2 : q_W} {j : Nat} : ∀ (i : Nat) (u : q_W), STC i u u1 → STC j u1 u2 → STC (i + j) u u2 := by
  intro i
  induction i with
  | zero => intro u h g; rw [show u = u1 from h, Nat.zero_add]; exact g
  | succ i ih =>
    intro u h g
    obtain ⟨h1, w, h2, h3⟩ := h
    rw [show i + 1 + j = (i + j) + 1 by omega]
    exact ⟨h1, w, h2, ih w h3 g⟩
def CLQ (q1 q5 N : Nat) (x : Int32) (u : q_W) : Option (Int32 × q_W) := q_it N (fX1_perform_h73 q1 q5) (fun _ _ => none) x u
def RLQ (M : Nat) (d x : Int32) (v : q_W) : Option (Int32 × q_W) := q_it M fX11_does_h38 (fun _ _ _ => none) d x v
theorem CLQ_S {q1 q5 : Nat} : ∀ (j N c : Nat) (u u' : q_W), STC j u u' → c + j ≤ 10000000 → CLQ q1 q5 (N + j) (nI c) u = CLQ q1 q5 N (nI (c + j)) u' := by
  intro j
  induction j with
  | zero => intro N c u u' h _; rw [show u = u' from h]; rfl
  | succ j ih =>
    intro N c u u' h hc
    obtain ⟨h1, w, h2, h3⟩ := h
    have := ih N (c + 1) w u' h3 (by omega)
    rw [show c + (j + 1) = c + 1 + j by omega, ← this]
    show CLQ q1 q5 (N + j + 1) (nI c) u = _
    unfold CLQ
    rw [q_itS, fX1_perform_h73, if_neg (by rw [show (10000000 : Int32) = nI 10000000 from rfl, nI_leI (by omega) (by omega)]; omega), h1, if_pos rfl, h2, q_b_some, q_lt_eq, nI_1]
theorem CLQ_end {q1 q5 N : Nat} {x : Int32} {u : q_W} (h : u.1 31 13 = 1) : CLQ q1 q5 (N + 1) x u = some (u.1 31 12, u) := by
  unfold CLQ
  rw [q_itS, fX1_perform_h73, h, if_neg i_10]
  by_cases c : 10000000 ≤ x
  · rw [if_pos c]
  · rw [if_neg c]
