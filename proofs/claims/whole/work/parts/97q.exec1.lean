/-! the executor: expressions -/
theorem getD_app {a b : List Int32} {k : Nat} : (a ++ b).getD (a.length + k) 0 = b.getD k 0 := by
  rw [List.getD_eq_getElem?_getD, List.getElem?_append_right (by omega), show a.length + k - a.length = k by omega, ← List.getD_eq_getElem?_getD]
theorem getD_appL {a b : List Int32} {k : Nat} (h : k < a.length) : (a ++ b).getD k 0 = a.getD k 0 := by
  rw [List.getD_eq_getElem?_getD, List.getElem?_append_left h, ← List.getD_eq_getElem?_getD]
theorem getT_R {a b : List Tr} {k : Nat} : (a ++ b).getD (a.length + k) z3 = b.getD k z3 := by
  rw [List.getD_eq_getElem?_getD, List.getElem?_append_right (by omega), show a.length + k - a.length = k by omega, ← List.getD_eq_getElem?_getD]
theorem lookW {s n : Nat} {pm fo fr : Nat → Nat} {pg : Nat → List AI} {ws : List Int32} {cs : List Tr} (h : PG s pm fo fr pg n ws cs) {p i k : Nat} (hp : p < n) (hi : i < (pg p).length) (hk : k < (itA (pg p) i).1.length) : ws.getD (fo p + wo (pg p) i + k) 0 = (itA (pg p) i).1.getD k 0 ∧ fo p + wo (pg p) i + k < ws.length := by
  obtain ⟨_, _, _, ⟨a, b, h1, h2⟩, _⟩ := h p hp
  have hle := wo_le (W := pg p) (i := i + 1) (by omega)
  rw [wo_s hi] at hle
  have hlt : wo (pg p) i + k < (wds ((pg p).map Prod.fst)).length := by omega
  refine ⟨?_, ?_⟩
  · rw [h1, ← h2, Nat.add_assoc, getD_app, getD_appL (by rw [List.length_append]; omega), getD_appL hlt]
    exact wds_at ((pg p).map Prod.fst) i k (by rw [List.length_map]; exact hi) hk
  · rw [h1, List.length_append, List.length_append, List.length_append, h2]
    omega
theorem lookE {s n : Nat} {pm fo fr : Nat → Nat} {pg : Nat → List AI} {ws : List Int32} {cs : List Tr} (h : PG s pm fo fr pg n ws cs) {p : Nat} (hp : p < n) : ws.getD (fo p + wo (pg p) (pg p).length) 0 = 0 ∧ fo p + wo (pg p) (pg p).length < ws.length := by
  obtain ⟨_, _, _, ⟨a, b, h1, h2⟩, _⟩ := h p hp
  rw [wo_len]
  refine ⟨?_, ?_⟩
  · rw [h1, ← h2, getD_app, getD_appL (by rw [List.length_append]; show _ < _ + 1; omega)]
    have := getD_app (a := wds ((pg p).map Prod.fst)) (b := [0]) (k := 0)
    rw [Nat.add_zero] at this
    rw [this]; rfl
  · rw [h1, List.length_append, List.length_append, List.length_append, h2]
    show _ < _ + (_ + 1 + _)
    omega
theorem trs_at (L : List It) (i : Nat) : (trs L).getD i z3 = (L.getD i ([], z3)).2 := by
  unfold trs
  rw [List.getD_eq_getElem?_getD, List.getElem?_map, List.getD_eq_getElem?_getD]
  cases L[i]? <;> rfl
theorem lookR {s n : Nat} {pm fo fr : Nat → Nat} {pg : Nat → List AI} {ws : List Int32} {cs : List Tr} (h : PG s pm fo fr pg n ws cs) {p i : Nat} (hp : p < n) (hi : i ≤ (pg p).length) : cs.getD (fr p + i) z3 = (if i < (pg p).length then (itA (pg p) i).2 else (18, 0, 0)) ∧ fr p + i < cs.length := by
  obtain ⟨_, _, _, _, ⟨a, b, h1, h2⟩, _⟩ := h p hp
  have hl : (trs ((pg p).map Prod.fst)).length = (pg p).length := by rw [trs_len, List.length_map]
  refine ⟨?_, ?_⟩
  · rw [h1, ← h2, getT_R, getT_app (by rw [List.length_append, hl]; show i < _ + 1; omega)]
    by_cases c : i < (pg p).length
    · rw [if_pos c, getT_app (by rw [hl]; exact c), trs_at]
      rfl
    · rw [if_neg c]
      have e : i = (trs ((pg p).map Prod.fst)).length + 0 := by rw [hl]; omega
      rw [e, getT_R]; rfl
  · rw [h1, List.length_append, List.length_append, List.length_append, hl, h2]
    show _ < _ + (_ + 1 + _)
    omega
def fxC (u u' : q_W) : Prop := (∀ q, q ≠ 31 → q ≠ 32 → u'.1 q = u.1 q) ∧ (∀ k, k ≠ 7 → k ≠ 8 → u'.1 31 k = u.1 31 k) ∧ u'.2 = u.2
def fxR (v v' : q_W) : Prop := (∀ q, q ≠ 0 → q ≠ 25 → v'.1 q = v.1 q) ∧ (∀ k, k ≠ 48 → v'.1 0 k = v.1 0 k) ∧ v'.2 = v.2
theorem fxC_r (u : q_W) : fxC u u := ⟨fun _ _ _ => rfl, fun _ _ _ => rfl, rfl⟩
theorem fxC_t {a b c : q_W} (h : fxC a b) (h' : fxC b c) : fxC a c := ⟨fun q x y => (h'.1 q x y).trans (h.1 q x y), fun k x y => (h'.2.1 k x y).trans (h.2.1 k x y), h'.2.2.trans h.2.2⟩
theorem fxC_7 (u : q_W) (k : Nat) (x : Int32) (h : k = 7 ∨ k = 8) : fxC u (q_sI u 31 k x) := ⟨fun q a _ => sI_cell _ _ _ _ _ a, fun j a b => sI_k _ _ _ _ _ (by omega), rfl⟩
theorem fxC_32 (u : q_W) (k : Nat) (x : Int32) : fxC u (q_sI u 32 k x) := ⟨fun q _ b => sI_cell _ _ _ _ _ b, fun j _ _ => by rw [sI_cell _ _ _ _ 31 (by decide)], rfl⟩
theorem fxR_r (v : q_W) : fxR v v := ⟨fun _ _ _ => rfl, fun _ _ => rfl, rfl⟩
theorem fxR_t {a b c : q_W} (h : fxR a b) (h' : fxR b c) : fxR a c := ⟨fun q x y => (h'.1 q x y).trans (h.1 q x y), fun k x => (h'.2.1 k x).trans (h.2.1 k x), h'.2.2.trans h.2.2⟩
theorem fxR_0 (v : q_W) (x : Int32) : fxR v (q_sI v 0 48 x) := ⟨fun q a _ => sI_cell _ _ _ _ _ a, fun j a => sI_k _ _ _ _ _ a, rfl⟩
theorem fxR_25 (v : q_W) (k : Nat) (x : Int32) : fxR v (q_sI v 25 k x) := ⟨fun q _ b => sI_cell _ _ _ _ _ b, fun j _ => by rw [sI_cell _ _ _ _ 0 (by decide)], rfl⟩
section
variable {W0 : q_W × q_W} {P s n : Nat} {pm fo fr : Nat → Nat} {pg : Nat → List AI} {ws : List Int32} {cs : List Tr} {b0 D0 M0 rC rR : Nat} {fs : List (Nat × Nat)} {p i D k : Nat} {u v : q_W}
theorem XS_ex (h : XS W0 P s n pm fo fr pg ws cs b0 D0 M0 rC rR fs p i D k u v) {i' : Nat} {u' v' : q_W} (hi : i' ≤ (pg p).length) (a : fxC u u') (b : fxR v v') (e7 : u'.1 31 7 = nI (fo p + wo (pg p) i')) (en : (pgE pg pm p i').2.2 = (pgE pg pm p i).2.2) (hs : SKS (pgE pg pm p i') u' v') (hm : (pgE pg pm p i).2.1 = none → (pgE pg pm p i').2.1 = none) : XS W0 P s n pm fo fr pg ws cs b0 D0 M0 rC rR fs p i' D k u' v' := by
  obtain ⟨h1, h2, h3, h4, h5, h6, h7, h8, h9, h10, h11, h12, h13, h14, h15, h16⟩ := h
  refine ⟨XE_keep h1 (fun q x _ _ _ => a.1 q (by omega) (by omega)) (by rw [a.2.2]) (fun q x y => b.1 q x (by omega)) ⟨fun q _ _ _ _ x => b.2.1 q x, b.2.2⟩, h2, hi, e7, by rw [a.2.1 9 (by decide) (by decide), h5], by rw [a.2.1 10 (by decide) (by decide), h6], by rw [b.2.1 39 (by decide), h7], h8, by rw [a.2.1 12 (by decide) (by decide), h9], by rw [a.2.1 13 (by decide) (by decide), h10], fun c => ?_, ?_, ?_, hs, ?_, FRS_keep fs p h16 (fun k _ => ⟨by rw [a.1 35 (by decide) (by decide)], by rw [b.1 24 (by decide) (by decide)]⟩) (fun j _ => ⟨by rw [a.1 33 (by decide) (by decide)], by rw [a.1 34 (by decide) (by decide)]⟩) (fun j _ => by rw [b.1 23 (by decide) (by decide)])⟩
  · rw [a.2.1 11 (by decide) (by decide), b.2.1 44 (by decide)]
    exact h11 (fun e => c (hm e))
  · unfold okS at *
    rw [en]; exact h12
  · unfold VLS at *
    rw [en, a.1 33 (by decide) (by decide), a.1 34 (by decide) (by decide), b.1 23 (by decide) (by decide)]
    exact h13
  · unfold RWS at *
    rw [a.1 9 (by decide) (by decide), a.1 10 (by decide) (by decide), a.1 11 (by decide) (by decide), b.2.1 40 (by decide), b.2.1 41 (by decide), b.1 21 (by decide) (by decide), b.1 22 (by decide) (by decide)]
    exact h15
theorem SKS_top {h h' : Nat} {a : Option Nat} {r : Nat × (Nat → Nat)} {x : Int32} {u v u' v' : q_W} (hs : SKS (h, a, r) u v) (hm : exM a) (h1 : h' ≤ h) (h40 : h' + 1 ≤ 40) (e8 : u'.1 31 8 = nI (ofs a + (h' + 1))) (e48 : v'.1 0 48 = nI (h' + 1)) (eu : ∀ j, u'.1 32 j = if j = ofs a + h' then x else u.1 32 j) (ev : ∀ j, j ≤ h' → v'.1 25 j = if j = h' then x else v.1 25 j) : SKS (h' + 1, a, r) u' v' := by
  obtain ⟨g1, g2, g3, g4, g5, g6⟩ := hs
  refine ⟨h40, e8, e48, fun j hj => ?_, fun b hb e => ?_, fun e => ?_⟩
  · have hj : j < h' + 1 := hj
    show u'.1 32 (ofs a + j) = v'.1 25 j
    rw [eu, ev j (by omega)]
    by_cases c : j = h'
    · rw [if_pos (by omega), if_pos c]
    · rw [if_neg (by omega), if_neg c]
      exact g4 j (show j < h by omega)
  · have e : a = some b := e
    have o1 : ofs a = 1 := by
      unfold ofs
      rw [e, if_pos]
      have : b = 0 ∨ b = 1 := by omega
      rcases this with rfl | rfl
      · exact Or.inl rfl
      · exact Or.inr rfl
    rw [eu, if_neg (by omega)]
    exact g5 b hb e
  · have e : a = some 7 := e
    unfold exM at hm
    rw [e] at hm
    rcases hm with c | c | c <;> cases c
/-- the reference at its place -/
theorem ref_at (hX : XS W0 P s n pm fo fr pg ws cs b0 D0 M0 rC rR fs p i D k u v) (hG : PG s pm fo fr pg n ws cs) (hi : i < (pg p).length) : q_inb (nI (2000 * s + (fr p + i))) 4000 ∧ v.1 12 (q_ix (nI (2000 * s + (fr p + i)))) = (itA (pg p) i).2.1 ∧ v.1 13 (q_ix (nI (2000 * s + (fr p + i)))) = (itA (pg p) i).2.2.1 ∧ v.1 14 (q_ix (nI (2000 * s + (fr p + i)))) = (itA (pg p) i).2.2.2 := by
  obtain ⟨h1, h2, _⟩ := hX
  obtain ⟨e1, e2, _, _, _, _, _, _, _, _, e11, e12, _⟩ := h1
  obtain ⟨l1, l2⟩ := lookR hG h2 (show i ≤ (pg p).length by omega)
  rw [if_pos hi] at l1
  obtain ⟨a, b, c⟩ := e12 _ l2
  rw [q_ix_nI (by omega), a, b, c, l1]
  exact ⟨q_inb_nI (by omega) (by omega), rfl, rfl, rfl⟩
theorem nI_at (x : Nat) : nI x + 1 = nI (x + 1) := nI_1 x
/-- what one step of both may give -/
def phi (pg : Nat → List AI) (pm : Nat → Nat) (p i : Nat) : Nat := if i < (pg p).length ∧ ((itA (pg p) i).2.1 = 8 ∨ (itA (pg p) i).2.1 = 11) then 0 else ((wds ((pg p).map Prod.fst)).length - wo (pg p) i) + 1 + (if (pgE pg pm p i).2.1 = none then 0 else 1700)
def phs (pg : Nat → List AI) (pm : Nat → Nat) (fs : List (Nat × Nat)) : Nat := match fs with
  | [] => 0
  | x :: fs => phi pg pm x.1 x.2 + phs pg pm fs
def pot (pg : Nat → List AI) (pm : Nat → Nat) (fs : List (Nat × Nat)) (p i D : Nat) : Nat := (2000 - D) * 3400 + phi pg pm p i + phs pg pm fs
/-- both go on -/
def OUS (W0 : q_W × q_W) (P s n : Nat) (pm fo fr : Nat → Nat) (pg : Nat → List AI) (ws : List Int32) (cs : List Tr) (b0 D0 M0 rC rR : Nat) (fs : List (Nat × Nat)) (p i D k : Nat) (u v : q_W) : Prop := ∃ j fs' p' i' D' k' u' v', 1 ≤ j ∧ STC j u u' ∧ (∀ rec : Int32 → Int32 → q_W → Option (Int32 × q_W), fX11_does_h38 rec (nI fs.length) (nI (2000 * s + (fr p + i))) v = rec (nI fs'.length) (nI (2000 * s + (fr p' + i'))) v') ∧ XS W0 P s n pm fo fr pg ws cs b0 D0 M0 rC rR fs' p' i' D' k' u' v' ∧ pot pg pm fs' p' i' D' + j ≤ pot pg pm fs p i D ∧ D ≤ D' ∧ k ≤ k' ∧ (i < (pg p).length → (itA (pg p) i).2.1 = 8 ∨ (itA (pg p) i).2.1 = 11 → D + 1 ≤ D') ∧ (i < (pg p).length → (itA (pg p) i).2.1 = 9 → k + 1 ≤ k')
/-- both end -/
def OUE (W0 : q_W × q_W) (P s n : Nat) (pm fo fr : Nat → Nat) (pg : Nat → List AI) (ws : List Int32) (cs : List Tr) (b0 D0 M0 rC rR : Nat) (fs : List (Nat × Nat)) (p i D k : Nat) (u v : q_W) : Prop := ∃ j f u' v', 1 ≤ j ∧ j ≤ 3 ∧ STC j u u' ∧ u'.1 31 13 = 1 ∧ u'.1 31 12 = nI f ∧ f ≤ 4 ∧ (∀ rec : Int32 → Int32 → q_W → Option (Int32 × q_W), fX11_does_h38 rec (nI fs.length) (nI (2000 * s + (fr p + i))) v = some (nI f, v')) ∧ XE W0 P s n pm fo fr ws cs u' v' ∧ (f = 0 → RWS W0 b0 M0 rC rR k u' v' ∧ u'.1 31 10 = nI D ∧ v'.1 0 39 = nI (D0 + D)) ∧ (f ≠ 0 → u'.1 31 11 = v'.1 0 44) ∧ (f = 0 → i = (pg p).length) ∧ ∀ q, q = 9 ∨ q = 10 ∨ q = 11 → u'.1 q = u.1 q
/-- what a run of the reference leaves as it was -/
def FRV (W0 : q_W × q_W) (v : q_W) : Prop := (∀ q, q ≠ 0 → ¬ (21 ≤ q ∧ q ≤ 26) → v.1 q = W0.2.1 q) ∧ (∀ k, k ≠ 39 → k ≠ 40 → k ≠ 41 → k ≠ 44 → k ≠ 48 → v.1 0 k = W0.2.1 0 k) ∧ v.2 = W0.2.2
/-- the reference ends by a limit that the class doesn't have -/
def OUR (W0 : q_W × q_W) (s : Nat) (fr : Nat → Nat) (pg : Nat → List AI) (D0 M0 rC rR : Nat) (fs : List (Nat × Nat)) (p i D k : Nat) (v : q_W) : Prop := (D0 ≠ 0 ∨ M0 ≠ 0 ∨ rC ≠ rR) ∧ i < (pg p).length ∧ (((itA (pg p) i).2.1 = 8 ∨ (itA (pg p) i).2.1 = 11) ∧ D0 + D = 2000 ∨ (itA (pg p) i).2.1 = 9 ∧ M0 + k = rR) ∧ ∃ f v', 1 ≤ f ∧ f ≤ 4 ∧ FRV W0 v' ∧ ∀ rec : Int32 → Int32 → q_W → Option (Int32 × q_W), fX11_does_h38 rec (nI fs.length) (nI (2000 * s + (fr p + i))) v = some (nI f, v')
theorem phi_drop (hi : i < (pg p).length) (hn : ¬ ((itA (pg p) i).2.1 = 8 ∨ (itA (pg p) i).2.1 = 11)) {i' : Nat} (hii : i < i') (hi' : i' ≤ (pg p).length) (hm : (pgE pg pm p i).2.1 = none → (pgE pg pm p i').2.1 = none) {j : Nat} (hj : wo (pg p) i + j ≤ wo (pg p) i') : phi pg pm p i' + j ≤ phi pg pm p i := by
  have l1 := wo_le (W := pg p) (i := i') hi'
  unfold phi
  rw [if_neg (show ¬ (i < (pg p).length ∧ _) from fun c => hn c.2)]
  have hmm : (if (pgE pg pm p i').2.1 = none then 0 else 1700) ≤ (if (pgE pg pm p i).2.1 = none then 0 else 1700) := by
    by_cases c : (pgE pg pm p i).2.1 = none
    · rw [if_pos c, if_pos (hm c)]; exact Nat.le_refl _
    · rw [if_neg c]
      by_cases c' : (pgE pg pm p i').2.1 = none
      · rw [if_pos c']; omega
      · rw [if_neg c']; exact Nat.le_refl _
  by_cases c : i' < (pg p).length ∧ ((itA (pg p) i').2.1 = 8 ∨ (itA (pg p) i').2.1 = 11)
  · rw [if_pos c]; omega
  · rw [if_neg c]; omega
end
