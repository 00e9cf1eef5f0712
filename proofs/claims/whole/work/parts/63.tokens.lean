/-! both cut the same tokens -/
theorem sgR_ge (c : Nat) (nx : Bool) : 3 ≤ sgR c nx ∧ sgR c nx ≤ 17 := by
  unfold sgR
  repeat (first | (constructor <;> decide) | split)
theorem tokP_r {n : Nat} {B : Nat → Nat} {i r e : Nat} {x : Int32} {s : Int64} (h : tokP n B i r e x s) : (1 ≤ r ∧ r ≤ 17) ∨ (20 ≤ r ∧ r ≤ 34) := by
  rcases h with ⟨_, _, h1, h2⟩ | ⟨_, _, _, h1, h2⟩ | ⟨_, _, h1, _⟩
  · by_cases h8 : e - i ≤ 8
    · rw [(h1 h8).2]
      rcases (words_eq (nL B i (e - i))).2 with ⟨a, b, _⟩ | c
      · exact Or.inr ⟨a, b⟩
      · rw [c]; exact Or.inl ⟨by decide, by decide⟩
    · rw [h2 (by omega)]; exact Or.inl ⟨by decide, by decide⟩
  · by_cases h4 : e - i ≤ 4
    · rw [(h1 h4).1]; exact Or.inl ⟨by decide, by decide⟩
    · rw [h2 (by omega)]; exact Or.inl ⟨by decide, by decide⟩
  · have := sgR_ge (B i) (decide (i + 1 < n ∧ B (i + 1) = 61))
    rw [h1]; exact Or.inl ⟨by omega, by omega⟩
theorem km_go : ∀ r, r < 35 → (r ≤ 17 ∧ 1 ≤ r ∨ 20 ≤ r) → r ≠ 3 → km r ≠ 0 ∧ km r ≠ -1 := by decide +kernel
theorem stC_id (w : q_W) (x : Int32) (s : Int64) (h1 : w.1 24 4 = x) (h2 : w.2.2 24 5 = s) : stC w x s = w := by
  unfold stC q_sI q_sL
  refine Prod.ext (funext fun a => funext fun b => ?_) (Prod.ext rfl (funext fun a => funext fun b => ?_))
  · show (if a = 24 ∧ b = 4 then x else w.1 a b) = w.1 a b
    by_cases h : a = 24 ∧ b = 4
    · rw [if_pos h, h.1, h.2, h1]
    · rw [if_neg h]
  · show (if a = 24 ∧ b = 5 then s else w.2.2 a b) = w.2.2 a b
    by_cases h : a = 24 ∧ b = 5
    · rw [if_pos h, h.1, h.2, h2]
    · rw [if_neg h]
theorem tokenC_end {n : Nat} {B : Nat → Nat} {w : q_W} (T : TXC n B w) (s : Int64) : fX7_scanToken (stC w (nI n) s) = some (0, stC w (nI n) 0) := by
  have hn := T.2.1
  unfold fX7_scanToken
  rw [stC_x, byteAt_ok (TXC_st T _ _) (by omega), q_b_some, stC_ws, q_lt_eq]
  have e : bC n B n = -1 := if_neg (Nat.lt_irrefl n)
  rw [e, if_neg (by decide)]
theorem tokenC {n : Nat} {B : Nat → Nat} {w : q_W} (T : TXC n B w) (hw : wordsC w) (s0 : Int64) {i r e : Nat} {x : Int32} {s : Int64} (hi : i < n) (he : e ≤ n) (h : tokP n B i r e x s) : ∃ s', fX7_scanToken (stC w (nI i) s0) = some (km r, stC w (nI e) s') ∧ (r = 1 → ∃ l, okL l ∧ s' = lN (q2 l) ∧ s = lN (r2 l)) ∧ (r = 2 → ∃ y, y < 10000 ∧ s' = lN y ∧ x = nI y) := by
  have hn := T.2.1
  have hB : ∀ i, i < n → B i < 256 := fun i hi => (T.2.2 i hi).2
  have hb := hB i hi
  have er : bC n B i = nI (B i) := by unfold bC; rw [if_pos hi]
  have eL := letC hB i (stC w (nI i) 0)
  have eD := digC hB i (stC w (nI i) 0)
  rw [er] at eL eD
  unfold fX7_scanToken
  rw [stC_x, byteAt_ok (TXC_st T _ _) (by omega), q_b_some, stC_ws, q_lt_eq, er, if_pos (nI_pos' (by omega)), eL, q_b_some]
  rcases h with ⟨hl, hr, h1, h2⟩ | ⟨hl, hd, hr, h1, h2⟩ | ⟨hl, hd, h1, h2⟩
  · obtain ⟨s', e1, e2⟩ := scanNameC T hw (i := i) (j := e) (by omega) hr
    rw [hl, if_neg b01_t, e1, q_b_some]
    by_cases h8 : e - i ≤ 8
    · obtain ⟨g1, g2⟩ := h1 h8
      obtain ⟨k1, k2⟩ := words_eq (nL B i (e - i))
      refine ⟨s', by rw [if_pos h8, g2, k1], fun _ => ⟨nL B i (e - i), ⟨by rw [nL_len]; exact h8, nL_mem _ (fun k a b => (alP_ok (hr.2.1 k a (by omega))).2)⟩, e2 h8, g1⟩, fun c => ?_⟩
      exfalso
      rw [g2] at c
      rcases k2 with ⟨a, _, _⟩ | a
      · omega
      · omega
    · have := h2 (by omega)
      subst this
      exact ⟨s', by rw [if_neg h8]; rfl, fun c => absurd c (by decide), fun c => absurd c (by decide)⟩
  · obtain ⟨s', e1, e2⟩ := scanIntC T (i := i) (j := e) (by omega) hr
    rw [hl, if_pos b01_f, eD, q_b_some, hd, if_neg b01_t, e1, q_b_some]
    by_cases h4 : e - i ≤ 4
    · obtain ⟨g1, g2⟩ := h1 h4
      subst g1
      refine ⟨s', by rw [if_pos h4]; rfl, fun c => absurd c (by decide), fun _ => ⟨v2 (nL B i (e - i)), ?_, e2 h4, g2⟩⟩
      have hv := v2_lt (nL B i (e - i)) (nL_mem _ (fun k a b => (dgP_ok (hr.2.1 k a (by omega))).2))
      rw [nL_len] at hv
      have hp : 10 ^ (e - i) ≤ 10 ^ 4 := Nat.pow_le_pow_right (by decide) h4
      omega
    · have := h2 (by omega)
      subst this
      exact ⟨s', by rw [if_neg h4]; rfl, fun c => absurd c (by decide), fun c => absurd c (by decide)⟩
  · have hg := sgR_ge (B i) (decide (i + 1 < n ∧ B (i + 1) = 61))
    rw [hl, if_pos b01_f, eD, q_b_some, hd, if_pos b01_f, signC T 0 hi, q_b_some, sg_all _ hb, ← h1, ← h2]
    exact ⟨0, rfl, fun c => by omega, fun c => by omega⟩
def tokOK (u v : q_W) (t : Nat) : Prop := ∃ r, ((1 ≤ r ∧ r ≤ 17) ∨ (20 ≤ r ∧ r ≤ 34) ∨ r = 0) ∧ v.1 3 t = nI r ∧ u.1 26 t = km r ∧ v.1 4 t = u.1 27 t ∧ (r = 1 → ∃ l, okL l ∧ u.2.2 28 t = lN (q2 l) ∧ v.2.2 6 t = lN (r2 l)) ∧ (r = 2 → ∃ y, y < 10000 ∧ u.2.2 28 t = lN y ∧ v.1 5 t = nI y)
def entC (t : Nat) (u u' : q_W) : Prop := ∀ j, j < t → u'.1 26 j = u.1 26 j ∧ u'.1 27 j = u.1 27 j ∧ u'.2.2 28 j = u.2.2 28 j
def entR (t : Nat) (v v' : q_W) : Prop := ∀ j, j < t → v'.1 3 j = v.1 3 j ∧ v'.1 4 j = v.1 4 j ∧ v'.1 5 j = v.1 5 j ∧ v'.2.2 6 j = v.2.2 6 j
theorem tok_mono {u u' v v' : q_W} {j t t' : Nat} (h : tokOK u v j) (hc : entC t u u') (hr : entR t' v v') (h1 : j < t) (h2 : j < t') : tokOK u' v' j := by
  obtain ⟨a1, a2, a3⟩ := hc j h1
  obtain ⟨b1, b2, b3, b4⟩ := hr j h2
  unfold tokOK
  rw [a1, a2, a3, b1, b2, b3, b4]
  exact h
def scF (u u' : q_W) : Prop := (∀ q, q ≠ 24 → q ≠ 26 → q ≠ 27 → u'.1 q = u.1 q) ∧ u'.2.1 = u.2.1 ∧ ∀ q, q ≠ 24 → q ≠ 28 → u'.2.2 q = u.2.2 q
theorem scF_r (u : q_W) : scF u u := ⟨fun _ _ _ _ => rfl, rfl, fun _ _ _ => rfl⟩
theorem scF_t {a b c : q_W} (h : scF a b) (h' : scF b c) : scF a c := ⟨fun q x y z => (h'.1 q x y z).trans (h.1 q x y z), h'.2.1.trans h.2.1, fun q x y => (h'.2.2 q x y).trans (h.2.2 q x y)⟩
theorem scF_st (w : q_W) (x : Int32) (s : Int64) : scF w (stC w x s) := ⟨fun q h _ _ => stC_c _ _ _ _ h, rfl, fun q h _ => funext fun k => stC_l _ _ _ _ _ (fun c => h c.1)⟩
def ctF (v v' : q_W) : Prop := (∀ q, q ≠ 0 → q ≠ 3 → q ≠ 4 → q ≠ 5 → v'.1 q = v.1 q) ∧ (∀ j, j ≠ 10 → v'.1 0 j = v.1 0 j) ∧ v'.2.1 = v.2.1 ∧ ∀ q, q ≠ 6 → v'.2.2 q = v.2.2 q
theorem ctF_r (v : q_W) : ctF v v := ⟨fun _ _ _ _ _ => rfl, fun _ _ => rfl, rfl, fun _ _ => rfl⟩
theorem ctF_t {a b c : q_W} (h : ctF a b) (h' : ctF b c) : ctF a c := ⟨fun q x y z u => (h'.1 q x y z u).trans (h.1 q x y z u), fun j x => (h'.2.1 j x).trans (h.2.1 j x), h'.2.2.1.trans h.2.2.1, fun q x => (h'.2.2.2 q x).trans (h.2.2.2 q x)⟩
theorem ctF_tk {w w' : q_W} {t : Nat} {k p x : Int32} {s : Int64} (h : tkF w w' t k p x s) : ctF w w' := ⟨h.2.2.1, h.2.1, h.2.2.2.2.2.2.1, fun q hq => funext fun j => by rw [h.2.2.2.2.2.2.2 q j, if_neg (fun c => hq c.1)]⟩
theorem entR_tk {w w' : q_W} {t : Nat} {k p x : Int32} {s : Int64} (h : tkF w w' t k p x s) : entR t w w' := fun j hj => ⟨by rw [h.2.2.2.1, if_neg (by omega)], by rw [h.2.2.2.2.1, if_neg (by omega)], by rw [h.2.2.2.2.2.1, if_neg (by omega)], by rw [h.2.2.2.2.2.2.2, if_neg (by omega)]⟩
theorem entR_t {t t' : Nat} {a b c : q_W} (h : entR t a b) (h' : entR t' b c) (ht : t ≤ t') : entR t a c := fun j hj => by
  obtain ⟨a1, a2, a3, a4⟩ := h j hj
  obtain ⟨b1, b2, b3, b4⟩ := h' j (by omega)
  exact ⟨b1.trans a1, b2.trans a2, b3.trans a3, b4.trans a4⟩
theorem entC_t {t t' : Nat} {a b c : q_W} (h : entC t a b) (h' : entC t' b c) (ht : t ≤ t') : entC t a c := fun j hj => by
  obtain ⟨a1, a2, a3⟩ := h j hj
  obtain ⟨b1, b2, b3⟩ := h' j (by omega)
  exact ⟨b1.trans a1, b2.trans a2, b3.trans a3⟩
theorem TXR_ct {n : Nat} {B : Nat → Nat} {v v' : q_W} (f : ctF v v') (h : TXR n B v) : TXR n B v' := by
  unfold TXR at *
  rw [f.2.1 4 (by decide), f.1 2 (by decide) (by decide) (by decide) (by decide)]
  exact h
theorem keys_ct {v v' : q_W} (f : ctF v v') (h : keysR v) : keysR v' := by
  unfold keysR at *
  rw [f.2.2.2 7 (by decide)]
  exact h
theorem TXC_sc {n : Nat} {B : Nat → Nat} {u u' : q_W} (f : scF u u') (h : TXC n B u) : TXC n B u' := by
  unfold TXC at *
  rw [f.1 1 (by decide) (by decide) (by decide), f.1 2 (by decide) (by decide) (by decide)]
  exact h
theorem words_sc {u u' : q_W} (f : scF u u') (h : wordsC u) : wordsC u' := by
  unfold wordsC at *
  rw [f.2.2 25 (by decide) (by decide)]
  exact h
/-- the reference cuts on to the end -/
theorem restR {n : Nat} {B : Nat → Nat} : ∀ d i t (v : q_W) M, n ≤ i + d → i ≤ n → d + 1 < M → t ≤ 501 → TXR n B v → keysR v → v.1 0 10 = nI t → ∃ v', q_it M fX11_cut_h7 (fun _ _ => none) (nI i) v = some ((), v') ∧ entR t v v' ∧ ctF v v' := by
  intro d
  induction d with
  | zero =>
    intro i t v M h1 h2 h3 ht T hk h
    obtain ⟨M, rfl⟩ : ∃ N, M = N + 1 := ⟨M - 1, by omega⟩
    by_cases h5 : t = 501
    · subst h5
      rw [q_itS, fX11_cut_h7, h, if_pos (by decide)]
      exact ⟨v, rfl, fun _ _ => ⟨rfl, rfl, rfl, rfl⟩, ctF_r v⟩
    · have e : i = n := by omega
      subst e
      obtain ⟨v', e, f⟩ := cutR_end T (q_it M fX11_cut_h7 (fun _ _ => none)) (by omega) h
      rw [q_itS, e]
      exact ⟨v', rfl, entR_tk f, ctF_tk f⟩
  | succ d ih =>
    intro i t v M h1 h2 h3 ht T hk h
    obtain ⟨M, rfl⟩ : ∃ N, M = N + 1 := ⟨M - 1, by omega⟩
    by_cases h5 : t = 501
    · subst h5
      rw [q_itS, fX11_cut_h7, h, if_pos (by decide)]
      exact ⟨v, rfl, fun _ _ => ⟨rfl, rfl, rfl, rfl⟩, ctF_r v⟩
    · by_cases e : i = n
      · subst e
        obtain ⟨v', e, f⟩ := cutR_end T (q_it M fX11_cut_h7 (fun _ _ => none)) (by omega) h
        rw [q_itS, e]
        exact ⟨v', rfl, entR_tk f, ctF_tk f⟩
      · rw [q_itS]
        cases hb : blP n B i with
        | true =>
          rw [cutR_bl T _ (by omega) (by omega) h hb]
          exact ih (i + 1) t v M (by omega) (by omega) (by omega) ht T hk h
        | false =>
          obtain ⟨r, e2, x, s, v1, hp, e3, f, l1, l2⟩ := cutR_st T hk (q_it M fX11_cut_h7 (fun _ _ => none)) (by omega) (by omega) h hb
          rw [e3]
          have f1 := ctF_tk f
          obtain ⟨v', e4, g1, g2⟩ := ih e2 (t + 1) v1 M (by omega) l2 (by omega) (by omega) (TXR_ct f1 T) (keys_ct f1 hk) f.1
          exact ⟨v', e4, entR_t (entR_tk f) g1 (by omega), ctF_t f1 g2⟩
theorem skipR {n : Nat} {B : Nat → Nat} {v : q_W} (T : TXR n B v) {t : Nat} (ht : t ≤ 500) (h : v.1 0 10 = nI t) {j : Nat} (hj : j ≤ n) : ∀ d i M, i + d = j → (∀ k, i ≤ k → k < j → blP n B k = true) → q_it (M + d) fX11_cut_h7 (fun _ _ => none) (nI i) v = q_it M fX11_cut_h7 (fun _ _ => none) (nI j) v := by
  intro d
  induction d with
  | zero => intro i M h1 h2; rw [show i = j by omega, Nat.add_zero]
  | succ d ih =>
    intro i M h1 h2
    rw [show M + (d + 1) = (M + d) + 1 by omega, q_itS, cutR_bl T _ (by omega) ht h (h2 i (by omega) (by omega))]
    exact ih (i + 1) M (by omega) (fun k a b => h2 k (by omega) b)
/-- the class fills up behind the last -/
theorem tailC : ∀ d N t (u : q_W) (last : Int32), t + d = 501 → d < N → (last = 0 ∨ last = -1) → ∃ u', q_it N fX7_scan_h9 (fun _ _ _ => none) last (nI t) u = some ((), u') ∧ entC t u u' ∧ scF u u' := by
  intro d
  induction d with
  | zero =>
    intro N t u last h hN hl
    obtain ⟨N, rfl⟩ : ∃ M, N = M + 1 := ⟨N - 1, by omega⟩
    rw [q_itS, fX7_scan_h9, if_pos (by rw [show (501 : Int32) = nI 501 from rfl, nI_leI (by omega) (by omega)]; omega)]
    exact ⟨u, rfl, fun _ _ => ⟨rfl, rfl, rfl⟩, scF_r u⟩
  | succ d ih =>
    intro N t u last h hN hl
    obtain ⟨N, rfl⟩ : ∃ M, N = M + 1 := ⟨N - 1, by omega⟩
    have ib : q_inb (nI t) 501 := q_inb_nI (by omega) (by omega)
    have goal : ∃ u', fX7_scan_n46 (q_it N fX7_scan_h9 (fun _ _ _ => none)) last (nI t) u = some ((), u') ∧ entC t u u' ∧ scF u u' := by
      unfold fX7_scan_n46
      rw [if_pos ib, q_lt_eq, if_pos ib, q_lt_eq, q_lt_eq, nI_1, q_ix_nI (by omega)]
      obtain ⟨u', e, a, b⟩ := ih N (t + 1) (q_sL (q_sI u 26 t last) 28 t ((q_sI u 26 t last).2.2 24 5)) last (by omega) (by omega) hl
      have f1 : scF u (q_sL (q_sI u 26 t last) 28 t ((q_sI u 26 t last).2.2 24 5)) := by
        refine ⟨fun q h1 h2 h3 => ?_, rfl, fun q h1 h2 => ?_⟩
        · show (q_sI u 26 t last).1 q = _
          rw [sI_cell _ _ _ _ _ h2]
        · funext k
          show (if q = 28 ∧ k = t then _ else u.2.2 q k) = _
          rw [if_neg (fun c => h2 c.1)]
      refine ⟨u', e, entC_t (fun j hj => ⟨?_, ?_, ?_⟩) a (Nat.le_succ t), scF_t f1 b⟩
      · show (q_sI u 26 t last).1 26 j = _
        rw [sI_k _ _ _ _ _ (by omega)]
      · show (q_sI u 26 t last).1 27 j = _
        rw [sI_cell _ _ _ _ _ (by decide)]
      · show (if 28 = 28 ∧ j = t then _ else u.2.2 28 j) = _
        rw [if_neg (by omega)]
    rw [q_itS, fX7_scan_h9, if_neg (by rw [show (501 : Int32) = nI 501 from rfl, nI_leI (by omega) (by omega)]; omega)]
    rcases hl with hl | hl
    · rw [if_pos hl]; exact goal
    · rw [if_neg (by rw [hl]; decide), if_pos hl]; exact goal
