/-! row: the class does each pattern once -/
section
variable {s n t sh : Nat} {pm fo fr : Nat → Nat} {pg : Nat → List AI} {ws : List Int32} {cs : List Tr} {P : Nat}
/-- what the class keeps of pattern p -/
def EP (P S : Nat) (pm : Nat → Nat) (u : q_W) (p : Nat) : Prop :=
  (u.1 39 p = -1 ∧ pm p ≠ 0) ∨ (pm p = 0 ∧ ∃ b f up up', b + 60 ≤ 480 ∧ (∀ q, P ≤ q → q ≤ P + 3 → up.1 q = u.1 q) ∧ up.1 9 2 = nI b ∧ up.1 9 3 = nI (b + 60) ∧ fX1_perform P (nI p) 0 0 9 up = some (nI f, up') ∧ f ≤ 4 ∧ (f ≠ 0 → u.1 39 p = -1) ∧ (f = 0 → ∃ k D, k ≤ 60 ∧ D ≤ 2000 ∧ b + k ≤ S ∧ up'.1 31 10 = nI D ∧ up'.1 9 2 = nI (b + k) ∧ u.1 38 p = nI b ∧ u.1 39 p = nI k ∧ u.1 40 p = nI D ∧ (∀ j, b ≤ j → j < b + k → u.1 10 j = up'.1 10 j) ∧ ∀ j, 6 * b ≤ j → j < 6 * (b + k) → u.1 11 j = up'.1 11 j))
theorem EP_keep {S S' p : Nat} {u u' : q_W} (h : EP P S pm u p) (hS : S ≤ S') (a : ∀ q, P ≤ q → q ≤ P + 3 → u'.1 q = u.1 q) (b : ∀ q, 38 ≤ q → q ≤ 40 → u'.1 q p = u.1 q p) (c : ∀ j, j < S → u'.1 10 j = u.1 10 j) (d : ∀ j, j < 6 * S → u'.1 11 j = u.1 11 j) : EP P S' pm u' p := by
  rcases h with ⟨h1, h2⟩ | ⟨h1, b0, f, up, up', h2, h3, h4, h5, h6, h7, h8, h9⟩
  · exact Or.inl ⟨by rw [b 39 (by decide) (by decide), h1], h2⟩
  · refine Or.inr ⟨h1, b0, f, up, up', h2, fun q x y => by rw [h3 q x y, a q x y], h4, h5, h6, h7, fun e => by rw [b 39 (by decide) (by decide), h8 e], fun e => ?_⟩
    obtain ⟨k, D, k1, k2, k3, k4, k5, k6, k7, k8, k9, k10⟩ := h9 e
    exact ⟨k, D, k1, k2, by omega, k4, k5, by rw [b 38 (by decide) (by decide), k6], by rw [b 39 (by decide) (by decide), k7], by rw [b 40 (by decide) (by decide), k8], fun j x y => by rw [c j (by omega), k9 j x y], fun j x y => by rw [d j (by omega), k10 j x y]⟩
/-- the class notes what a pattern gave -/
def noteE (i : Nat) (s0 : Int32) (w : q_W) : q_W := q_sI (q_sI w 39 i s0) 40 i (w.1 31 10)
theorem noteE_c (i : Nat) (s0 : Int32) (w : q_W) {c : Nat} (h : c ≠ 39) (h' : c ≠ 40) : (noteE i s0 w).1 c = w.1 c := by
  unfold noteE
  rw [sI_cell _ _ _ _ _ h', sI_cell _ _ _ _ _ h]
theorem noteE_o (i : Nat) (s0 : Int32) (w : q_W) {j : Nat} (h : j ≠ i) (c : Nat) : (noteE i s0 w).1 c j = w.1 c j := by
  unfold noteE
  rw [sI_oth _ _ _ _ _ _ (fun e => h e.2), sI_oth _ _ _ _ _ _ (fun e => h e.2)]
theorem noteE_39 (i : Nat) (s0 : Int32) (w : q_W) : (noteE i s0 w).1 39 i = s0 := by
  unfold noteE
  rw [sI_cell _ _ _ _ 39 (by decide), sI_same]
theorem noteE_40 (i : Nat) (s0 : Int32) (w : q_W) : (noteE i s0 w).1 40 i = w.1 31 10 := sI_same _ _ _ _
theorem noteE_f (i : Nat) (s0 : Int32) (w : q_W) : frZc w (noteE i s0 w) := frZc_t (frZc_I (Or.inr (by omega))) (frZc_I (Or.inr (by omega)))
theorem n105_eq {i : Nat} (hi : i < 8) (rec10 : Int32 → q_W → Option (Unit × q_W)) (s0 : Int32) (w : q_W) : fX3_doEach_n105 P rec10 (nI i) s0 (nI i) w = rec10 (nI (i + 1)) (noteE i s0 w) := by
  unfold fX3_doEach_n105 fX1_deedsDone noteE
  rw [if_pos (q_inb_nI hi (by omega)), q_ix_nI (by omega), q_lt_eq, q_b_some, if_pos (q_inb_nI hi (by omega)), q_lt_eq, q_lt_eq, nI_1, sI_cell _ _ _ _ 31 (by decide)]
theorem n76_eq {i : Nat} (hi : i < 8) (rec10 : Int32 → q_W → Option (Unit × q_W)) (w : q_W) : fX3_doEach_n76 P rec10 (nI i) w = rec10 (nI (i + 1)) (noteE i (-1) w) := by
  unfold fX3_doEach_n76 fX3_doEach_n77
  rw [if_pos rfl, n105_eq hi]
theorem allow60 {u : q_W} {S : Nat} (h : u.1 9 2 = nI S) (hS : S ≤ 420) : fX6_allow 9 60 u = some ((), q_sI u 9 3 (nI (S + 60))) := by
  unfold fX6_allow
  rw [if_pos (by decide), q_lt_eq, h, show q_imax (60 : Int32) 0 = nI 60 by decide, nI_add, show (480 : Int32) = nI 480 from rfl, qmin_ok (by omega) (by omega)]
theorem has_no {u v : q_W} (h : PGO P s n pm fo fr pg ws cs u v) (iP : isP P) {p : Nat} (hp : n ≤ p) (hp2 : p < 2 ^ 31) : fX4_has P (nI p) u = some (0, u) := by
  have n8 := h.1
  unfold fX4_has
  rw [if_pos (isP_c iP), if_neg (nI_pos (by omega)), h.2.2.1, if_pos (by rw [nI_leI (by omega) (by omega)]; omega)]
theorem each_lok {v : q_W} : ∀ d N i S (u : q_W), i + d = 8 → d < N → SB P s n t sh pm fo fr pg ws cs u v → S ≤ 60 * i → u.1 9 2 = nI S → (∀ p, p < i → p < n → EP P S pm u p) → ∃ u' S', q_it N (fX3_doEach_h10 P) (fun _ _ => none) (nI i) u = some ((), u') ∧ frZc u u' ∧ S' ≤ 480 ∧ u'.1 9 2 = nI S' ∧ ∀ p, p < n → EP P S' pm u' p := by
  intro d
  induction d with
  | zero =>
    intro N i S u hd hN h hS h92 hE
    obtain ⟨N, rfl⟩ : ∃ z, N = z + 1 := ⟨N - 1, by omega⟩
    have n8 := h.2.2.2.1.1
    refine ⟨u, S, ?_, frZc_r u, by omega, h92, fun p hp => hE p (by omega) hp⟩
    rw [q_itS, fX3_doEach_h10, if_pos (by rw [show (8 : Int32) = nI 8 from rfl, nI_leI (by omega) (by omega)]; omega)]
  | succ d ih =>
    intro N i S u hd hN h hS h92 hE
    obtain ⟨N, rfl⟩ : ∃ z, N = z + 1 := ⟨N - 1, by omega⟩
    have hP : 43 ≤ P := by rcases h.1 with e | e <;> omega
    have hi : i < 8 := by omega
    -- about to perform
    have fW : frZc u (q_sI (q_sI u 9 3 (nI (S + 60))) 38 i (nI S)) := frZc_t (frZc_I (Or.inl (by decide))) (frZc_I (Or.inr (by omega)))
    have wc : ∀ c, c ≠ 9 → c ≠ 38 → (q_sI (q_sI u 9 3 (nI (S + 60))) 38 i (nI S)).1 c = u.1 c := fun c x y => by rw [sI_cell _ _ _ _ _ y, sI_cell _ _ _ _ _ x]
    have w38 : (q_sI (q_sI u 9 3 (nI (S + 60))) 38 i (nI S)).1 38 i = nI S := sI_same _ _ _ _
    have w38' : ∀ j, j ≠ i → (q_sI (q_sI u 9 3 (nI (S + 60))) 38 i (nI S)).1 38 j = u.1 38 j := fun j x => by rw [sI_k _ _ _ _ _ x, sI_cell _ _ _ _ 38 (by decide)]
    have w92 : (q_sI (q_sI u 9 3 (nI (S + 60))) 38 i (nI S)).1 9 2 = nI S := by rw [sI_cell _ _ _ _ 9 (by decide), sI_k _ _ _ _ _ (by decide), h92]
    have w93 : (q_sI (q_sI u 9 3 (nI (S + 60))) 38 i (nI S)).1 9 3 = nI (S + 60) := by rw [sI_cell _ _ _ _ 9 (by decide), sI_same]
    have hst : fX3_doEach_h10 P (q_it N (fX3_doEach_h10 P) (fun _ _ => none)) (nI i) u = q_b (fX4_has P (nI i) (q_sI (q_sI u 9 3 (nI (S + 60))) 38 i (nI S))) fun r6 w7 => if r6 = 0 then fX3_doEach_n76 P (q_it N (fX3_doEach_h10 P) (fun _ _ => none)) (nI i) w7 else q_b (fX4_needs P (nI i) w7) fun r8 w9 => if r8 = 0 then q_b (fX1_perform P (nI i) 0 0 9 w9) fun r10 w11 => if r10 = 0 then fX3_doEach_n77 P (q_it N (fX3_doEach_h10 P) (fun _ _ => none)) (nI i) 1 w11 else fX3_doEach_n76 P (q_it N (fX3_doEach_h10 P) (fun _ _ => none)) (nI i) w11 else fX3_doEach_n76 P (q_it N (fX3_doEach_h10 P) (fun _ _ => none)) (nI i) w9 := by
      unfold fX3_doEach_h10 fX6_size
      rw [if_neg (by rw [show (8 : Int32) = nI 8 from rfl, nI_leI (by omega) (by omega)]; omega), allow60 h92 (by omega), q_b_some, if_pos (by decide), q_b_some, if_pos (q_inb_nI hi (by omega)), q_ix_nI (by omega), sI_k _ _ _ _ _ (by decide), h92, q_lt_eq]
    generalize q_sI (q_sI u 9 3 (nI (S + 60))) 38 i (nI S) = w at *
    have hW := SB_keep h fW (frV_r v)
    obtain ⟨i1, i2, i3, i4, _⟩ := hW
    have old : ∀ (w1 : q_W) (s0 : Int32) (S' : Nat), S ≤ S' → (∀ c, ¬ (9 ≤ c ∧ c ≤ 11) → ¬ (31 ≤ c ∧ c ≤ 36) → w1.1 c = w.1 c) → (∀ j, j < S → w1.1 10 j = w.1 10 j) → (∀ j, j < 6 * S → w1.1 11 j = w.1 11 j) → ∀ p, p < i → p < n → EP P S' pm (noteE i s0 w1) p := by
      intro w1 s0 S' hS' a b c p hp hpn
      refine EP_keep (hE p hp hpn) hS' (fun q x y => ?_) (fun q x y => ?_) (fun j x => ?_) (fun j x => ?_)
      · rw [noteE_c _ _ _ (by omega) (by omega), a q (by omega) (by omega), wc q (by omega) (by omega)]
      · rw [noteE_o _ _ _ (by omega), a q (by omega) (by omega)]
        by_cases e : q = 38
        · subst e; exact w38' p (by omega)
        · rw [wc q (by omega) e]
      · rw [noteE_c _ _ _ (by decide) (by decide), b j x, wc 10 (by decide) (by decide)]
      · rw [noteE_c _ _ _ (by decide) (by decide), c j x, wc 11 (by decide) (by decide)]
    have hno : ∀ (w1 : q_W) (s0 : Int32) (S' : Nat), frZc w w1 → S ≤ S' → S' ≤ S + 60 → w1.1 9 2 = nI S' → (∀ p, p < i + 1 → p < n → EP P S' pm (noteE i s0 w1) p) → ∃ u' S', q_it N (fX3_doEach_h10 P) (fun _ _ => none) (nI (i + 1)) (noteE i s0 w1) = some ((), u') ∧ frZc u u' ∧ S' ≤ 480 ∧ u'.1 9 2 = nI S' ∧ ∀ p, p < n → EP P S' pm u' p := by
      intro w1 s0 S' a b c e hE'
      have f2 : frZc u (noteE i s0 w1) := frZc_t fW (frZc_t a (noteE_f i s0 w1))
      obtain ⟨u', S2, z1, z2, z3, z4, z5⟩ := ih N (i + 1) S' _ (by omega) (by omega) (SB_keep h f2 (frV_r v)) (by omega) (by rw [noteE_c _ _ _ (by decide) (by decide), e]) hE'
      exact ⟨u', S2, z1, frZc_t f2 z2, z3, z4, z5⟩
    rw [q_itS, hst]
    by_cases hin : i < n
    · obtain ⟨j1, j2, j3⟩ := needs_SB i4 i1 hin
      rw [j2, q_b_some, if_neg i_10, j1, q_b_some]
      by_cases hpm : pm i = 0
      · rw [hpm, if_pos (show nI 0 = 0 from rfl)]
        have f2 : frV v (q_sI (q_sI (q_sI v 0 39 0) 0 40 0) 0 41 60) := frV_t (frV_t (frV_I (by decide)) (frV_I (by decide))) (frV_I (by decide))
        obtain ⟨k1, k2, k3, k4, _⟩ := SB_keep h fW f2
        have v39 : (q_sI (q_sI (q_sI v 0 39 0) 0 40 0) 0 41 60).1 0 39 = 0 := by rw [sI_k _ _ _ _ _ (by decide), sI_k _ _ _ _ _ (by decide), sI_same]
        have v40 : (q_sI (q_sI (q_sI v 0 39 0) 0 40 0) 0 41 60).1 0 40 = nI 0 := by rw [sI_k _ _ _ _ _ (by decide), sI_same]; rfl
        have v41 : (q_sI (q_sI (q_sI v 0 39 0) 0 40 0) 0 41 60).1 0 41 = nI 60 := sI_same _ _ _ _
        generalize q_sI (q_sI (q_sI v 0 39 0) 0 40 0) 0 41 60 = v2 at *
        have hR : RWS (u31 P w, v2) S 0 60 60 0 w v2 := ⟨by omega, by omega, by omega, by omega, by omega, w92, w93, v40, v41, ⟨fun j hj => rfl, fun j hj => rfl, fun j hj => absurd hj (Nat.not_lt_zero j), fun j hj => absurd hj (by omega)⟩, fun j hj => absurd hj (Nat.not_lt_zero j)⟩
        obtain ⟨f, u3, v3, D', K, e1, e2, g1, g2, g3, g4, g5, g6, m, m1, m2, m3, m4⟩ := perf0 k1 k2 k3 k4 hin 0 0 v39 hR
        have m3 : ∀ j, j < S → u3.1 10 j = w.1 10 j := m3
        have m4 : ∀ j, j < 6 * S → u3.1 11 j = w.1 11 j := m4
        have fu : ∀ c, ¬ (9 ≤ c ∧ c ≤ 11) → ¬ (31 ≤ c ∧ c ≤ 36) → u3.1 c = w.1 c := fun c x y => g4.2.2.2.1.2.1 c y (by omega) (by omega) (by omega)
        rw [e1, q_b_some]
        by_cases c0 : f = 0
        · subst c0
          obtain ⟨hRf, hD, _, hD2⟩ := g5 rfl
          obtain ⟨_, _, _, R4, _, R6, _, R8, _, _, R10⟩ := hRf
          have hk : K = m := by
            rw [R6] at m2
            have := (nI_eq (show S + K < 2 ^ 31 by omega) (show S + m < 2 ^ 31 by omega)).mp m2
            omega
          subst hk
          have h77 : fX3_doEach_n77 P (q_it N (fX3_doEach_h10 P) (fun _ _ => none)) (nI i) 1 u3 = q_it N (fX3_doEach_h10 P) (fun _ _ => none) (nI (i + 1)) (noteE i (nI K) u3) := by
            unfold fX3_doEach_n77 fX6_size
            rw [if_neg i_10, if_pos (by decide), q_b_some, if_pos (q_inb_nI hi (by omega)), q_ix_nI (by omega), fu 38 (by decide) (by decide), w38, R6, nI_subI (by omega), show S + K - S = K by omega, n105_eq hi]
          rw [if_pos (show nI 0 = 0 from rfl), h77]
          refine hno u3 (nI K) (S + K) (frZc_XE g4) (by omega) (by omega) R6 (fun p hp hpn => ?_)
          by_cases hpi : p < i
          · exact old u3 (nI K) (S + K) (by omega) fu m3 m4 p hpi hpn
          · obtain rfl : p = i := by omega
            refine Or.inr ⟨hpm, S, 0, w, u3, by omega, fun q x y => ?_, w92, w93, e1, by omega, fun e => absurd rfl e, fun _ => ⟨K, D', R4, by omega, Nat.le_refl _, hD, R6, ?_, noteE_39 _ _ _, by rw [noteE_40, hD], fun j _ _ => by rw [noteE_c _ _ _ (by decide) (by decide)], fun j _ _ => by rw [noteE_c _ _ _ (by decide) (by decide)]⟩⟩
            · rw [noteE_c _ _ _ (by omega) (by omega), fu q (by omega) (by omega)]
            · rw [noteE_c _ _ _ (by decide) (by decide), fu 38 (by decide) (by decide), w38]
        · rw [if_neg (nI_ne0 (by omega) (by omega)), n76_eq hi]
          refine hno u3 (-1) (S + m) (frZc_XE g4) (by omega) (by omega) m2 (fun p hp hpn => ?_)
          by_cases hpi : p < i
          · exact old u3 (-1) (S + m) (by omega) fu m3 m4 p hpi hpn
          · obtain rfl : p = i := by omega
            refine Or.inr ⟨hpm, S, f, w, u3, by omega, fun q x y => ?_, w92, w93, e1, g3, fun _ => noteE_39 _ _ _, fun e => absurd e c0⟩
            rw [noteE_c _ _ _ (by omega) (by omega), fu q (by omega) (by omega)]
      · rw [if_neg (nI_ne0 (by omega) (by omega)), n76_eq hi]
        refine hno w (-1) S (frZc_r w) (Nat.le_refl S) (by omega) w92 (fun p hp hpn => ?_)
        by_cases hpi : p < i
        · exact old w (-1) S (Nat.le_refl S) (fun _ _ _ => rfl) (fun _ _ => rfl) (fun _ _ => rfl) p hpi hpn
        · obtain rfl : p = i := by omega
          exact Or.inl ⟨noteE_39 _ _ _, hpm⟩
    · rw [has_no i4 i1 (show n ≤ i by omega) (by omega), q_b_some, if_pos rfl, n76_eq hi]
      exact hno w (-1) S (frZc_r w) (Nat.le_refl S) (by omega) w92 (fun p hp hpn => old w (-1) S (Nat.le_refl S) (fun _ _ _ => rfl) (fun _ _ => rfl) (fun _ _ => rfl) p (by omega) hpn)
theorem each_ok {u v : q_W} (h : SB P s n t sh pm fo fr pg ws cs u v) : ∃ u' S', fX3_doEach P u = some ((), u') ∧ frZc u u' ∧ S' ≤ 480 ∧ u'.1 9 2 = nI S' ∧ ∀ p, p < n → EP P S' pm u' p := by
  have f1 : frZc u (q_sI (q_sI u 9 2 0) 9 3 0) := frZc_t (frZc_I (Or.inl (by decide))) (frZc_I (Or.inl (by decide)))
  obtain ⟨u', S', e1, e2, e3, e4, e5⟩ := each_lok (v := v) 8 q_N 0 0 _ (by omega) (Nat.le_of_ble_eq_true rfl) (SB_keep h f1 (frV_r v)) (Nat.zero_le _) (by rw [sI_k _ _ _ _ _ (by decide), sI_same]; rfl) (fun p hp => absurd hp (Nat.not_lt_zero p))
  rw [nI_0] at e1
  refine ⟨u', S', ?_, frZc_t f1 e2, e3, e4, e5⟩
  unfold fX3_doEach fX3_doEach_l10 fX6_clear fX6_allow
  rw [if_pos (isP_c h.1), if_pos (by decide), q_lt_eq, sI_same, show q_imin ((0 : Int32) + q_imax 0 0) 480 = 0 by decide, if_pos (by decide), q_lt_eq, q_b_some, q_b_some, e1]
end
