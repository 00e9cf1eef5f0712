/-! the executor: any item; a whole run -/
section
variable {W0 : q_W × q_W} {P s n : Nat} {pm fo fr : Nat → Nat} {pg : Nat → List AI} {ws : List Int32} {cs : List Tr} {b0 D0 M0 rC rR : Nat}
theorem step_all {fs : List (Nat × Nat)} {p i D k : Nat} {u v : q_W} (hX : XS W0 P s n pm fo fr pg ws cs b0 D0 M0 rC rR fs p i D k u v) (hG : PG s pm fo fr pg n ws cs) : OUS W0 P s n pm fo fr pg ws cs b0 D0 M0 rC rR fs p i D k u v ∨ OUE W0 P s n pm fo fr pg ws cs b0 D0 M0 rC rR fs p i D k u v ∨ OUR W0 s fr pg D0 M0 rC rR fs p i D k v := by
  have hp := hX.2.1
  have hi := hX.2.2.1
  by_cases hl : i < (pg p).length
  · have hL := (hG p hp).2.1 i (Nat.zero_le _) hl
    have hL : LOK (pg p) (pS (pm p)) (fo p) (fr p) s pm p i (itA (pg p) i) (pgE pg pm p i) (pgE pg pm p (i + 1)) := hL
    rcases hL with h | h | h | h | h | h | h | h | h | h | h | h
    · rcases step_KX hX hG hl h with a | a
      · exact Or.inl a
      · exact Or.inr (Or.inl a)
    · exact Or.inl (step_rel hX hG hl h)
    · exact Or.inl (step_tru hX hG hl h.2.1)
    · exact Or.inl (step_tru hX hG hl h.2.1)
    · exact Or.inl (step_tru hX hG hl h.2.1)
    · exact step_deed hX hG hl h
    · exact step_str hX hG hl h
    · exact Or.inl (step_for hX hG hl h)
    · exact step_turn hX hG hl h
    · exact Or.inl (step_next hX hG hl h)
    · exact Or.inl (step_jmp hX hG hl h)
    · exact Or.inl (step_do hX hG hl h)
  · rcases step_end hX hG (by omega) with a | a
    · exact Or.inl a
    · exact Or.inr (Or.inl a)
theorem RLQ_S (M : Nat) (d x : Int32) (v : q_W) : RLQ (M + 1) d x v = fX11_does_h38 (RLQ M) d x v := by
  unfold RLQ
  rw [q_itS]
/-- the class's pile of rows, whatever the end -/
def PLS (W0 : q_W × q_W) (b0 rC : Nat) (u : q_W) : Prop := ∃ m, m ≤ rC ∧ u.1 9 2 = nI (b0 + m) ∧ (∀ j, j < b0 → u.1 10 j = W0.1.1 10 j) ∧ ∀ j, j < 6 * b0 → u.1 11 j = W0.1.1 11 j
theorem PLS_X {fs : List (Nat × Nat)} {p i D k : Nat} {u v u' : q_W} (h : XS W0 P s n pm fo fr pg ws cs b0 D0 M0 rC rR fs p i D k u v) (e : ∀ q, q = 9 ∨ q = 10 ∨ q = 11 → u'.1 q = u.1 q) : PLS W0 b0 rC u' := by
  obtain ⟨h1, h2, h3, h4, h5, h6, h7, h8, h9, h10, h11, h12, h13, h14, h15, h16⟩ := h
  obtain ⟨R1, R2, R3, R4, R5, R6, R7, R8, R9, RF, R10⟩ := h15
  exact ⟨k, R4, by rw [e 9 (by omega), R6], fun j hj => by rw [e 10 (by omega), RF.1 j hj], fun j hj => by rw [e 11 (by omega), RF.2.1 j hj]⟩
/-- how a run ends -/
def FIN (W0 : q_W × q_W) (P s n : Nat) (pm fo fr : Nat → Nat) (ws : List Int32) (cs : List Tr) (b0 D0 M0 rC rR D k f : Nat) (u v : q_W) : Prop := u.1 31 13 = 1 ∧ u.1 31 12 = nI f ∧ f ≤ 4 ∧ XE W0 P s n pm fo fr ws cs u v ∧ (f = 0 → RWS W0 b0 M0 rC rR k u v ∧ u.1 31 10 = nI D ∧ v.1 0 39 = nI (D0 + D) ∧ D0 + D ≤ 2000) ∧ (f ≠ 0 → u.1 31 11 = v.1 0 44) ∧ PLS W0 b0 rC u
theorem sim0 (hG : PG s pm fo fr pg n ws cs) : ∀ (N : Nat) (fs : List (Nat × Nat)) (p i D k : Nat) (u v : q_W), XS W0 P s n pm fo fr pg ws cs b0 0 0 rC rC fs p i D k u v → pot pg pm fs p i D ≤ N → ∃ J f u' v' D' k', J ≤ pot pg pm fs p i D + 3 ∧ STC J u u' ∧ FIN W0 P s n pm fo fr ws cs b0 0 0 rC rC D' k' f u' v' ∧ (∀ M, RLQ (N + 1 + M) (nI fs.length) (nI (2000 * s + (fr p + i))) v = some (nI f, v')) ∧ D ≤ D' ∧ k ≤ k' ∧ (i < (pg p).length → (itA (pg p) i).2.1 = 8 ∨ (itA (pg p) i).2.1 = 11 → f = 0 → D + 1 ≤ D') ∧ (i < (pg p).length → (itA (pg p) i).2.1 = 9 → f = 0 → k + 1 ≤ k') := by
  intro N
  induction N with
  | zero =>
    intro fs p i D k u v hX hN
    have h8 := hX.2.2.2.2.2.2.2.1
    rcases step_all hX hG with ⟨j, fs', p', i', D', k', u', v', h1, _, _, _, h2, _⟩ | ⟨j, f, u', v', h1, h2, h3, h4, h5, h6, h7, h8', h9, h10, h11, h12⟩ | ⟨h1, _⟩
    · omega
    · refine ⟨j, f, u', v', D, k, by omega, h3, ⟨h4, h5, h6, h8', fun e => ⟨(h9 e).1, (h9 e).2.1, (h9 e).2.2, h8⟩, h10, PLS_X hX h12⟩, fun M => ?_, Nat.le_refl _, Nat.le_refl _, fun a _ e => absurd (h11 e) (by omega), fun a _ e => absurd (h11 e) (by omega)⟩
      rw [show 0 + 1 + M = M + 1 by omega, RLQ_S, h7]
    · omega
  | succ N ih =>
    intro fs p i D k u v hX hN
    have h8 := hX.2.2.2.2.2.2.2.1
    rcases step_all hX hG with ⟨j, fs', p', i', D', k', u', v', h1, hst, hrr, hX', h2, hD, hk, hD1, hk1⟩ | ⟨j, f, u', v', h1, h2, h3, h4, h5, h6, h7, h8', h9, h10, h11, h12⟩ | ⟨h1, _⟩
    · obtain ⟨J, f, u2, v2, D2, k2, a1, a2, a3, a4, a5, a6, _, _⟩ := ih fs' p' i' D' k' u' v' hX' (by omega)
      refine ⟨j + J, f, u2, v2, D2, k2, by omega, STC_t j u hst a2, a3, fun M => ?_, by omega, by omega, fun x y _ => ?_, fun x y _ => ?_⟩
      · rw [show N + 1 + 1 + M = (N + 1 + M) + 1 by omega, RLQ_S, hrr, a4]
      · have := hD1 x y
        omega
      · have := hk1 x y
        omega
    · refine ⟨j, f, u', v', D, k, by omega, h3, ⟨h4, h5, h6, h8', fun e => ⟨(h9 e).1, (h9 e).2.1, (h9 e).2.2, h8⟩, h10, PLS_X hX h12⟩, fun M => ?_, Nat.le_refl _, Nat.le_refl _, fun a _ e => absurd (h11 e) (by omega), fun a _ e => absurd (h11 e) (by omega)⟩
      rw [show N + 1 + 1 + M = (N + 1 + M) + 1 by omega, RLQ_S, h7]
    · omega
/-- the reference as if it had begun with nothing -/
def shV (M0 D k rC : Nat) (v : q_W) : q_W := (fun q j => if q = 0 then (if j = 39 then nI D else if j = 40 then nI k else if j = 41 then nI rC else v.1 0 j) else if q = 21 then v.1 21 (M0 + j) else if q = 22 then v.1 22 (6 * M0 + j) else v.1 q j, v.2)
theorem shV_c (M0 D k rC : Nat) (v : q_W) {q : Nat} (h0 : q ≠ 0) (h1 : q ≠ 21) (h2 : q ≠ 22) : (shV M0 D k rC v).1 q = v.1 q := by
  funext j
  show (if q = 0 then _ else if q = 21 then _ else if q = 22 then _ else v.1 q j) = _
  rw [if_neg h0, if_neg h1, if_neg h2]
theorem shV_0 (M0 D k rC : Nat) (v : q_W) {j : Nat} (h0 : j ≠ 39) (h1 : j ≠ 40) (h2 : j ≠ 41) : (shV M0 D k rC v).1 0 j = v.1 0 j := by
  show (if j = 39 then nI D else if j = 40 then nI k else if j = 41 then nI rC else v.1 0 j) = v.1 0 j
  rw [if_neg h0, if_neg h1, if_neg h2]
theorem shV_X {fs : List (Nat × Nat)} {p i D k : Nat} {u v : q_W} (hr : rC ≤ 120) (h : XS W0 P s n pm fo fr pg ws cs b0 D0 M0 rC rR fs p i D k u v) : XS W0 P s n pm fo fr pg ws cs b0 0 0 rC rC fs p i D k u (shV M0 D k rC v) := by
  obtain ⟨h1, h2, h3, h4, h5, h6, h7, h8, h9, h10, h11, h12, h13, h14, h15, h16⟩ := h
  obtain ⟨R1, R2, R3, R4, R5, R6, R7, R8, R9, RF, R10⟩ := h15
  have e23 : (shV M0 D k rC v).1 23 = v.1 23 := shV_c _ _ _ _ _ (by decide) (by decide) (by decide)
  have e24 : (shV M0 D k rC v).1 24 = v.1 24 := shV_c _ _ _ _ _ (by decide) (by decide) (by decide)
  refine ⟨XE_keep h1 (fun _ _ _ _ _ => rfl) rfl (fun q a b => shV_c _ _ _ _ _ a (by omega) (by omega)) ⟨fun q x y z _ _ => shV_0 _ _ _ _ _ x y z, rfl⟩, h2, h3, h4, h5, h6, ?_, by omega, h9, h10, fun c => ?_, h12, VLS_keep h13 h12 (fun _ _ => ⟨rfl, rfl⟩) (fun j _ => by rw [e23]), SKS_keep h14 rfl rfl (shV_0 _ _ _ _ _ (by decide) (by decide) (by decide)) (shV_c _ _ _ _ _ (by decide) (by decide) (by decide)), ⟨R1, hr, by omega, R4, by omega, R6, R7, ?_, ?_, ⟨RF.1, RF.2.1, fun j hj => absurd hj (Nat.not_lt_zero j), fun j hj => absurd hj (by omega)⟩, fun j hj => ?_⟩, FRS_keep fs p h16 (fun j _ => ⟨rfl, by rw [e24]⟩) (fun _ _ => ⟨rfl, rfl⟩) (fun j _ => by rw [e23])⟩
  · show nI D = nI (0 + D)
    rw [Nat.zero_add]
  · rw [shV_0 _ _ _ _ _ (by decide) (by decide) (by decide)]
    exact h11 c
  · show nI k = nI (0 + k)
    rw [Nat.zero_add]
  · rfl
  · obtain ⟨c, hc, d1, d2, d3, d4⟩ := R10 j hj
    refine ⟨c, hc, d1, ?_, fun i hi => ?_, d4⟩
    · show v.1 21 (M0 + (0 + j)) = nI c
      rw [Nat.zero_add, d2]
    · show u.1 11 (6 * (b0 + j) + i) = v.1 22 (6 * M0 + (6 * (0 + j) + i))
      rw [d3 i hi, show 6 * (M0 + j) + i = 6 * M0 + (6 * (0 + j) + i) by omega]
/-- a reference run after others, against the class's run alone -/
theorem simO (hG : PG s pm fo fr pg n ws cs) (hrC : rC ≤ 120) : ∀ (N : Nat) (fs : List (Nat × Nat)) (p i D k : Nat) (u v : q_W), XS W0 P s n pm fo fr pg ws cs b0 D0 M0 rC rR fs p i D k u v → pot pg pm fs p i D ≤ N → ∃ J f u' D' k' g v', J ≤ pot pg pm fs p i D + 3 ∧ STC J u u' ∧ u'.1 31 13 = 1 ∧ u'.1 31 12 = nI f ∧ f ≤ 4 ∧ (f = 0 → u'.1 31 10 = nI D' ∧ u'.1 9 2 = nI (b0 + k') ∧ D' ≤ 2000 ∧ k' ≤ rC) ∧ g ≤ 4 ∧ (∀ M, RLQ (N + 1 + M) (nI fs.length) (nI (2000 * s + (fr p + i))) v = some (nI g, v')) ∧ (g = 0 ↔ f = 0 ∧ D0 + D' ≤ 2000 ∧ M0 + k' ≤ rR) ∧ (g = 0 → FIN W0 P s n pm fo fr ws cs b0 D0 M0 rC rR D' k' 0 u' v') ∧ FRV W0 v' ∧ ∃ w, XE W0 P s n pm fo fr ws cs u' w := by
  intro N
  induction N with
  | zero =>
    intro fs p i D k u v hX hN
    have h8 := hX.2.2.2.2.2.2.2.1
    rcases step_all hX hG with ⟨j, fs', p', i', D', k', u', v', h1, _, _, _, h2, _⟩ | ⟨j, f, u', v', h1, h2, h3, h4, h5, h6, h7, h8', h9, h10, h11, h12⟩ | ⟨hz, hl, hc, f, v', f1, f4, fv, hrr⟩
    · omega
    · refine ⟨j, f, u', D, k, f, v', by omega, h3, h4, h5, h6, fun e => ⟨(h9 e).2.1, (h9 e).1.2.2.2.2.2.1, by omega, (h9 e).1.2.2.2.1⟩, h6, fun M => ?_, ⟨fun e => ⟨e, h8, (h9 e).1.2.2.2.2.1⟩, fun e => e.1⟩, fun e => ?_, h8'.2.2.2.1.2.2.2, v', h8'⟩
      · rw [show 0 + 1 + M = M + 1 by omega, RLQ_S, h7]
      · subst e
        exact ⟨h4, h5, h6, h8', fun e => ⟨(h9 e).1, (h9 e).2.1, (h9 e).2.2, h8⟩, h10, PLS_X hX h12⟩
    · obtain ⟨J, fc, u2, v2, D2, k2, a1, a2, a3, a4, a5, a6, a7, a8⟩ := sim0 hG 0 fs p i D k u _ (shV_X hrC hX) hN
      obtain ⟨b1, b2, b3, b4, b5, b6, _⟩ := a3
      refine ⟨J, fc, u2, D2, k2, f, v', a1, a2, b1, b2, b3, fun e => ⟨(b5 e).2.1, (b5 e).1.2.2.2.2.2.1, by have := (b5 e).2.2.2; omega, (b5 e).1.2.2.2.1⟩, f4, fun M => ?_, ⟨fun e => by omega, fun e => ?_⟩, fun e => by omega, fv, v2, b4⟩
      · rw [show 0 + 1 + M = M + 1 by omega, RLQ_S, hrr]
      · obtain ⟨e1, e2, e3⟩ := e
        rcases hc with ⟨o, c⟩ | ⟨o, c⟩
        · have := a7 hl o e1
          omega
        · have := a8 hl o e1
          omega
  | succ N ih =>
    intro fs p i D k u v hX hN
    have h8 := hX.2.2.2.2.2.2.2.1
    rcases step_all hX hG with ⟨j, fs', p', i', D', k', u', v', h1, hst, hrr, hX', h2, hD, hk, hD1, hk1⟩ | ⟨j, f, u', v', h1, h2, h3, h4, h5, h6, h7, h8', h9, h10, h11, h12⟩ | ⟨hz, hl, hc, f, v', f1, f4, fv, hrr⟩
    · obtain ⟨J, f, u2, D2, k2, g, v2, a1, a2, a3, a4, a5, a6, a7, a8, a9, a10⟩ := ih fs' p' i' D' k' u' v' hX' (by omega)
      refine ⟨j + J, f, u2, D2, k2, g, v2, by omega, STC_t j u hst a2, a3, a4, a5, a6, a7, fun M => ?_, a9, a10⟩
      rw [show N + 1 + 1 + M = (N + 1 + M) + 1 by omega, RLQ_S, hrr, a8]
    · refine ⟨j, f, u', D, k, f, v', by omega, h3, h4, h5, h6, fun e => ⟨(h9 e).2.1, (h9 e).1.2.2.2.2.2.1, by omega, (h9 e).1.2.2.2.1⟩, h6, fun M => ?_, ⟨fun e => ⟨e, h8, (h9 e).1.2.2.2.2.1⟩, fun e => e.1⟩, fun e => ?_, h8'.2.2.2.1.2.2.2, v', h8'⟩
      · rw [show N + 1 + 1 + M = (N + 1 + M) + 1 by omega, RLQ_S, h7]
      · subst e
        exact ⟨h4, h5, h6, h8', fun e => ⟨(h9 e).1, (h9 e).2.1, (h9 e).2.2, h8⟩, h10, PLS_X hX h12⟩
    · obtain ⟨J, fc, u2, v2, D2, k2, a1, a2, a3, a4, a5, a6, a7, a8⟩ := sim0 hG (N + 1) fs p i D k u _ (shV_X hrC hX) hN
      obtain ⟨b1, b2, b3, b4, b5, b6, _⟩ := a3
      refine ⟨J, fc, u2, D2, k2, f, v', a1, a2, b1, b2, b3, fun e => ⟨(b5 e).2.1, (b5 e).1.2.2.2.2.2.1, by have := (b5 e).2.2.2; omega, (b5 e).1.2.2.2.1⟩, f4, fun M => ?_, ⟨fun e => by omega, fun e => ?_⟩, fun e => by omega, fv, v2, b4⟩
      · rw [show N + 1 + 1 + M = (N + 1 + M) + 1 by omega, RLQ_S, hrr]
      · obtain ⟨e1, e2, e3⟩ := e
        rcases hc with ⟨o, c⟩ | ⟨o, c⟩
        · have := a7 hl o e1
          omega
        · have := a8 hl o e1
          omega
end
