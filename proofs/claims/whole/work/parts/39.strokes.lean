theorem b01_f : b01 false = 0 := rfl
theorem b01_t : ¬ b01 true = 0 := by decide
theorem isStroke0 (w : q_W) : fX11_isStroke 0 w = some (b01 (fitsB (w.1 26) 0 0), w) := by
  have e : fitsB (w.1 26) 0 0 = (chk (w.1 26 0) 0 1023 && (chk (w.1 26 1) 0 1023 && (chk (w.1 26 2) 1 512 && (chk (w.1 26 3) 0 7 && true)))) := rfl
  rw [e]
  unfold fX11_isStroke
  rw [if_pos rfl, if_pos (by decide), in_ok, q_b_some, show q_ix 0 = 0 from rfl]
  cases chk (w.1 26 0) 0 1023 with
  | false => rfl
  | true =>
    rw [if_neg b01_t, if_pos (by decide), in_ok, q_b_some, show q_ix 1 = 1 from rfl]
    cases chk (w.1 26 1) 0 1023 with
    | false => rfl
    | true =>
      rw [if_neg b01_t, if_pos (by decide), in_ok, q_b_some, show q_ix 2 = 2 from rfl]
      cases chk (w.1 26 2) 1 512 with
      | false => rfl
      | true =>
        rw [if_neg b01_t, if_pos (by decide), in_ok, q_b_some, show q_ix 3 = 3 from rfl]
        cases chk (w.1 26 3) 0 7 <;> rfl
theorem isStroke1 (w : q_W) : fX11_isStroke 1 w = some (b01 (fitsB (w.1 26) 1 0), w) := by
  have e : fitsB (w.1 26) 1 0 = (chk (w.1 26 0) 0 1 && (chk (w.1 26 1) 0 1023 && (chk (w.1 26 2) (-1023) 1023 && (chk (w.1 26 3) 1 1023 && true)))) := rfl
  rw [e]
  unfold fX11_isStroke
  rw [if_neg (by decide), if_pos (by decide), in_ok, q_b_some, show q_ix 0 = 0 from rfl]
  cases chk (w.1 26 0) 0 1 with
  | false => rfl
  | true =>
    rw [if_neg b01_t, if_pos rfl, if_pos (by decide), in_ok, q_b_some, show q_ix 1 = 1 from rfl]
    cases chk (w.1 26 1) 0 1023 with
    | false => rfl
    | true =>
      rw [if_neg b01_t, if_pos (by decide), in_ok, q_b_some, show q_ix 2 = 2 from rfl]
      cases chk (w.1 26 2) (-1023) 1023 with
      | false => rfl
      | true =>
        rw [if_neg b01_t, if_pos (by decide), in_ok, q_b_some, show q_ix 3 = 3 from rfl]
        cases chk (w.1 26 3) 1 1023 <;> rfl
theorem isStroke2 (w : q_W) : fX11_isStroke 2 w = some (b01 (fitsB (w.1 26) 2 0), w) := by
  have e : fitsB (w.1 26) 2 0 = (chk (w.1 26 0) 0 1 && (chk (w.1 26 1) 0 1023 && (chk (w.1 26 2) 1 1023 && (chk (w.1 26 3) 1 20 && (chk (w.1 26 4) (-1023) 1023 && (chk (w.1 26 5) 1 1023 && true)))))) := rfl
  rw [e]
  unfold fX11_isStroke
  rw [if_neg (by decide), if_pos (by decide), in_ok, q_b_some, show q_ix 0 = 0 from rfl]
  cases chk (w.1 26 0) 0 1 with
  | false => rfl
  | true =>
    rw [if_neg b01_t, if_neg (by decide), if_pos rfl, if_pos (by decide), in_ok, q_b_some, show q_ix 1 = 1 from rfl]
    cases chk (w.1 26 1) 0 1023 with
    | false => rfl
    | true =>
      rw [if_neg b01_t, if_pos (by decide), in_ok, q_b_some, show q_ix 2 = 2 from rfl]
      cases chk (w.1 26 2) 1 1023 with
      | false => rfl
      | true =>
        rw [if_neg b01_t, if_pos (by decide), in_ok, q_b_some, show q_ix 3 = 3 from rfl]
        cases chk (w.1 26 3) 1 20 with
        | false => rfl
        | true =>
          rw [if_neg b01_t, if_pos (by decide), in_ok, q_b_some, show q_ix 4 = 4 from rfl]
          cases chk (w.1 26 4) (-1023) 1023 with
          | false => rfl
          | true =>
            rw [if_neg b01_t, if_pos (by decide), in_ok, q_b_some, show q_ix 5 = 5 from rfl]
            cases chk (w.1 26 5) 1 1023 <;> rfl
theorem isStroke3 (w : q_W) : fX11_isStroke 3 w = some (b01 (fitsB (w.1 26) 3 0), w) := by
  have e : fitsB (w.1 26) 3 0 = (chk (w.1 26 0) 0 1 && (chk (w.1 26 1) 2 1024 && (chk (w.1 26 2) (-1023) 1023 && true))) := rfl
  rw [e]
  unfold fX11_isStroke
  rw [if_neg (by decide), if_pos (by decide), in_ok, q_b_some, show q_ix 0 = 0 from rfl]
  cases chk (w.1 26 0) 0 1 with
  | false => rfl
  | true =>
    rw [if_neg b01_t, if_neg (by decide), if_neg (by decide), if_pos (by decide), in_ok, q_b_some, show q_ix 1 = 1 from rfl]
    cases chk (w.1 26 1) 2 1024 with
    | false => rfl
    | true =>
      rw [if_neg b01_t, if_pos (by decide), in_ok, q_b_some, show q_ix 2 = 2 from rfl]
      cases chk (w.1 26 2) (-1023) 1023 <;> rfl
theorem isStroke_ok (c : Nat) (hc : c ≤ 3) (w : q_W) : fX11_isStroke (nI c) w = some (b01 (fitsB (w.1 26) c 0), w) := by
  have : c = 0 ∨ c = 1 ∨ c = 2 ∨ c = 3 := by omega
  rcases this with rfl | rfl | rfl | rfl
  · exact isStroke0 w
  · exact isStroke1 w
  · exact isStroke2 w
  · exact isStroke3 w
theorem put26_ok (a1 a2 a3 a4 a5 a6 : Int32) (c : Nat) (hc : c ≤ 3) (k : Nat) (hk : k ≤ 120) (w : q_W) (hw : w.1 0 50 = nI k) : ∃ w', same26 w w' ∧ (∀ j, j < 6 → w'.1 26 j = six a1 a2 a3 a4 a5 a6 j) ∧ ((fX11_stroke (nI c) a1 a2 a3 a4 a5 a6 w = some (-1, w') ∧ (k = 120 ∨ fitsB (w'.1 26) c 0 = false)) ∨ (k < 120 ∧ fitsB (w'.1 26) c 0 = true ∧ ∃ w2, fX11_stroke (nI c) a1 a2 a3 a4 a5 a6 w = some (nI k, w2) ∧ addedR k (nI c) w' w2)) := by
  unfold fX11_stroke
  rw [if_pos (by decide), q_lt_eq, if_pos (by decide), q_lt_eq, if_pos (by decide), q_lt_eq, if_pos (by decide), q_lt_eq, if_pos (by decide), q_lt_eq, if_pos (by decide), q_lt_eq]
  generalize hq : q_sI (q_sI (q_sI (q_sI (q_sI (q_sI w 26 (q_ix 0) a1) 26 (q_ix 1) a2) 26 (q_ix 2) a3) 26 (q_ix 3) a4) 26 (q_ix 4) a5) 26 (q_ix 5) a6 = w6
  have s : same26 w w6 := by
    subst hq
    exact ⟨fun q h => by rw [sI_cell _ _ _ _ _ h, sI_cell _ _ _ _ _ h, sI_cell _ _ _ _ _ h, sI_cell _ _ _ _ _ h, sI_cell _ _ _ _ _ h, sI_cell _ _ _ _ _ h], rfl⟩
  have f : ∀ j, j < 6 → w6.1 26 j = six a1 a2 a3 a4 a5 a6 j := by
    subst hq
    intro j hj
    have : j = 0 ∨ j = 1 ∨ j = 2 ∨ j = 3 ∨ j = 4 ∨ j = 5 := by omega
    rcases this with rfl | rfl | rfl | rfl | rfl | rfl <;> rfl
  have hw6 : w6.1 0 50 = nI k := by rw [s.1 0 (by decide)]; exact hw
  refine ⟨w6, s, f, ?_⟩
  rw [hw6, isStroke_ok c hc]
  by_cases h12 : k = 120
  · rw [h12, if_pos (show nI 120 = 120 from rfl)]
    exact Or.inl ⟨rfl, Or.inl rfl⟩
  · rw [if_neg (by rw [show (120 : Int32) = nI 120 from rfl, nI_eq (by omega) (by omega)]; exact h12), q_b_some]
    cases hf : fitsB (w6.1 26) c 0 with
    | false =>
      rw [if_pos b01_f]
      exact Or.inl ⟨rfl, Or.inr rfl⟩
    | true =>
      rw [if_neg b01_t]
      obtain ⟨v', e', ad⟩ := logs_ok k (nI c) w6 (by omega) hw6
      rw [e', q_b_some]
      exact Or.inr ⟨by omega, rfl, v', rfl, ad⟩
theorem I_log_26 {u v v' : q_W} {k : Nat} (s : same26 v v') (h : I_log k u v) : I_log k u v' := by
  unfold I_log
  rw [s.1 0 (by decide), s.1 27 (by decide), s.1 28 (by decide)]
  exact h
/-- both tell a stroke alike -/
theorem tell_both (c : Nat) (hc : c ≤ 3) {u v : q_W} {k : Nat} (h : I_log k u v) (a1 a2 a3 a4 a5 a6 : Int32) : ∃ w r u1 v1 k', fX10_put a1 a2 a3 a4 a5 a6 u = some (22, w) ∧ fX2_tell (nI c) 22 w = some (r, u1) ∧ fX11_stroke (nI c) a1 a2 a3 a4 a5 a6 v = some (r, v1) ∧ I_log k' u1 v1 ∧ (k' = k ∨ k' = k + 1) := by
  have hk := h.1
  obtain ⟨w, e, s, f⟩ := put6_ok a1 a2 a3 a4 a5 a6 u
  have hl := I_log_22 s h
  obtain ⟨v', s', f', ht'⟩ := put26_ok a1 a2 a3 a4 a5 a6 c hc k hk v h.2.2.2.1
  have ht := tell_ok c (by omega) k w hk hl.2.1 hl.2.2.1
  have hl' := I_log_26 s' hl
  have hn : nums c ≤ 6 := by
    have : c = 0 ∨ c = 1 ∨ c = 2 ∨ c = 3 := by omega
    rcases this with rfl | rfl | rfl | rfl <;> decide
  have ef : fitsB (w.1 22) c 0 = fitsB (v'.1 26) c 0 := by
    unfold fitsB
    apply Bool.eq_iff_iff.mpr
    rw [List.all_eq_true, List.all_eq_true]
    have key : ∀ i, i ∈ List.range' 0 (nums c - 0) → w.1 22 i = v'.1 26 i := by
      intro i hi
      rw [List.mem_range'_1] at hi
      rw [f i (by omega), f' i (by omega)]
    constructor
    · intro H i hi
      rw [← key i hi]
      exact H i hi
    · intro H i hi
      rw [key i hi]
      exact H i hi
  rw [ef] at ht
  refine ⟨w, ?_⟩
  rcases ht with ⟨t1, t2⟩ | ⟨t1, t2, w', t3, t4⟩ <;> rcases ht' with ⟨r1, r2⟩ | ⟨r1, r2, v2, r3, r4⟩
  · exact ⟨_, _, _, k, e, t1, r1, hl', Or.inl rfl⟩
  · exfalso
    rcases t2 with x | x
    · omega
    · rw [x] at r2; exact absurd r2 (by decide)
  · exfalso
    rcases r2 with x | x
    · omega
    · rw [x] at t2; exact absurd t2 (by decide)
  · refine ⟨_, _, _, k + 1, e, t3, r3, log_add hl' t1 c (by omega) t4 r4 (fun j hj => ?_), Or.inr rfl⟩
    rw [f j (by omega), f' j (by omega)]
theorem sim_drop {u v : q_W} {k : Nat} (h : I_log k u v) (a1 a2 a3 a4 : Int32) : ∃ r u1 v1 k', fX10_drop a1 a2 a3 a4 u = some (r, u1) ∧ fX11_drop a1 a2 a3 a4 v = some (r, v1) ∧ I_log k' u1 v1 ∧ (k' = k ∨ k' = k + 1) := by
  obtain ⟨w, r, u1, v1, k', e1, e2, e3, e4, e5⟩ := tell_both 0 (by omega) h a1 a2 a3 a4 0 0
  rw [nI_0] at e2 e3
  unfold fX10_drop fX11_drop
  rw [e1, q_b_some, if_pos (by decide), e2, e3, q_b_some, q_b_some]
  exact ⟨_, _, _, _, rfl, rfl, e4, e5⟩
theorem sim_line {u v : q_W} {k : Nat} (h : I_log k u v) (a1 a2 a3 a4 : Int32) : ∃ r u1 v1 k', fX10_line a1 a2 a3 a4 u = some (r, u1) ∧ fX11_line a1 a2 a3 a4 v = some (r, v1) ∧ I_log k' u1 v1 ∧ (k' = k ∨ k' = k + 1) := by
  obtain ⟨w, r, u1, v1, k', e1, e2, e3, e4, e5⟩ := tell_both 1 (by omega) h a1 a2 a3 a4 0 0
  unfold fX10_line fX11_line
  rw [show (1 : Int32) = nI 1 from rfl, e1, q_b_some, if_pos (by decide), e2, e3, q_b_some, q_b_some]
  exact ⟨_, _, _, _, rfl, rfl, e4, e5⟩
theorem sim_comb {u v : q_W} {k : Nat} (h : I_log k u v) (a1 a2 a3 a4 a5 a6 : Int32) : ∃ r u1 v1 k', fX10_comb a1 a2 a3 a4 a5 a6 u = some (r, u1) ∧ fX11_comb a1 a2 a3 a4 a5 a6 v = some (r, v1) ∧ I_log k' u1 v1 ∧ (k' = k ∨ k' = k + 1) := by
  obtain ⟨w, r, u1, v1, k', e1, e2, e3, e4, e5⟩ := tell_both 2 (by omega) h a1 a2 a3 a4 a5 a6
  unfold fX10_comb fX11_comb
  rw [show (2 : Int32) = nI 2 from rfl, e1, q_b_some, if_pos (by decide), e2, e3, q_b_some, q_b_some]
  exact ⟨_, _, _, _, rfl, rfl, e4, e5⟩
theorem sim_wave {u v : q_W} {k : Nat} (h : I_log k u v) (a1 a2 a3 : Int32) : ∃ r u1 v1 k', fX10_wave a1 a2 a3 u = some (r, u1) ∧ fX11_wave a1 a2 a3 v = some (r, v1) ∧ I_log k' u1 v1 ∧ (k' = k ∨ k' = k + 1) := by
  obtain ⟨w, r, u1, v1, k', e1, e2, e3, e4, e5⟩ := tell_both 3 (by omega) h a1 a2 a3 0 0 0
  unfold fX10_wave fX11_wave
  rw [show (3 : Int32) = nI 3 from rfl, e1, q_b_some, if_pos (by decide), e2, e3, q_b_some, q_b_some]
  exact ⟨_, _, _, _, rfl, rfl, e4, e5⟩
